/-- WHAT BEARS ALL WHERE dv LOOKS IS MADE TO BEAR ALL -/
theorem ClV_ext {τ : S5} {pa : Nat → Nat} {T : Nat → (Nat → Bool) → Bool} {X : Nat → Bool} {c : Int32} {Sc : Nat → Prop} {lo hi : Nat} (q : VS τ c Sc lo hi) : (∀ x, Sc x → x < lo) → hi ≤ 5000 → ∀ n, hF τ c < n → ∃ X', XEx τ pa T X n c lo hi X' := by
  refine VS.ind (P := fun c Sc lo hi => (∀ x, Sc x → x < lo) → hi ≤ 5000 → ∀ n, hF τ c < n → ∃ X', XEx τ pa T X n c lo hi X') ?_ q
  clear q
  intro c Sc lo hi q hS h5 n hn
  have qv : VS τ c Sc lo hi := VS.fold (VF_mono (fun _ _ _ _ z => z.1) q)
  by_cases hcl : ClV τ pa T X n c
  · obtain ⟨n, rfl⟩ : ∃ m, n = m + 1 := ⟨n - 1, by omega⟩
    have hv := hcl
    unfold ClV at hv
    obtain ⟨v5, v6, v7, v8⟩ := hv
    rcases q with ⟨⟨-, q1⟩, -, q2⟩ | ⟨q1, k, cc, ll, q2, q3, ⟨q4, q4'⟩, q5, ⟨q6, q7, q8, q8'⟩, q9⟩ | ⟨q1, l, bb, ll, q2, q3, q4, q5, q6, ⟨q7, q8, q9⟩, q10, q11⟩ | ⟨q1, l, aa, ll, q2, q3, q4, q5, ⟨q6, q7, q8⟩, q9⟩
    · have h5 : ¬ xA τ 13 c = 5 := fun w => by rw [w] at q1; exact absurd q1 (by decide)
      have h6 : ¬ xA τ 13 c = 6 := fun w => by rw [w] at q1; exact absurd q1 (by decide)
      have h7 : ¬ xA τ 13 c = 7 := fun w => by rw [w] at q1; exact absurd q1 (by decide)
      have h8 : ¬ xA τ 13 c = 8 := fun w => by rw [w] at q1; exact absurd q1 (by decide)
      have h9 : ¬ xA τ 13 c = 9 := fun w => by rw [w] at q1; exact absurd q1 (by decide)
      refine ⟨X, fun _ _ => rfl, fun _ w => w, ?_, fun _ => Vis_tr (fun _ => rfl) _ _⟩
      unfold Clo
      exact ⟨fun w => by rcases w with w | w | w; exact absurd w h5; exact absurd w h8; exact absurd w h9, fun w => absurd w h6, fun w => absurd w h7⟩
    · have hm := ll_mo (fun i hi => (q9 i hi).1.le)
      obtain ⟨Xc, x1, x2, x3, x4⟩ := ext_fam (τ := τ) (pa := pa) (T := T) (X := X) (n := n) (k := k) (kk := cc) (Sc := fun _ => Sc) (a := ll) (b := fun i => ll (i + 1)) (fun i j hij hj => hm j (i + 1) (by omega) (by omega)) (fun i hi => by
        have h1 := hm i 0 (by omega) (by omega)
        have h2 := hm k (i + 1) (by omega) (by omega)
        have h3 := q7 i hi
        exact ⟨(q9 i hi).1, by omega, (q9 i hi).2 (fun x hx => by have := hS x hx; omega) (by omega) n (by omega)⟩) (fun i hi x hx => by
        have := hS x hx
        have h0 := hm k 0 (by omega) (by omega)
        refine ⟨by omega, fun j hj w => ?_⟩
        have := hm j 0 (by omega) (by omega)
        omega)
      have hv : ∀ i, i < k → ClV τ pa T X n (cc i) → Vis τ pa (fun x => X x = Xc x) n (cc i) := x4
      refine ⟨Xc, fun x hx => x1 x (fun i hi w => ?_), x2, ?_, fun _ => ?_⟩
      · have h1 := hm i 0 (by omega) (by omega)
        have h2 := hm k (i + 1) (by omega) (by omega)
        omega
      · unfold Clo
        refine ⟨fun w => ?_, fun w => ?_, fun w => ?_⟩
        · rw [q4]
          exact chA_mk0 q2 (fun i hi => (q4' i hi).2) x3 9
        · rcases q1 with z | z | z <;> rw [z] at w <;> exact absurd w (by decide)
        · rcases q1 with z | z | z <;> rw [z] at w <;> exact absurd w (by decide)
      · unfold Vis
        refine ⟨fun w => ?_, fun w => ?_, fun w => ?_, fun w => ?_⟩
        · have hk := q8' w
          subst hk
          have e1 : xA τ 17 (xA τ 16 c) = cc 1 := by rw [q4]; exact (q4' 0 (by omega)).2
          obtain ⟨u1, u2⟩ := v5 w
          rw [e1] at u2 ⊢
          rw [q4] at u1 ⊢
          exact ⟨hv 0 (by omega) u1, hv 1 (by omega) u2⟩
        · rcases q1 with z | z | z <;> rw [z] at w <;> exact absurd w (by decide)
        · rcases q1 with z | z | z <;> rw [z] at w <;> exact absurd w (by decide)
        · obtain ⟨u1, u2⟩ := v8 w
          refine ⟨fun h2 hp i hip => ?_, fun h2 => ?_⟩
          · have u3 := u1 h2 hp i hip
            have h15 := q8 w
            rw [h15, nI_clamp (by omega)] at hp
            have e1 : xA τ 17 (xA τ 16 c) = cc 1 := by rw [q4, (q4' 0 (by omega)).2, if_pos (by omega)]
            have e2 : nx17 τ i (xA τ 17 (xA τ 16 c)) = cc (1 + i) := by rw [e1]; exact nx17_at (fun j hj => (q4' j hj).2) i 1 (by omega)
            rw [e2] at u3 ⊢
            exact hv _ (by omega) u3
          · have u3 := u2 h2
            rw [q4] at u3 ⊢
            exact hv 0 (by omega) u3
    · have hm := ll_mo (fun i hi => (q11 i hi).1.le)
      have hh := q10.1.le
      have h4 := q4.1
      have h0l := hm l 0 (by omega) (by omega)
      have hSx : ∀ x, Sx Sc lo l x → x < lo + l := fun x w => by
        rcases w with w | w
        · have := hS x w; omega
        · omega
      obtain ⟨Xc, x1, x2, x3, x4⟩ := ext_fam (τ := τ) (pa := pa) (T := T) (X := X) (n := n) (k := l + 1) (kk := fun i => if i < l then xA τ 16 (bb i) else xA τ 16 c) (Sc := fun _ => Sx Sc lo l) (a := fun i => if i ≤ l then ll i else hi) (b := fun i => if i < l then ll (i + 1) else hi) (fun i j hij hj => by
        show (if i < l then ll (i + 1) else hi) ≤ (if j ≤ l then ll j else hi)
        rw [if_pos (by omega), if_pos (by omega)]
        exact hm j (i + 1) (by omega) (by omega)) (fun i hi => by
        by_cases hil : i < l
        · have h1 := hm i 0 (by omega) (by omega)
          have h2 := hm l (i + 1) (by omega) (by omega)
          have h3 := q9 i hil
          show VS τ (if i < l then xA τ 16 (bb i) else xA τ 16 c) _ (if i ≤ l then ll i else _) (if i < l then ll (i + 1) else _) ∧ hF τ (if i < l then xA τ 16 (bb i) else xA τ 16 c) < n ∧ ∃ X', XEx τ pa T X n (if i < l then xA τ 16 (bb i) else xA τ 16 c) (if i ≤ l then ll i else _) (if i < l then ll (i + 1) else _) X'
          rw [if_pos hil, if_pos (by omega), if_pos hil]
          exact ⟨(q11 i hil).1, by omega, (q11 i hil).2 (fun x hx => by have := hSx x hx; omega) (by omega) n (by omega)⟩
        · have : i = l := by omega
          subst this
          show VS τ (if i < i then xA τ 16 (bb i) else xA τ 16 c) _ (if i ≤ i then ll i else _) (if i < i then ll (i + 1) else _) ∧ hF τ (if i < i then xA τ 16 (bb i) else xA τ 16 c) < n ∧ ∃ X', XEx τ pa T X n (if i < i then xA τ 16 (bb i) else xA τ 16 c) (if i ≤ i then ll i else _) (if i < i then ll (i + 1) else _) X'
          rw [if_neg (by omega), if_pos (by omega), if_neg (by omega)]
          exact ⟨q10.1, by omega, q10.2 (fun x hx => by have := hSx x hx; omega) (by omega) n (by omega)⟩) (fun i hi x hx => by
        have := hSx x hx
        refine ⟨by omega, fun j hj w => ?_⟩
        have h2 : (if j ≤ l then ll j else _) ≤ x := w.1
        rw [if_pos (by omega)] at h2
        have := hm j 0 (by omega) (by omega)
        omega)
      have hout : ∀ x, x < lo + l ∨ hi ≤ x → Xc x = X x := fun x hx => x1 x (fun i hi' w => by
        have h2 : (if i ≤ l then ll i else hi) ≤ x ∧ x < (if i < l then ll (i + 1) else hi) := w
        rw [if_pos (by omega)] at h2
        have h1 := hm i 0 (by omega) (by omega)
        by_cases hil : i < l
        · rw [if_pos hil] at h2
          have := hm l (i + 1) (by omega) (by omega)
          omega
        · rw [if_neg hil] at h2
          omega)
      have ck : ∀ i, i < l → Clo τ pa T Xc n (xA τ 16 (bb i)) := fun i hi => by
        have := x3 i (by omega)
        rw [if_pos hi] at this
        exact this
      have c0 : Clo τ pa T Xc n (xA τ 16 c) := by
        have := x3 l (by omega)
        rw [if_neg (by omega)] at this
        exact this
      have vk : ∀ i, i < l → ClV τ pa T X n (xA τ 16 (bb i)) → Vis τ pa (fun x => X x = Xc x) n (xA τ 16 (bb i)) := fun i hi => by
        have := x4 i (by omega)
        rw [if_pos hi] at this
        exact this
      have v0 : ClV τ pa T X n (xA τ 16 c) → Vis τ pa (fun x => X x = Xc x) n (xA τ 16 c) := by
        have := x4 l (by omega)
        rw [if_neg (by omega)] at this
        exact this
      obtain ⟨u1, u2⟩ := v7 q1
      rw [q5] at u2
      have u3 := fun i (hi : i < l) => chA_at (P := fun b => ClV τ pa T X n (xA τ 16 b) ∧ (dv τ pa T X n (xA τ 16 b) = true → X (xA τ 14 b).toNatClampNeg = true)) (fun i hi => ⟨(q6 i hi).1.1, (q6 i hi).2.2⟩) 9 0 i (by omega) hi (by omega) u2
      refine ⟨Xc, fun x hx => hout x (by omega), x2, ?_, fun _ => ?_⟩
      · unfold Clo
        refine ⟨fun w => ?_, fun w => ?_, fun w => ?_⟩
        · rcases w with w | w | w <;> rw [q1] at w <;> exact absurd w (by decide)
        · rw [q1] at w; exact absurd w (by decide)
        · refine ⟨c0, ?_⟩
          rw [q5]
          refine chA_mk0 q2 (fun i hi => (q6 i hi).2.2) (fun i hi => ⟨ck i hi, fun w2 => ?_⟩) 9
          have h3 := q9 i hi
          rw [← dv_vis (X := X) (X' := Xc) (fun x hx => by have := hSx x hx; omega) (q11 i hi).1 n (by omega) (fun x hx => (hout x (Or.inl (hSx x hx))).symm) (vk i hi (u3 i hi).1)] at w2
          exact x2 _ ((u3 i hi).2 w2)
      · unfold Vis
        refine ⟨fun w => ?_, fun w => ?_, fun w => ?_, fun w => ?_⟩
        · rw [q1] at w; exact absurd w (by decide)
        · rw [q1] at w; exact absurd w (by decide)
        · refine ⟨v0 u1, ?_⟩
          rw [q5]
          refine chA_mk0 q2 (fun i hi => (q6 i hi).2.2) (fun i hi => ⟨vk i hi (u3 i hi).1, ?_⟩) 9
          rw [(q6 i hi).2.1, nI_clamp (by omega)]
          exact (hout _ (by omega)).symm
        · rw [q1] at w; exact absurd w (by decide)
    · obtain ⟨jj, hjj⟩ : ∃ jj : Nat → Nat, jj = fun i => if xA τ 13 (aa i) = 11 then (xA τ 2 (xA τ 14 (aa i))).toNatClampNeg else 0 := ⟨_, rfl⟩
      have hj11 : ∀ i, xA τ 13 (aa i) = 11 → jj i = (xA τ 2 (xA τ 14 (aa i))).toNatClampNeg := fun i w => by rw [hjj]; exact if_pos w
      have hjn : ∀ i, ¬ xA τ 13 (aa i) = 11 → jj i = 0 := fun i w => by rw [hjj]; exact if_neg w
      have hal : ∀ i, i < l → ∃ Sci, VS τ (xA τ 16 (aa i)) Sci (ll i + jj i) (ll (i + 1)) ∧ (∀ x, Sci x → Sc x ∨ (ll i ≤ x ∧ x < ll i + jj i)) ∧ ((∀ x, Sci x → x < ll i + jj i) → ll (i + 1) ≤ 5000 → ∀ n, hF τ (xA τ 16 (aa i)) < n → ∃ X', XEx τ pa T X n (xA τ 16 (aa i)) (ll i + jj i) (ll (i + 1)) X') := fun i hi => by
        rcases (q9 i hi).2 with ⟨r5, j, r6, r7, r8, r9, r4⟩ | ⟨r5, r4⟩
        · have e : jj i = j := by rw [hj11 i r5, r8, nI_clamp (by omega)]
          rw [e]
          exact ⟨_, r4.1, fun x w => w, r4.2⟩
        · rw [hjn i r5]
          exact ⟨_, r4.1, fun x w => Or.inl w, r4.2⟩
      obtain ⟨Sca, hSca⟩ := ch_fin (fun _ => True) (P := fun i (Sci : Nat → Prop) => VS τ (xA τ 16 (aa i)) Sci (ll i + jj i) (ll (i + 1)) ∧ (∀ x, Sci x → Sc x ∨ (ll i ≤ x ∧ x < ll i + jj i)) ∧ ((∀ x, Sci x → x < ll i + jj i) → ll (i + 1) ≤ 5000 → ∀ n, hF τ (xA τ 16 (aa i)) < n → ∃ X', XEx τ pa T X n (xA τ 16 (aa i)) (ll i + jj i) (ll (i + 1)) X')) l hal
      have hm := ll_mo (k := l) (ll := ll) (fun i hi => by have := (hSca i hi).1.le; omega)
      have h0 := q5.1.le
      have h0l := hm l 0 (by omega) (by omega)
      have hmj : ∀ i, i < l → ll i + jj i ≤ ll (i + 1) := fun i hi => (hSca i hi).1.le
      have hSi : ∀ i, i < l → ∀ x, Sca i x → x < ll i + jj i ∧ ∀ j, j < l → ¬ (ll j + jj j ≤ x ∧ x < ll (j + 1)) := fun i hi x hx => by
        have hi0 := hm i 0 (by omega) (by omega)
        rcases (hSca i hi).2.1 x hx with w | w
        · have := hS x w
          refine ⟨by omega, fun j hj z => ?_⟩
          have := hm j 0 (by omega) (by omega)
          omega
        · refine ⟨by omega, fun j hj z => ?_⟩
          by_cases h1 : j < i
          · have := hm i (j + 1) (by omega) (by omega); omega
          · by_cases h2 : i < j
            · have := hm j (i + 1) (by omega) (by omega)
              have := hmj i hi
              omega
            · have : i = j := by omega
              subst this
              omega
      obtain ⟨Xc, x1, x2, x3, x4⟩ := ext_fam (τ := τ) (pa := pa) (T := T) (X := X) (n := n) (k := l + 1) (kk := fun i => if i = 0 then xA τ 16 c else xA τ 16 (aa (i - 1))) (Sc := fun i => if i = 0 then Sc else Sca (i - 1)) (a := fun i => if i = 0 then lo else ll (i - 1) + jj (i - 1)) (b := fun i => ll i) (fun i j hij hj => by
        show ll i ≤ (if j = 0 then lo else ll (j - 1) + jj (j - 1))
        rw [if_neg (by omega)]
        have := hm (j - 1) i (by omega) (by omega)
        omega) (fun i hi => by
        by_cases hi0 : i = 0
        · subst hi0
          show VS τ (xA τ 16 c) Sc lo (ll 0) ∧ hF τ (xA τ 16 c) < n ∧ ∃ X', XEx τ pa T X n (xA τ 16 c) lo (ll 0) X'
          exact ⟨q5.1, by omega, q5.2 hS (by omega) n (by omega)⟩
        · obtain ⟨e, rfl⟩ : ∃ e, i = e + 1 := ⟨i - 1, by omega⟩
          show VS τ (xA τ 16 (aa e)) (Sca e) (ll e + jj e) (ll (e + 1)) ∧ hF τ (xA τ 16 (aa e)) < n ∧ ∃ X', XEx τ pa T X n (xA τ 16 (aa e)) (ll e + jj e) (ll (e + 1)) X'
          have h3 := q8 e (by omega)
          have h2 := hm l (e + 1) (by omega) (by omega)
          exact ⟨(hSca e (by omega)).1, by omega, (hSca e (by omega)).2.2 (fun x hx => (hSi e (by omega) x hx).1) (by omega) n (by omega)⟩) (fun i hi x hx => by
        by_cases hi0 : i = 0
        · subst hi0
          have := hS x hx
          refine ⟨by omega, fun j hj w => ?_⟩
          by_cases hj0 : j = 0
          · subst hj0
            have : lo ≤ x := w.1
            omega
          · have h2 : (if j = 0 then lo else ll (j - 1) + jj (j - 1)) ≤ x := w.1
            rw [if_neg hj0] at h2
            have := hm (j - 1) 0 (by omega) (by omega)
            omega
        · obtain ⟨e, rfl⟩ : ∃ e, i = e + 1 := ⟨i - 1, by omega⟩
          have hx' : Sca e x := hx
          obtain ⟨y1, y2⟩ := hSi e (by omega) x hx'
          have h1 := hmj e (by omega)
          have h2 := hm l (e + 1) (by omega) (by omega)
          refine ⟨by omega, fun j hj w => ?_⟩
          by_cases hj0 : j = 0
          · subst hj0
            have w1 : lo ≤ x := w.1
            have w2 : x < ll 0 := w.2
            rcases (hSca e (by omega)).2.1 x hx' with z | z
            · have := hS x z; omega
            · have := hm e 0 (by omega) (by omega); omega
          · obtain ⟨d, rfl⟩ : ∃ d, j = d + 1 := ⟨j - 1, by omega⟩
            exact y2 d (by omega) w)
      have hout : ∀ x, (x < lo ∨ hi ≤ x) ∨ (∃ i, i < l ∧ ll i ≤ x ∧ x < ll i + jj i) → Xc x = X x := fun x hx => x1 x (fun j hj w => by
        by_cases hj0 : j = 0
        · subst hj0
          have w1 : lo ≤ x := w.1
          have w2 : x < ll 0 := w.2
          rcases hx with z | ⟨i, z0, z⟩
          · omega
          · have := hm i 0 (by omega) (by omega); omega
        · obtain ⟨d, rfl⟩ : ∃ d, j = d + 1 := ⟨j - 1, by omega⟩
          have w1 : ll d + jj d ≤ x := w.1
          have w2 : x < ll (d + 1) := w.2
          have hd0 := hm d 0 (by omega) (by omega)
          have hd1 := hm l (d + 1) (by omega) (by omega)
          rcases hx with z | ⟨i, z0, z⟩
          · omega
          · by_cases h1 : d < i
            · have := hm i (d + 1) (by omega) (by omega); omega
            · by_cases h2 : i < d
              · have := hm d (i + 1) (by omega) (by omega)
                have := hmj i z0
                omega
              · have : i = d := by omega
                subst this
                omega)
      have c0 : Clo τ pa T Xc n (xA τ 16 c) := x3 0 (by omega)
      have ck : ∀ i, i < l → Clo τ pa T Xc n (xA τ 16 (aa i)) := fun i hi => x3 (i + 1) (by omega)
      have v0 : ClV τ pa T X n (xA τ 16 c) → Vis τ pa (fun x => X x = Xc x) n (xA τ 16 c) := x4 0 (by omega)
      have vk : ∀ i, i < l → ClV τ pa T X n (xA τ 16 (aa i)) → Vis τ pa (fun x => X x = Xc x) n (xA τ 16 (aa i)) := fun i hi => x4 (i + 1) (by omega)
      obtain ⟨u1, u2⟩ := v6 q1
      rw [q4] at u2
      have u3 := fun i (hi : i < l) => chA_at (P := fun a => ClV τ pa T X n (xA τ 16 a) ∧ (xA τ 13 a = 11 → ∀ q, q < (xA τ 2 (xA τ 14 a)).toNatClampNeg → X ((xA τ 15 a).toNatClampNeg + q) = true)) (fun j hj => ⟨(q9 j hj).1.1.1, (q9 j hj).1.2⟩) 9 0 i (by omega) hi (by omega) u2
      refine ⟨Xc, fun x hx => hout x (Or.inl hx), x2, ?_, fun _ => ?_⟩
      · unfold Clo
        refine ⟨fun w => ?_, fun w => ?_, fun w => ?_⟩
        · rcases w with w | w | w <;> rw [q1] at w <;> exact absurd w (by decide)
        · refine ⟨c0, ?_⟩
          rw [q4]
          exact chA_mk0 q2 (fun i hi => (q9 i hi).1.2) (fun i hi => ⟨ck i hi, fun w2 p hp => x2 _ ((u3 i hi).2 w2 p hp)⟩) 9
        · rw [q1] at w; exact absurd w (by decide)
      · unfold Vis
        refine ⟨fun w => ?_, fun w => ?_, fun w => ?_, fun w => ?_⟩
        · rw [q1] at w; exact absurd w (by decide)
        · refine ⟨v0 u1, ?_⟩
          rw [q4]
          refine chA_mk0 q2 (fun i hi => (q9 i hi).1.2) (fun i hi => ⟨vk i hi (u3 i hi).1, fun w2 p hp => ?_⟩) 9
          rcases (q9 i hi).2 with ⟨r5, j, r6, r7, r8, r9, r4⟩ | ⟨r5, r4⟩
          · have h7 := r7.1
            have e : jj i = j := by rw [hj11 i r5, r8, nI_clamp (by omega)]
            rw [r8, nI_clamp (by omega)] at hp
            rw [r9, nI_clamp (by omega)]
            exact (hout _ (Or.inr ⟨i, hi, by omega, by omega⟩)).symm
          · exact absurd w2 r5
        · rw [q1] at w; exact absurd w (by decide)
        · rw [q1] at w; exact absurd w (by decide)
  · refine ⟨fun x => X x || decide (lo ≤ x ∧ x < hi), fun x hx => ?_, fun x hx => by show (X x || decide (lo ≤ x ∧ x < hi)) = true; rw [hx]; rfl, Clo_tr qv n (fun x a b => ?_), fun w => absurd w hcl⟩
    · show (X x || decide (lo ≤ x ∧ x < hi)) = X x
      rw [decide_eq_false (by omega), Bool.or_false]
    · show (X x || decide (lo ≤ x ∧ x < hi)) = true
      rw [decide_eq_true (by omega), Bool.or_true]
