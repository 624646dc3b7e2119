


/-- the texts of the class, as the Statement names them -/
def zT (i : Nat) : Term := ([Term.string RX10 87, Term.string RX7 65, Term.string RX7 67, Term.string RX7 60, Term.string RX7 86, Term.string RX7 48, Term.string RX7 95, Term.string RX7 126, Term.string RX7 128, Term.string RX7 109, Term.string RX7 111, Term.string RX7 132, Term.string RX7 137, Term.string RX7 116, Term.string RX7 130, Term.string RX7 121] : List Term).getD i (Term.string "" 0)
abbrev zFl : List Cond := flatC (Jvm.Cond.and given_1 narrow_1)
theorem zz1 : ∀ w ∈ (List.range sN).map (fun i => Cond.exactly (zT i) "java/lang/String"), w ∈ zFl := by decide +kernel
theorem zz2 : ∀ w ∈ (List.range sN).map (fun i => Cond.eq (.field (zT i) "java/lang/String" "coder" "B") (.int 0)), w ∈ zFl := by decide +kernel
theorem zz3 : ∀ w ∈ (List.range sN).map (fun i => Cond.arrayOf (.field (zT i) "java/lang/String" "value" "[B") .byte), w ∈ zFl := by decide +kernel
theorem zz4 : ∀ w ∈ (List.range sN).map (fun i => Cond.eq (.length (.field (zT i) "java/lang/String" "value" "[B")) (.int (Int32.ofNat (sLen.getD i 0)))), w ∈ zFl := by decide +kernel
theorem zz5 : ∀ w ∈ (List.range sN).flatMap (fun i => (List.range (sLen.getD i 0)).map (fun j => Cond.eq (.elem (.field (zT i) "java/lang/String" "value" "[B") (.int (Int32.ofNat j))) (.int ((sByt.getD i []).getD j 0)))), w ∈ zFl := by decide +kernel
theorem zz6 : ∀ i ∈ List.range sN, ∀ j ∈ List.range sN, i ≠ j → (Cond.not (Cond.eq (zT i) (zT j)) ∈ zFl ∨ Cond.not (Cond.eq (zT j) (zT i)) ∈ zFl) := by decide +kernel
theorem zz7 : ∀ w ∈ (List.range 6).map (fun j => Cond.eq (.elem (.static "LazyForge$Demand" "LANE_BITS" "[J") (.int (Int32.ofNat j))) (.long (sLanes.getD j 0))), w ∈ zFl := by decide +kernel
theorem zz8 : ∀ i ∈ List.range sN, sLen.getD i 0 < 2 ^ 31 := by decide +kernel
theorem zA {adK adV : Nat → Nat} {lb i : Nat} (h : i < 16) : (if 2 * i = 100 then lb else if 2 * i % 2 = 0 then adK (2 * i / 2) else adV (2 * i / 2)) = adK i := by
  rw [if_neg (by omega), if_pos (by omega), show 2 * i / 2 = i by omega]
theorem zB {adK adV : Nat → Nat} {lb i : Nat} (h : i < 16) : (if 2 * i + 1 = 100 then lb else if (2 * i + 1) % 2 = 0 then adK ((2 * i + 1) / 2) else adV ((2 * i + 1) / 2)) = adV i := by
  rw [if_neg (by omega), if_neg (by omega), show (2 * i + 1) / 2 = i by omega]
/-- what the Statement gives of texts and static rows -/
theorem start_z {s : State} {b : Nat} {A : Nat → Prop} (hflat : ∀ w ∈ zFl, w.before #[Value.ref b] s = true) (hts : ∀ w ∈ lw_tbl, w.before #[Value.ref b] s = true) (hAn : ∀ q : Nat, q < s.heap.size → ¬ A q) : ∃ ak : Nat → Nat, zC ak A s s.heap := by
  obtain ⟨adK, adV, hS, hE⟩ := vk_Sof (args := #[Value.ref b]) (s := s) (N := sN) (tm := zT) (len := sLen) (byt := sByt) (A := A)
    (fun i hi => zz8 i (List.mem_range.mpr hi)) (fun i hi => hflat _ (zz1 _ (List.mem_map.mpr ⟨i, List.mem_range.mpr hi, rfl⟩))) (fun i hi => hflat _ (zz2 _ (List.mem_map.mpr ⟨i, List.mem_range.mpr hi, rfl⟩))) (fun i hi => hflat _ (zz3 _ (List.mem_map.mpr ⟨i, List.mem_range.mpr hi, rfl⟩))) (fun i hi => hflat _ (zz4 _ (List.mem_map.mpr ⟨i, List.mem_range.mpr hi, rfl⟩)))
    (fun i hi j hj => hflat _ (zz5 _ (List.mem_flatMap.mpr ⟨i, List.mem_range.mpr hi, List.mem_map.mpr ⟨j, List.mem_range.mpr hj, rfl⟩⟩))) (fun i j hi hj hij => (zz6 i (List.mem_range.mpr hi) j (List.mem_range.mpr hj) hij).imp (fun h => hflat _ h) (fun h => hflat _ h)) hAn
  have c1 : va_Z "java/lang/String" "COMPACT_STRINGS" "Z" (.int 1) A s s.heap := va_Zof (hts _ (List.mem_of_getElem? (i := 977) (by decide +kernel))) (hts _ (List.mem_of_getElem? (i := 233) (by decide +kernel))) (va_eqi (hflat _ (by decide +kernel))) hAn
  obtain ⟨lb, hlb, hT⟩ := va_Tof (args := #[Value.ref b]) (s := s) (A := A) (tm := .static "LazyForge$Demand" "LANE_BITS" "[J") (ty := .long) (N := 6) (f := fun j => .long (sLanes.getD j 0)) (by decide) (hflat _ (by decide +kernel)) (va_eqt (hflat (Cond.eq (.length (.static "LazyForge$Demand" "LANE_BITS" "[J")) (.int 6)) (by decide +kernel))) (fun j hj => va_eqtl (hflat _ (zz7 _ (List.mem_map.mpr ⟨j, List.mem_range.mpr hj, rfl⟩)))) hAn
  have c2 : va_Z "LazyForge$Demand" "LANE_BITS" "[J" (.ref lb) A s s.heap := va_Zref (hts _ (List.mem_of_getElem? (i := 1569) (by decide +kernel))) (hts _ (List.mem_of_getElem? (i := 222) (by decide +kernel))) hlb hAn
  have c3 : va_Zq "jdk/internal/util/Preconditions" "SIOOBE_FORMATTER" "Ljava/util/function/BiFunction;" A s s.heap := va_Zqof (hts _ (List.mem_of_getElem? (i := 1020) (by decide +kernel))) (hts _ (List.mem_of_getElem? (i := 237) (by decide +kernel))) (hflat _ (by decide +kernel)) hAn
  refine ⟨fun n => if n = 100 then lb else if n % 2 = 0 then adK (n / 2) else adV (n / 2), ⟨fun i hi => ?_, fun i j hi hj h => ?_⟩, c1, c2, hT, c3, vk_R.of (hts _ (List.mem_of_getElem? (i := 963) (by decide +kernel))) (hE 0 (by decide)), vk_R.of (hts _ (List.mem_of_getElem? (i := 1650) (by decide +kernel))) (hE 1 (by decide)), vk_R.of (hts _ (List.mem_of_getElem? (i := 1651) (by decide +kernel))) (hE 2 (by decide)), vk_R.of (hts _ (List.mem_of_getElem? (i := 1686) (by decide +kernel))) (hE 3 (by decide)), vk_R.of (hts _ (List.mem_of_getElem? (i := 1691) (by decide +kernel))) (hE 4 (by decide)), vk_R.of (hts _ (List.mem_of_getElem? (i := 1696) (by decide +kernel))) (hE 5 (by decide)), vk_R.of (hts _ (List.mem_of_getElem? (i := 1701) (by decide +kernel))) (hE 6 (by decide)), vk_R.of (hts _ (List.mem_of_getElem? (i := 1710) (by decide +kernel))) (hE 7 (by decide)), vk_R.of (hts _ (List.mem_of_getElem? (i := 1711) (by decide +kernel))) (hE 8 (by decide)), vk_R.of (hts _ (List.mem_of_getElem? (i := 1712) (by decide +kernel))) (hE 9 (by decide)), vk_R.of (hts _ (List.mem_of_getElem? (i := 1713) (by decide +kernel))) (hE 10 (by decide)), vk_R.of (hts _ (List.mem_of_getElem? (i := 1718) (by decide +kernel))) (hE 11 (by decide)), vk_R.of (hts _ (List.mem_of_getElem? (i := 1723) (by decide +kernel))) (hE 12 (by decide)), vk_R.of (hts _ (List.mem_of_getElem? (i := 1724) (by decide +kernel))) (hE 13 (by decide)), vk_R.of (hts _ (List.mem_of_getElem? (i := 1729) (by decide +kernel))) (hE 14 (by decide)), vk_R.of (hts _ (List.mem_of_getElem? (i := 1730) (by decide +kernel))) (hE 15 (by decide))⟩
  · have h := hS.1 i hi
    have hi2 : i < 16 := hi
    simp only [zA (adK := adK) (adV := adV) (lb := lb) hi2, zB (adK := adK) (adV := adV) (lb := lb) hi2]
    exact h
  · have hi2 : i < 16 := hi
    have hj2 : j < 16 := hj
    simp only [zA (adK := adK) (adV := adV) (lb := lb) hi2, zA (adK := adK) (adV := adV) (lb := lb) hj2] at h
    exact hS.2 i j hi hj h

