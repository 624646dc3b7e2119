/-- a loop: from every state of it with I, if it goes on from all later ones of a smaller measure -/
theorem uLoop {p : Program} {l : Launch} {e : Env} {R : Room} {s : State} {m : MethodId} {args : Array Value} {below : List Frame} {meth : Method} {c : Code} {cells slots : Nat} {Q : State → Prop} {σ : Type} {pc : Nat} (I : σ → Heap → List Loc → Array Slot → Prop) (μ : σ → Nat)
    (hs : ∀ (x : σ) (H : Heap) (locs : List Loc) (ls : Array Slot), I x H locs ls → (∀ (y : σ) (H' : Heap) (locs' : List Loc) (ls' : Array Slot), I y H' locs' ls' → μ y < μ x → W p l e R s m args below meth c H' locs' cells slots Q (F0 m pc ls' [])) → W p l e R s m args below meth c H locs cells slots Q (F0 m pc ls []))
    (x : σ) {H : Heap} {locs : List Loc} {ls : Array Slot} (h : I x H locs ls) : W p l e R s m args below meth c H locs cells slots Q (F0 m pc ls []) := by
  have key : ∀ (n : Nat) (x : σ) (H : Heap) (locs : List Loc) (ls : Array Slot), I x H locs ls → μ x < n → W p l e R s m args below meth c H locs cells slots Q (F0 m pc ls []) := by
    intro n
    induction n with
    | zero => intro x H locs ls _ hn; exact absurd hn (Nat.not_lt_zero _)
    | succ n ih => intro x H locs ls hI hn; exact hs x H locs ls hI (fun y H' locs' ls' hI' hm => ih y H' locs' ls' hI' (by omega))
  exact key (μ x + 1) x H locs ls h (Nat.lt_succ_self _)
