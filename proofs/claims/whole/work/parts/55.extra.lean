theorem uG_T {big : List Cond} (hb : ∀ w ∈ uG, w ∈ big) {c2 : Cond} {own : String} {idx : Nat} {y : MethodName} (h : c2 ∈ uG) (h1 : Cond.methodLink own idx y ∈ uG) (h2 : Cond.static y ∈ uG) (h4 : Cond.initialized y.cls ∈ uG) : GoodIn big (va_wsS own idx y (c2 :: uG)) := by
  refine uG_app (fun w hw => ?_) (uG_c hb h)
  have hu : w ∈ uG := by
    rcases List.mem_cons.mp hw with rfl | hw
    · exact h1
    rcases List.mem_cons.mp hw with rfl | hw
    · exact h2
    rcases List.mem_cons.mp hw with rfl | hw
    · exact h4
    exact absurd hw List.not_mem_nil
  exact ⟨hb _ hu, uG_good hu⟩
theorem uc_IAE : Cond.castable "java/lang/IllegalArgumentException" "java/lang/IllegalArgumentException" ∈ uB := List.mem_filter.mpr ⟨List.mem_of_getElem? (i := 791) (by decide +kernel), rfl⟩
theorem uc_UOE : Cond.castable "java/lang/UnsupportedOperationException" "java/lang/UnsupportedOperationException" ∈ uB := List.mem_filter.mpr ⟨List.mem_of_getElem? (i := 857) (by decide +kernel), rfl⟩
theorem uc_ISE : Cond.castable "java/lang/IllegalStateException" "java/lang/IllegalStateException" ∈ uB := List.mem_filter.mpr ⟨List.mem_of_getElem? (i := 1629) (by decide +kernel), rfl⟩
theorem uc_IOB : Cond.castable "java/lang/IndexOutOfBoundsException" "java/lang/IndexOutOfBoundsException" ∈ uB := List.mem_filter.mpr ⟨List.mem_of_getElem? (i := 1745) (by decide +kernel), rfl⟩
