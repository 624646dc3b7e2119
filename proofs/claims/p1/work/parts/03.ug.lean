/-- all good words of the tables: every method's contract here stands over its own code and these -/
def uG : List Cond := lw_tbl.filter goodWord
theorem uG_in {w : Cond} (h : w ∈ lw_tbl) (hg : goodWord w = true) : w ∈ uG := List.mem_filter.mpr ⟨h, hg⟩
theorem uG_at {w : Cond} (i : Nat) (h : lw_tbl[i]? = some w) (hg : goodWord w = true) : w ∈ uG := uG_in (List.mem_of_getElem? h) hg
theorem uG_tbl {w : Cond} (h : w ∈ uG) : w ∈ lw_tbl := (List.mem_filter.mp h).1
theorem uG_good {w : Cond} (h : w ∈ uG) : (w.onTables && w.keeps) = true ∨ ∃ ty, w = .arrayClass ty := good_of_word (List.mem_filter.mp h).2
theorem uG_app {big a b : List Cond} (ha : GoodIn big a) (hb : GoodIn big b) : GoodIn big (a ++ b) := fun w h => (List.mem_append.mp h).elim (ha w) (hb w)
theorem uG_c {big : List Cond} (hb : ∀ w ∈ uG, w ∈ big) {c2 : Cond} (h : c2 ∈ uG) : GoodIn big (c2 :: uG) := fun w hw => (List.mem_cons.mp hw).elim (fun e => by subst e; exact ⟨hb _ h, uG_good h⟩) (fun hw => ⟨hb _ hw, uG_good hw⟩)
theorem uG_V {big : List Cond} (hb : ∀ w ∈ uG, w ∈ big) {c2 : Cond} {own C : String} {idx : Nat} {y : MethodName} (h : c2 ∈ uG) (h1 : Cond.methodLink own idx y ∈ uG) (h2 : Cond.instanceMethod y ∈ uG) (h3 : Cond.selects C y y ∈ uG) (h4 : Cond.initialized C ∈ uG) : GoodIn big (wsV own idx C y (c2 :: uG)) := by
  refine uG_app (fun w hw => ?_) (uG_c hb h)
  have hu : w ∈ uG := by
    rcases List.mem_cons.mp hw with rfl | hw
    · exact h1
    rcases List.mem_cons.mp hw with rfl | hw
    · exact h2
    rcases List.mem_cons.mp hw with rfl | hw
    · exact h3
    rcases List.mem_cons.mp hw with rfl | hw
    · exact h4
    exact absurd hw List.not_mem_nil
  exact ⟨hb _ hu, uG_good hu⟩
theorem uG_S {big : List Cond} (hb : ∀ w ∈ uG, w ∈ big) {c2 : Cond} {own : String} {idx : Nat} {y : MethodName} (h : c2 ∈ uG) (h1 : Cond.methodLink own idx y ∈ uG) (h2 : Cond.static y ∈ uG) (h4 : Cond.initialized own ∈ uG) : GoodIn big (wsS own idx y (c2 :: uG)) := by
  refine uG_app (fun w hw => ?_) (uG_c hb h)
  have hu : w ∈ uG := by
    rcases List.mem_cons.mp hw with rfl | hw
    · exact h1
    rcases List.mem_cons.mp hw with rfl | hw
    · exact h2
    rcases List.mem_cons.mp hw with rfl | hw
    · exact h4
    exact absurd hw List.not_mem_nil
  exact ⟨hb _ hu, uG_good hu⟩
/-- over a method's own list: its code, and all good words -/
theorem uG_s {c : Cond} : ∀ w ∈ uG, w ∈ c :: uG := fun _ h => List.mem_cons_of_mem _ h
theorem uG_t : ∀ w ∈ uG, w ∈ lw_tbl := fun _ h => uG_tbl h
theorem uG_list (ws : List Cond) (ps : List Nat) (hp : ws = ps.filterMap (fun i => lw_tbl[i]?)) (h : ws.all goodWord = true) : ∀ w ∈ ws, w ∈ uG := by
  intro w hw
  have h1 := List.all_eq_true.mp h w hw
  rw [hp] at hw
  obtain ⟨i, -, hi⟩ := List.mem_filterMap.mp hw
  exact uG_at i hi h1
