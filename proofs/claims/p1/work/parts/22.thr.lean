/-! throws of the class's own methods: what they want of the state, and one row for 'throw new E()' -/
def uBp : Cond → Bool
  | .castable _ _ => true
  | .declares _ => true
  | .methodLinkNest _ _ _ _ => true
  | _ => false
def uB : List Cond := lw_tbl.filter uBp
def uXw (U : State) : Prop := ∀ w ∈ uB, va_Nw w U
theorem uXw.warm {s U : State} (hW : s.WarmedH U.vm) (h : uXw s) : uXw U := by
  intro w hw
  have h1 := h w hw
  have h2 := (List.mem_filter.mp hw).2
  cases w <;> first | exact va_Nw.warmC hW h1 | exact va_Nw.warmD hW h1 | exact va_Nw.warmM hW h1 | (simp [uBp] at h2)
theorem uXw.same {u U : State} (hv : u.vm = U.vm) (h : uXw u) : uXw U := by
  intro w hw
  have h2 := (List.mem_filter.mp hw).2
  have ho : w.onTables = true := by cases w <;> first | rfl | (simp [uBp] at h2)
  exact va_Nw.same ho hv (h w hw)
def uZ (A : Nat → Prop) (U : State) (H : Heap) : Prop := vx_Zq Bundle.tN "UNASSIGNED_STACK" Bundle.steD A U H ∧ vx_Zq Bundle.tN "SUPPRESSED_SENTINEL" Bundle.listD A U H
theorem uZ.to {A B : Nat → Prop} {U U' : State} {H H' : Heap} (h : uZ A U H) (hvm : U.vm.Alike U'.vm) (hk : ∀ a : Nat, a < H.size → ¬ A a → H'[a]? = H[a]?) (hAB : ∀ q, B q → A q) : uZ B U' H' := ⟨((h.1.moved hvm).kept hk).narrow hAB, ((h.2.moved hvm).kept hk).narrow hAB⟩
def uT : List Cond := [0, 227, 228, 229, 230, 231, 244, 245, 246, 253, 254, 255, 261, 274, 281, 371, 379, 434, 440, 502, 508, 514, 537, 568, 574, 592, 598, 623, 629, 639, 645, 651, 659, 717, 763, 783, 784, 789, 790, 791, 792, 793, 794, 795, 796, 797, 798, 799, 800, 801, 802, 803, 804, 805, 806, 807, 808, 809, 810, 811, 812, 813, 814, 815, 816, 817, 818, 819, 820, 821, 822, 823, 824, 825, 826, 827, 828, 829, 830, 831, 832, 833, 834, 835, 836, 837, 838, 839, 840, 841, 842, 843, 844, 845, 846, 847, 848, 849, 850, 851, 852, 853, 854, 855, 856, 857, 858, 859, 860, 861, 862, 863, 864, 865, 866, 867, 868, 869, 1324, 1333, 1387, 1388, 1389, 1390, 1391, 1395, 1396, 1397, 1442, 1483, 1508, 1509, 1510, 1511, 1512, 1513, 1514, 1515, 1516, 1517, 1518, 1519, 1540, 1541, 1542, 1546, 1547, 1548, 1549, 1550, 1551, 1552, 1553, 1554, 1555, 1556, 1557, 1558, 1559, 1560, 1561, 1562, 1622, 1627, 1628, 1629, 1630, 1631, 1632, 1633, 1634, 1635, 1636, 1637, 1638, 1639, 1640, 1641, 1738, 1743, 1744, 1745, 1746, 1747, 1748, 1749, 1750, 1751, 1752, 1753, 1754, 1755, 1756, 1757, 1821, 1822, 1823, 2045, 2458, 2995, 3004].filterMap (fun i => lw_tbl[i]?)
theorem uT_in {w : Cond} (h : w ∈ uT) : w ∈ lw_tbl := by
  obtain ⟨i, -, hi⟩ := List.mem_filterMap.mp h
  exact List.mem_of_getElem? hi
def uLok (L : List Cond) : Bool := L.all (fun w => decide (w ∈ uT) && (goodWord w || uBp w))
theorem uat {L : List Cond} (hL : uLok L = true) {args : Array Value} {s : State} (hu : ∀ w ∈ uG, w.before args s = true) (hX : uXw s) : ∀ w ∈ L, w.before args s = true := by
  intro w hw
  have h1 := List.all_eq_true.mp hL w hw
  simp only [Bool.and_eq_true, Bool.or_eq_true, decide_eq_true_eq] at h1
  rcases h1.2 with h2 | h2
  · exact hu w (uG_in (uT_in h1.1) h2)
  · have ho : w.onTables = true := by cases w <;> first | rfl | (simp [uBp] at h2)
    exact va_Nw.use ho (hX w (List.mem_filter.mpr ⟨uT_in h1.1, h2⟩))
abbrev uRE : List String := ["java/lang/RuntimeException", "java/lang/Exception"]
/-- how a throwing end looks: which class, and the world as it was -/
abbrev uXB (dC : Nat → ClassId) (dI : Nat → Nat → Nat) (wo : va_W) (tys : List (ClassId × FieldType)) (A : Nat → Prop) (PX : String → Prop) : String → State → State → Prop :=
  vx_X (S := Unit) (fun _ => True) (fun E _ t => PX E ∧ va_P (dC, dI) vwCl wo t.heap ∧ va_K (dC, dI) vwCl tys t ∧ va_D A wo) A
theorem ut_throw {p : Program} {l : Launch} {e : Env} {R : Room} {s : State} {m : MethodId} {args : Array Value} {below : List Frame} {meth : Method} {c : Code} {H : Heap} {locs : List Loc} {cells slots : Nat} {ls : Array Slot} {rest : List Value} {Qc : Array Value → State → Outcome → State → Prop} {cc : ByteArray} {pc ik ic mc ms : Nat} {cls : String} {A : Nat → Prop} {wo : va_W} {tys : List (ClassId × FieldType)} {dC : Nat → ClassId} {dI : Nat → Nat → Nat} {PX : String → Prop}
    (hx : p.tables.exec = Jvm.exec) (hb : c.code = cc) (hl : l.stackTraces = false) (hown : s.vm.findClass RX11 = some m.cls) (hcls : Bundle.fit cls = true) (hu : ∀ w ∈ uG, w.before args s = true) (hXw : uXw s) (hZ : uZ A s s.heap)
    (h1 : Cond.classLink RX11 ik cls ∈ uG) (h2 : Cond.initialized cls ∈ uG) (hL : uLok (vx_at0 RX11 ic cls uRE) = true) (hgood : ∀ w ∈ Cond.classLink RX11 ik cls :: Cond.initialized cls :: vx_at0 RX11 ic cls uRE, vx_ot w = true)
    (hP : va_P (dC, dI) vwCl wo H) (hK : va_K (dC, dI) vwCl tys s) (hD : va_D A wo) (hS : va_S A s.heap H locs) (hlz : ls.size = c.maxLocals) (hno : ∀ x ∈ c.exceptionTable.toList, False)
    (d0 : decode cc pc = .ok (.new ik, 3)) (d3 : decode cc (pc + 3) = .ok (.dup, 1)) (d4 : decode cc (pc + 4) = .ok (.invokespecial ic, 3)) (d7 : decode cc (pc + 7) = .ok (.athrow, 1))
    (hR1 : 5 < R.frames) (hR2 : (rest.map fun v => v.category).sum + 81 ≤ R.locals) (hR3 : cells + 1 ≤ R.cells) (hR4 : slots + 6 ≤ R.slots) (hlocks : meth.locks = false) (hc : cells + 1 ≤ mc) (hs : slots + 6 ≤ ms) (hpx : PX cls) :
    W p l e R s m args below meth c H locs cells slots (vx_MQ below Qc (uXB dC dI wo tys A PX) args s mc ms A) (F0 m pc ls rest) := by
  refine vx_throw0 hx hb hl hown hcls (by decide +kernel) (hu _ h1) (hu _ h2) (uat hL hu hXw) hgood hZ.1 hZ.2 hS hlz d0 d3 d4 d7 (fun x hx => (hno x hx).elim) hR1 hR2 hR3 hR4 hlocks (fun t hal hz hk => ⟨(), trivial, ⟨hpx, hP.kept (fun k q hq => hk _ (vx_lt hP hq)), va_K.moved hal hK, hD⟩, ?_⟩) hS.2.2 hc hs
  exact ⟨Nat.le_trans hS.1 hz, fun q a1 a2 => (hk q (Nat.lt_of_lt_of_le a1 hS.1)).trans (hS.2.1 q a1 a2)⟩
theorem ul_IAE : uLok (vx_at0 RX11 84 "java/lang/IllegalArgumentException" uRE) = true := by decide +kernel
theorem uo_IAE : ∀ w ∈ Cond.classLink RX11 82 "java/lang/IllegalArgumentException" :: Cond.initialized "java/lang/IllegalArgumentException" :: vx_at0 RX11 84 "java/lang/IllegalArgumentException" uRE, vx_ot w = true := by decide +kernel
theorem ul_UOE : uLok (vx_at0 RX11 90 "java/lang/UnsupportedOperationException" uRE) = true := by decide +kernel
theorem uo_UOE : ∀ w ∈ Cond.classLink RX11 88 "java/lang/UnsupportedOperationException" :: Cond.initialized "java/lang/UnsupportedOperationException" :: vx_at0 RX11 90 "java/lang/UnsupportedOperationException" uRE, vx_ot w = true := by decide +kernel
theorem ul_ISE : uLok (vx_at0 RX11 135 "java/lang/IllegalStateException" uRE) = true := by decide +kernel
theorem uo_ISE : ∀ w ∈ Cond.classLink RX11 133 "java/lang/IllegalStateException" :: Cond.initialized "java/lang/IllegalStateException" :: vx_at0 RX11 135 "java/lang/IllegalStateException" uRE, vx_ot w = true := by decide +kernel
theorem ul_IOB : uLok (vx_at0 RX11 144 "java/lang/IndexOutOfBoundsException" uRE) = true := by decide +kernel
theorem uo_IOB : ∀ w ∈ Cond.classLink RX11 142 "java/lang/IndexOutOfBoundsException" :: Cond.initialized "java/lang/IndexOutOfBoundsException" :: vx_at0 RX11 144 "java/lang/IndexOutOfBoundsException" uRE, vx_ot w = true := by decide +kernel
