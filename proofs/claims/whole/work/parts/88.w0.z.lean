


/-- the texts of the class, as the Statement names them -/
def zT (i : Nat) : Term := ([Term.string RX10 87, Term.string RX7 65, Term.string RX7 67, Term.string RX7 60, Term.string RX7 86, Term.string RX7 48, Term.string RX7 95, Term.string RX7 126, Term.string RX7 128, Term.string RX7 109, Term.string RX7 111, Term.string RX7 132, Term.string RX7 137, Term.string RX7 116, Term.string RX7 130, Term.string RX7 121] : List Term).getD i (Term.string "" 0)
abbrev zFl : List Cond := flatC (Jvm.Cond.and given_1 narrow_1)
theorem zz1 : ∀ i : Nat, i < sN → Cond.exactly (zT i) "java/lang/String" ∈ zFl := by
  intro i hi
  match i, hi with
  | 0, _ => exact List.mem_of_getElem? (i := 301) (by decide +kernel)
  | 1, _ => exact List.mem_of_getElem? (i := 409) (by decide +kernel)
  | 2, _ => exact List.mem_of_getElem? (i := 424) (by decide +kernel)
  | 3, _ => exact List.mem_of_getElem? (i := 438) (by decide +kernel)
  | 4, _ => exact List.mem_of_getElem? (i := 452) (by decide +kernel)
  | 5, _ => exact List.mem_of_getElem? (i := 469) (by decide +kernel)
  | 6, _ => exact List.mem_of_getElem? (i := 486) (by decide +kernel)
  | 7, _ => exact List.mem_of_getElem? (i := 505) (by decide +kernel)
  | 8, _ => exact List.mem_of_getElem? (i := 523) (by decide +kernel)
  | 9, _ => exact List.mem_of_getElem? (i := 542) (by decide +kernel)
  | 10, _ => exact List.mem_of_getElem? (i := 565) (by decide +kernel)
  | 11, _ => exact List.mem_of_getElem? (i := 589) (by decide +kernel)
  | 12, _ => exact List.mem_of_getElem? (i := 611) (by decide +kernel)
  | 13, _ => exact List.mem_of_getElem? (i := 636) (by decide +kernel)
  | 14, _ => exact List.mem_of_getElem? (i := 662) (by decide +kernel)
  | 15, _ => exact List.mem_of_getElem? (i := 687) (by decide +kernel)
  | k + 16, h => exact absurd (show k + 16 < 16 from h) (by omega)
theorem zz2 : ∀ i : Nat, i < sN → Cond.eq (.field (zT i) "java/lang/String" "coder" "B") (.int 0) ∈ zFl := by
  intro i hi
  match i, hi with
  | 0, _ => exact List.mem_of_getElem? (i := 302) (by decide +kernel)
  | 1, _ => exact List.mem_of_getElem? (i := 410) (by decide +kernel)
  | 2, _ => exact List.mem_of_getElem? (i := 425) (by decide +kernel)
  | 3, _ => exact List.mem_of_getElem? (i := 439) (by decide +kernel)
  | 4, _ => exact List.mem_of_getElem? (i := 453) (by decide +kernel)
  | 5, _ => exact List.mem_of_getElem? (i := 470) (by decide +kernel)
  | 6, _ => exact List.mem_of_getElem? (i := 487) (by decide +kernel)
  | 7, _ => exact List.mem_of_getElem? (i := 506) (by decide +kernel)
  | 8, _ => exact List.mem_of_getElem? (i := 524) (by decide +kernel)
  | 9, _ => exact List.mem_of_getElem? (i := 543) (by decide +kernel)
  | 10, _ => exact List.mem_of_getElem? (i := 566) (by decide +kernel)
  | 11, _ => exact List.mem_of_getElem? (i := 590) (by decide +kernel)
  | 12, _ => exact List.mem_of_getElem? (i := 612) (by decide +kernel)
  | 13, _ => exact List.mem_of_getElem? (i := 637) (by decide +kernel)
  | 14, _ => exact List.mem_of_getElem? (i := 663) (by decide +kernel)
  | 15, _ => exact List.mem_of_getElem? (i := 688) (by decide +kernel)
  | k + 16, h => exact absurd (show k + 16 < 16 from h) (by omega)
theorem zz3 : ∀ i : Nat, i < sN → Cond.arrayOf (.field (zT i) "java/lang/String" "value" "[B") .byte ∈ zFl := by
  intro i hi
  match i, hi with
  | 0, _ => exact List.mem_of_getElem? (i := 303) (by decide +kernel)
  | 1, _ => exact List.mem_of_getElem? (i := 411) (by decide +kernel)
  | 2, _ => exact List.mem_of_getElem? (i := 426) (by decide +kernel)
  | 3, _ => exact List.mem_of_getElem? (i := 440) (by decide +kernel)
  | 4, _ => exact List.mem_of_getElem? (i := 454) (by decide +kernel)
  | 5, _ => exact List.mem_of_getElem? (i := 471) (by decide +kernel)
  | 6, _ => exact List.mem_of_getElem? (i := 488) (by decide +kernel)
  | 7, _ => exact List.mem_of_getElem? (i := 507) (by decide +kernel)
  | 8, _ => exact List.mem_of_getElem? (i := 525) (by decide +kernel)
  | 9, _ => exact List.mem_of_getElem? (i := 544) (by decide +kernel)
  | 10, _ => exact List.mem_of_getElem? (i := 567) (by decide +kernel)
  | 11, _ => exact List.mem_of_getElem? (i := 591) (by decide +kernel)
  | 12, _ => exact List.mem_of_getElem? (i := 613) (by decide +kernel)
  | 13, _ => exact List.mem_of_getElem? (i := 638) (by decide +kernel)
  | 14, _ => exact List.mem_of_getElem? (i := 664) (by decide +kernel)
  | 15, _ => exact List.mem_of_getElem? (i := 689) (by decide +kernel)
  | k + 16, h => exact absurd (show k + 16 < 16 from h) (by omega)
theorem zz4 : ∀ i : Nat, i < sN → Cond.eq (.length (.field (zT i) "java/lang/String" "value" "[B")) (.int (Int32.ofNat (sLen.getD i 0))) ∈ zFl := by
  intro i hi
  match i, hi with
  | 0, _ => exact List.mem_of_getElem? (i := 304) (by decide +kernel)
  | 1, _ => exact List.mem_of_getElem? (i := 412) (by decide +kernel)
  | 2, _ => exact List.mem_of_getElem? (i := 427) (by decide +kernel)
  | 3, _ => exact List.mem_of_getElem? (i := 441) (by decide +kernel)
  | 4, _ => exact List.mem_of_getElem? (i := 455) (by decide +kernel)
  | 5, _ => exact List.mem_of_getElem? (i := 472) (by decide +kernel)
  | 6, _ => exact List.mem_of_getElem? (i := 489) (by decide +kernel)
  | 7, _ => exact List.mem_of_getElem? (i := 508) (by decide +kernel)
  | 8, _ => exact List.mem_of_getElem? (i := 526) (by decide +kernel)
  | 9, _ => exact List.mem_of_getElem? (i := 545) (by decide +kernel)
  | 10, _ => exact List.mem_of_getElem? (i := 568) (by decide +kernel)
  | 11, _ => exact List.mem_of_getElem? (i := 592) (by decide +kernel)
  | 12, _ => exact List.mem_of_getElem? (i := 614) (by decide +kernel)
  | 13, _ => exact List.mem_of_getElem? (i := 639) (by decide +kernel)
  | 14, _ => exact List.mem_of_getElem? (i := 665) (by decide +kernel)
  | 15, _ => exact List.mem_of_getElem? (i := 690) (by decide +kernel)
  | k + 16, h => exact absurd (show k + 16 < 16 from h) (by omega)
theorem z5_0 : ∀ i : Nat, i < sLen.getD 0 0 → Cond.eq (.elem (.field (zT 0) "java/lang/String" "value" "[B") (.int (Int32.ofNat i))) (.int ((sByt.getD 0 []).getD i 0)) ∈ zFl := by
  intro i hi
  match i, hi with
  | 0, _ => exact List.mem_of_getElem? (i := 305) (by decide +kernel)
  | 1, _ => exact List.mem_of_getElem? (i := 306) (by decide +kernel)
  | 2, _ => exact List.mem_of_getElem? (i := 307) (by decide +kernel)
  | 3, _ => exact List.mem_of_getElem? (i := 308) (by decide +kernel)
  | 4, _ => exact List.mem_of_getElem? (i := 309) (by decide +kernel)
  | 5, _ => exact List.mem_of_getElem? (i := 310) (by decide +kernel)
  | 6, _ => exact List.mem_of_getElem? (i := 311) (by decide +kernel)
  | 7, _ => exact List.mem_of_getElem? (i := 312) (by decide +kernel)
  | 8, _ => exact List.mem_of_getElem? (i := 313) (by decide +kernel)
  | 9, _ => exact List.mem_of_getElem? (i := 314) (by decide +kernel)
  | 10, _ => exact List.mem_of_getElem? (i := 315) (by decide +kernel)
  | 11, _ => exact List.mem_of_getElem? (i := 316) (by decide +kernel)
  | 12, _ => exact List.mem_of_getElem? (i := 317) (by decide +kernel)
  | 13, _ => exact List.mem_of_getElem? (i := 318) (by decide +kernel)
  | 14, _ => exact List.mem_of_getElem? (i := 319) (by decide +kernel)
  | 15, _ => exact List.mem_of_getElem? (i := 320) (by decide +kernel)
  | 16, _ => exact List.mem_of_getElem? (i := 321) (by decide +kernel)
  | k + 17, h => exact absurd (show k + 17 < 17 from h) (by omega)
theorem z5_1 : ∀ i : Nat, i < sLen.getD 1 0 → Cond.eq (.elem (.field (zT 1) "java/lang/String" "value" "[B") (.int (Int32.ofNat i))) (.int ((sByt.getD 1 []).getD i 0)) ∈ zFl := by
  intro i hi
  match i, hi with
  | 0, _ => exact List.mem_of_getElem? (i := 413) (by decide +kernel)
  | 1, _ => exact List.mem_of_getElem? (i := 414) (by decide +kernel)
  | 2, _ => exact List.mem_of_getElem? (i := 415) (by decide +kernel)
  | 3, _ => exact List.mem_of_getElem? (i := 416) (by decide +kernel)
  | 4, _ => exact List.mem_of_getElem? (i := 417) (by decide +kernel)
  | k + 5, h => exact absurd (show k + 5 < 5 from h) (by omega)
theorem z5_2 : ∀ i : Nat, i < sLen.getD 2 0 → Cond.eq (.elem (.field (zT 2) "java/lang/String" "value" "[B") (.int (Int32.ofNat i))) (.int ((sByt.getD 2 []).getD i 0)) ∈ zFl := by
  intro i hi
  match i, hi with
  | 0, _ => exact List.mem_of_getElem? (i := 428) (by decide +kernel)
  | 1, _ => exact List.mem_of_getElem? (i := 429) (by decide +kernel)
  | 2, _ => exact List.mem_of_getElem? (i := 430) (by decide +kernel)
  | k + 3, h => exact absurd (show k + 3 < 3 from h) (by omega)
theorem z5_3 : ∀ i : Nat, i < sLen.getD 3 0 → Cond.eq (.elem (.field (zT 3) "java/lang/String" "value" "[B") (.int (Int32.ofNat i))) (.int ((sByt.getD 3 []).getD i 0)) ∈ zFl := by
  intro i hi
  match i, hi with
  | 0, _ => exact List.mem_of_getElem? (i := 442) (by decide +kernel)
  | 1, _ => exact List.mem_of_getElem? (i := 443) (by decide +kernel)
  | k + 2, h => exact absurd (show k + 2 < 2 from h) (by omega)
theorem z5_4 : ∀ i : Nat, i < sLen.getD 4 0 → Cond.eq (.elem (.field (zT 4) "java/lang/String" "value" "[B") (.int (Int32.ofNat i))) (.int ((sByt.getD 4 []).getD i 0)) ∈ zFl := by
  intro i hi
  match i, hi with
  | 0, _ => exact List.mem_of_getElem? (i := 456) (by decide +kernel)
  | 1, _ => exact List.mem_of_getElem? (i := 457) (by decide +kernel)
  | 2, _ => exact List.mem_of_getElem? (i := 458) (by decide +kernel)
  | 3, _ => exact List.mem_of_getElem? (i := 459) (by decide +kernel)
  | k + 4, h => exact absurd (show k + 4 < 4 from h) (by omega)
theorem z5_5 : ∀ i : Nat, i < sLen.getD 5 0 → Cond.eq (.elem (.field (zT 5) "java/lang/String" "value" "[B") (.int (Int32.ofNat i))) (.int ((sByt.getD 5 []).getD i 0)) ∈ zFl := by
  intro i hi
  match i, hi with
  | 0, _ => exact List.mem_of_getElem? (i := 473) (by decide +kernel)
  | 1, _ => exact List.mem_of_getElem? (i := 474) (by decide +kernel)
  | 2, _ => exact List.mem_of_getElem? (i := 475) (by decide +kernel)
  | k + 3, h => exact absurd (show k + 3 < 3 from h) (by omega)
theorem z5_6 : ∀ i : Nat, i < sLen.getD 6 0 → Cond.eq (.elem (.field (zT 6) "java/lang/String" "value" "[B") (.int (Int32.ofNat i))) (.int ((sByt.getD 6 []).getD i 0)) ∈ zFl := by
  intro i hi
  match i, hi with
  | 0, _ => exact List.mem_of_getElem? (i := 490) (by decide +kernel)
  | 1, _ => exact List.mem_of_getElem? (i := 491) (by decide +kernel)
  | 2, _ => exact List.mem_of_getElem? (i := 492) (by decide +kernel)
  | 3, _ => exact List.mem_of_getElem? (i := 493) (by decide +kernel)
  | k + 4, h => exact absurd (show k + 4 < 4 from h) (by omega)
theorem z5_7 : ∀ i : Nat, i < sLen.getD 7 0 → Cond.eq (.elem (.field (zT 7) "java/lang/String" "value" "[B") (.int (Int32.ofNat i))) (.int ((sByt.getD 7 []).getD i 0)) ∈ zFl := by
  intro i hi
  match i, hi with
  | 0, _ => exact List.mem_of_getElem? (i := 509) (by decide +kernel)
  | 1, _ => exact List.mem_of_getElem? (i := 510) (by decide +kernel)
  | k + 2, h => exact absurd (show k + 2 < 2 from h) (by omega)
theorem z5_8 : ∀ i : Nat, i < sLen.getD 8 0 → Cond.eq (.elem (.field (zT 8) "java/lang/String" "value" "[B") (.int (Int32.ofNat i))) (.int ((sByt.getD 8 []).getD i 0)) ∈ zFl := by
  intro i hi
  match i, hi with
  | 0, _ => exact List.mem_of_getElem? (i := 527) (by decide +kernel)
  | 1, _ => exact List.mem_of_getElem? (i := 528) (by decide +kernel)
  | k + 2, h => exact absurd (show k + 2 < 2 from h) (by omega)
theorem z5_9 : ∀ i : Nat, i < sLen.getD 9 0 → Cond.eq (.elem (.field (zT 9) "java/lang/String" "value" "[B") (.int (Int32.ofNat i))) (.int ((sByt.getD 9 []).getD i 0)) ∈ zFl := by
  intro i hi
  match i, hi with
  | 0, _ => exact List.mem_of_getElem? (i := 546) (by decide +kernel)
  | 1, _ => exact List.mem_of_getElem? (i := 547) (by decide +kernel)
  | 2, _ => exact List.mem_of_getElem? (i := 548) (by decide +kernel)
  | 3, _ => exact List.mem_of_getElem? (i := 549) (by decide +kernel)
  | 4, _ => exact List.mem_of_getElem? (i := 550) (by decide +kernel)
  | k + 5, h => exact absurd (show k + 5 < 5 from h) (by omega)
theorem z5_10 : ∀ i : Nat, i < sLen.getD 10 0 → Cond.eq (.elem (.field (zT 10) "java/lang/String" "value" "[B") (.int (Int32.ofNat i))) (.int ((sByt.getD 10 []).getD i 0)) ∈ zFl := by
  intro i hi
  match i, hi with
  | 0, _ => exact List.mem_of_getElem? (i := 569) (by decide +kernel)
  | 1, _ => exact List.mem_of_getElem? (i := 570) (by decide +kernel)
  | 2, _ => exact List.mem_of_getElem? (i := 571) (by decide +kernel)
  | 3, _ => exact List.mem_of_getElem? (i := 572) (by decide +kernel)
  | 4, _ => exact List.mem_of_getElem? (i := 573) (by decide +kernel)
  | k + 5, h => exact absurd (show k + 5 < 5 from h) (by omega)
theorem z5_11 : ∀ i : Nat, i < sLen.getD 11 0 → Cond.eq (.elem (.field (zT 11) "java/lang/String" "value" "[B") (.int (Int32.ofNat i))) (.int ((sByt.getD 11 []).getD i 0)) ∈ zFl := by
  intro i hi
  match i, hi with
  | 0, _ => exact List.mem_of_getElem? (i := 593) (by decide +kernel)
  | 1, _ => exact List.mem_of_getElem? (i := 594) (by decide +kernel)
  | k + 2, h => exact absurd (show k + 2 < 2 from h) (by omega)
theorem z5_12 : ∀ i : Nat, i < sLen.getD 12 0 → Cond.eq (.elem (.field (zT 12) "java/lang/String" "value" "[B") (.int (Int32.ofNat i))) (.int ((sByt.getD 12 []).getD i 0)) ∈ zFl := by
  intro i hi
  match i, hi with
  | 0, _ => exact List.mem_of_getElem? (i := 615) (by decide +kernel)
  | 1, _ => exact List.mem_of_getElem? (i := 616) (by decide +kernel)
  | 2, _ => exact List.mem_of_getElem? (i := 617) (by decide +kernel)
  | 3, _ => exact List.mem_of_getElem? (i := 618) (by decide +kernel)
  | k + 4, h => exact absurd (show k + 4 < 4 from h) (by omega)
theorem z5_13 : ∀ i : Nat, i < sLen.getD 13 0 → Cond.eq (.elem (.field (zT 13) "java/lang/String" "value" "[B") (.int (Int32.ofNat i))) (.int ((sByt.getD 13 []).getD i 0)) ∈ zFl := by
  intro i hi
  match i, hi with
  | 0, _ => exact List.mem_of_getElem? (i := 640) (by decide +kernel)
  | 1, _ => exact List.mem_of_getElem? (i := 641) (by decide +kernel)
  | 2, _ => exact List.mem_of_getElem? (i := 642) (by decide +kernel)
  | 3, _ => exact List.mem_of_getElem? (i := 643) (by decide +kernel)
  | k + 4, h => exact absurd (show k + 4 < 4 from h) (by omega)
theorem z5_14 : ∀ i : Nat, i < sLen.getD 14 0 → Cond.eq (.elem (.field (zT 14) "java/lang/String" "value" "[B") (.int (Int32.ofNat i))) (.int ((sByt.getD 14 []).getD i 0)) ∈ zFl := by
  intro i hi
  match i, hi with
  | 0, _ => exact List.mem_of_getElem? (i := 666) (by decide +kernel)
  | 1, _ => exact List.mem_of_getElem? (i := 667) (by decide +kernel)
  | k + 2, h => exact absurd (show k + 2 < 2 from h) (by omega)
theorem z5_15 : ∀ i : Nat, i < sLen.getD 15 0 → Cond.eq (.elem (.field (zT 15) "java/lang/String" "value" "[B") (.int (Int32.ofNat i))) (.int ((sByt.getD 15 []).getD i 0)) ∈ zFl := by
  intro i hi
  match i, hi with
  | 0, _ => exact List.mem_of_getElem? (i := 691) (by decide +kernel)
  | 1, _ => exact List.mem_of_getElem? (i := 692) (by decide +kernel)
  | 2, _ => exact List.mem_of_getElem? (i := 693) (by decide +kernel)
  | 3, _ => exact List.mem_of_getElem? (i := 694) (by decide +kernel)
  | k + 4, h => exact absurd (show k + 4 < 4 from h) (by omega)
theorem zz5 : ∀ i : Nat, i < sN → ∀ j : Nat, j < sLen.getD i 0 → Cond.eq (.elem (.field (zT i) "java/lang/String" "value" "[B") (.int (Int32.ofNat j))) (.int ((sByt.getD i []).getD j 0)) ∈ zFl := by
  intro i hi
  match i, hi with
  | 0, _ => exact z5_0
  | 1, _ => exact z5_1
  | 2, _ => exact z5_2
  | 3, _ => exact z5_3
  | 4, _ => exact z5_4
  | 5, _ => exact z5_5
  | 6, _ => exact z5_6
  | 7, _ => exact z5_7
  | 8, _ => exact z5_8
  | 9, _ => exact z5_9
  | 10, _ => exact z5_10
  | 11, _ => exact z5_11
  | 12, _ => exact z5_12
  | 13, _ => exact z5_13
  | 14, _ => exact z5_14
  | 15, _ => exact z5_15
  | k + 16, h => exact absurd (show k + 16 < 16 from h) (by omega)
theorem z6_0 : ∀ j : Nat, j < sN → 0 ≠ j → (Cond.not (Cond.eq (zT 0) (zT j)) ∈ zFl ∨ Cond.not (Cond.eq (zT j) (zT 0)) ∈ zFl) := by
  intro j hj hij
  match j, hj, hij with
  | 0, _, h => exact absurd rfl h
  | 1, _, _ => exact Or.inl (List.mem_of_getElem? (i := 418) (by decide +kernel))
  | 2, _, _ => exact Or.inl (List.mem_of_getElem? (i := 431) (by decide +kernel))
  | 3, _, _ => exact Or.inl (List.mem_of_getElem? (i := 444) (by decide +kernel))
  | 4, _, _ => exact Or.inl (List.mem_of_getElem? (i := 460) (by decide +kernel))
  | 5, _, _ => exact Or.inl (List.mem_of_getElem? (i := 476) (by decide +kernel))
  | 6, _, _ => exact Or.inl (List.mem_of_getElem? (i := 494) (by decide +kernel))
  | 7, _, _ => exact Or.inl (List.mem_of_getElem? (i := 511) (by decide +kernel))
  | 8, _, _ => exact Or.inl (List.mem_of_getElem? (i := 529) (by decide +kernel))
  | 9, _, _ => exact Or.inl (List.mem_of_getElem? (i := 551) (by decide +kernel))
  | 10, _, _ => exact Or.inl (List.mem_of_getElem? (i := 574) (by decide +kernel))
  | 11, _, _ => exact Or.inl (List.mem_of_getElem? (i := 595) (by decide +kernel))
  | 12, _, _ => exact Or.inl (List.mem_of_getElem? (i := 619) (by decide +kernel))
  | 13, _, _ => exact Or.inl (List.mem_of_getElem? (i := 644) (by decide +kernel))
  | 14, _, _ => exact Or.inl (List.mem_of_getElem? (i := 668) (by decide +kernel))
  | 15, _, _ => exact Or.inl (List.mem_of_getElem? (i := 695) (by decide +kernel))
  | k + 16, h, _ => exact absurd (show k + 16 < 16 from h) (by omega)
theorem z6_1 : ∀ j : Nat, j < sN → 1 ≠ j → (Cond.not (Cond.eq (zT 1) (zT j)) ∈ zFl ∨ Cond.not (Cond.eq (zT j) (zT 1)) ∈ zFl) := by
  intro j hj hij
  match j, hj, hij with
  | 0, _, _ => exact Or.inr (List.mem_of_getElem? (i := 418) (by decide +kernel))
  | 1, _, h => exact absurd rfl h
  | 2, _, _ => exact Or.inl (List.mem_of_getElem? (i := 437) (by decide +kernel))
  | 3, _, _ => exact Or.inl (List.mem_of_getElem? (i := 450) (by decide +kernel))
  | 4, _, _ => exact Or.inl (List.mem_of_getElem? (i := 466) (by decide +kernel))
  | 5, _, _ => exact Or.inl (List.mem_of_getElem? (i := 482) (by decide +kernel))
  | 6, _, _ => exact Or.inl (List.mem_of_getElem? (i := 500) (by decide +kernel))
  | 7, _, _ => exact Or.inl (List.mem_of_getElem? (i := 517) (by decide +kernel))
  | 8, _, _ => exact Or.inl (List.mem_of_getElem? (i := 535) (by decide +kernel))
  | 9, _, _ => exact Or.inl (List.mem_of_getElem? (i := 557) (by decide +kernel))
  | 10, _, _ => exact Or.inl (List.mem_of_getElem? (i := 580) (by decide +kernel))
  | 11, _, _ => exact Or.inl (List.mem_of_getElem? (i := 601) (by decide +kernel))
  | 12, _, _ => exact Or.inl (List.mem_of_getElem? (i := 625) (by decide +kernel))
  | 13, _, _ => exact Or.inl (List.mem_of_getElem? (i := 650) (by decide +kernel))
  | 14, _, _ => exact Or.inl (List.mem_of_getElem? (i := 674) (by decide +kernel))
  | 15, _, _ => exact Or.inl (List.mem_of_getElem? (i := 701) (by decide +kernel))
  | k + 16, h, _ => exact absurd (show k + 16 < 16 from h) (by omega)
theorem z6_2 : ∀ j : Nat, j < sN → 2 ≠ j → (Cond.not (Cond.eq (zT 2) (zT j)) ∈ zFl ∨ Cond.not (Cond.eq (zT j) (zT 2)) ∈ zFl) := by
  intro j hj hij
  match j, hj, hij with
  | 0, _, _ => exact Or.inr (List.mem_of_getElem? (i := 431) (by decide +kernel))
  | 1, _, _ => exact Or.inr (List.mem_of_getElem? (i := 437) (by decide +kernel))
  | 2, _, h => exact absurd rfl h
  | 3, _, _ => exact Or.inl (List.mem_of_getElem? (i := 451) (by decide +kernel))
  | 4, _, _ => exact Or.inl (List.mem_of_getElem? (i := 467) (by decide +kernel))
  | 5, _, _ => exact Or.inl (List.mem_of_getElem? (i := 483) (by decide +kernel))
  | 6, _, _ => exact Or.inl (List.mem_of_getElem? (i := 501) (by decide +kernel))
  | 7, _, _ => exact Or.inl (List.mem_of_getElem? (i := 518) (by decide +kernel))
  | 8, _, _ => exact Or.inl (List.mem_of_getElem? (i := 536) (by decide +kernel))
  | 9, _, _ => exact Or.inl (List.mem_of_getElem? (i := 558) (by decide +kernel))
  | 10, _, _ => exact Or.inl (List.mem_of_getElem? (i := 581) (by decide +kernel))
  | 11, _, _ => exact Or.inl (List.mem_of_getElem? (i := 602) (by decide +kernel))
  | 12, _, _ => exact Or.inl (List.mem_of_getElem? (i := 626) (by decide +kernel))
  | 13, _, _ => exact Or.inl (List.mem_of_getElem? (i := 651) (by decide +kernel))
  | 14, _, _ => exact Or.inl (List.mem_of_getElem? (i := 675) (by decide +kernel))
  | 15, _, _ => exact Or.inl (List.mem_of_getElem? (i := 702) (by decide +kernel))
  | k + 16, h, _ => exact absurd (show k + 16 < 16 from h) (by omega)
theorem z6_3 : ∀ j : Nat, j < sN → 3 ≠ j → (Cond.not (Cond.eq (zT 3) (zT j)) ∈ zFl ∨ Cond.not (Cond.eq (zT j) (zT 3)) ∈ zFl) := by
  intro j hj hij
  match j, hj, hij with
  | 0, _, _ => exact Or.inr (List.mem_of_getElem? (i := 444) (by decide +kernel))
  | 1, _, _ => exact Or.inr (List.mem_of_getElem? (i := 450) (by decide +kernel))
  | 2, _, _ => exact Or.inr (List.mem_of_getElem? (i := 451) (by decide +kernel))
  | 3, _, h => exact absurd rfl h
  | 4, _, _ => exact Or.inl (List.mem_of_getElem? (i := 468) (by decide +kernel))
  | 5, _, _ => exact Or.inl (List.mem_of_getElem? (i := 484) (by decide +kernel))
  | 6, _, _ => exact Or.inl (List.mem_of_getElem? (i := 502) (by decide +kernel))
  | 7, _, _ => exact Or.inl (List.mem_of_getElem? (i := 519) (by decide +kernel))
  | 8, _, _ => exact Or.inl (List.mem_of_getElem? (i := 537) (by decide +kernel))
  | 9, _, _ => exact Or.inl (List.mem_of_getElem? (i := 559) (by decide +kernel))
  | 10, _, _ => exact Or.inl (List.mem_of_getElem? (i := 582) (by decide +kernel))
  | 11, _, _ => exact Or.inl (List.mem_of_getElem? (i := 603) (by decide +kernel))
  | 12, _, _ => exact Or.inl (List.mem_of_getElem? (i := 627) (by decide +kernel))
  | 13, _, _ => exact Or.inl (List.mem_of_getElem? (i := 652) (by decide +kernel))
  | 14, _, _ => exact Or.inl (List.mem_of_getElem? (i := 676) (by decide +kernel))
  | 15, _, _ => exact Or.inl (List.mem_of_getElem? (i := 703) (by decide +kernel))
  | k + 16, h, _ => exact absurd (show k + 16 < 16 from h) (by omega)
theorem z6_4 : ∀ j : Nat, j < sN → 4 ≠ j → (Cond.not (Cond.eq (zT 4) (zT j)) ∈ zFl ∨ Cond.not (Cond.eq (zT j) (zT 4)) ∈ zFl) := by
  intro j hj hij
  match j, hj, hij with
  | 0, _, _ => exact Or.inr (List.mem_of_getElem? (i := 460) (by decide +kernel))
  | 1, _, _ => exact Or.inr (List.mem_of_getElem? (i := 466) (by decide +kernel))
  | 2, _, _ => exact Or.inr (List.mem_of_getElem? (i := 467) (by decide +kernel))
  | 3, _, _ => exact Or.inr (List.mem_of_getElem? (i := 468) (by decide +kernel))
  | 4, _, h => exact absurd rfl h
  | 5, _, _ => exact Or.inl (List.mem_of_getElem? (i := 485) (by decide +kernel))
  | 6, _, _ => exact Or.inl (List.mem_of_getElem? (i := 503) (by decide +kernel))
  | 7, _, _ => exact Or.inl (List.mem_of_getElem? (i := 520) (by decide +kernel))
  | 8, _, _ => exact Or.inl (List.mem_of_getElem? (i := 538) (by decide +kernel))
  | 9, _, _ => exact Or.inl (List.mem_of_getElem? (i := 560) (by decide +kernel))
  | 10, _, _ => exact Or.inl (List.mem_of_getElem? (i := 583) (by decide +kernel))
  | 11, _, _ => exact Or.inl (List.mem_of_getElem? (i := 604) (by decide +kernel))
  | 12, _, _ => exact Or.inl (List.mem_of_getElem? (i := 628) (by decide +kernel))
  | 13, _, _ => exact Or.inl (List.mem_of_getElem? (i := 653) (by decide +kernel))
  | 14, _, _ => exact Or.inl (List.mem_of_getElem? (i := 677) (by decide +kernel))
  | 15, _, _ => exact Or.inl (List.mem_of_getElem? (i := 704) (by decide +kernel))
  | k + 16, h, _ => exact absurd (show k + 16 < 16 from h) (by omega)
theorem z6_5 : ∀ j : Nat, j < sN → 5 ≠ j → (Cond.not (Cond.eq (zT 5) (zT j)) ∈ zFl ∨ Cond.not (Cond.eq (zT j) (zT 5)) ∈ zFl) := by
  intro j hj hij
  match j, hj, hij with
  | 0, _, _ => exact Or.inr (List.mem_of_getElem? (i := 476) (by decide +kernel))
  | 1, _, _ => exact Or.inr (List.mem_of_getElem? (i := 482) (by decide +kernel))
  | 2, _, _ => exact Or.inr (List.mem_of_getElem? (i := 483) (by decide +kernel))
  | 3, _, _ => exact Or.inr (List.mem_of_getElem? (i := 484) (by decide +kernel))
  | 4, _, _ => exact Or.inr (List.mem_of_getElem? (i := 485) (by decide +kernel))
  | 5, _, h => exact absurd rfl h
  | 6, _, _ => exact Or.inl (List.mem_of_getElem? (i := 504) (by decide +kernel))
  | 7, _, _ => exact Or.inl (List.mem_of_getElem? (i := 521) (by decide +kernel))
  | 8, _, _ => exact Or.inl (List.mem_of_getElem? (i := 539) (by decide +kernel))
  | 9, _, _ => exact Or.inl (List.mem_of_getElem? (i := 561) (by decide +kernel))
  | 10, _, _ => exact Or.inl (List.mem_of_getElem? (i := 584) (by decide +kernel))
  | 11, _, _ => exact Or.inl (List.mem_of_getElem? (i := 605) (by decide +kernel))
  | 12, _, _ => exact Or.inl (List.mem_of_getElem? (i := 629) (by decide +kernel))
  | 13, _, _ => exact Or.inl (List.mem_of_getElem? (i := 654) (by decide +kernel))
  | 14, _, _ => exact Or.inl (List.mem_of_getElem? (i := 678) (by decide +kernel))
  | 15, _, _ => exact Or.inl (List.mem_of_getElem? (i := 705) (by decide +kernel))
  | k + 16, h, _ => exact absurd (show k + 16 < 16 from h) (by omega)
theorem z6_6 : ∀ j : Nat, j < sN → 6 ≠ j → (Cond.not (Cond.eq (zT 6) (zT j)) ∈ zFl ∨ Cond.not (Cond.eq (zT j) (zT 6)) ∈ zFl) := by
  intro j hj hij
  match j, hj, hij with
  | 0, _, _ => exact Or.inr (List.mem_of_getElem? (i := 494) (by decide +kernel))
  | 1, _, _ => exact Or.inr (List.mem_of_getElem? (i := 500) (by decide +kernel))
  | 2, _, _ => exact Or.inr (List.mem_of_getElem? (i := 501) (by decide +kernel))
  | 3, _, _ => exact Or.inr (List.mem_of_getElem? (i := 502) (by decide +kernel))
  | 4, _, _ => exact Or.inr (List.mem_of_getElem? (i := 503) (by decide +kernel))
  | 5, _, _ => exact Or.inr (List.mem_of_getElem? (i := 504) (by decide +kernel))
  | 6, _, h => exact absurd rfl h
  | 7, _, _ => exact Or.inl (List.mem_of_getElem? (i := 522) (by decide +kernel))
  | 8, _, _ => exact Or.inl (List.mem_of_getElem? (i := 540) (by decide +kernel))
  | 9, _, _ => exact Or.inl (List.mem_of_getElem? (i := 562) (by decide +kernel))
  | 10, _, _ => exact Or.inl (List.mem_of_getElem? (i := 585) (by decide +kernel))
  | 11, _, _ => exact Or.inl (List.mem_of_getElem? (i := 606) (by decide +kernel))
  | 12, _, _ => exact Or.inl (List.mem_of_getElem? (i := 630) (by decide +kernel))
  | 13, _, _ => exact Or.inl (List.mem_of_getElem? (i := 655) (by decide +kernel))
  | 14, _, _ => exact Or.inl (List.mem_of_getElem? (i := 679) (by decide +kernel))
  | 15, _, _ => exact Or.inl (List.mem_of_getElem? (i := 706) (by decide +kernel))
  | k + 16, h, _ => exact absurd (show k + 16 < 16 from h) (by omega)
theorem z6_7 : ∀ j : Nat, j < sN → 7 ≠ j → (Cond.not (Cond.eq (zT 7) (zT j)) ∈ zFl ∨ Cond.not (Cond.eq (zT j) (zT 7)) ∈ zFl) := by
  intro j hj hij
  match j, hj, hij with
  | 0, _, _ => exact Or.inr (List.mem_of_getElem? (i := 511) (by decide +kernel))
  | 1, _, _ => exact Or.inr (List.mem_of_getElem? (i := 517) (by decide +kernel))
  | 2, _, _ => exact Or.inr (List.mem_of_getElem? (i := 518) (by decide +kernel))
  | 3, _, _ => exact Or.inr (List.mem_of_getElem? (i := 519) (by decide +kernel))
  | 4, _, _ => exact Or.inr (List.mem_of_getElem? (i := 520) (by decide +kernel))
  | 5, _, _ => exact Or.inr (List.mem_of_getElem? (i := 521) (by decide +kernel))
  | 6, _, _ => exact Or.inr (List.mem_of_getElem? (i := 522) (by decide +kernel))
  | 7, _, h => exact absurd rfl h
  | 8, _, _ => exact Or.inl (List.mem_of_getElem? (i := 541) (by decide +kernel))
  | 9, _, _ => exact Or.inl (List.mem_of_getElem? (i := 563) (by decide +kernel))
  | 10, _, _ => exact Or.inl (List.mem_of_getElem? (i := 586) (by decide +kernel))
  | 11, _, _ => exact Or.inl (List.mem_of_getElem? (i := 607) (by decide +kernel))
  | 12, _, _ => exact Or.inl (List.mem_of_getElem? (i := 631) (by decide +kernel))
  | 13, _, _ => exact Or.inl (List.mem_of_getElem? (i := 656) (by decide +kernel))
  | 14, _, _ => exact Or.inl (List.mem_of_getElem? (i := 680) (by decide +kernel))
  | 15, _, _ => exact Or.inl (List.mem_of_getElem? (i := 707) (by decide +kernel))
  | k + 16, h, _ => exact absurd (show k + 16 < 16 from h) (by omega)
theorem z6_8 : ∀ j : Nat, j < sN → 8 ≠ j → (Cond.not (Cond.eq (zT 8) (zT j)) ∈ zFl ∨ Cond.not (Cond.eq (zT j) (zT 8)) ∈ zFl) := by
  intro j hj hij
  match j, hj, hij with
  | 0, _, _ => exact Or.inr (List.mem_of_getElem? (i := 529) (by decide +kernel))
  | 1, _, _ => exact Or.inr (List.mem_of_getElem? (i := 535) (by decide +kernel))
  | 2, _, _ => exact Or.inr (List.mem_of_getElem? (i := 536) (by decide +kernel))
  | 3, _, _ => exact Or.inr (List.mem_of_getElem? (i := 537) (by decide +kernel))
  | 4, _, _ => exact Or.inr (List.mem_of_getElem? (i := 538) (by decide +kernel))
  | 5, _, _ => exact Or.inr (List.mem_of_getElem? (i := 539) (by decide +kernel))
  | 6, _, _ => exact Or.inr (List.mem_of_getElem? (i := 540) (by decide +kernel))
  | 7, _, _ => exact Or.inr (List.mem_of_getElem? (i := 541) (by decide +kernel))
  | 8, _, h => exact absurd rfl h
  | 9, _, _ => exact Or.inl (List.mem_of_getElem? (i := 564) (by decide +kernel))
  | 10, _, _ => exact Or.inl (List.mem_of_getElem? (i := 587) (by decide +kernel))
  | 11, _, _ => exact Or.inl (List.mem_of_getElem? (i := 608) (by decide +kernel))
  | 12, _, _ => exact Or.inl (List.mem_of_getElem? (i := 632) (by decide +kernel))
  | 13, _, _ => exact Or.inl (List.mem_of_getElem? (i := 657) (by decide +kernel))
  | 14, _, _ => exact Or.inl (List.mem_of_getElem? (i := 681) (by decide +kernel))
  | 15, _, _ => exact Or.inl (List.mem_of_getElem? (i := 708) (by decide +kernel))
  | k + 16, h, _ => exact absurd (show k + 16 < 16 from h) (by omega)
theorem z6_9 : ∀ j : Nat, j < sN → 9 ≠ j → (Cond.not (Cond.eq (zT 9) (zT j)) ∈ zFl ∨ Cond.not (Cond.eq (zT j) (zT 9)) ∈ zFl) := by
  intro j hj hij
  match j, hj, hij with
  | 0, _, _ => exact Or.inr (List.mem_of_getElem? (i := 551) (by decide +kernel))
  | 1, _, _ => exact Or.inr (List.mem_of_getElem? (i := 557) (by decide +kernel))
  | 2, _, _ => exact Or.inr (List.mem_of_getElem? (i := 558) (by decide +kernel))
  | 3, _, _ => exact Or.inr (List.mem_of_getElem? (i := 559) (by decide +kernel))
  | 4, _, _ => exact Or.inr (List.mem_of_getElem? (i := 560) (by decide +kernel))
  | 5, _, _ => exact Or.inr (List.mem_of_getElem? (i := 561) (by decide +kernel))
  | 6, _, _ => exact Or.inr (List.mem_of_getElem? (i := 562) (by decide +kernel))
  | 7, _, _ => exact Or.inr (List.mem_of_getElem? (i := 563) (by decide +kernel))
  | 8, _, _ => exact Or.inr (List.mem_of_getElem? (i := 564) (by decide +kernel))
  | 9, _, h => exact absurd rfl h
  | 10, _, _ => exact Or.inl (List.mem_of_getElem? (i := 588) (by decide +kernel))
  | 11, _, _ => exact Or.inl (List.mem_of_getElem? (i := 609) (by decide +kernel))
  | 12, _, _ => exact Or.inl (List.mem_of_getElem? (i := 633) (by decide +kernel))
  | 13, _, _ => exact Or.inl (List.mem_of_getElem? (i := 658) (by decide +kernel))
  | 14, _, _ => exact Or.inl (List.mem_of_getElem? (i := 682) (by decide +kernel))
  | 15, _, _ => exact Or.inl (List.mem_of_getElem? (i := 709) (by decide +kernel))
  | k + 16, h, _ => exact absurd (show k + 16 < 16 from h) (by omega)
theorem z6_10 : ∀ j : Nat, j < sN → 10 ≠ j → (Cond.not (Cond.eq (zT 10) (zT j)) ∈ zFl ∨ Cond.not (Cond.eq (zT j) (zT 10)) ∈ zFl) := by
  intro j hj hij
  match j, hj, hij with
  | 0, _, _ => exact Or.inr (List.mem_of_getElem? (i := 574) (by decide +kernel))
  | 1, _, _ => exact Or.inr (List.mem_of_getElem? (i := 580) (by decide +kernel))
  | 2, _, _ => exact Or.inr (List.mem_of_getElem? (i := 581) (by decide +kernel))
  | 3, _, _ => exact Or.inr (List.mem_of_getElem? (i := 582) (by decide +kernel))
  | 4, _, _ => exact Or.inr (List.mem_of_getElem? (i := 583) (by decide +kernel))
  | 5, _, _ => exact Or.inr (List.mem_of_getElem? (i := 584) (by decide +kernel))
  | 6, _, _ => exact Or.inr (List.mem_of_getElem? (i := 585) (by decide +kernel))
  | 7, _, _ => exact Or.inr (List.mem_of_getElem? (i := 586) (by decide +kernel))
  | 8, _, _ => exact Or.inr (List.mem_of_getElem? (i := 587) (by decide +kernel))
  | 9, _, _ => exact Or.inr (List.mem_of_getElem? (i := 588) (by decide +kernel))
  | 10, _, h => exact absurd rfl h
  | 11, _, _ => exact Or.inl (List.mem_of_getElem? (i := 610) (by decide +kernel))
  | 12, _, _ => exact Or.inl (List.mem_of_getElem? (i := 634) (by decide +kernel))
  | 13, _, _ => exact Or.inl (List.mem_of_getElem? (i := 659) (by decide +kernel))
  | 14, _, _ => exact Or.inl (List.mem_of_getElem? (i := 683) (by decide +kernel))
  | 15, _, _ => exact Or.inl (List.mem_of_getElem? (i := 710) (by decide +kernel))
  | k + 16, h, _ => exact absurd (show k + 16 < 16 from h) (by omega)
theorem z6_11 : ∀ j : Nat, j < sN → 11 ≠ j → (Cond.not (Cond.eq (zT 11) (zT j)) ∈ zFl ∨ Cond.not (Cond.eq (zT j) (zT 11)) ∈ zFl) := by
  intro j hj hij
  match j, hj, hij with
  | 0, _, _ => exact Or.inr (List.mem_of_getElem? (i := 595) (by decide +kernel))
  | 1, _, _ => exact Or.inr (List.mem_of_getElem? (i := 601) (by decide +kernel))
  | 2, _, _ => exact Or.inr (List.mem_of_getElem? (i := 602) (by decide +kernel))
  | 3, _, _ => exact Or.inr (List.mem_of_getElem? (i := 603) (by decide +kernel))
  | 4, _, _ => exact Or.inr (List.mem_of_getElem? (i := 604) (by decide +kernel))
  | 5, _, _ => exact Or.inr (List.mem_of_getElem? (i := 605) (by decide +kernel))
  | 6, _, _ => exact Or.inr (List.mem_of_getElem? (i := 606) (by decide +kernel))
  | 7, _, _ => exact Or.inr (List.mem_of_getElem? (i := 607) (by decide +kernel))
  | 8, _, _ => exact Or.inr (List.mem_of_getElem? (i := 608) (by decide +kernel))
  | 9, _, _ => exact Or.inr (List.mem_of_getElem? (i := 609) (by decide +kernel))
  | 10, _, _ => exact Or.inr (List.mem_of_getElem? (i := 610) (by decide +kernel))
  | 11, _, h => exact absurd rfl h
  | 12, _, _ => exact Or.inl (List.mem_of_getElem? (i := 635) (by decide +kernel))
  | 13, _, _ => exact Or.inl (List.mem_of_getElem? (i := 660) (by decide +kernel))
  | 14, _, _ => exact Or.inl (List.mem_of_getElem? (i := 684) (by decide +kernel))
  | 15, _, _ => exact Or.inl (List.mem_of_getElem? (i := 711) (by decide +kernel))
  | k + 16, h, _ => exact absurd (show k + 16 < 16 from h) (by omega)
theorem z6_12 : ∀ j : Nat, j < sN → 12 ≠ j → (Cond.not (Cond.eq (zT 12) (zT j)) ∈ zFl ∨ Cond.not (Cond.eq (zT j) (zT 12)) ∈ zFl) := by
  intro j hj hij
  match j, hj, hij with
  | 0, _, _ => exact Or.inr (List.mem_of_getElem? (i := 619) (by decide +kernel))
  | 1, _, _ => exact Or.inr (List.mem_of_getElem? (i := 625) (by decide +kernel))
  | 2, _, _ => exact Or.inr (List.mem_of_getElem? (i := 626) (by decide +kernel))
  | 3, _, _ => exact Or.inr (List.mem_of_getElem? (i := 627) (by decide +kernel))
  | 4, _, _ => exact Or.inr (List.mem_of_getElem? (i := 628) (by decide +kernel))
  | 5, _, _ => exact Or.inr (List.mem_of_getElem? (i := 629) (by decide +kernel))
  | 6, _, _ => exact Or.inr (List.mem_of_getElem? (i := 630) (by decide +kernel))
  | 7, _, _ => exact Or.inr (List.mem_of_getElem? (i := 631) (by decide +kernel))
  | 8, _, _ => exact Or.inr (List.mem_of_getElem? (i := 632) (by decide +kernel))
  | 9, _, _ => exact Or.inr (List.mem_of_getElem? (i := 633) (by decide +kernel))
  | 10, _, _ => exact Or.inr (List.mem_of_getElem? (i := 634) (by decide +kernel))
  | 11, _, _ => exact Or.inr (List.mem_of_getElem? (i := 635) (by decide +kernel))
  | 12, _, h => exact absurd rfl h
  | 13, _, _ => exact Or.inl (List.mem_of_getElem? (i := 661) (by decide +kernel))
  | 14, _, _ => exact Or.inl (List.mem_of_getElem? (i := 685) (by decide +kernel))
  | 15, _, _ => exact Or.inl (List.mem_of_getElem? (i := 712) (by decide +kernel))
  | k + 16, h, _ => exact absurd (show k + 16 < 16 from h) (by omega)
theorem z6_13 : ∀ j : Nat, j < sN → 13 ≠ j → (Cond.not (Cond.eq (zT 13) (zT j)) ∈ zFl ∨ Cond.not (Cond.eq (zT j) (zT 13)) ∈ zFl) := by
  intro j hj hij
  match j, hj, hij with
  | 0, _, _ => exact Or.inr (List.mem_of_getElem? (i := 644) (by decide +kernel))
  | 1, _, _ => exact Or.inr (List.mem_of_getElem? (i := 650) (by decide +kernel))
  | 2, _, _ => exact Or.inr (List.mem_of_getElem? (i := 651) (by decide +kernel))
  | 3, _, _ => exact Or.inr (List.mem_of_getElem? (i := 652) (by decide +kernel))
  | 4, _, _ => exact Or.inr (List.mem_of_getElem? (i := 653) (by decide +kernel))
  | 5, _, _ => exact Or.inr (List.mem_of_getElem? (i := 654) (by decide +kernel))
  | 6, _, _ => exact Or.inr (List.mem_of_getElem? (i := 655) (by decide +kernel))
  | 7, _, _ => exact Or.inr (List.mem_of_getElem? (i := 656) (by decide +kernel))
  | 8, _, _ => exact Or.inr (List.mem_of_getElem? (i := 657) (by decide +kernel))
  | 9, _, _ => exact Or.inr (List.mem_of_getElem? (i := 658) (by decide +kernel))
  | 10, _, _ => exact Or.inr (List.mem_of_getElem? (i := 659) (by decide +kernel))
  | 11, _, _ => exact Or.inr (List.mem_of_getElem? (i := 660) (by decide +kernel))
  | 12, _, _ => exact Or.inr (List.mem_of_getElem? (i := 661) (by decide +kernel))
  | 13, _, h => exact absurd rfl h
  | 14, _, _ => exact Or.inl (List.mem_of_getElem? (i := 686) (by decide +kernel))
  | 15, _, _ => exact Or.inl (List.mem_of_getElem? (i := 713) (by decide +kernel))
  | k + 16, h, _ => exact absurd (show k + 16 < 16 from h) (by omega)
theorem z6_14 : ∀ j : Nat, j < sN → 14 ≠ j → (Cond.not (Cond.eq (zT 14) (zT j)) ∈ zFl ∨ Cond.not (Cond.eq (zT j) (zT 14)) ∈ zFl) := by
  intro j hj hij
  match j, hj, hij with
  | 0, _, _ => exact Or.inr (List.mem_of_getElem? (i := 668) (by decide +kernel))
  | 1, _, _ => exact Or.inr (List.mem_of_getElem? (i := 674) (by decide +kernel))
  | 2, _, _ => exact Or.inr (List.mem_of_getElem? (i := 675) (by decide +kernel))
  | 3, _, _ => exact Or.inr (List.mem_of_getElem? (i := 676) (by decide +kernel))
  | 4, _, _ => exact Or.inr (List.mem_of_getElem? (i := 677) (by decide +kernel))
  | 5, _, _ => exact Or.inr (List.mem_of_getElem? (i := 678) (by decide +kernel))
  | 6, _, _ => exact Or.inr (List.mem_of_getElem? (i := 679) (by decide +kernel))
  | 7, _, _ => exact Or.inr (List.mem_of_getElem? (i := 680) (by decide +kernel))
  | 8, _, _ => exact Or.inr (List.mem_of_getElem? (i := 681) (by decide +kernel))
  | 9, _, _ => exact Or.inr (List.mem_of_getElem? (i := 682) (by decide +kernel))
  | 10, _, _ => exact Or.inr (List.mem_of_getElem? (i := 683) (by decide +kernel))
  | 11, _, _ => exact Or.inr (List.mem_of_getElem? (i := 684) (by decide +kernel))
  | 12, _, _ => exact Or.inr (List.mem_of_getElem? (i := 685) (by decide +kernel))
  | 13, _, _ => exact Or.inr (List.mem_of_getElem? (i := 686) (by decide +kernel))
  | 14, _, h => exact absurd rfl h
  | 15, _, _ => exact Or.inl (List.mem_of_getElem? (i := 714) (by decide +kernel))
  | k + 16, h, _ => exact absurd (show k + 16 < 16 from h) (by omega)
theorem z6_15 : ∀ j : Nat, j < sN → 15 ≠ j → (Cond.not (Cond.eq (zT 15) (zT j)) ∈ zFl ∨ Cond.not (Cond.eq (zT j) (zT 15)) ∈ zFl) := by
  intro j hj hij
  match j, hj, hij with
  | 0, _, _ => exact Or.inr (List.mem_of_getElem? (i := 695) (by decide +kernel))
  | 1, _, _ => exact Or.inr (List.mem_of_getElem? (i := 701) (by decide +kernel))
  | 2, _, _ => exact Or.inr (List.mem_of_getElem? (i := 702) (by decide +kernel))
  | 3, _, _ => exact Or.inr (List.mem_of_getElem? (i := 703) (by decide +kernel))
  | 4, _, _ => exact Or.inr (List.mem_of_getElem? (i := 704) (by decide +kernel))
  | 5, _, _ => exact Or.inr (List.mem_of_getElem? (i := 705) (by decide +kernel))
  | 6, _, _ => exact Or.inr (List.mem_of_getElem? (i := 706) (by decide +kernel))
  | 7, _, _ => exact Or.inr (List.mem_of_getElem? (i := 707) (by decide +kernel))
  | 8, _, _ => exact Or.inr (List.mem_of_getElem? (i := 708) (by decide +kernel))
  | 9, _, _ => exact Or.inr (List.mem_of_getElem? (i := 709) (by decide +kernel))
  | 10, _, _ => exact Or.inr (List.mem_of_getElem? (i := 710) (by decide +kernel))
  | 11, _, _ => exact Or.inr (List.mem_of_getElem? (i := 711) (by decide +kernel))
  | 12, _, _ => exact Or.inr (List.mem_of_getElem? (i := 712) (by decide +kernel))
  | 13, _, _ => exact Or.inr (List.mem_of_getElem? (i := 713) (by decide +kernel))
  | 14, _, _ => exact Or.inr (List.mem_of_getElem? (i := 714) (by decide +kernel))
  | 15, _, h => exact absurd rfl h
  | k + 16, h, _ => exact absurd (show k + 16 < 16 from h) (by omega)
theorem zz6 : ∀ i : Nat, i < sN → ∀ j : Nat, j < sN → i ≠ j → (Cond.not (Cond.eq (zT i) (zT j)) ∈ zFl ∨ Cond.not (Cond.eq (zT j) (zT i)) ∈ zFl) := by
  intro i hi
  match i, hi with
  | 0, _ => exact z6_0
  | 1, _ => exact z6_1
  | 2, _ => exact z6_2
  | 3, _ => exact z6_3
  | 4, _ => exact z6_4
  | 5, _ => exact z6_5
  | 6, _ => exact z6_6
  | 7, _ => exact z6_7
  | 8, _ => exact z6_8
  | 9, _ => exact z6_9
  | 10, _ => exact z6_10
  | 11, _ => exact z6_11
  | 12, _ => exact z6_12
  | 13, _ => exact z6_13
  | 14, _ => exact z6_14
  | 15, _ => exact z6_15
  | k + 16, h => exact absurd (show k + 16 < 16 from h) (by omega)
theorem zz7 : ∀ i : Nat, i < 6 → Cond.eq (.elem (.static "LazyForge$Demand" "LANE_BITS" "[J") (.int (Int32.ofNat i))) (.long (sLanes.getD i 0)) ∈ zFl := by
  intro i hi
  match i, hi with
  | 0, _ => exact List.mem_of_getElem? (i := 220) (by decide +kernel)
  | 1, _ => exact List.mem_of_getElem? (i := 221) (by decide +kernel)
  | 2, _ => exact List.mem_of_getElem? (i := 222) (by decide +kernel)
  | 3, _ => exact List.mem_of_getElem? (i := 223) (by decide +kernel)
  | 4, _ => exact List.mem_of_getElem? (i := 224) (by decide +kernel)
  | 5, _ => exact List.mem_of_getElem? (i := 225) (by decide +kernel)
  | k + 6, h => exact absurd (show k + 6 < 6 from h) (by omega)
theorem zz8 : ∀ i ∈ List.range sN, sLen.getD i 0 < 2 ^ 31 := by decide +kernel
theorem zA {adK adV : Nat → Nat} {lb i : Nat} (h : i < 16) : (if 2 * i = 100 then lb else if 2 * i % 2 = 0 then adK (2 * i / 2) else adV (2 * i / 2)) = adK i := by
  rw [if_neg (by omega), if_pos (by omega), show 2 * i / 2 = i by omega]
theorem zB {adK adV : Nat → Nat} {lb i : Nat} (h : i < 16) : (if 2 * i + 1 = 100 then lb else if (2 * i + 1) % 2 = 0 then adK ((2 * i + 1) / 2) else adV ((2 * i + 1) / 2)) = adV i := by
  rw [if_neg (by omega), if_neg (by omega), show (2 * i + 1) / 2 = i by omega]
/-- what the Statement gives of texts and static rows -/
theorem start_z {s : State} {b : Nat} {A : Nat → Prop} (hflat : ∀ w ∈ zFl, w.before #[Value.ref b] s = true) (hts : ∀ w ∈ lw_tbl, w.before #[Value.ref b] s = true) (hAn : ∀ q : Nat, q < s.heap.size → ¬ A q) : ∃ ak : Nat → Nat, zC ak A s s.heap := by
  obtain ⟨adK, adV, hS, hE⟩ := vk_Sof (args := #[Value.ref b]) (s := s) (N := sN) (tm := zT) (len := sLen) (byt := sByt) (A := A)
    (fun i hi => zz8 i (List.mem_range.mpr hi)) (fun i hi => hflat _ (zz1 i hi)) (fun i hi => hflat _ (zz2 i hi)) (fun i hi => hflat _ (zz3 i hi)) (fun i hi => hflat _ (zz4 i hi))
    (fun i hi j hj => hflat _ (zz5 i hi j hj)) (fun i j hi hj hij => (zz6 i hi j hj hij).imp (fun h => hflat _ h) (fun h => hflat _ h)) hAn
  have c1 : va_Z "java/lang/String" "COMPACT_STRINGS" "Z" (.int 1) A s s.heap := va_Zof (hts _ (List.mem_of_getElem? (i := 977) (by decide +kernel))) (hts _ (List.mem_of_getElem? (i := 233) (by decide +kernel))) (va_eqi (hflat _ (by decide +kernel))) hAn
  obtain ⟨lb, hlb, hT⟩ := va_Tof (args := #[Value.ref b]) (s := s) (A := A) (tm := .static "LazyForge$Demand" "LANE_BITS" "[J") (ty := .long) (N := 6) (f := fun j => .long (sLanes.getD j 0)) (by decide) (hflat _ (by decide +kernel)) (va_eqt (hflat (Cond.eq (.length (.static "LazyForge$Demand" "LANE_BITS" "[J")) (.int 6)) (by decide +kernel))) (fun j hj => va_eqtl (hflat _ (zz7 j hj))) hAn
  have c2 : va_Z "LazyForge$Demand" "LANE_BITS" "[J" (.ref lb) A s s.heap := va_Zref (hts _ (List.mem_of_getElem? (i := 1569) (by decide +kernel))) (hts _ (List.mem_of_getElem? (i := 222) (by decide +kernel))) hlb hAn
  have c3 : va_Zq "jdk/internal/util/Preconditions" "SIOOBE_FORMATTER" "Ljava/util/function/BiFunction;" A s s.heap := va_Zqof (hts _ (List.mem_of_getElem? (i := 1020) (by decide +kernel))) (hts _ (List.mem_of_getElem? (i := 237) (by decide +kernel))) (hflat _ (by decide +kernel)) hAn
  refine ⟨fun n => if n = 100 then lb else if n % 2 = 0 then adK (n / 2) else adV (n / 2), ⟨fun i hi => ?_, fun i j hi hj h => ?_⟩, c1, c2, hT, c3, vk_R.of (hts _ (List.mem_of_getElem? (i := 963) (by decide +kernel))) (hE 0 (by decide)), vk_R.of (hts _ (List.mem_of_getElem? (i := 1650) (by decide +kernel))) (hE 1 (by decide)), vk_R.of (hts _ (List.mem_of_getElem? (i := 1651) (by decide +kernel))) (hE 2 (by decide)), vk_R.of (hts _ (List.mem_of_getElem? (i := 1686) (by decide +kernel))) (hE 3 (by decide)), vk_R.of (hts _ (List.mem_of_getElem? (i := 1691) (by decide +kernel))) (hE 4 (by decide)), vk_R.of (hts _ (List.mem_of_getElem? (i := 1696) (by decide +kernel))) (hE 5 (by decide)), vk_R.of (hts _ (List.mem_of_getElem? (i := 1701) (by decide +kernel))) (hE 6 (by decide)), vk_R.of (hts _ (List.mem_of_getElem? (i := 1710) (by decide +kernel))) (hE 7 (by decide)), vk_R.of (hts _ (List.mem_of_getElem? (i := 1711) (by decide +kernel))) (hE 8 (by decide)), vk_R.of (hts _ (List.mem_of_getElem? (i := 1712) (by decide +kernel))) (hE 9 (by decide)), vk_R.of (hts _ (List.mem_of_getElem? (i := 1713) (by decide +kernel))) (hE 10 (by decide)), vk_R.of (hts _ (List.mem_of_getElem? (i := 1718) (by decide +kernel))) (hE 11 (by decide)), vk_R.of (hts _ (List.mem_of_getElem? (i := 1723) (by decide +kernel))) (hE 12 (by decide)), vk_R.of (hts _ (List.mem_of_getElem? (i := 1724) (by decide +kernel))) (hE 13 (by decide)), vk_R.of (hts _ (List.mem_of_getElem? (i := 1729) (by decide +kernel))) (hE 14 (by decide)), vk_R.of (hts _ (List.mem_of_getElem? (i := 1730) (by decide +kernel))) (hE 15 (by decide))⟩
  · have h := hS.1 i hi
    have hi2 : i < 16 := hi
    simp only [zA (adK := adK) (adV := adV) (lb := lb) hi2, zB (adK := adK) (adV := adV) (lb := lb) hi2]
    exact h
  · have hi2 : i < 16 := hi
    have hj2 : j < 16 := hj
    simp only [zA (adK := adK) (adV := adV) (lb := lb) hi2, zA (adK := adK) (adV := adV) (lb := lb) hj2] at h
    exact hS.2 i j hi hj h

