section XLC
theorem w_LW_write {p : Program} {l : Launch} (htr : xTr l) {e : Env} {R : Room} {s : State} {m : MethodId} {args : Array Value} {below : List Frame} {meth : Method} {c : Code} {Q : State → Prop} {D : va_G} {a : Nat → ClassId} {base : Nat} {g : Nat → Nat} {k z : Nat} {b L i : Nat} {xs : Nat → Int32} (C : xC p l e s m meth c b_LW_law 9 "ChunkStoreLaw" args D xcl (xty a) base) (hX : va_X b L xs s s.heap) (hb : b < s.heap.size) (hbb : b < base) (hi : i + 6 ≤ L) (hL : L < 2 ^ 30) (hRf : 12 ≤ R.frames) (hRl : 454 ≤ R.locals) (hk : k + 2 ≤ R.cells) (hz : z + 12 ≤ R.slots) {σ σ' : xSig} {w w' : xWrd} {fc q : Nat} {o : Nat → Int64} {d : Nat → UInt64} {A : Int32} (hM : ∀ Y, xM l y_CS_write b_CS_write 7 (some FieldType.int) 4 D a base g 161 (EL a g σ w Y) [.ref (g 0), .int (xs (i + 1)), .int (xs (i + 2)), .int (xs (i + 3)), .int (xs (i + 4))] (fun r E' => E' = EL a g σ' w' Y ∧ r = cr [e_IA, e_NS, e_IS, e_UO, e_IO] q (.int A))) (hMM : ∀ X, xM l y_MD_write b_MD_write 7 (some FieldType.int) 4 D a base g 161 (EM a g σ w fc X) [.ref (g 143), .int (xs (i + 1)), .int (xs (i + 2)), .int (xs (i + 3)), .int (xs (i + 4))] (fun r E' => E' = EM a g σ' w' q X ∧ r = mr q A)) (hB : ∀ t i j, σ' t i j < 2 ^ 30) (hq : q ≤ 5) (kk : ∀ (o' : Nat → Int64) (d' : Nat → UInt64), xG p l e R s m args below meth c Q 9 D xcl base g 161 (LWE a g σ' w' q o' d') (k + 1) (z + 6) 1333 [(0, .ref b), (1, .ref (g 0)), (2, .ref (g 143)), (3, .ref (g 159)), (4, .ref (g 160)), (5, .int (nI i))] []) : xG p l e R s m args below meth c Q 9 D xcl base g 161 (LWE a g σ w fc o d) (k) (z) 504 [(0, .ref b), (1, .ref (g 0)), (2, .ref (g 143)), (3, .ref (g 159)), (4, .ref (g 160)), (5, .int (nI i))] [] := by
  refine x_aload_n C d_LW_law_504 rfl rfl ?_
  refine x_aload_n C d_LW_law_505 rfl rfl ?_
  refine x_iload C d_LW_law_506 rfl ?_
  refine x_iconst C (v := nI 1) d_LW_law_508 (by decide) ?_
  refine xn_iadd C d_LW_law_509 ?_
  refine x_sldn C hX hb hbb (show i + 1 < L by omega) hL d_LW_law_510 ?_
  refine x_aload_n C d_LW_law_511 rfl rfl ?_
  refine x_iload C d_LW_law_512 rfl ?_
  refine x_iconst C (v := nI 2) d_LW_law_514 (by decide) ?_
  refine xn_iadd C d_LW_law_515 ?_
  refine x_sldn C hX hb hbb (show i + 2 < L by omega) hL d_LW_law_516 ?_
  refine x_aload_n C d_LW_law_517 rfl rfl ?_
  refine x_iload C d_LW_law_518 rfl ?_
  refine x_iconst C (v := nI 3) d_LW_law_520 (by decide) ?_
  refine xn_iadd C d_LW_law_521 ?_
  refine x_sldn C hX hb hbb (show i + 3 < L by omega) hL d_LW_law_522 ?_
  refine x_aload_n C d_LW_law_523 rfl rfl ?_
  refine x_iload C d_LW_law_524 rfl ?_
  refine x_iconst C (v := nI 4) d_LW_law_526 (by decide) ?_
  refine xn_iadd C d_LW_law_527 ?_
  refine x_sldn C hX hb hbb (show i + 4 < L by omega) hL d_LW_law_528 ?_
  refine x_aload_n C d_LW_law_529 rfl rfl ?_
  refine x_callSH C (h_LW_write htr (Nat.le_refl _) EL_cs LW_o (hM _) hq) kw372 kw371 kw0 kw370 ny_LW pl_LW_write (lw_room hRf hRl (by decide) (by decide)) (lw_roomc0 hk hz) rfl (Nat.le_of_ble_eq_true rfl) d_LW_law_530 (fun v E' h => ?_) (fun X E' h => by cases h.1)
  obtain ⟨h1, h2⟩ := h
  cases h1
  rw [h2, LW_up]
  clear h2
  refine x_istore C d_LW_law_533 (by decide) rfl ?_
  refine x_aload_n C d_LW_law_535 rfl rfl ?_
  refine x_aload_n C d_LW_law_536 rfl rfl ?_
  refine x_iload C d_LW_law_537 rfl ?_
  refine x_iconst C (v := nI 1) d_LW_law_539 (by decide) ?_
  refine xn_iadd C d_LW_law_540 ?_
  refine x_sldn C hX hb hbb (show i + 1 < L by omega) hL d_LW_law_541 ?_
  refine x_aload_n C d_LW_law_542 rfl rfl ?_
  refine x_iload C d_LW_law_543 rfl ?_
  refine x_iconst C (v := nI 2) d_LW_law_545 (by decide) ?_
  refine xn_iadd C d_LW_law_546 ?_
  refine x_sldn C hX hb hbb (show i + 2 < L by omega) hL d_LW_law_547 ?_
  refine x_aload_n C d_LW_law_548 rfl rfl ?_
  refine x_iload C d_LW_law_549 rfl ?_
  refine x_iconst C (v := nI 3) d_LW_law_551 (by decide) ?_
  refine xn_iadd C d_LW_law_552 ?_
  refine x_sldn C hX hb hbb (show i + 3 < L by omega) hL d_LW_law_553 ?_
  refine x_aload_n C d_LW_law_554 rfl rfl ?_
  refine x_iload C d_LW_law_555 rfl ?_
  refine x_iconst C (v := nI 4) d_LW_law_557 (by decide) ?_
  refine xn_iadd C d_LW_law_558 ?_
  refine x_sldn C hX hb hbb (show i + 4 < L by omega) hL d_LW_law_559 ?_
  refine x_callV (Cn := R_MD) C (hMM _) (i := 143) (by decide) EM_obj (ci := 5) (r := (R_MD, F_MD, 18)) rfl kw684 kw682 kw683 kw6 kw681 ny_MD pl_MD_write (lw_room hRf hRl (by decide) (by decide)) (lw_roomc1 hk hz) rfl (Nat.le_of_ble_eq_true rfl) d_LW_law_560 (fun v E' h => ?_) (fun X E' h => by cases h.2)
  obtain ⟨h1, h2⟩ := h
  cases h2
  rw [h1]
  clear h1
  refine x_istore C d_LW_law_563 (by decide) rfl ?_
  refine x_aload_n C d_LW_law_565 rfl rfl ?_
  refine x_callV (Cn := R_MD) C (m_MD_thrown htr (by decide) hB (k := 4) (by decide)) (i := 143) (by decide) EM_obj (ci := 5) (r := (R_MD, F_MD, 18)) rfl kw627 kw625 kw626 kw6 kw624 ny_MD pl_MD_thrown (lw_room hRf hRl (by decide) (by decide)) (lw_roomc1 hk hz) rfl (Nat.le_of_ble_eq_true rfl) d_LW_law_566 (fun v E' h => ?_) (fun X E' h => by cases h.2)
  obtain ⟨h1, h2⟩ := h
  cases h2
  rw [h1]
  clear h1
  refine x_iload C d_LW_law_569 rfl ?_
  refine x_icmp_eq C 576 d_LW_law_571 (by decide) (fun _ => ?_) (fun h => absurd rfl h)
  refine x_iload C d_LW_law_576 rfl ?_
  refine xn_if_ne C (by omega) 593 d_LW_law_578 (by decide) (fun h => ?_) (fun h => ?_)
  · refine x_goto C 1333 d_LW_law_593 (by decide) ?_
    refine x_lv [(0, .ref b), (1, .ref (g 0)), (2, .ref (g 143)), (3, .ref (g 159)), (4, .ref (g 160)), (5, .int (nI i))] ⟨rfl, rfl, rfl, rfl, rfl, rfl, trivial⟩ ?_
    rw [← EL_EM]
    exact kk _ _
  · refine x_aload_n C d_LW_law_581 rfl rfl ?_
    refine x_iconst C (v := nI 0) d_LW_law_582 (by decide) ?_
    refine x_lald C (i := 159) (by decide) LM_o 7 rfl vp_in01 d_LW_law_583 ?_
    refine x_iload C d_LW_law_584 rfl ?_
    refine x_i2l C d_LW_law_586 ?_
    refine x_lcmp C d_LW_law_587 ?_
    refine x_if_eq C 593 d_LW_law_588 (by decide) (fun _ => ?_) (fun h2 => absurd (lw_cmp0 h) h2)
    refine x_goto C 1333 d_LW_law_593 (by decide) ?_
    refine x_lv [(0, .ref b), (1, .ref (g 0)), (2, .ref (g 143)), (3, .ref (g 159)), (4, .ref (g 160)), (5, .int (nI i))] ⟨rfl, rfl, rfl, rfl, rfl, rfl, trivial⟩ ?_
    rw [← EL_EM]
    exact kk _ _
theorem w_LW_append {p : Program} {l : Launch} (htr : xTr l) {e : Env} {R : Room} {s : State} {m : MethodId} {args : Array Value} {below : List Frame} {meth : Method} {c : Code} {Q : State → Prop} {D : va_G} {a : Nat → ClassId} {base : Nat} {g : Nat → Nat} {k z : Nat} {b L i : Nat} {xs : Nat → Int32} (C : xC p l e s m meth c b_LW_law 9 "ChunkStoreLaw" args D xcl (xty a) base) (hX : va_X b L xs s s.heap) (hb : b < s.heap.size) (hbb : b < base) (hi : i + 6 ≤ L) (hL : L < 2 ^ 30) (hRf : 12 ≤ R.frames) (hRl : 454 ≤ R.locals) (hk : k + 2 ≤ R.cells) (hz : z + 12 ≤ R.slots) {σ σ' : xSig} {w w' : xWrd} {fc q : Nat} {o : Nat → Int64} {d : Nat → UInt64} {A : Int32} (hM : ∀ Y, xM l y_CS_append b_CS_append 7 (some FieldType.int) 4 D a base g 161 (EL a g σ w Y) [.ref (g 0), .int (xs (i + 1)), .int (xs (i + 2))] (fun r E' => E' = EL a g σ' w' Y ∧ r = cr [e_IA, e_NS, e_IS, e_UO, e_IO] q (.int A))) (hMM : ∀ X, xM l y_MD_append b_MD_append 7 (some FieldType.int) 4 D a base g 161 (EM a g σ w fc X) [.ref (g 143), .int (xs (i + 1)), .int (xs (i + 2))] (fun r E' => E' = EM a g σ' w' q X ∧ r = mr q A)) (hB : ∀ t i j, σ' t i j < 2 ^ 30) (hq : q ≤ 5) (kk : ∀ (o' : Nat → Int64) (d' : Nat → UInt64), xG p l e R s m args below meth c Q 9 D xcl base g 161 (LWE a g σ' w' q o' d') (k + 1) (z + 6) 1333 [(0, .ref b), (1, .ref (g 0)), (2, .ref (g 143)), (3, .ref (g 159)), (4, .ref (g 160)), (5, .int (nI i))] []) : xG p l e R s m args below meth c Q 9 D xcl base g 161 (LWE a g σ w fc o d) (k) (z) 596 [(0, .ref b), (1, .ref (g 0)), (2, .ref (g 143)), (3, .ref (g 159)), (4, .ref (g 160)), (5, .int (nI i))] [] := by
  refine x_aload_n C d_LW_law_596 rfl rfl ?_
  refine x_aload_n C d_LW_law_597 rfl rfl ?_
  refine x_iload C d_LW_law_598 rfl ?_
  refine x_iconst C (v := nI 1) d_LW_law_600 (by decide) ?_
  refine xn_iadd C d_LW_law_601 ?_
  refine x_sldn C hX hb hbb (show i + 1 < L by omega) hL d_LW_law_602 ?_
  refine x_aload_n C d_LW_law_603 rfl rfl ?_
  refine x_iload C d_LW_law_604 rfl ?_
  refine x_iconst C (v := nI 2) d_LW_law_606 (by decide) ?_
  refine xn_iadd C d_LW_law_607 ?_
  refine x_sldn C hX hb hbb (show i + 2 < L by omega) hL d_LW_law_608 ?_
  refine x_aload_n C d_LW_law_609 rfl rfl ?_
  refine x_callSH C (h_LW_append htr (Nat.le_refl _) EL_cs LW_o (hM _) hq) kw438 kw437 kw0 kw436 ny_LW pl_LW_append (lw_room hRf hRl (by decide) (by decide)) (lw_roomc0 hk hz) rfl (Nat.le_of_ble_eq_true rfl) d_LW_law_610 (fun v E' h => ?_) (fun X E' h => by cases h.1)
  obtain ⟨h1, h2⟩ := h
  cases h1
  rw [h2, LW_up]
  clear h2
  refine x_istore C d_LW_law_613 (by decide) rfl ?_
  refine x_aload_n C d_LW_law_615 rfl rfl ?_
  refine x_aload_n C d_LW_law_616 rfl rfl ?_
  refine x_iload C d_LW_law_617 rfl ?_
  refine x_iconst C (v := nI 1) d_LW_law_619 (by decide) ?_
  refine xn_iadd C d_LW_law_620 ?_
  refine x_sldn C hX hb hbb (show i + 1 < L by omega) hL d_LW_law_621 ?_
  refine x_aload_n C d_LW_law_622 rfl rfl ?_
  refine x_iload C d_LW_law_623 rfl ?_
  refine x_iconst C (v := nI 2) d_LW_law_625 (by decide) ?_
  refine xn_iadd C d_LW_law_626 ?_
  refine x_sldn C hX hb hbb (show i + 2 < L by omega) hL d_LW_law_627 ?_
  refine x_callV (Cn := R_MD) C (hMM _) (i := 143) (by decide) EM_obj (ci := 5) (r := (R_MD, F_MD, 18)) rfl kw705 kw703 kw704 kw6 kw702 ny_MD pl_MD_append (lw_room hRf hRl (by decide) (by decide)) (lw_roomc1 hk hz) rfl (Nat.le_of_ble_eq_true rfl) d_LW_law_628 (fun v E' h => ?_) (fun X E' h => by cases h.2)
  obtain ⟨h1, h2⟩ := h
  cases h2
  rw [h1]
  clear h1
  refine x_istore C d_LW_law_631 (by decide) rfl ?_
  refine x_aload_n C d_LW_law_633 rfl rfl ?_
  refine x_callV (Cn := R_MD) C (m_MD_thrown htr (by decide) hB (k := 4) (by decide)) (i := 143) (by decide) EM_obj (ci := 5) (r := (R_MD, F_MD, 18)) rfl kw627 kw625 kw626 kw6 kw624 ny_MD pl_MD_thrown (lw_room hRf hRl (by decide) (by decide)) (lw_roomc1 hk hz) rfl (Nat.le_of_ble_eq_true rfl) d_LW_law_634 (fun v E' h => ?_) (fun X E' h => by cases h.2)
  obtain ⟨h1, h2⟩ := h
  cases h2
  rw [h1]
  clear h1
  refine x_iload C d_LW_law_637 rfl ?_
  refine x_icmp_eq C 644 d_LW_law_639 (by decide) (fun _ => ?_) (fun h => absurd rfl h)
  refine x_iload C d_LW_law_644 rfl ?_
  refine xn_if_ne C (by omega) 661 d_LW_law_646 (by decide) (fun h => ?_) (fun h => ?_)
  · refine x_goto C 1333 d_LW_law_661 (by decide) ?_
    refine x_lv [(0, .ref b), (1, .ref (g 0)), (2, .ref (g 143)), (3, .ref (g 159)), (4, .ref (g 160)), (5, .int (nI i))] ⟨rfl, rfl, rfl, rfl, rfl, rfl, trivial⟩ ?_
    rw [← EL_EM]
    exact kk _ _
  · refine x_aload_n C d_LW_law_649 rfl rfl ?_
    refine x_iconst C (v := nI 0) d_LW_law_650 (by decide) ?_
    refine x_lald C (i := 159) (by decide) LM_o 7 rfl vp_in01 d_LW_law_651 ?_
    refine x_iload C d_LW_law_652 rfl ?_
    refine x_i2l C d_LW_law_654 ?_
    refine x_lcmp C d_LW_law_655 ?_
    refine x_if_eq C 661 d_LW_law_656 (by decide) (fun _ => ?_) (fun h2 => absurd (lw_cmp0 h) h2)
    refine x_goto C 1333 d_LW_law_661 (by decide) ?_
    refine x_lv [(0, .ref b), (1, .ref (g 0)), (2, .ref (g 143)), (3, .ref (g 159)), (4, .ref (g 160)), (5, .int (nI i))] ⟨rfl, rfl, rfl, rfl, rfl, rfl, trivial⟩ ?_
    rw [← EL_EM]
    exact kk _ _
theorem w_LW_read {p : Program} {l : Launch} (htr : xTr l) {e : Env} {R : Room} {s : State} {m : MethodId} {args : Array Value} {below : List Frame} {meth : Method} {c : Code} {Q : State → Prop} {D : va_G} {a : Nat → ClassId} {base : Nat} {g : Nat → Nat} {k z : Nat} {b L i : Nat} {xs : Nat → Int32} (C : xC p l e s m meth c b_LW_law 9 "ChunkStoreLaw" args D xcl (xty a) base) (hX : va_X b L xs s s.heap) (hb : b < s.heap.size) (hbb : b < base) (hi : i + 6 ≤ L) (hL : L < 2 ^ 30) (hRf : 12 ≤ R.frames) (hRl : 454 ≤ R.locals) (hk : k + 2 ≤ R.cells) (hz : z + 12 ≤ R.slots) {σ σ' : xSig} {w w' : xWrd} {fc q : Nat} {o : Nat → Int64} {d : Nat → UInt64} {A : Int32} (hM : ∀ Y, xM l y_CS_read b_CS_read 8 (some FieldType.int) 4 D a base g 161 (EL a g σ w Y) [.ref (g 0), .int (xs (i + 1)), .int (xs (i + 2)), .int (xs (i + 3)), .int (xs (i + 4)), .int (xs (i + 5))] (fun r E' => E' = EL a g σ' w' Y ∧ r = cr [e_IA, e_NS, e_IS, e_UO, e_IO] q (.int A))) (hMM : ∀ X, xM l y_MD_read b_MD_read 9 (some FieldType.int) 4 D a base g 161 (EM a g σ w fc X) [.ref (g 143), .int (xs (i + 1)), .int (xs (i + 2)), .int (xs (i + 3)), .int (xs (i + 4)), .int (xs (i + 5))] (fun r E' => E' = EM a g σ' w' q X ∧ r = mr q A)) (hB : ∀ t i j, σ' t i j < 2 ^ 30) (hq : q ≤ 5) (kk : ∀ (o' : Nat → Int64) (d' : Nat → UInt64), xG p l e R s m args below meth c Q 9 D xcl base g 161 (LWE a g σ' w' q o' d') (k + 1) (z + 6) 1333 [(0, .ref b), (1, .ref (g 0)), (2, .ref (g 143)), (3, .ref (g 159)), (4, .ref (g 160)), (5, .int (nI i))] []) : xG p l e R s m args below meth c Q 9 D xcl base g 161 (LWE a g σ w fc o d) (k) (z) 664 [(0, .ref b), (1, .ref (g 0)), (2, .ref (g 143)), (3, .ref (g 159)), (4, .ref (g 160)), (5, .int (nI i))] [] := by
  refine x_aload_n C d_LW_law_664 rfl rfl ?_
  refine x_aload_n C d_LW_law_665 rfl rfl ?_
  refine x_iload C d_LW_law_666 rfl ?_
  refine x_iconst C (v := nI 1) d_LW_law_668 (by decide) ?_
  refine xn_iadd C d_LW_law_669 ?_
  refine x_sldn C hX hb hbb (show i + 1 < L by omega) hL d_LW_law_670 ?_
  refine x_aload_n C d_LW_law_671 rfl rfl ?_
  refine x_iload C d_LW_law_672 rfl ?_
  refine x_iconst C (v := nI 2) d_LW_law_674 (by decide) ?_
  refine xn_iadd C d_LW_law_675 ?_
  refine x_sldn C hX hb hbb (show i + 2 < L by omega) hL d_LW_law_676 ?_
  refine x_aload_n C d_LW_law_677 rfl rfl ?_
  refine x_iload C d_LW_law_678 rfl ?_
  refine x_iconst C (v := nI 3) d_LW_law_680 (by decide) ?_
  refine xn_iadd C d_LW_law_681 ?_
  refine x_sldn C hX hb hbb (show i + 3 < L by omega) hL d_LW_law_682 ?_
  refine x_aload_n C d_LW_law_683 rfl rfl ?_
  refine x_iload C d_LW_law_684 rfl ?_
  refine x_iconst C (v := nI 4) d_LW_law_686 (by decide) ?_
  refine xn_iadd C d_LW_law_687 ?_
  refine x_sldn C hX hb hbb (show i + 4 < L by omega) hL d_LW_law_688 ?_
  refine x_aload_n C d_LW_law_689 rfl rfl ?_
  refine x_iload C d_LW_law_690 rfl ?_
  refine x_iconst C (v := nI 5) d_LW_law_692 (by decide) ?_
  refine xn_iadd C d_LW_law_693 ?_
  refine x_sldn C hX hb hbb (show i + 5 < L by omega) hL d_LW_law_694 ?_
  refine x_aload_n C d_LW_law_695 rfl rfl ?_
  refine x_callSH C (h_LW_read htr (Nat.le_refl _) EL_cs LW_o (hM _) hq) kw452 kw451 kw0 kw450 ny_LW pl_LW_read (lw_room hRf hRl (by decide) (by decide)) (lw_roomc0 hk hz) rfl (Nat.le_of_ble_eq_true rfl) d_LW_law_696 (fun v E' h => ?_) (fun X E' h => by cases h.1)
  obtain ⟨h1, h2⟩ := h
  cases h1
  rw [h2, LW_up]
  clear h2
  refine x_istore C d_LW_law_699 (by decide) rfl ?_
  refine x_aload_n C d_LW_law_701 rfl rfl ?_
  refine x_aload_n C d_LW_law_702 rfl rfl ?_
  refine x_iload C d_LW_law_703 rfl ?_
  refine x_iconst C (v := nI 1) d_LW_law_705 (by decide) ?_
  refine xn_iadd C d_LW_law_706 ?_
  refine x_sldn C hX hb hbb (show i + 1 < L by omega) hL d_LW_law_707 ?_
  refine x_aload_n C d_LW_law_708 rfl rfl ?_
  refine x_iload C d_LW_law_709 rfl ?_
  refine x_iconst C (v := nI 2) d_LW_law_711 (by decide) ?_
  refine xn_iadd C d_LW_law_712 ?_
  refine x_sldn C hX hb hbb (show i + 2 < L by omega) hL d_LW_law_713 ?_
  refine x_aload_n C d_LW_law_714 rfl rfl ?_
  refine x_iload C d_LW_law_715 rfl ?_
  refine x_iconst C (v := nI 3) d_LW_law_717 (by decide) ?_
  refine xn_iadd C d_LW_law_718 ?_
  refine x_sldn C hX hb hbb (show i + 3 < L by omega) hL d_LW_law_719 ?_
  refine x_aload_n C d_LW_law_720 rfl rfl ?_
  refine x_iload C d_LW_law_721 rfl ?_
  refine x_iconst C (v := nI 4) d_LW_law_723 (by decide) ?_
  refine xn_iadd C d_LW_law_724 ?_
  refine x_sldn C hX hb hbb (show i + 4 < L by omega) hL d_LW_law_725 ?_
  refine x_aload_n C d_LW_law_726 rfl rfl ?_
  refine x_iload C d_LW_law_727 rfl ?_
  refine x_iconst C (v := nI 5) d_LW_law_729 (by decide) ?_
  refine xn_iadd C d_LW_law_730 ?_
  refine x_sldn C hX hb hbb (show i + 5 < L by omega) hL d_LW_law_731 ?_
  refine x_callV (Cn := R_MD) C (hMM _) (i := 143) (by decide) EM_obj (ci := 5) (r := (R_MD, F_MD, 18)) rfl kw717 kw715 kw716 kw6 kw714 ny_MD pl_MD_read (lw_room hRf hRl (by decide) (by decide)) (lw_roomc1 hk hz) rfl (Nat.le_of_ble_eq_true rfl) d_LW_law_732 (fun v E' h => ?_) (fun X E' h => by cases h.2)
  obtain ⟨h1, h2⟩ := h
  cases h2
  rw [h1]
  clear h1
  refine x_istore C d_LW_law_735 (by decide) rfl ?_
  refine x_aload_n C d_LW_law_737 rfl rfl ?_
  refine x_callV (Cn := R_MD) C (m_MD_thrown htr (by decide) hB (k := 4) (by decide)) (i := 143) (by decide) EM_obj (ci := 5) (r := (R_MD, F_MD, 18)) rfl kw627 kw625 kw626 kw6 kw624 ny_MD pl_MD_thrown (lw_room hRf hRl (by decide) (by decide)) (lw_roomc1 hk hz) rfl (Nat.le_of_ble_eq_true rfl) d_LW_law_738 (fun v E' h => ?_) (fun X E' h => by cases h.2)
  obtain ⟨h1, h2⟩ := h
  cases h2
  rw [h1]
  clear h1
  refine x_iload C d_LW_law_741 rfl ?_
  refine x_icmp_eq C 748 d_LW_law_743 (by decide) (fun _ => ?_) (fun h => absurd rfl h)
  refine x_iload C d_LW_law_748 rfl ?_
  refine xn_if_ne C (by omega) 765 d_LW_law_750 (by decide) (fun h => ?_) (fun h => ?_)
  · refine x_goto C 1333 d_LW_law_765 (by decide) ?_
    refine x_lv [(0, .ref b), (1, .ref (g 0)), (2, .ref (g 143)), (3, .ref (g 159)), (4, .ref (g 160)), (5, .int (nI i))] ⟨rfl, rfl, rfl, rfl, rfl, rfl, trivial⟩ ?_
    rw [← EL_EM]
    exact kk _ _
  · refine x_aload_n C d_LW_law_753 rfl rfl ?_
    refine x_iconst C (v := nI 0) d_LW_law_754 (by decide) ?_
    refine x_lald C (i := 159) (by decide) LM_o 7 rfl vp_in01 d_LW_law_755 ?_
    refine x_iload C d_LW_law_756 rfl ?_
    refine x_i2l C d_LW_law_758 ?_
    refine x_lcmp C d_LW_law_759 ?_
    refine x_if_eq C 765 d_LW_law_760 (by decide) (fun _ => ?_) (fun h2 => absurd (lw_cmp0 h) h2)
    refine x_goto C 1333 d_LW_law_765 (by decide) ?_
    refine x_lv [(0, .ref b), (1, .ref (g 0)), (2, .ref (g 143)), (3, .ref (g 159)), (4, .ref (g 160)), (5, .int (nI i))] ⟨rfl, rfl, rfl, rfl, rfl, rfl, trivial⟩ ?_
    rw [← EL_EM]
    exact kk _ _
theorem w_LW_up0 {p : Program} {l : Launch} (htr : xTr l) {e : Env} {R : Room} {s : State} {m : MethodId} {args : Array Value} {below : List Frame} {meth : Method} {c : Code} {Q : State → Prop} {D : va_G} {a : Nat → ClassId} {base : Nat} {g : Nat → Nat} {k z : Nat} {b L i : Nat} {xs : Nat → Int32} (C : xC p l e s m meth c b_LW_law 9 "ChunkStoreLaw" args D xcl (xty a) base) (hX : va_X b L xs s s.heap) (hb : b < s.heap.size) (hbb : b < base) (hi : i + 6 ≤ L) (hL : L < 2 ^ 30) (hRf : 12 ≤ R.frames) (hRl : 454 ≤ R.locals) (hk : k + 2 ≤ R.cells) (hz : z + 12 ≤ R.slots) (hxs : xs (i + 2) = 0) {σ σ' : xSig} {w w' : xWrd} {fc q : Nat} {o : Nat → Int64} {d : Nat → UInt64} {A : Int32} (hM : ∀ Y, xM l y_CS_up b_CS_up 3 (some FieldType.int) 4 D a base g 161 (EL a g σ w Y) [.ref (g 0), .int (xs (i + 1)), .int (nI 0)] (fun r E' => E' = EL a g σ' w' Y ∧ r = cr [e_IA] q (.int A))) (hMM : ∀ X, xM l y_MD_up b_MD_up 3 (some FieldType.int) 4 D a base g 161 (EM a g σ w fc X) [.ref (g 143), .int (xs (i + 1)), .int (nI 0)] (fun r E' => E' = EM a g σ' w' q X ∧ r = mr q A)) (hB : ∀ t i j, σ' t i j < 2 ^ 30) (hq : q ≤ 1) (kk : ∀ (o' : Nat → Int64) (d' : Nat → UInt64), xG p l e R s m args below meth c Q 9 D xcl base g 161 (LWE a g σ' w' q o' d') (k + 1) (z + 6) 1333 [(0, .ref b), (1, .ref (g 0)), (2, .ref (g 143)), (3, .ref (g 159)), (4, .ref (g 160)), (5, .int (nI i))] []) : xG p l e R s m args below meth c Q 9 D xcl base g 161 (LWE a g σ w fc o d) (k) (z) 768 [(0, .ref b), (1, .ref (g 0)), (2, .ref (g 143)), (3, .ref (g 159)), (4, .ref (g 160)), (5, .int (nI i))] [] := by
  refine x_aload_n C d_LW_law_768 rfl rfl ?_
  refine x_aload_n C d_LW_law_769 rfl rfl ?_
  refine x_iload C d_LW_law_770 rfl ?_
  refine x_iconst C (v := nI 1) d_LW_law_772 (by decide) ?_
  refine xn_iadd C d_LW_law_773 ?_
  refine x_sldn C hX hb hbb (show i + 1 < L by omega) hL d_LW_law_774 ?_
  refine x_aload_n C d_LW_law_775 rfl rfl ?_
  refine x_iload C d_LW_law_776 rfl ?_
  refine x_iconst C (v := nI 2) d_LW_law_778 (by decide) ?_
  refine xn_iadd C d_LW_law_779 ?_
  refine x_sldn C hX hb hbb (show i + 2 < L by omega) hL d_LW_law_780 ?_
  refine x_if_eq C 788 d_LW_law_781 (by decide) (fun _ => ?_) (fun h => absurd hxs h)
  refine x_iconst C (v := nI 0) d_LW_law_788 (by decide) ?_
  refine x_aload_n C d_LW_law_789 rfl rfl ?_
  refine x_callSH C (h_LW_up htr (Nat.le_refl _) EL_cs LW_o (hM _) hq) kw465 kw464 kw0 kw463 ny_LW pl_LW_up (lw_room hRf hRl (by decide) (by decide)) (lw_roomc0 hk hz) rfl (Nat.le_of_ble_eq_true rfl) d_LW_law_790 (fun v E' h => ?_) (fun X E' h => by cases h.1)
  obtain ⟨h1, h2⟩ := h
  cases h1
  rw [h2, LW_up]
  clear h2
  refine x_istore C d_LW_law_793 (by decide) rfl ?_
  refine x_aload_n C d_LW_law_795 rfl rfl ?_
  refine x_aload_n C d_LW_law_796 rfl rfl ?_
  refine x_iload C d_LW_law_797 rfl ?_
  refine x_iconst C (v := nI 1) d_LW_law_799 (by decide) ?_
  refine xn_iadd C d_LW_law_800 ?_
  refine x_sldn C hX hb hbb (show i + 1 < L by omega) hL d_LW_law_801 ?_
  refine x_aload_n C d_LW_law_802 rfl rfl ?_
  refine x_iload C d_LW_law_803 rfl ?_
  refine x_iconst C (v := nI 2) d_LW_law_805 (by decide) ?_
  refine xn_iadd C d_LW_law_806 ?_
  refine x_sldn C hX hb hbb (show i + 2 < L by omega) hL d_LW_law_807 ?_
  refine x_if_eq C 815 d_LW_law_808 (by decide) (fun _ => ?_) (fun h => absurd hxs h)
  refine x_iconst C (v := nI 0) d_LW_law_815 (by decide) ?_
  refine x_callV (Cn := R_MD) C (hMM _) (i := 143) (by decide) EM_obj (ci := 5) (r := (R_MD, F_MD, 18)) rfl kw721 kw719 kw720 kw6 kw718 ny_MD pl_MD_up (lw_room hRf hRl (by decide) (by decide)) (lw_roomc1 hk hz) rfl (Nat.le_of_ble_eq_true rfl) d_LW_law_816 (fun v E' h => ?_) (fun X E' h => by cases h.2)
  obtain ⟨h1, h2⟩ := h
  cases h2
  rw [h1]
  clear h1
  refine x_istore C d_LW_law_819 (by decide) rfl ?_
  refine x_aload_n C d_LW_law_821 rfl rfl ?_
  refine x_callV (Cn := R_MD) C (m_MD_thrown htr (by decide) hB (k := 4) (by decide)) (i := 143) (by decide) EM_obj (ci := 5) (r := (R_MD, F_MD, 18)) rfl kw627 kw625 kw626 kw6 kw624 ny_MD pl_MD_thrown (lw_room hRf hRl (by decide) (by decide)) (lw_roomc1 hk hz) rfl (Nat.le_of_ble_eq_true rfl) d_LW_law_822 (fun v E' h => ?_) (fun X E' h => by cases h.2)
  obtain ⟨h1, h2⟩ := h
  cases h2
  rw [h1]
  clear h1
  refine x_iload C d_LW_law_825 rfl ?_
  refine x_icmp_eq C 832 d_LW_law_827 (by decide) (fun _ => ?_) (fun h => absurd rfl h)
  refine x_iload C d_LW_law_832 rfl ?_
  refine xn_if_ne C (by omega) 849 d_LW_law_834 (by decide) (fun h => ?_) (fun h => ?_)
  · refine x_goto C 1333 d_LW_law_849 (by decide) ?_
    refine x_lv [(0, .ref b), (1, .ref (g 0)), (2, .ref (g 143)), (3, .ref (g 159)), (4, .ref (g 160)), (5, .int (nI i))] ⟨rfl, rfl, rfl, rfl, rfl, rfl, trivial⟩ ?_
    rw [← EL_EM]
    exact kk _ _
  · refine x_aload_n C d_LW_law_837 rfl rfl ?_
    refine x_iconst C (v := nI 0) d_LW_law_838 (by decide) ?_
    refine x_lald C (i := 159) (by decide) LM_o 7 rfl vp_in01 d_LW_law_839 ?_
    refine x_iload C d_LW_law_840 rfl ?_
    refine x_i2l C d_LW_law_842 ?_
    refine x_lcmp C d_LW_law_843 ?_
    refine x_if_eq C 849 d_LW_law_844 (by decide) (fun _ => ?_) (fun h2 => absurd (lw_cmp0 h) h2)
    refine x_goto C 1333 d_LW_law_849 (by decide) ?_
    refine x_lv [(0, .ref b), (1, .ref (g 0)), (2, .ref (g 143)), (3, .ref (g 159)), (4, .ref (g 160)), (5, .int (nI i))] ⟨rfl, rfl, rfl, rfl, rfl, rfl, trivial⟩ ?_
    rw [← EL_EM]
    exact kk _ _
theorem w_LW_up1 {p : Program} {l : Launch} (htr : xTr l) {e : Env} {R : Room} {s : State} {m : MethodId} {args : Array Value} {below : List Frame} {meth : Method} {c : Code} {Q : State → Prop} {D : va_G} {a : Nat → ClassId} {base : Nat} {g : Nat → Nat} {k z : Nat} {b L i : Nat} {xs : Nat → Int32} (C : xC p l e s m meth c b_LW_law 9 "ChunkStoreLaw" args D xcl (xty a) base) (hX : va_X b L xs s s.heap) (hb : b < s.heap.size) (hbb : b < base) (hi : i + 6 ≤ L) (hL : L < 2 ^ 30) (hRf : 12 ≤ R.frames) (hRl : 454 ≤ R.locals) (hk : k + 2 ≤ R.cells) (hz : z + 12 ≤ R.slots) (hxs : ¬ xs (i + 2) = 0) {σ σ' : xSig} {w w' : xWrd} {fc q : Nat} {o : Nat → Int64} {d : Nat → UInt64} {A : Int32} (hM : ∀ Y, xM l y_CS_up b_CS_up 3 (some FieldType.int) 4 D a base g 161 (EL a g σ w Y) [.ref (g 0), .int (xs (i + 1)), .int (nI 1)] (fun r E' => E' = EL a g σ' w' Y ∧ r = cr [e_IA] q (.int A))) (hMM : ∀ X, xM l y_MD_up b_MD_up 3 (some FieldType.int) 4 D a base g 161 (EM a g σ w fc X) [.ref (g 143), .int (xs (i + 1)), .int (nI 1)] (fun r E' => E' = EM a g σ' w' q X ∧ r = mr q A)) (hB : ∀ t i j, σ' t i j < 2 ^ 30) (hq : q ≤ 1) (kk : ∀ (o' : Nat → Int64) (d' : Nat → UInt64), xG p l e R s m args below meth c Q 9 D xcl base g 161 (LWE a g σ' w' q o' d') (k + 1) (z + 6) 1333 [(0, .ref b), (1, .ref (g 0)), (2, .ref (g 143)), (3, .ref (g 159)), (4, .ref (g 160)), (5, .int (nI i))] []) : xG p l e R s m args below meth c Q 9 D xcl base g 161 (LWE a g σ w fc o d) (k) (z) 768 [(0, .ref b), (1, .ref (g 0)), (2, .ref (g 143)), (3, .ref (g 159)), (4, .ref (g 160)), (5, .int (nI i))] [] := by
  refine x_aload_n C d_LW_law_768 rfl rfl ?_
  refine x_aload_n C d_LW_law_769 rfl rfl ?_
  refine x_iload C d_LW_law_770 rfl ?_
  refine x_iconst C (v := nI 1) d_LW_law_772 (by decide) ?_
  refine xn_iadd C d_LW_law_773 ?_
  refine x_sldn C hX hb hbb (show i + 1 < L by omega) hL d_LW_law_774 ?_
  refine x_aload_n C d_LW_law_775 rfl rfl ?_
  refine x_iload C d_LW_law_776 rfl ?_
  refine x_iconst C (v := nI 2) d_LW_law_778 (by decide) ?_
  refine xn_iadd C d_LW_law_779 ?_
  refine x_sldn C hX hb hbb (show i + 2 < L by omega) hL d_LW_law_780 ?_
  refine x_if_eq C 788 d_LW_law_781 (by decide) (fun h => absurd h hxs) (fun _ => ?_)
  refine x_iconst C (v := nI 1) d_LW_law_784 (by decide) ?_
  refine x_goto C 789 d_LW_law_785 (by decide) ?_
  refine x_aload_n C d_LW_law_789 rfl rfl ?_
  refine x_callSH C (h_LW_up htr (Nat.le_refl _) EL_cs LW_o (hM _) hq) kw465 kw464 kw0 kw463 ny_LW pl_LW_up (lw_room hRf hRl (by decide) (by decide)) (lw_roomc0 hk hz) rfl (Nat.le_of_ble_eq_true rfl) d_LW_law_790 (fun v E' h => ?_) (fun X E' h => by cases h.1)
  obtain ⟨h1, h2⟩ := h
  cases h1
  rw [h2, LW_up]
  clear h2
  refine x_istore C d_LW_law_793 (by decide) rfl ?_
  refine x_aload_n C d_LW_law_795 rfl rfl ?_
  refine x_aload_n C d_LW_law_796 rfl rfl ?_
  refine x_iload C d_LW_law_797 rfl ?_
  refine x_iconst C (v := nI 1) d_LW_law_799 (by decide) ?_
  refine xn_iadd C d_LW_law_800 ?_
  refine x_sldn C hX hb hbb (show i + 1 < L by omega) hL d_LW_law_801 ?_
  refine x_aload_n C d_LW_law_802 rfl rfl ?_
  refine x_iload C d_LW_law_803 rfl ?_
  refine x_iconst C (v := nI 2) d_LW_law_805 (by decide) ?_
  refine xn_iadd C d_LW_law_806 ?_
  refine x_sldn C hX hb hbb (show i + 2 < L by omega) hL d_LW_law_807 ?_
  refine x_if_eq C 815 d_LW_law_808 (by decide) (fun h => absurd h hxs) (fun _ => ?_)
  refine x_iconst C (v := nI 1) d_LW_law_811 (by decide) ?_
  refine x_goto C 816 d_LW_law_812 (by decide) ?_
  refine x_callV (Cn := R_MD) C (hMM _) (i := 143) (by decide) EM_obj (ci := 5) (r := (R_MD, F_MD, 18)) rfl kw721 kw719 kw720 kw6 kw718 ny_MD pl_MD_up (lw_room hRf hRl (by decide) (by decide)) (lw_roomc1 hk hz) rfl (Nat.le_of_ble_eq_true rfl) d_LW_law_816 (fun v E' h => ?_) (fun X E' h => by cases h.2)
  obtain ⟨h1, h2⟩ := h
  cases h2
  rw [h1]
  clear h1
  refine x_istore C d_LW_law_819 (by decide) rfl ?_
  refine x_aload_n C d_LW_law_821 rfl rfl ?_
  refine x_callV (Cn := R_MD) C (m_MD_thrown htr (by decide) hB (k := 4) (by decide)) (i := 143) (by decide) EM_obj (ci := 5) (r := (R_MD, F_MD, 18)) rfl kw627 kw625 kw626 kw6 kw624 ny_MD pl_MD_thrown (lw_room hRf hRl (by decide) (by decide)) (lw_roomc1 hk hz) rfl (Nat.le_of_ble_eq_true rfl) d_LW_law_822 (fun v E' h => ?_) (fun X E' h => by cases h.2)
  obtain ⟨h1, h2⟩ := h
  cases h2
  rw [h1]
  clear h1
  refine x_iload C d_LW_law_825 rfl ?_
  refine x_icmp_eq C 832 d_LW_law_827 (by decide) (fun _ => ?_) (fun h => absurd rfl h)
  refine x_iload C d_LW_law_832 rfl ?_
  refine xn_if_ne C (by omega) 849 d_LW_law_834 (by decide) (fun h => ?_) (fun h => ?_)
  · refine x_goto C 1333 d_LW_law_849 (by decide) ?_
    refine x_lv [(0, .ref b), (1, .ref (g 0)), (2, .ref (g 143)), (3, .ref (g 159)), (4, .ref (g 160)), (5, .int (nI i))] ⟨rfl, rfl, rfl, rfl, rfl, rfl, trivial⟩ ?_
    rw [← EL_EM]
    exact kk _ _
  · refine x_aload_n C d_LW_law_837 rfl rfl ?_
    refine x_iconst C (v := nI 0) d_LW_law_838 (by decide) ?_
    refine x_lald C (i := 159) (by decide) LM_o 7 rfl vp_in01 d_LW_law_839 ?_
    refine x_iload C d_LW_law_840 rfl ?_
    refine x_i2l C d_LW_law_842 ?_
    refine x_lcmp C d_LW_law_843 ?_
    refine x_if_eq C 849 d_LW_law_844 (by decide) (fun _ => ?_) (fun h2 => absurd (lw_cmp0 h) h2)
    refine x_goto C 1333 d_LW_law_849 (by decide) ?_
    refine x_lv [(0, .ref b), (1, .ref (g 0)), (2, .ref (g 143)), (3, .ref (g 159)), (4, .ref (g 160)), (5, .int (nI i))] ⟨rfl, rfl, rfl, rfl, rfl, rfl, trivial⟩ ?_
    rw [← EL_EM]
    exact kk _ _
theorem w_LW_report {p : Program} {l : Launch} (htr : xTr l) {e : Env} {R : Room} {s : State} {m : MethodId} {args : Array Value} {below : List Frame} {meth : Method} {c : Code} {Q : State → Prop} {D : va_G} {a : Nat → ClassId} {base : Nat} {g : Nat → Nat} {k z : Nat} {b L i : Nat} {xs : Nat → Int32} (C : xC p l e s m meth c b_LW_law 9 "ChunkStoreLaw" args D xcl (xty a) base) (hX : va_X b L xs s s.heap) (hb : b < s.heap.size) (hbb : b < base) (hi : i + 6 ≤ L) (hL : L < 2 ^ 30) (hRf : 12 ≤ R.frames) (hRl : 454 ≤ R.locals) (hk : k + 2 ≤ R.cells) (hz : z + 12 ≤ R.slots) {σ σ' : xSig} {w w' : xWrd} {fc q : Nat} {o : Nat → Int64} {d : Nat → UInt64} {A : Int32} (hM : ∀ Y, xM l y_CS_report b_CS_report 4 (some FieldType.int) 4 D a base g 161 (EL a g σ w Y) [.ref (g 0), .int (xs (i + 1))] (fun r E' => E' = EL a g σ' w' Y ∧ r = cr [e_IA, e_IS] q (.int A))) (hMM : ∀ X, xM l y_MD_report b_MD_report 5 (some FieldType.int) 4 D a base g 161 (EM a g σ w fc X) [.ref (g 143), .int (xs (i + 1))] (fun r E' => E' = EM a g σ' w' q X ∧ r = mr q A)) (hB : ∀ t i j, σ' t i j < 2 ^ 30) (hq : q ≤ 2) (kk : ∀ (o' : Nat → Int64) (d' : Nat → UInt64), xG p l e R s m args below meth c Q 9 D xcl base g 161 (LWE a g σ' w' q o' d') (k + 1) (z + 6) 1333 [(0, .ref b), (1, .ref (g 0)), (2, .ref (g 143)), (3, .ref (g 159)), (4, .ref (g 160)), (5, .int (nI i))] []) : xG p l e R s m args below meth c Q 9 D xcl base g 161 (LWE a g σ w fc o d) (k) (z) 852 [(0, .ref b), (1, .ref (g 0)), (2, .ref (g 143)), (3, .ref (g 159)), (4, .ref (g 160)), (5, .int (nI i))] [] := by
  refine x_aload_n C d_LW_law_852 rfl rfl ?_
  refine x_aload_n C d_LW_law_853 rfl rfl ?_
  refine x_iload C d_LW_law_854 rfl ?_
  refine x_iconst C (v := nI 1) d_LW_law_856 (by decide) ?_
  refine xn_iadd C d_LW_law_857 ?_
  refine x_sldn C hX hb hbb (show i + 1 < L by omega) hL d_LW_law_858 ?_
  refine x_aload_n C d_LW_law_859 rfl rfl ?_
  refine x_callSH C (h_LW_report htr (Nat.le_refl _) EL_cs LW_o (hM _) hq) kw472 kw471 kw0 kw470 ny_LW pl_LW_report (lw_room hRf hRl (by decide) (by decide)) (lw_roomc0 hk hz) rfl (Nat.le_of_ble_eq_true rfl) d_LW_law_860 (fun v E' h => ?_) (fun X E' h => by cases h.1)
  obtain ⟨h1, h2⟩ := h
  cases h1
  rw [h2, LW_up]
  clear h2
  refine x_istore C d_LW_law_863 (by decide) rfl ?_
  refine x_aload_n C d_LW_law_865 rfl rfl ?_
  refine x_aload_n C d_LW_law_866 rfl rfl ?_
  refine x_iload C d_LW_law_867 rfl ?_
  refine x_iconst C (v := nI 1) d_LW_law_869 (by decide) ?_
  refine xn_iadd C d_LW_law_870 ?_
  refine x_sldn C hX hb hbb (show i + 1 < L by omega) hL d_LW_law_871 ?_
  refine x_callV (Cn := R_MD) C (hMM _) (i := 143) (by decide) EM_obj (ci := 5) (r := (R_MD, F_MD, 18)) rfl kw725 kw723 kw724 kw6 kw722 ny_MD pl_MD_report (lw_room hRf hRl (by decide) (by decide)) (lw_roomc1 hk hz) rfl (Nat.le_of_ble_eq_true rfl) d_LW_law_872 (fun v E' h => ?_) (fun X E' h => by cases h.2)
  obtain ⟨h1, h2⟩ := h
  cases h2
  rw [h1]
  clear h1
  refine x_istore C d_LW_law_875 (by decide) rfl ?_
  refine x_aload_n C d_LW_law_877 rfl rfl ?_
  refine x_callV (Cn := R_MD) C (m_MD_thrown htr (by decide) hB (k := 4) (by decide)) (i := 143) (by decide) EM_obj (ci := 5) (r := (R_MD, F_MD, 18)) rfl kw627 kw625 kw626 kw6 kw624 ny_MD pl_MD_thrown (lw_room hRf hRl (by decide) (by decide)) (lw_roomc1 hk hz) rfl (Nat.le_of_ble_eq_true rfl) d_LW_law_878 (fun v E' h => ?_) (fun X E' h => by cases h.2)
  obtain ⟨h1, h2⟩ := h
  cases h2
  rw [h1]
  clear h1
  refine x_iload C d_LW_law_881 rfl ?_
  refine x_icmp_eq C 888 d_LW_law_883 (by decide) (fun _ => ?_) (fun h => absurd rfl h)
  refine x_iload C d_LW_law_888 rfl ?_
  refine xn_if_ne C (by omega) 905 d_LW_law_890 (by decide) (fun h => ?_) (fun h => ?_)
  · refine x_goto C 1333 d_LW_law_905 (by decide) ?_
    refine x_lv [(0, .ref b), (1, .ref (g 0)), (2, .ref (g 143)), (3, .ref (g 159)), (4, .ref (g 160)), (5, .int (nI i))] ⟨rfl, rfl, rfl, rfl, rfl, rfl, trivial⟩ ?_
    rw [← EL_EM]
    exact kk _ _
  · refine x_aload_n C d_LW_law_893 rfl rfl ?_
    refine x_iconst C (v := nI 0) d_LW_law_894 (by decide) ?_
    refine x_lald C (i := 159) (by decide) LM_o 7 rfl vp_in01 d_LW_law_895 ?_
    refine x_iload C d_LW_law_896 rfl ?_
    refine x_i2l C d_LW_law_898 ?_
    refine x_lcmp C d_LW_law_899 ?_
    refine x_if_eq C 905 d_LW_law_900 (by decide) (fun _ => ?_) (fun h2 => absurd (lw_cmp0 h) h2)
    refine x_goto C 1333 d_LW_law_905 (by decide) ?_
    refine x_lv [(0, .ref b), (1, .ref (g 0)), (2, .ref (g 143)), (3, .ref (g 159)), (4, .ref (g 160)), (5, .int (nI i))] ⟨rfl, rfl, rfl, rfl, rfl, rfl, trivial⟩ ?_
    rw [← EL_EM]
    exact kk _ _
theorem w_LW_repair {p : Program} {l : Launch} (htr : xTr l) {e : Env} {R : Room} {s : State} {m : MethodId} {args : Array Value} {below : List Frame} {meth : Method} {c : Code} {Q : State → Prop} {D : va_G} {a : Nat → ClassId} {base : Nat} {g : Nat → Nat} {k z : Nat} {b L i : Nat} {xs : Nat → Int32} (C : xC p l e s m meth c b_LW_law 9 "ChunkStoreLaw" args D xcl (xty a) base) (hX : va_X b L xs s s.heap) (hb : b < s.heap.size) (hbb : b < base) (hi : i + 6 ≤ L) (hL : L < 2 ^ 30) (hRf : 12 ≤ R.frames) (hRl : 454 ≤ R.locals) (hk : k + 2 ≤ R.cells) (hz : z + 12 ≤ R.slots) {σ σ' : xSig} {w w' : xWrd} {fc q : Nat} {o : Nat → Int64} {d : Nat → UInt64} {A : Int32} (hM : ∀ Y, xM l y_CS_repair b_CS_repair 4 (some FieldType.int) 4 D a base g 161 (EL a g σ w Y) [.ref (g 0)] (fun r E' => E' = EL a g σ' w' Y ∧ r = cr [e_NS] q (.int A))) (hMM : ∀ X, xM l y_MD_repair b_MD_repair 4 (some FieldType.int) 4 D a base g 161 (EM a g σ w fc X) [.ref (g 143)] (fun r E' => E' = EM a g σ' w' q X ∧ r = mr q A)) (hB : ∀ t i j, σ' t i j < 2 ^ 30) (hq : q ≤ 1) (kk : ∀ (o' : Nat → Int64) (d' : Nat → UInt64), xG p l e R s m args below meth c Q 9 D xcl base g 161 (LWE a g σ' w' q o' d') (k + 1) (z + 6) 1333 [(0, .ref b), (1, .ref (g 0)), (2, .ref (g 143)), (3, .ref (g 159)), (4, .ref (g 160)), (5, .int (nI i))] []) : xG p l e R s m args below meth c Q 9 D xcl base g 161 (LWE a g σ w fc o d) (k) (z) 908 [(0, .ref b), (1, .ref (g 0)), (2, .ref (g 143)), (3, .ref (g 159)), (4, .ref (g 160)), (5, .int (nI i))] [] := by
  refine x_aload_n C d_LW_law_908 rfl rfl ?_
  refine x_aload_n C d_LW_law_909 rfl rfl ?_
  refine x_callSH C (h_LW_repair htr (Nat.le_refl _) EL_cs LW_o (hM _) hq) kw488 kw487 kw0 kw486 ny_LW pl_LW_repair (lw_room hRf hRl (by decide) (by decide)) (lw_roomc0 hk hz) rfl (Nat.le_of_ble_eq_true rfl) d_LW_law_910 (fun v E' h => ?_) (fun X E' h => by cases h.1)
  obtain ⟨h1, h2⟩ := h
  cases h1
  rw [h2, LW_up]
  clear h2
  refine x_istore C d_LW_law_913 (by decide) rfl ?_
  refine x_aload_n C d_LW_law_915 rfl rfl ?_
  refine x_callV (Cn := R_MD) C (hMM _) (i := 143) (by decide) EM_obj (ci := 5) (r := (R_MD, F_MD, 18)) rfl kw729 kw727 kw728 kw6 kw726 ny_MD pl_MD_repair (lw_room hRf hRl (by decide) (by decide)) (lw_roomc1 hk hz) rfl (Nat.le_of_ble_eq_true rfl) d_LW_law_916 (fun v E' h => ?_) (fun X E' h => by cases h.2)
  obtain ⟨h1, h2⟩ := h
  cases h2
  rw [h1]
  clear h1
  refine x_istore C d_LW_law_919 (by decide) rfl ?_
  refine x_aload_n C d_LW_law_921 rfl rfl ?_
  refine x_callV (Cn := R_MD) C (m_MD_thrown htr (by decide) hB (k := 4) (by decide)) (i := 143) (by decide) EM_obj (ci := 5) (r := (R_MD, F_MD, 18)) rfl kw627 kw625 kw626 kw6 kw624 ny_MD pl_MD_thrown (lw_room hRf hRl (by decide) (by decide)) (lw_roomc1 hk hz) rfl (Nat.le_of_ble_eq_true rfl) d_LW_law_922 (fun v E' h => ?_) (fun X E' h => by cases h.2)
  obtain ⟨h1, h2⟩ := h
  cases h2
  rw [h1]
  clear h1
  refine x_iload C d_LW_law_925 rfl ?_
  refine x_icmp_eq C 932 d_LW_law_927 (by decide) (fun _ => ?_) (fun h => absurd rfl h)
  refine x_iload C d_LW_law_932 rfl ?_
  refine xn_if_ne C (by omega) 949 d_LW_law_934 (by decide) (fun h => ?_) (fun h => ?_)
  · refine x_goto C 1333 d_LW_law_949 (by decide) ?_
    refine x_lv [(0, .ref b), (1, .ref (g 0)), (2, .ref (g 143)), (3, .ref (g 159)), (4, .ref (g 160)), (5, .int (nI i))] ⟨rfl, rfl, rfl, rfl, rfl, rfl, trivial⟩ ?_
    rw [← EL_EM]
    exact kk _ _
  · refine x_aload_n C d_LW_law_937 rfl rfl ?_
    refine x_iconst C (v := nI 0) d_LW_law_938 (by decide) ?_
    refine x_lald C (i := 159) (by decide) LM_o 7 rfl vp_in01 d_LW_law_939 ?_
    refine x_iload C d_LW_law_940 rfl ?_
    refine x_i2l C d_LW_law_942 ?_
    refine x_lcmp C d_LW_law_943 ?_
    refine x_if_eq C 949 d_LW_law_944 (by decide) (fun _ => ?_) (fun h2 => absurd (lw_cmp0 h) h2)
    refine x_goto C 1333 d_LW_law_949 (by decide) ?_
    refine x_lv [(0, .ref b), (1, .ref (g 0)), (2, .ref (g 143)), (3, .ref (g 159)), (4, .ref (g 160)), (5, .int (nI i))] ⟨rfl, rfl, rfl, rfl, rfl, rfl, trivial⟩ ?_
    rw [← EL_EM]
    exact kk _ _
end XLC
