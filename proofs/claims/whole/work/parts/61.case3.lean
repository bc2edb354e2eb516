section XLC
theorem w_LW_sweep {p : Program} {l : Launch} (htr : xTr l) {e : Env} {R : Room} {s : State} {m : MethodId} {args : Array Value} {below : List Frame} {meth : Method} {c : Code} {Q : State → Prop} {D : va_G} {a : Nat → ClassId} {base : Nat} {g : Nat → Nat} {k z : Nat} {b L i : Nat} {xs : Nat → Int32} (C : xC p l e s m meth c b_LW_law 9 "ChunkStoreLaw" args D xcl (xty a) base) (hX : va_X b L xs s s.heap) (hb : b < s.heap.size) (hbb : b < base) (hi : i + 6 ≤ L) (hL : L < 2 ^ 30) (hRf : 12 ≤ R.frames) (hRl : 454 ≤ R.locals) (hk : k + 2 ≤ R.cells) (hz : z + 12 ≤ R.slots) {σ σ' : xSig} {w w' : xWrd} {fc q : Nat} {o : Nat → Int64} {d : Nat → UInt64} {A : Int32} (hM : ∀ Y, xM l y_CS_sweep b_CS_sweep 3 (some FieldType.int) 4 D a base g 161 (EL a g σ w Y) [.ref (g 0)] (fun r E' => E' = EL a g σ' w' Y ∧ r = .inl (some (.int A)))) (hMM : ∀ X, xM l y_MD_sweep b_MD_sweep 3 (some FieldType.int) 4 D a base g 161 (EM a g σ w fc X) [.ref (g 143)] (fun r E' => E' = EM a g σ' w' q X ∧ r = .inl (some (.int A)))) (kk : ∀ (o' : Nat → Int64) (d' : Nat → UInt64), xG p l e R s m args below meth c Q 9 D xcl base g 161 (LWE a g σ' w' q o' d') (k + 1) (z + 6) 1333 [(0, .ref b), (1, .ref (g 0)), (2, .ref (g 143)), (3, .ref (g 159)), (4, .ref (g 160)), (5, .int (nI i))] []) : xG p l e R s m args below meth c Q 9 D xcl base g 161 (LWE a g σ w fc o d) (k) (z) 952 [(0, .ref b), (1, .ref (g 0)), (2, .ref (g 143)), (3, .ref (g 159)), (4, .ref (g 160)), (5, .int (nI i))] [] := by
  refine x_aload_n C d_LW_law_952 rfl rfl ?_
  refine x_callV (Cn := R_CS) C (hM _) (i := 0) (by decide) EL_cs (ci := 0) (r := (R_CS, F_CS, 6)) rfl kw138 kw136 kw137 kw1 kw135 ny_CS pl_CS_sweep (lw_room hRf hRl (by decide) (by decide)) (lw_roomc0 hk hz) rfl (Nat.le_of_ble_eq_true rfl) d_LW_law_953 (fun v E' h => ?_) (fun X E' h => by cases h.2)
  obtain ⟨h1, h2⟩ := h
  cases h2
  rw [h1, EL_EM]
  clear h1
  refine x_aload_n C d_LW_law_956 rfl rfl ?_
  refine x_callV (Cn := R_MD) C (hMM _) (i := 143) (by decide) EM_obj (ci := 5) (r := (R_MD, F_MD, 18)) rfl kw737 kw735 kw736 kw6 kw734 ny_MD pl_MD_sweep (lw_room hRf hRl (by decide) (by decide)) (lw_roomc0 hk hz) rfl (Nat.le_of_ble_eq_true rfl) d_LW_law_957 (fun v E' h => ?_) (fun X E' h => by cases h.2)
  obtain ⟨h1, h2⟩ := h
  cases h2
  rw [h1, ← EL_EM]
  clear h1
  refine x_icmp_eq C 1333 d_LW_law_960 (by decide) (fun _ => ?_) (fun h => absurd rfl h)
  exact x_wide (Nat.le_succ _) (by omega) (kk _ _)
theorem w_LW_tick {p : Program} {l : Launch} (htr : xTr l) {e : Env} {R : Room} {s : State} {m : MethodId} {args : Array Value} {below : List Frame} {meth : Method} {c : Code} {Q : State → Prop} {D : va_G} {a : Nat → ClassId} {base : Nat} {g : Nat → Nat} {k z : Nat} {b L i : Nat} {xs : Nat → Int32} (C : xC p l e s m meth c b_LW_law 9 "ChunkStoreLaw" args D xcl (xty a) base) (hX : va_X b L xs s s.heap) (hb : b < s.heap.size) (hbb : b < base) (hi : i + 6 ≤ L) (hL : L < 2 ^ 30) (hRf : 12 ≤ R.frames) (hRl : 454 ≤ R.locals) (hk : k + 2 ≤ R.cells) (hz : z + 12 ≤ R.slots) {dd : UInt64} (hdd : FP.dmul (FP.i2d (xs (i + 1))) 4593671619917905920 = dd) (hne : vf_n64 dd) {σ σ' : xSig} {w w' : xWrd} {fc q : Nat} {o : Nat → Int64} {d : Nat → UInt64} {A : UInt64} (hM : ∀ Y, xM l y_CS_tick b_CS_tick 3 (some FieldType.double) 4 D a base g 161 (EL a g σ w Y) [.ref (g 0), .double dd] (fun r E' => E' = EL a g σ' w' Y ∧ r = cr [e_IA] q (.double A))) (hMM : ∀ X, xM l y_MD_tick b_MD_tick 3 (some FieldType.double) 4 D a base g 161 (EM a g σ w fc X) [.ref (g 143), .double dd] (fun r E' => E' = EM a g σ' w' q X ∧ r = mrd q A)) (hB : ∀ t i j, σ' t i j < 2 ^ 30) (hq : q ≤ 1) (kk : ∀ (o' : Nat → Int64) (d' : Nat → UInt64), xG p l e R s m args below meth c Q 9 D xcl base g 161 (LWE a g σ' w' q o' d') (k + 1) (z + 6) 1333 [(0, .ref b), (1, .ref (g 0)), (2, .ref (g 143)), (3, .ref (g 159)), (4, .ref (g 160)), (5, .int (nI i))] []) : xG p l e R s m args below meth c Q 9 D xcl base g 161 (LWE a g σ w fc o d) (k) (z) 965 [(0, .ref b), (1, .ref (g 0)), (2, .ref (g 143)), (3, .ref (g 159)), (4, .ref (g 160)), (5, .int (nI i))] [] := by
  refine x_aload_n C d_LW_law_965 rfl rfl ?_
  refine x_aload_n C d_LW_law_966 rfl rfl ?_
  refine x_iload C d_LW_law_967 rfl ?_
  refine x_iconst C (v := nI 1) d_LW_law_969 (by decide) ?_
  refine xn_iadd C d_LW_law_970 ?_
  refine x_sldn C hX hb hbb (show i + 1 < L by omega) hL d_LW_law_971 ?_
  refine x_i2d C d_LW_law_972 ?_
  refine x_ldc2d C kw760 d_LW_law_973 ?_
  refine x_dmul (v := 0) C d_LW_law_976 (by rw [hdd]; exact hne) ?_
  refine x_topd hdd ?_
  refine x_aload C d_LW_law_977 rfl ?_
  refine x_callSH C (h_LW_tick htr (Nat.le_refl _) EL_cs LW_d (hM _) hq) kw506 kw505 kw0 kw504 ny_LW pl_LW_tick (lw_room hRf hRl (by decide) (by decide)) (lw_roomc0 hk hz) rfl (Nat.le_of_ble_eq_true rfl) d_LW_law_979 (fun v E' h => ?_) (fun X E' h => by cases h.1)
  obtain ⟨h1, h2⟩ := h
  cases h1
  rw [h2, LW_upD]
  clear h2
  refine x_istore C d_LW_law_982 (by decide) rfl ?_
  refine x_aload_n C d_LW_law_984 rfl rfl ?_
  refine x_aload_n C d_LW_law_985 rfl rfl ?_
  refine x_iload C d_LW_law_986 rfl ?_
  refine x_iconst C (v := nI 1) d_LW_law_988 (by decide) ?_
  refine xn_iadd C d_LW_law_989 ?_
  refine x_sldn C hX hb hbb (show i + 1 < L by omega) hL d_LW_law_990 ?_
  refine x_i2d C d_LW_law_991 ?_
  refine x_ldc2d C kw760 d_LW_law_992 ?_
  refine x_dmul (v := 0) C d_LW_law_995 (by rw [hdd]; exact hne) ?_
  refine x_topd hdd ?_
  refine x_callV (Cn := R_MD) C (hMM _) (i := 143) (by decide) EM_obj (ci := 5) (r := (R_MD, F_MD, 18)) rfl kw742 kw740 kw741 kw6 kw739 ny_MD pl_MD_tick (lw_room hRf hRl (by decide) (by decide)) (lw_roomc1 hk hz) rfl (Nat.le_of_ble_eq_true rfl) d_LW_law_996 (fun v E' h => ?_) (fun X E' h => by cases h.2)
  obtain ⟨h1, h2⟩ := h
  cases h2
  rw [h1]
  clear h1
  refine x_dstore C d_LW_law_999 (by decide) rfl ?_
  refine x_aload_n C d_LW_law_1001 rfl rfl ?_
  refine x_callV (Cn := R_MD) C (m_MD_thrown htr (by decide) hB (k := 4) (by decide)) (i := 143) (by decide) EM_obj (ci := 5) (r := (R_MD, F_MD, 18)) rfl kw627 kw625 kw626 kw6 kw624 ny_MD pl_MD_thrown (lw_room hRf hRl (by decide) (by decide)) (lw_roomc1 hk hz) rfl (Nat.le_of_ble_eq_true rfl) d_LW_law_1002 (fun v E' h => ?_) (fun X E' h => by cases h.2)
  obtain ⟨h1, h2⟩ := h
  cases h2
  rw [h1]
  clear h1
  refine x_iload C d_LW_law_1005 rfl ?_
  refine x_icmp_eq C 1012 d_LW_law_1007 (by decide) (fun _ => ?_) (fun h => absurd rfl h)
  refine x_iload C d_LW_law_1012 rfl ?_
  refine xn_if_ne C (by omega) 1049 d_LW_law_1014 (by decide) (fun h => ?_) (fun h => ?_)
  · refine x_goto C 1333 d_LW_law_1049 (by decide) ?_
    refine x_lv [(0, .ref b), (1, .ref (g 0)), (2, .ref (g 143)), (3, .ref (g 159)), (4, .ref (g 160)), (5, .int (nI i))] ⟨rfl, rfl, rfl, rfl, rfl, rfl, trivial⟩ ?_
    rw [← EL_EM]
    exact kk _ _
  · refine x_aload C d_LW_law_1017 rfl ?_
    refine x_iconst C (v := nI 0) d_LW_law_1019 (by decide) ?_
    refine x_dald C (i := 160) (by decide) LM_d 5 rfl vp_in01 d_LW_law_1020 ?_
    refine x_topd (show (if q = 0 then vf_upd d 0 A else d) (nI 0).toNatClampNeg = A by rw [if_pos h, nI_clamp (by decide)]; simp [vf_upd]) ?_
    refine x_dload C d_LW_law_1021 rfl ?_
    refine x_topd (if_pos h) ?_
    refine x_dcmp C d_LW_law_1023 ?_
    refine x_if_eq C 1049 d_LW_law_1024 (by decide) (fun _ => ?_) (fun hv => ?_)
    · refine x_goto C 1333 d_LW_law_1049 (by decide) ?_
      refine x_lv [(0, .ref b), (1, .ref (g 0)), (2, .ref (g 143)), (3, .ref (g 159)), (4, .ref (g 160)), (5, .int (nI i))] ⟨rfl, rfl, rfl, rfl, rfl, rfl, trivial⟩ ?_
      rw [← EL_EM]
      exact kk _ _
    · refine x_aload C d_LW_law_1027 rfl ?_
      refine x_iconst C (v := nI 0) d_LW_law_1029 (by decide) ?_
      refine x_dald C (i := 160) (by decide) LM_d 5 rfl vp_in01 d_LW_law_1030 ?_
      refine x_topd (show (if q = 0 then vf_upd d 0 A else d) (nI 0).toNatClampNeg = A by rw [if_pos h, nI_clamp (by decide)]; simp [vf_upd]) ?_
      refine x_aload C d_LW_law_1031 rfl ?_
      refine x_iconst C (v := nI 0) d_LW_law_1033 (by decide) ?_
      refine x_dald C (i := 160) (by decide) LM_d 5 rfl vp_in01 d_LW_law_1034 ?_
      refine x_topd (show (if q = 0 then vf_upd d 0 A else d) (nI 0).toNatClampNeg = A by rw [if_pos h, nI_clamp (by decide)]; simp [vf_upd]) ?_
      refine x_dcmp C d_LW_law_1035 ?_
      refine x_if_eq C 1047 d_LW_law_1036 (by decide) (fun h2 => absurd h2 hv) (fun _ => ?_)
      refine x_dload C d_LW_law_1039 rfl ?_
      refine x_topd (if_pos h) ?_
      refine x_dload C d_LW_law_1041 rfl ?_
      refine x_topd (if_pos h) ?_
      refine x_dcmp C d_LW_law_1043 ?_
      refine x_if_ne C 1049 d_LW_law_1044 (by decide) (fun _ => ?_) (fun h2 => absurd h2 hv)
      refine x_goto C 1333 d_LW_law_1049 (by decide) ?_
      refine x_lv [(0, .ref b), (1, .ref (g 0)), (2, .ref (g 143)), (3, .ref (g 159)), (4, .ref (g 160)), (5, .int (nI i))] ⟨rfl, rfl, rfl, rfl, rfl, rfl, trivial⟩ ?_
      rw [← EL_EM]
      exact kk _ _
theorem w_LW_load {p : Program} {l : Launch} (htr : xTr l) {e : Env} {R : Room} {s : State} {m : MethodId} {args : Array Value} {below : List Frame} {meth : Method} {c : Code} {Q : State → Prop} {D : va_G} {a : Nat → ClassId} {base : Nat} {g : Nat → Nat} {k z : Nat} {b L i : Nat} {xs : Nat → Int32} (C : xC p l e s m meth c b_LW_law 9 "ChunkStoreLaw" args D xcl (xty a) base) (hX : va_X b L xs s s.heap) (hb : b < s.heap.size) (hbb : b < base) (hi : i + 6 ≤ L) (hL : L < 2 ^ 30) (hRf : 12 ≤ R.frames) (hRl : 454 ≤ R.locals) (hk : k + 2 ≤ R.cells) (hz : z + 12 ≤ R.slots) {σ σ' : xSig} {w w' : xWrd} {fc q : Nat} {o : Nat → Int64} {d : Nat → UInt64} {A : UInt64} (hM : ∀ Y, xM l y_CS_load b_CS_load 4 (some FieldType.double) 4 D a base g 161 (EL a g σ w Y) [.ref (g 0)] (fun r E' => E' = EL a g σ' w' Y ∧ r = cr [e_AR] q (.double A))) (hMM : ∀ X, xM l y_MD_load b_MD_load 4 (some FieldType.double) 4 D a base g 161 (EM a g σ w fc X) [.ref (g 143)] (fun r E' => E' = EM a g σ' w' q X ∧ r = mrd q A)) (hB : ∀ t i j, σ' t i j < 2 ^ 30) (hq : q ≤ 1) (kk : ∀ (o' : Nat → Int64) (d' : Nat → UInt64), xG p l e R s m args below meth c Q 9 D xcl base g 161 (LWE a g σ' w' q o' d') (k + 1) (z + 6) 1333 [(0, .ref b), (1, .ref (g 0)), (2, .ref (g 143)), (3, .ref (g 159)), (4, .ref (g 160)), (5, .int (nI i))] []) : xG p l e R s m args below meth c Q 9 D xcl base g 161 (LWE a g σ w fc o d) (k) (z) 1052 [(0, .ref b), (1, .ref (g 0)), (2, .ref (g 143)), (3, .ref (g 159)), (4, .ref (g 160)), (5, .int (nI i))] [] := by
  refine x_aload_n C d_LW_law_1052 rfl rfl ?_
  refine x_aload C d_LW_law_1053 rfl ?_
  refine x_callSH C (h_LW_load htr (Nat.le_refl _) EL_cs LW_d (hM _) hq) kw515 kw514 kw0 kw513 ny_LW pl_LW_load (lw_room hRf hRl (by decide) (by decide)) (lw_roomc0 hk hz) rfl (Nat.le_of_ble_eq_true rfl) d_LW_law_1055 (fun v E' h => ?_) (fun X E' h => by cases h.1)
  obtain ⟨h1, h2⟩ := h
  cases h1
  rw [h2, LW_upD]
  clear h2
  refine x_istore C d_LW_law_1058 (by decide) rfl ?_
  refine x_aload_n C d_LW_law_1060 rfl rfl ?_
  refine x_callV (Cn := R_MD) C (hMM _) (i := 143) (by decide) EM_obj (ci := 5) (r := (R_MD, F_MD, 18)) rfl kw747 kw745 kw746 kw6 kw744 ny_MD pl_MD_load (lw_room hRf hRl (by decide) (by decide)) (lw_roomc1 hk hz) rfl (Nat.le_of_ble_eq_true rfl) d_LW_law_1061 (fun v E' h => ?_) (fun X E' h => by cases h.2)
  obtain ⟨h1, h2⟩ := h
  cases h2
  rw [h1]
  clear h1
  refine x_dstore C d_LW_law_1064 (by decide) rfl ?_
  refine x_aload_n C d_LW_law_1066 rfl rfl ?_
  refine x_callV (Cn := R_MD) C (m_MD_thrown htr (by decide) hB (k := 4) (by decide)) (i := 143) (by decide) EM_obj (ci := 5) (r := (R_MD, F_MD, 18)) rfl kw627 kw625 kw626 kw6 kw624 ny_MD pl_MD_thrown (lw_room hRf hRl (by decide) (by decide)) (lw_roomc1 hk hz) rfl (Nat.le_of_ble_eq_true rfl) d_LW_law_1067 (fun v E' h => ?_) (fun X E' h => by cases h.2)
  obtain ⟨h1, h2⟩ := h
  cases h2
  rw [h1]
  clear h1
  refine x_iload C d_LW_law_1070 rfl ?_
  refine x_icmp_eq C 1077 d_LW_law_1072 (by decide) (fun _ => ?_) (fun h => absurd rfl h)
  refine x_iload C d_LW_law_1077 rfl ?_
  refine xn_if_ne C (by omega) 1114 d_LW_law_1079 (by decide) (fun h => ?_) (fun h => ?_)
  · refine x_goto C 1333 d_LW_law_1114 (by decide) ?_
    refine x_lv [(0, .ref b), (1, .ref (g 0)), (2, .ref (g 143)), (3, .ref (g 159)), (4, .ref (g 160)), (5, .int (nI i))] ⟨rfl, rfl, rfl, rfl, rfl, rfl, trivial⟩ ?_
    rw [← EL_EM]
    exact kk _ _
  · refine x_aload C d_LW_law_1082 rfl ?_
    refine x_iconst C (v := nI 0) d_LW_law_1084 (by decide) ?_
    refine x_dald C (i := 160) (by decide) LM_d 5 rfl vp_in01 d_LW_law_1085 ?_
    refine x_topd (show (if q = 0 then vf_upd d 0 A else d) (nI 0).toNatClampNeg = A by rw [if_pos h, nI_clamp (by decide)]; simp [vf_upd]) ?_
    refine x_dload C d_LW_law_1086 rfl ?_
    refine x_topd (if_pos h) ?_
    refine x_dcmp C d_LW_law_1088 ?_
    refine x_if_eq C 1114 d_LW_law_1089 (by decide) (fun _ => ?_) (fun hv => ?_)
    · refine x_goto C 1333 d_LW_law_1114 (by decide) ?_
      refine x_lv [(0, .ref b), (1, .ref (g 0)), (2, .ref (g 143)), (3, .ref (g 159)), (4, .ref (g 160)), (5, .int (nI i))] ⟨rfl, rfl, rfl, rfl, rfl, rfl, trivial⟩ ?_
      rw [← EL_EM]
      exact kk _ _
    · refine x_aload C d_LW_law_1092 rfl ?_
      refine x_iconst C (v := nI 0) d_LW_law_1094 (by decide) ?_
      refine x_dald C (i := 160) (by decide) LM_d 5 rfl vp_in01 d_LW_law_1095 ?_
      refine x_topd (show (if q = 0 then vf_upd d 0 A else d) (nI 0).toNatClampNeg = A by rw [if_pos h, nI_clamp (by decide)]; simp [vf_upd]) ?_
      refine x_aload C d_LW_law_1096 rfl ?_
      refine x_iconst C (v := nI 0) d_LW_law_1098 (by decide) ?_
      refine x_dald C (i := 160) (by decide) LM_d 5 rfl vp_in01 d_LW_law_1099 ?_
      refine x_topd (show (if q = 0 then vf_upd d 0 A else d) (nI 0).toNatClampNeg = A by rw [if_pos h, nI_clamp (by decide)]; simp [vf_upd]) ?_
      refine x_dcmp C d_LW_law_1100 ?_
      refine x_if_eq C 1112 d_LW_law_1101 (by decide) (fun h2 => absurd h2 hv) (fun _ => ?_)
      refine x_dload C d_LW_law_1104 rfl ?_
      refine x_topd (if_pos h) ?_
      refine x_dload C d_LW_law_1106 rfl ?_
      refine x_topd (if_pos h) ?_
      refine x_dcmp C d_LW_law_1108 ?_
      refine x_if_ne C 1114 d_LW_law_1109 (by decide) (fun _ => ?_) (fun h2 => absurd h2 hv)
      refine x_goto C 1333 d_LW_law_1114 (by decide) ?_
      refine x_lv [(0, .ref b), (1, .ref (g 0)), (2, .ref (g 143)), (3, .ref (g 159)), (4, .ref (g 160)), (5, .int (nI i))] ⟨rfl, rfl, rfl, rfl, rfl, rfl, trivial⟩ ?_
      rw [← EL_EM]
      exact kk _ _
theorem w_LW_look {p : Program} {l : Launch} (htr : xTr l) {e : Env} {R : Room} {s : State} {m : MethodId} {args : Array Value} {below : List Frame} {meth : Method} {c : Code} {Q : State → Prop} {D : va_G} {a : Nat → ClassId} {base : Nat} {g : Nat → Nat} {k z : Nat} {b L i : Nat} {xs : Nat → Int32} (C : xC p l e s m meth c b_LW_law 9 "ChunkStoreLaw" args D xcl (xty a) base) (hX : va_X b L xs s s.heap) (hb : b < s.heap.size) (hbb : b < base) (hi : i + 6 ≤ L) (hL : L < 2 ^ 30) (hRf : 12 ≤ R.frames) (hRl : 454 ≤ R.locals) (hk : k + 2 ≤ R.cells) (hz : z + 12 ≤ R.slots) {σ σ' : xSig} {w w' : xWrd} {fc q : Nat} {o : Nat → Int64} {d : Nat → UInt64} {A : Int32} (hM : ∀ Y, xM l y_CS_look b_CS_look 5 (some FieldType.int) 4 D a base g 161 (EL a g σ w Y) [.ref (g 0), .int (xs (i + 1)), .int (xs (i + 2)), .int (xs (i + 3))] (fun r E' => E' = EL a g σ' w' Y ∧ r = cr [e_IA, e_NS] q (.int A))) (hMM : ∀ X, xM l y_MD_look b_MD_look 5 (some FieldType.int) 4 D a base g 161 (EM a g σ w fc X) [.ref (g 143), .int (xs (i + 1)), .int (xs (i + 2)), .int (xs (i + 3))] (fun r E' => E' = EM a g σ' w' q X ∧ r = mr q A)) (hB : ∀ t i j, σ' t i j < 2 ^ 30) (hq : q ≤ 2) (kk : ∀ (o' : Nat → Int64) (d' : Nat → UInt64), xG p l e R s m args below meth c Q 9 D xcl base g 161 (LWE a g σ' w' q o' d') (k + 1) (z + 6) 1333 [(0, .ref b), (1, .ref (g 0)), (2, .ref (g 143)), (3, .ref (g 159)), (4, .ref (g 160)), (5, .int (nI i))] []) : xG p l e R s m args below meth c Q 9 D xcl base g 161 (LWE a g σ w fc o d) (k) (z) 1117 [(0, .ref b), (1, .ref (g 0)), (2, .ref (g 143)), (3, .ref (g 159)), (4, .ref (g 160)), (5, .int (nI i))] [] := by
  refine x_aload_n C d_LW_law_1117 rfl rfl ?_
  refine x_aload_n C d_LW_law_1118 rfl rfl ?_
  refine x_iload C d_LW_law_1119 rfl ?_
  refine x_iconst C (v := nI 1) d_LW_law_1121 (by decide) ?_
  refine xn_iadd C d_LW_law_1122 ?_
  refine x_sldn C hX hb hbb (show i + 1 < L by omega) hL d_LW_law_1123 ?_
  refine x_aload_n C d_LW_law_1124 rfl rfl ?_
  refine x_iload C d_LW_law_1125 rfl ?_
  refine x_iconst C (v := nI 2) d_LW_law_1127 (by decide) ?_
  refine xn_iadd C d_LW_law_1128 ?_
  refine x_sldn C hX hb hbb (show i + 2 < L by omega) hL d_LW_law_1129 ?_
  refine x_aload_n C d_LW_law_1130 rfl rfl ?_
  refine x_iload C d_LW_law_1131 rfl ?_
  refine x_iconst C (v := nI 3) d_LW_law_1133 (by decide) ?_
  refine xn_iadd C d_LW_law_1134 ?_
  refine x_sldn C hX hb hbb (show i + 3 < L by omega) hL d_LW_law_1135 ?_
  refine x_aload_n C d_LW_law_1136 rfl rfl ?_
  refine x_callSH C (h_LW_look htr (Nat.le_refl _) EL_cs LW_o (hM _) hq) kw539 kw538 kw0 kw537 ny_LW pl_LW_look (lw_room hRf hRl (by decide) (by decide)) (lw_roomc0 hk hz) rfl (Nat.le_of_ble_eq_true rfl) d_LW_law_1137 (fun v E' h => ?_) (fun X E' h => by cases h.1)
  obtain ⟨h1, h2⟩ := h
  cases h1
  rw [h2, LW_up]
  clear h2
  refine x_istore C d_LW_law_1140 (by decide) rfl ?_
  refine x_aload_n C d_LW_law_1142 rfl rfl ?_
  refine x_aload_n C d_LW_law_1143 rfl rfl ?_
  refine x_iload C d_LW_law_1144 rfl ?_
  refine x_iconst C (v := nI 1) d_LW_law_1146 (by decide) ?_
  refine xn_iadd C d_LW_law_1147 ?_
  refine x_sldn C hX hb hbb (show i + 1 < L by omega) hL d_LW_law_1148 ?_
  refine x_aload_n C d_LW_law_1149 rfl rfl ?_
  refine x_iload C d_LW_law_1150 rfl ?_
  refine x_iconst C (v := nI 2) d_LW_law_1152 (by decide) ?_
  refine xn_iadd C d_LW_law_1153 ?_
  refine x_sldn C hX hb hbb (show i + 2 < L by omega) hL d_LW_law_1154 ?_
  refine x_aload_n C d_LW_law_1155 rfl rfl ?_
  refine x_iload C d_LW_law_1156 rfl ?_
  refine x_iconst C (v := nI 3) d_LW_law_1158 (by decide) ?_
  refine xn_iadd C d_LW_law_1159 ?_
  refine x_sldn C hX hb hbb (show i + 3 < L by omega) hL d_LW_law_1160 ?_
  refine x_callV (Cn := R_MD) C (hMM _) (i := 143) (by decide) EM_obj (ci := 5) (r := (R_MD, F_MD, 18)) rfl kw751 kw749 kw750 kw6 kw748 ny_MD pl_MD_look (lw_room hRf hRl (by decide) (by decide)) (lw_roomc1 hk hz) rfl (Nat.le_of_ble_eq_true rfl) d_LW_law_1161 (fun v E' h => ?_) (fun X E' h => by cases h.2)
  obtain ⟨h1, h2⟩ := h
  cases h2
  rw [h1]
  clear h1
  refine x_istore C d_LW_law_1164 (by decide) rfl ?_
  refine x_aload_n C d_LW_law_1166 rfl rfl ?_
  refine x_callV (Cn := R_MD) C (m_MD_thrown htr (by decide) hB (k := 4) (by decide)) (i := 143) (by decide) EM_obj (ci := 5) (r := (R_MD, F_MD, 18)) rfl kw627 kw625 kw626 kw6 kw624 ny_MD pl_MD_thrown (lw_room hRf hRl (by decide) (by decide)) (lw_roomc1 hk hz) rfl (Nat.le_of_ble_eq_true rfl) d_LW_law_1167 (fun v E' h => ?_) (fun X E' h => by cases h.2)
  obtain ⟨h1, h2⟩ := h
  cases h2
  rw [h1]
  clear h1
  refine x_iload C d_LW_law_1170 rfl ?_
  refine x_icmp_eq C 1177 d_LW_law_1172 (by decide) (fun _ => ?_) (fun h => absurd rfl h)
  refine x_iload C d_LW_law_1177 rfl ?_
  refine xn_if_ne C (by omega) 1194 d_LW_law_1179 (by decide) (fun h => ?_) (fun h => ?_)
  · refine x_goto C 1333 d_LW_law_1194 (by decide) ?_
    refine x_lv [(0, .ref b), (1, .ref (g 0)), (2, .ref (g 143)), (3, .ref (g 159)), (4, .ref (g 160)), (5, .int (nI i))] ⟨rfl, rfl, rfl, rfl, rfl, rfl, trivial⟩ ?_
    rw [← EL_EM]
    exact kk _ _
  · refine x_aload_n C d_LW_law_1182 rfl rfl ?_
    refine x_iconst C (v := nI 0) d_LW_law_1183 (by decide) ?_
    refine x_lald C (i := 159) (by decide) LM_o 7 rfl vp_in01 d_LW_law_1184 ?_
    refine x_iload C d_LW_law_1185 rfl ?_
    refine x_i2l C d_LW_law_1187 ?_
    refine x_lcmp C d_LW_law_1188 ?_
    refine x_if_eq C 1194 d_LW_law_1189 (by decide) (fun _ => ?_) (fun h2 => absurd (lw_cmp0 h) h2)
    refine x_goto C 1333 d_LW_law_1194 (by decide) ?_
    refine x_lv [(0, .ref b), (1, .ref (g 0)), (2, .ref (g 143)), (3, .ref (g 159)), (4, .ref (g 160)), (5, .int (nI i))] ⟨rfl, rfl, rfl, rfl, rfl, rfl, trivial⟩ ?_
    rw [← EL_EM]
    exact kk _ _
theorem w_LW_file {p : Program} {l : Launch} (htr : xTr l) {e : Env} {R : Room} {s : State} {m : MethodId} {args : Array Value} {below : List Frame} {meth : Method} {c : Code} {Q : State → Prop} {D : va_G} {a : Nat → ClassId} {base : Nat} {g : Nat → Nat} {k z : Nat} {b L i : Nat} {xs : Nat → Int32} (C : xC p l e s m meth c b_LW_law 9 "ChunkStoreLaw" args D xcl (xty a) base) (hX : va_X b L xs s s.heap) (hb : b < s.heap.size) (hbb : b < base) (hi : i + 6 ≤ L) (hL : L < 2 ^ 30) (hRf : 12 ≤ R.frames) (hRl : 454 ≤ R.locals) (hk : k + 2 ≤ R.cells) (hz : z + 12 ≤ R.slots) {σ σ' : xSig} {w w' : xWrd} {fc q : Nat} {o : Nat → Int64} {d : Nat → UInt64} {A : Int32} (hM : ∀ Y, xM l y_CS_file b_CS_file 4 (some FieldType.int) 4 D a base g 161 (EL a g σ w Y) [.ref (g 0), .int (xs (i + 1)), .int (xs (i + 2))] (fun r E' => E' = EL a g σ' w' Y ∧ r = cr [e_IA] q (.int A))) (hMM : ∀ X, xM l y_MD_file b_MD_file 3 (some FieldType.int) 4 D a base g 161 (EM a g σ w fc X) [.ref (g 143), .int (xs (i + 1)), .int (xs (i + 2))] (fun r E' => E' = EM a g σ' w' q X ∧ r = mr q A)) (hB : ∀ t i j, σ' t i j < 2 ^ 30) (hq : q ≤ 1) (kk : ∀ (o' : Nat → Int64) (d' : Nat → UInt64), xG p l e R s m args below meth c Q 9 D xcl base g 161 (LWE a g σ' w' q o' d') (k + 1) (z + 6) 1333 [(0, .ref b), (1, .ref (g 0)), (2, .ref (g 143)), (3, .ref (g 159)), (4, .ref (g 160)), (5, .int (nI i))] []) : xG p l e R s m args below meth c Q 9 D xcl base g 161 (LWE a g σ w fc o d) (k) (z) 1197 [(0, .ref b), (1, .ref (g 0)), (2, .ref (g 143)), (3, .ref (g 159)), (4, .ref (g 160)), (5, .int (nI i))] [] := by
  refine x_aload_n C d_LW_law_1197 rfl rfl ?_
  refine x_aload_n C d_LW_law_1198 rfl rfl ?_
  refine x_iload C d_LW_law_1199 rfl ?_
  refine x_iconst C (v := nI 1) d_LW_law_1201 (by decide) ?_
  refine xn_iadd C d_LW_law_1202 ?_
  refine x_sldn C hX hb hbb (show i + 1 < L by omega) hL d_LW_law_1203 ?_
  refine x_aload_n C d_LW_law_1204 rfl rfl ?_
  refine x_iload C d_LW_law_1205 rfl ?_
  refine x_iconst C (v := nI 2) d_LW_law_1207 (by decide) ?_
  refine xn_iadd C d_LW_law_1208 ?_
  refine x_sldn C hX hb hbb (show i + 2 < L by omega) hL d_LW_law_1209 ?_
  refine x_aload_n C d_LW_law_1210 rfl rfl ?_
  refine x_callSH C (h_LW_file htr (Nat.le_refl _) EL_cs LW_o (hM _) hq) kw547 kw546 kw0 kw545 ny_LW pl_LW_file (lw_room hRf hRl (by decide) (by decide)) (lw_roomc0 hk hz) rfl (Nat.le_of_ble_eq_true rfl) d_LW_law_1211 (fun v E' h => ?_) (fun X E' h => by cases h.1)
  obtain ⟨h1, h2⟩ := h
  cases h1
  rw [h2, LW_up]
  clear h2
  refine x_istore C d_LW_law_1214 (by decide) rfl ?_
  refine x_aload_n C d_LW_law_1216 rfl rfl ?_
  refine x_aload_n C d_LW_law_1217 rfl rfl ?_
  refine x_iload C d_LW_law_1218 rfl ?_
  refine x_iconst C (v := nI 1) d_LW_law_1220 (by decide) ?_
  refine xn_iadd C d_LW_law_1221 ?_
  refine x_sldn C hX hb hbb (show i + 1 < L by omega) hL d_LW_law_1222 ?_
  refine x_aload_n C d_LW_law_1223 rfl rfl ?_
  refine x_iload C d_LW_law_1224 rfl ?_
  refine x_iconst C (v := nI 2) d_LW_law_1226 (by decide) ?_
  refine xn_iadd C d_LW_law_1227 ?_
  refine x_sldn C hX hb hbb (show i + 2 < L by omega) hL d_LW_law_1228 ?_
  refine x_callV (Cn := R_MD) C (hMM _) (i := 143) (by decide) EM_obj (ci := 5) (r := (R_MD, F_MD, 18)) rfl kw755 kw753 kw754 kw6 kw752 ny_MD pl_MD_file (lw_room hRf hRl (by decide) (by decide)) (lw_roomc1 hk hz) rfl (Nat.le_of_ble_eq_true rfl) d_LW_law_1229 (fun v E' h => ?_) (fun X E' h => by cases h.2)
  obtain ⟨h1, h2⟩ := h
  cases h2
  rw [h1]
  clear h1
  refine x_istore C d_LW_law_1232 (by decide) rfl ?_
  refine x_aload_n C d_LW_law_1234 rfl rfl ?_
  refine x_callV (Cn := R_MD) C (m_MD_thrown htr (by decide) hB (k := 4) (by decide)) (i := 143) (by decide) EM_obj (ci := 5) (r := (R_MD, F_MD, 18)) rfl kw627 kw625 kw626 kw6 kw624 ny_MD pl_MD_thrown (lw_room hRf hRl (by decide) (by decide)) (lw_roomc1 hk hz) rfl (Nat.le_of_ble_eq_true rfl) d_LW_law_1235 (fun v E' h => ?_) (fun X E' h => by cases h.2)
  obtain ⟨h1, h2⟩ := h
  cases h2
  rw [h1]
  clear h1
  refine x_iload C d_LW_law_1238 rfl ?_
  refine x_icmp_eq C 1245 d_LW_law_1240 (by decide) (fun _ => ?_) (fun h => absurd rfl h)
  refine x_iload C d_LW_law_1245 rfl ?_
  refine xn_if_ne C (by omega) 1262 d_LW_law_1247 (by decide) (fun h => ?_) (fun h => ?_)
  · refine x_goto C 1333 d_LW_law_1262 (by decide) ?_
    refine x_lv [(0, .ref b), (1, .ref (g 0)), (2, .ref (g 143)), (3, .ref (g 159)), (4, .ref (g 160)), (5, .int (nI i))] ⟨rfl, rfl, rfl, rfl, rfl, rfl, trivial⟩ ?_
    rw [← EL_EM]
    exact kk _ _
  · refine x_aload_n C d_LW_law_1250 rfl rfl ?_
    refine x_iconst C (v := nI 0) d_LW_law_1251 (by decide) ?_
    refine x_lald C (i := 159) (by decide) LM_o 7 rfl vp_in01 d_LW_law_1252 ?_
    refine x_iload C d_LW_law_1253 rfl ?_
    refine x_i2l C d_LW_law_1255 ?_
    refine x_lcmp C d_LW_law_1256 ?_
    refine x_if_eq C 1262 d_LW_law_1257 (by decide) (fun _ => ?_) (fun h2 => absurd (lw_cmp0 h) h2)
    refine x_goto C 1333 d_LW_law_1262 (by decide) ?_
    refine x_lv [(0, .ref b), (1, .ref (g 0)), (2, .ref (g 143)), (3, .ref (g 159)), (4, .ref (g 160)), (5, .int (nI i))] ⟨rfl, rfl, rfl, rfl, rfl, rfl, trivial⟩ ?_
    rw [← EL_EM]
    exact kk _ _
theorem w_LW_chunk {p : Program} {l : Launch} (htr : xTr l) {e : Env} {R : Room} {s : State} {m : MethodId} {args : Array Value} {below : List Frame} {meth : Method} {c : Code} {Q : State → Prop} {D : va_G} {a : Nat → ClassId} {base : Nat} {g : Nat → Nat} {k z : Nat} {b L i : Nat} {xs : Nat → Int32} (C : xC p l e s m meth c b_LW_law 9 "ChunkStoreLaw" args D xcl (xty a) base) (hX : va_X b L xs s s.heap) (hb : b < s.heap.size) (hbb : b < base) (hi : i + 6 ≤ L) (hL : L < 2 ^ 30) (hRf : 12 ≤ R.frames) (hRl : 454 ≤ R.locals) (hk : k + 2 ≤ R.cells) (hz : z + 12 ≤ R.slots) {σ σ' : xSig} {w w' : xWrd} {fc q : Nat} {o : Nat → Int64} {d : Nat → UInt64} {A : Int32} (hM : ∀ Y, xM l y_CS_chunk b_CS_chunk 4 (some FieldType.int) 4 D a base g 161 (EL a g σ w Y) [.ref (g 0), .int (xs (i + 1)), .int (xs (i + 2))] (fun r E' => E' = EL a g σ' w' Y ∧ r = cr [e_IA, e_NS] q (.int A))) (hMM : ∀ X, xM l y_MD_chunk b_MD_chunk 3 (some FieldType.int) 4 D a base g 161 (EM a g σ w fc X) [.ref (g 143), .int (xs (i + 1)), .int (xs (i + 2))] (fun r E' => E' = EM a g σ' w' q X ∧ r = mr q A)) (hB : ∀ t i j, σ' t i j < 2 ^ 30) (hq : q ≤ 2) (kk : ∀ (o' : Nat → Int64) (d' : Nat → UInt64), xG p l e R s m args below meth c Q 9 D xcl base g 161 (LWE a g σ' w' q o' d') (k + 1) (z + 6) 1333 [(0, .ref b), (1, .ref (g 0)), (2, .ref (g 143)), (3, .ref (g 159)), (4, .ref (g 160)), (5, .int (nI i))] []) : xG p l e R s m args below meth c Q 9 D xcl base g 161 (LWE a g σ w fc o d) (k) (z) 1265 [(0, .ref b), (1, .ref (g 0)), (2, .ref (g 143)), (3, .ref (g 159)), (4, .ref (g 160)), (5, .int (nI i))] [] := by
  refine x_aload_n C d_LW_law_1265 rfl rfl ?_
  refine x_aload_n C d_LW_law_1266 rfl rfl ?_
  refine x_iload C d_LW_law_1267 rfl ?_
  refine x_iconst C (v := nI 1) d_LW_law_1269 (by decide) ?_
  refine xn_iadd C d_LW_law_1270 ?_
  refine x_sldn C hX hb hbb (show i + 1 < L by omega) hL d_LW_law_1271 ?_
  refine x_aload_n C d_LW_law_1272 rfl rfl ?_
  refine x_iload C d_LW_law_1273 rfl ?_
  refine x_iconst C (v := nI 2) d_LW_law_1275 (by decide) ?_
  refine xn_iadd C d_LW_law_1276 ?_
  refine x_sldn C hX hb hbb (show i + 2 < L by omega) hL d_LW_law_1277 ?_
  refine x_aload_n C d_LW_law_1278 rfl rfl ?_
  refine x_callSH C (h_LW_chunk htr (Nat.le_refl _) EL_cs LW_o (hM _) hq) kw554 kw553 kw0 kw552 ny_LW pl_LW_chunk (lw_room hRf hRl (by decide) (by decide)) (lw_roomc0 hk hz) rfl (Nat.le_of_ble_eq_true rfl) d_LW_law_1279 (fun v E' h => ?_) (fun X E' h => by cases h.1)
  obtain ⟨h1, h2⟩ := h
  cases h1
  rw [h2, LW_up]
  clear h2
  refine x_istore C d_LW_law_1282 (by decide) rfl ?_
  refine x_aload_n C d_LW_law_1284 rfl rfl ?_
  refine x_aload_n C d_LW_law_1285 rfl rfl ?_
  refine x_iload C d_LW_law_1286 rfl ?_
  refine x_iconst C (v := nI 1) d_LW_law_1288 (by decide) ?_
  refine xn_iadd C d_LW_law_1289 ?_
  refine x_sldn C hX hb hbb (show i + 1 < L by omega) hL d_LW_law_1290 ?_
  refine x_aload_n C d_LW_law_1291 rfl rfl ?_
  refine x_iload C d_LW_law_1292 rfl ?_
  refine x_iconst C (v := nI 2) d_LW_law_1294 (by decide) ?_
  refine xn_iadd C d_LW_law_1295 ?_
  refine x_sldn C hX hb hbb (show i + 2 < L by omega) hL d_LW_law_1296 ?_
  refine x_callV (Cn := R_MD) C (hMM _) (i := 143) (by decide) EM_obj (ci := 5) (r := (R_MD, F_MD, 18)) rfl kw759 kw757 kw758 kw6 kw756 ny_MD pl_MD_chunk (lw_room hRf hRl (by decide) (by decide)) (lw_roomc1 hk hz) rfl (Nat.le_of_ble_eq_true rfl) d_LW_law_1297 (fun v E' h => ?_) (fun X E' h => by cases h.2)
  obtain ⟨h1, h2⟩ := h
  cases h2
  rw [h1]
  clear h1
  refine x_istore C d_LW_law_1300 (by decide) rfl ?_
  refine x_aload_n C d_LW_law_1302 rfl rfl ?_
  refine x_callV (Cn := R_MD) C (m_MD_thrown htr (by decide) hB (k := 4) (by decide)) (i := 143) (by decide) EM_obj (ci := 5) (r := (R_MD, F_MD, 18)) rfl kw627 kw625 kw626 kw6 kw624 ny_MD pl_MD_thrown (lw_room hRf hRl (by decide) (by decide)) (lw_roomc1 hk hz) rfl (Nat.le_of_ble_eq_true rfl) d_LW_law_1303 (fun v E' h => ?_) (fun X E' h => by cases h.2)
  obtain ⟨h1, h2⟩ := h
  cases h2
  rw [h1]
  clear h1
  refine x_iload C d_LW_law_1306 rfl ?_
  refine x_icmp_eq C 1313 d_LW_law_1308 (by decide) (fun _ => ?_) (fun h => absurd rfl h)
  refine x_iload C d_LW_law_1313 rfl ?_
  refine xn_if_ne C (by omega) 1330 d_LW_law_1315 (by decide) (fun h => ?_) (fun h => ?_)
  · refine x_goto C 1333 d_LW_law_1330 (by decide) ?_
    refine x_lv [(0, .ref b), (1, .ref (g 0)), (2, .ref (g 143)), (3, .ref (g 159)), (4, .ref (g 160)), (5, .int (nI i))] ⟨rfl, rfl, rfl, rfl, rfl, rfl, trivial⟩ ?_
    rw [← EL_EM]
    exact kk _ _
  · refine x_aload_n C d_LW_law_1318 rfl rfl ?_
    refine x_iconst C (v := nI 0) d_LW_law_1319 (by decide) ?_
    refine x_lald C (i := 159) (by decide) LM_o 7 rfl vp_in01 d_LW_law_1320 ?_
    refine x_iload C d_LW_law_1321 rfl ?_
    refine x_i2l C d_LW_law_1323 ?_
    refine x_lcmp C d_LW_law_1324 ?_
    refine x_if_eq C 1330 d_LW_law_1325 (by decide) (fun _ => ?_) (fun h2 => absurd (lw_cmp0 h) h2)
    refine x_goto C 1333 d_LW_law_1330 (by decide) ?_
    refine x_lv [(0, .ref b), (1, .ref (g 0)), (2, .ref (g 143)), (3, .ref (g 159)), (4, .ref (g 160)), (5, .int (nI i))] ⟨rfl, rfl, rfl, rfl, rfl, rfl, trivial⟩ ?_
    rw [← EL_EM]
    exact kk _ _
end XLC
