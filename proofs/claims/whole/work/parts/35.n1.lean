section XN1
theorem m_MD_thrown {l : Launch} (htr : xTr l) {D : va_G} {a : Nat → ClassId} {base : Nat} {g : Nat → Nat} {n : Nat} {τ : xSig} {v : xWrd} {fc : Nat} {X : Nat → va_E} (hn : 159 ≤ n) (hB : ∀ t i j, τ t i j < 2 ^ 30)  {k : Nat} (hk : 0 ≤ k) : xM l y_MD_thrown b_MD_thrown 1 (some FieldType.int) k D a base g n (EM a g τ v fc X) [.ref (g 143)] (fun r E' => E' = EM a g τ v fc X ∧ r = .inl (some (.int (nI fc)))) := by
  refine x_method (by decide) htr (Nat.le_of_ble_eq_true rfl) ?_
  intro p e s m args below meth c C hne hret hnm
  have C : xC p l e s m meth c b_MD_thrown 1 "ChunkStoreModel" args D xcl (xty a) base := C
  refine x_aload_n C d_MD_thrown_0 rfl rfl ?_
  refine g_MD_failed C hn d_MD_thrown_1 ?_
  exact x_iret C hret d_MD_thrown_4 ⟨rfl, rfl⟩
theorem m_MD_fail {l : Launch} (htr : xTr l) {D : va_G} {a : Nat → ClassId} {base : Nat} {g : Nat → Nat} {n : Nat} {τ : xSig} {v : xWrd} {fc : Nat} {X : Nat → va_E} (hn : 159 ≤ n) (hB : ∀ t i j, τ t i j < 2 ^ 30) {x : Nat} {k : Nat} (hk : 0 ≤ k) : xM l y_MD_fail b_MD_fail 2 (some FieldType.int) k D a base g n (EM a g τ v fc X) [.ref (g 143), .int (nI x)] (fun r E' => E' = EM a g τ v x X ∧ r = .inl (some (.int (nI 0)))) := by
  refine x_method (by decide) htr (Nat.le_of_ble_eq_true rfl) ?_
  intro p e s m args below meth c C hne hret hnm
  have C : xC p l e s m meth c b_MD_fail 2 "ChunkStoreModel" args D xcl (xty a) base := C
  refine x_aload_n C d_MD_fail_0 rfl rfl ?_
  refine x_iload_n C d_MD_fail_1 rfl rfl ?_
  refine p_MD_failed C hn d_MD_fail_2 ?_
  refine x_iconst C (v := nI 0) d_MD_fail_5 (by decide) ?_
  exact x_iret C hret d_MD_fail_6 ⟨rfl, rfl⟩
theorem m_MD_out {l : Launch} (htr : xTr l) {D : va_G} {a : Nat → ClassId} {base : Nat} {g : Nat → Nat} {n : Nat} {τ : xSig} {v : xWrd} {fc : Nat} {X : Nat → va_E} (hn : 159 ≤ n) (hB : ∀ t i j, τ t i j < 2 ^ 30) {x : Int32} {N : Nat} (hN : N < 2 ^ 31) {k : Nat} (hk : 0 ≤ k) : xM l y_MD_out b_MD_out 3 (some FieldType.boolean) k D a base g n (EM a g τ v fc X) [.ref (g 143), .int x, .int (nI N)] (fun r E' => E' = EM a g τ v fc X ∧ r = .inl (some (.int (nI (b01 (!inR x N)))))) := by
  refine x_method (by decide) htr (Nat.le_of_ble_eq_true rfl) ?_
  intro p e s m args below meth c C hne hret hnm
  have C : xC p l e s m meth c b_MD_out 3 "ChunkStoreModel" args D xcl (xty a) base := C
  refine x_iload_n C d_MD_out_0 rfl rfl ?_
  refine x_if_lt C 9 d_MD_out_1 (by decide) (fun h1 => ?_) (fun h1 => ?_)
  · refine x_iconst C (v := nI 1) d_MD_out_9 (by decide) ?_
    refine x_goto C 14 d_MD_out_10 (by decide) ?_
    exact x_zret C hret rfl d_MD_out_14 ⟨rfl, by rw [b01_t (by rw [Bool.not_eq_true', Bool.eq_false_iff]; intro q; obtain ⟨j, hj, rfl⟩ := inR_of q; first | exact nI_pos (by omega) h1 | exact h6 (nI_lt hj hN))]⟩
  · refine x_iload_n C d_MD_out_4 rfl rfl ?_
    refine x_iload_n C d_MD_out_5 rfl rfl ?_
    refine x_icmp_lt C 13 d_MD_out_6 (by decide) (fun h6 => ?_) (fun h6 => ?_)
    · refine x_iconst C (v := nI 0) d_MD_out_13 (by decide) ?_
      exact x_zret C hret rfl d_MD_out_14 ⟨rfl, by obtain ⟨j, hj, rfl⟩ := nI_of h1; rw [b01_f (by rw [inR_nI ((nI_ltI hj hN).mp h6) hN]; rfl)]⟩
    · refine x_iconst C (v := nI 1) d_MD_out_9 (by decide) ?_
      refine x_goto C 14 d_MD_out_10 (by decide) ?_
      exact x_zret C hret rfl d_MD_out_14 ⟨rfl, by rw [b01_t (by rw [Bool.not_eq_true', Bool.eq_false_iff]; intro q; obtain ⟨j, hj, rfl⟩ := inR_of q; first | exact nI_pos (by omega) h1 | exact h6 (nI_lt hj hN))]⟩
theorem m_MD_loadOf {l : Launch} (htr : xTr l) {D : va_G} {a : Nat → ClassId} {base : Nat} {g : Nat → Nat} {n : Nat} {τ : xSig} {v : xWrd} {fc : Nat} {X : Nat → va_E} (hn : 159 ≤ n) (hB : ∀ t i j, τ t i j < 2 ^ 30) {q : Nat} (hq : q < 5) {k : Nat} (hk : 0 ≤ k) : xM l y_MD_loadOf b_MD_loadOf 4 (some FieldType.int) k D a base g n (EM a g τ v fc X) [.ref (g 143), .int (nI q)] (fun r E' => E' = EM a g τ v fc X ∧ r = .inl (some (.int (nI (cntV (τ 12 q) 30))))) := by
  refine x_method (by decide) htr (Nat.le_of_ble_eq_true rfl) ?_
  intro p e s m args below meth c C hne hret hnm
  have C : xC p l e s m meth c b_MD_loadOf 4 "ChunkStoreModel" args D xcl (xty a) base := C
  refine x_iconst C (v := nI 0) d_MD_loadOf_0 (by decide) ?_
  refine x_istore_n C d_MD_loadOf_1 rfl (by decide) rfl ?_
  refine x_iconst C (v := nI 0) d_MD_loadOf_2 (by decide) ?_
  refine x_istore_n C d_MD_loadOf_3 rfl (by decide) rfl ?_
  refine x_loop 30 (fun i => EM a g τ v fc X) (fun i => [(0, .ref (g 143)), (1, .int (nI q)), (2, .int (nI (cntV (τ 12 q) i))), (3, .int (nI i))]) (fun i => True) rfl ⟨rfl, rfl, rfl, rfl, trivial⟩ trivial ?_
  intro i hi hIi ihi
  refine x_iload_n C d_MD_loadOf_4 rfl rfl ?_
  refine x_bipush C (v := nI 30) d_MD_loadOf_5 (by decide) ?_
  refine xn_icmp_ge C (by omega) (by decide) 38 d_MD_loadOf_7 (by decide) (fun h7 => ?_) (fun h7 => ?_)
  · refine x_iload_n C d_MD_loadOf_38 rfl rfl ?_
    exact x_iret C hret d_MD_loadOf_39 ⟨rfl, by rw [show i = 30 by omega]⟩
  · refine x_iload_n C d_MD_loadOf_10 rfl rfl ?_
    refine x_aload_n C d_MD_loadOf_11 rfl rfl ?_
    refine g_MD_replica C hn d_MD_loadOf_12 ?_
    refine x_bipush C (v := nI 30) d_MD_loadOf_15 (by decide) ?_
    refine x_iload_n C d_MD_loadOf_17 rfl rfl ?_
    refine xn_imul C d_MD_loadOf_18 ?_
    refine x_iload_n C d_MD_loadOf_19 rfl rfl ?_
    refine xn_iadd C d_MD_loadOf_20 ?_
    refine e_mreplica C hq (by omega) hn d_MD_loadOf_21 ?_
    refine xn_if_le C (Nat.lt_trans (hB 12 q i) (by decide)) 29 d_MD_loadOf_22 (by decide) (fun h22 => ?_) (fun h22 => ?_)
    · refine x_iconst C (v := nI 0) d_MD_loadOf_29 (by decide) ?_
      refine xn_iadd C d_MD_loadOf_30 ?_
      refine x_istore_n C d_MD_loadOf_31 rfl (by decide) rfl ?_
      refine x_lv [(0, .ref (g 143)), (1, .int (nI q)), (2, .int (nI ((cntV (τ 12 q) i) + 0))), (3, .int (nI i))] ⟨rfl, rfl, rfl, rfl, trivial⟩ ?_
      refine xn_iinc C d_MD_loadOf_32 3 rfl (by decide) rfl ?_
      refine x_goto C 4 d_MD_loadOf_35 (by decide) ?_
      exact x_lv [(0, .ref (g 143)), (1, .int (nI q)), (2, .int (nI (cntV (τ 12 q) (i + 1)))), (3, .int (nI (i + 1)))] ⟨rfl, rfl, by rw [cntV, if_neg (by omega)]; rfl, rfl, trivial⟩ (ihi (by omega) trivial)
    · refine x_iconst C (v := nI 1) d_MD_loadOf_25 (by decide) ?_
      refine x_goto C 30 d_MD_loadOf_26 (by decide) ?_
      refine xn_iadd C d_MD_loadOf_30 ?_
      refine x_istore_n C d_MD_loadOf_31 rfl (by decide) rfl ?_
      refine x_lv [(0, .ref (g 143)), (1, .int (nI q)), (2, .int (nI ((cntV (τ 12 q) i) + 1))), (3, .int (nI i))] ⟨rfl, rfl, rfl, rfl, trivial⟩ ?_
      refine xn_iinc C d_MD_loadOf_32 3 rfl (by decide) rfl ?_
      refine x_goto C 4 d_MD_loadOf_35 (by decide) ?_
      exact x_lv [(0, .ref (g 143)), (1, .int (nI q)), (2, .int (nI (cntV (τ 12 q) (i + 1)))), (3, .int (nI (i + 1)))] ⟨rfl, rfl, by rw [cntV, if_pos h22]; rfl, rfl, trivial⟩ (ihi (by omega) trivial)
theorem m_MD_live {l : Launch} (htr : xTr l) {D : va_G} {a : Nat → ClassId} {base : Nat} {g : Nat → Nat} {n : Nat} {τ : xSig} {v : xWrd} {fc : Nat} {X : Nat → va_E} (hn : 159 ≤ n) (hB : ∀ t i j, τ t i j < 2 ^ 30) (hH : ∀ c, τ 8 c 0 < 32) {q : Nat} (hq : q < 30) {k : Nat} (hk : 0 ≤ k) : xM l y_MD_live b_MD_live 4 (some FieldType.int) k D a base g n (EM a g τ v fc X) [.ref (g 143), .int (nI q)] (fun r E' => E' = EM a g τ v fc X ∧ r = .inl (some (.int (nI (lvh τ q))))) := by
  refine x_method (by decide) htr (Nat.le_of_ble_eq_true rfl) ?_
  intro p e s m args below meth c C hne hret hnm
  have C : xC p l e s m meth c b_MD_live 4 "ChunkStoreModel" args D xcl (xty a) base := C
  refine x_iconst C (v := nI 0) d_MD_live_0 (by decide) ?_
  refine x_istore_n C d_MD_live_1 rfl (by decide) rfl ?_
  refine x_iconst C (v := nI 0) d_MD_live_2 (by decide) ?_
  refine x_istore_n C d_MD_live_3 rfl (by decide) rfl ?_
  refine x_loop 5 (fun i => EM a g τ v fc X) (fun i => [(0, .ref (g 143)), (1, .int (nI q)), (2, .int (nI (liv (fun i => τ 10 i 0) (τ 8 q 0) i))), (3, .int (nI i))]) (fun i => True) rfl ⟨rfl, rfl, rfl, rfl, trivial⟩ trivial ?_
  intro i hi hIi ihi
  refine x_iload_n C d_MD_live_4 rfl rfl ?_
  refine x_iconst C (v := nI 5) d_MD_live_5 (by decide) ?_
  refine xn_icmp_ge C (by omega) (by decide) 37 d_MD_live_6 (by decide) (fun h6 => ?_) (fun h6 => ?_)
  · refine x_iload_n C d_MD_live_37 rfl rfl ?_
    exact x_iret C hret d_MD_live_38 ⟨rfl, by rw [show i = 5 by omega]; rfl⟩
  · refine x_aload_n C d_MD_live_9 rfl rfl ?_
    refine g_MD_down C hn d_MD_live_10 ?_
    refine x_iload_n C d_MD_live_13 rfl rfl ?_
    refine e_mdown C (by omega) hn d_MD_live_14 ?_
    refine xn_if_ne C (b01_lt _) 31 d_MD_live_15 (by decide) (fun h15 => ?_) (fun h15 => ?_)
    · rw [b01_n0] at h15
      have h15 := of_decide_eq_true h15
      refine x_lv [(0, .ref (g 143)), (1, .int (nI q)), (2, .int (nI (liv (fun i => τ 10 i 0) (τ 8 q 0) i))), (3, .int (nI i))] ⟨rfl, rfl, rfl, rfl, trivial⟩ ?_
      refine xn_iinc C d_MD_live_31 3 rfl (by decide) rfl ?_
      refine x_goto C 4 d_MD_live_34 (by decide) ?_
      exact x_lv [(0, .ref (g 143)), (1, .int (nI q)), (2, .int (nI (liv (fun i => τ 10 i 0) (τ 8 q 0) (i + 1)))), (3, .int (nI (i + 1)))] ⟨rfl, rfl, by rw [liv, if_neg (fun r => r.1 h15)]; rfl, rfl, trivial⟩ (ihi (by omega) trivial)
    · rw [b01_0] at h15
      have h15 := of_decide_eq_false h15
      refine x_iload_n C d_MD_live_18 rfl rfl ?_
      refine x_aload_n C d_MD_live_19 rfl rfl ?_
      refine g_MD_holders C hn d_MD_live_20 ?_
      refine x_iload_n C d_MD_live_23 rfl rfl ?_
      refine e_mholders C hq hn d_MD_live_24 ?_
      refine x_iconst C (v := nI 1) d_MD_live_25 (by decide) ?_
      refine x_iload_n C d_MD_live_26 rfl rfl ?_
      refine xn_bit C (by omega) d_MD_live_27 ?_
      refine xn_iand C (hH q) (bt_p _ (by omega)) d_MD_live_28 ?_
      refine xn_ior C (liv_lt i (by omega)) (bt_andlt _ (hH q) _ (bt_p _ (by omega))) d_MD_live_29 ?_
      refine x_istore_n C d_MD_live_30 rfl (by decide) rfl ?_
      refine x_lv [(0, .ref (g 143)), (1, .int (nI q)), (2, .int (nI ((liv (fun i => τ 10 i 0) (τ 8 q 0) i) ||| ((τ 8 q 0) &&& (2 ^ i))))), (3, .int (nI i))] ⟨rfl, rfl, rfl, rfl, trivial⟩ ?_
      refine xn_iinc C d_MD_live_31 3 rfl (by decide) rfl ?_
      refine x_goto C 4 d_MD_live_34 (by decide) ?_
      exact x_lv [(0, .ref (g 143)), (1, .int (nI q)), (2, .int (nI (liv (fun i => τ 10 i 0) (τ 8 q 0) (i + 1)))), (3, .int (nI (i + 1)))] ⟨rfl, rfl, by rw [show liv (fun i => τ 10 i 0) (τ 8 q 0) (i + 1) = (liv (fun i => τ 10 i 0) (τ 8 q 0) i) ||| ((τ 8 q 0) &&& (2 ^ i)) from (by rw [liv, bt_and' _ (hH q) i (by omega)]; by_cases r : (τ 8 q 0).testBit i = true; rw [if_pos ⟨h15, r⟩, if_pos r]; rw [if_neg (fun z => r z.2), if_neg r, Nat.or_zero])]; rfl, rfl, trivial⟩ (ihi (by omega) trivial)
def onL (h : Nat) : Nat → Nat
  | 0 => 0
  | n + 1 => onL h n + (h >>> n &&& 1)
theorem onL_5 : ∀ h, h < 32 → onL h 5 = pop5 h := by decide +kernel
theorem onL_le {h : Nat} : ∀ n, onL h n ≤ n := by
  intro n
  induction n with
  | zero => exact Nat.le_refl _
  | succ n ih => unfold onL; have : h >>> n &&& 1 ≤ 1 := Nat.and_le_right; omega
theorem m_MD_ones {l : Launch} (htr : xTr l) {D : va_G} {a : Nat → ClassId} {base : Nat} {g : Nat → Nat} {n : Nat} {τ : xSig} {v : xWrd} {fc : Nat} {X : Nat → va_E} (hn : 159 ≤ n) (hB : ∀ t i j, τ t i j < 2 ^ 30) {h : Nat} (hh : h < 32) {k : Nat} (hk : 0 ≤ k) : xM l y_MD_ones b_MD_ones 4 (some FieldType.int) k D a base g n (EM a g τ v fc X) [.ref (g 143), .int (nI h)] (fun r E' => E' = EM a g τ v fc X ∧ r = .inl (some (.int (nI (pop5 h))))) := by
  refine x_method (by decide) htr (Nat.le_of_ble_eq_true rfl) ?_
  intro p e s m args below meth c C hne hret hnm
  have C : xC p l e s m meth c b_MD_ones 4 "ChunkStoreModel" args D xcl (xty a) base := C
  refine x_iconst C (v := nI 0) d_MD_ones_0 (by decide) ?_
  refine x_istore_n C d_MD_ones_1 rfl (by decide) rfl ?_
  refine x_iconst C (v := nI 0) d_MD_ones_2 (by decide) ?_
  refine x_istore_n C d_MD_ones_3 rfl (by decide) rfl ?_
  refine x_loop 5 (fun i => EM a g τ v fc X) (fun i => [(0, .ref (g 143)), (1, .int (nI h)), (2, .int (nI (onL h i))), (3, .int (nI i))]) (fun i => True) rfl ⟨rfl, rfl, rfl, rfl, trivial⟩ trivial ?_
  intro i hi hIi ihi
  refine x_iload_n C d_MD_ones_4 rfl rfl ?_
  refine x_iconst C (v := nI 5) d_MD_ones_5 (by decide) ?_
  refine xn_icmp_ge C (by omega) (by decide) 23 d_MD_ones_6 (by decide) (fun h6 => ?_) (fun h6 => ?_)
  · refine x_iload_n C d_MD_ones_23 rfl rfl ?_
    exact x_iret C hret d_MD_ones_24 ⟨rfl, by rw [show i = 5 by omega, onL_5 h hh]⟩
  · refine x_iload_n C d_MD_ones_9 rfl rfl ?_
    refine x_iload_n C d_MD_ones_10 rfl rfl ?_
    refine x_iload_n C d_MD_ones_11 rfl rfl ?_
    refine xn_ishr C hh (by omega) d_MD_ones_12 ?_
    refine x_iconst C (v := nI 1) d_MD_ones_13 (by decide) ?_
    refine xn_iand C (bt_shlt _ hh _ (by omega)) (by decide) d_MD_ones_14 ?_
    refine xn_iadd C d_MD_ones_15 ?_
    refine x_istore_n C d_MD_ones_16 rfl (by decide) rfl ?_
    refine x_lv [(0, .ref (g 143)), (1, .int (nI h)), (2, .int (nI ((onL h i) + ((h >>> i) &&& 1)))), (3, .int (nI i))] ⟨rfl, rfl, rfl, rfl, trivial⟩ ?_
    refine xn_iinc C d_MD_ones_17 3 rfl (by decide) rfl ?_
    refine x_goto C 4 d_MD_ones_20 (by decide) ?_
    exact x_lv [(0, .ref (g 143)), (1, .int (nI h)), (2, .int (nI (onL h (i + 1)))), (3, .int (nI (i + 1)))] ⟨rfl, rfl, rfl, rfl, trivial⟩ (ihi (by omega) trivial)
theorem m_MD_first {l : Launch} (htr : xTr l) {D : va_G} {a : Nat → ClassId} {base : Nat} {g : Nat → Nat} {n : Nat} {τ : xSig} {v : xWrd} {fc : Nat} {X : Nat → va_E} (hn : 159 ≤ n) (hB : ∀ t i j, τ t i j < 2 ^ 30) {h : Nat} (hh : h < 32) {k : Nat} (hk : 0 ≤ k) : xM l y_MD_first b_MD_first 3 (some FieldType.int) k D a base g n (EM a g τ v fc X) [.ref (g 143), .int (nI h)] (fun r E' => E' = EM a g τ v fc X ∧ r = .inl (some (.int (nI (fst5 h))))) := by
  refine x_method (by decide) htr (Nat.le_of_ble_eq_true rfl) ?_
  intro p e s m args below meth c C hne hret hnm
  have C : xC p l e s m meth c b_MD_first 3 "ChunkStoreModel" args D xcl (xty a) base := C
  refine x_iconst C (v := nI 0) d_MD_first_0 (by decide) ?_
  refine x_istore_n C d_MD_first_1 rfl (by decide) rfl ?_
  refine x_loop 5 (fun i => EM a g τ v fc X) (fun i => [(0, .ref (g 143)), (1, .int (nI h)), (2, .int (nI i))]) (fun i => ∀ j, j < i → h.testBit j = false) rfl ⟨rfl, rfl, rfl, trivial⟩ (fun j hj => absurd hj (Nat.not_lt_zero j)) ?_
  intro i hi hIi ihi
  refine x_iload_n C d_MD_first_2 rfl rfl ?_
  refine x_iconst C (v := nI 5) d_MD_first_3 (by decide) ?_
  refine xn_icmp_ge C (by omega) (by decide) 21 d_MD_first_4 (by decide) (fun h4 => ?_) (fun h4 => ?_)
  · refine x_iload_n C d_MD_first_21 rfl rfl ?_
    exact x_iret C hret d_MD_first_22 ⟨rfl, by rw [fst5_no (fun j hj => hIi j (by omega)), show i = 5 by omega]⟩
  · refine x_iload_n C d_MD_first_7 rfl rfl ?_
    refine x_iload_n C d_MD_first_8 rfl rfl ?_
    refine xn_ishr C hh (by omega) d_MD_first_9 ?_
    refine x_iconst C (v := nI 1) d_MD_first_10 (by decide) ?_
    refine xn_iand C (bt_shlt _ hh _ (by omega)) (by decide) d_MD_first_11 ?_
    refine xn_if_ne C (Nat.lt_trans (bt_andlt _ (bt_shlt _ hh _ (by omega)) _ (by decide)) (by decide)) 21 d_MD_first_12 (by decide) (fun h12 => ?_) (fun h12 => ?_)
    · refine x_iload_n C d_MD_first_21 rfl rfl ?_
      exact x_iret C hret d_MD_first_22 ⟨rfl, by rw [fst5_at (by omega) (by rw [bt_shr h hh i (by omega)] at h12; by_cases r : h.testBit i = true; exact r; rw [if_neg r] at h12; exact absurd rfl h12) hIi]⟩
    · refine x_lv [(0, .ref (g 143)), (1, .int (nI h)), (2, .int (nI i))] ⟨rfl, rfl, rfl, trivial⟩ ?_
      refine xn_iinc C d_MD_first_15 2 rfl (by decide) rfl ?_
      refine x_goto C 2 d_MD_first_18 (by decide) ?_
      exact x_lv [(0, .ref (g 143)), (1, .int (nI h)), (2, .int (nI (i + 1)))] ⟨rfl, rfl, rfl, trivial⟩ (ihi (by omega) (all_succ hIi (by rw [bt_shr h hh i (by omega)] at h12; by_cases r : h.testBit i = true; rw [if_pos r] at h12; omega; simpa using r)))
theorem m_MD_refs {l : Launch} (htr : xTr l) {D : va_G} {a : Nat → ClassId} {base : Nat} {g : Nat → Nat} {n : Nat} {τ : xSig} {v : xWrd} {fc : Nat} {X : Nat → va_E} (hn : 159 ≤ n) (hB : ∀ t i j, τ t i j < 2 ^ 30) {q : Nat} (hq : q < 2 ^ 31) {k : Nat} (hk : 0 ≤ k) : xM l y_MD_refs b_MD_refs 5 (some FieldType.int) k D a base g n (EM a g τ v fc X) [.ref (g 143), .int (nI q)] (fun r E' => E' = EM a g τ v fc X ∧ r = .inl (some (.int (nI (rL τ q 8))))) := by
  refine x_method (by decide) htr (Nat.le_of_ble_eq_true rfl) ?_
  intro p e s m args below meth c C hne hret hnm
  have C : xC p l e s m meth c b_MD_refs 5 "ChunkStoreModel" args D xcl (xty a) base := C
  refine x_iconst C (v := nI 0) d_MD_refs_0 (by decide) ?_
  refine x_istore_n C d_MD_refs_1 rfl (by decide) rfl ?_
  refine x_iconst C (v := nI 0) d_MD_refs_2 (by decide) ?_
  refine x_istore_n C d_MD_refs_3 rfl (by decide) rfl ?_
  refine x_loop 8 (fun f => EM a g τ v fc X) (fun f => [(0, .ref (g 143)), (1, .int (nI q)), (2, .int (nI (rL τ q f))), (3, .int (nI f))]) (fun f => True) rfl ⟨rfl, rfl, rfl, rfl, trivial⟩ trivial ?_
  intro f hf hIf ihf
  refine x_iload_n C d_MD_refs_4 rfl rfl ?_
  refine x_bipush C (v := nI 8) d_MD_refs_5 (by decide) ?_
  refine xn_icmp_ge C (by omega) (by decide) 74 d_MD_refs_7 (by decide) (fun h7 => ?_) (fun h7 => ?_)
  · refine x_iload_n C d_MD_refs_74 rfl rfl ?_
    exact x_iret C hret d_MD_refs_75 ⟨rfl, by rw [show f = 8 by omega]⟩
  · refine x_iconst C (v := nI 0) d_MD_refs_10 (by decide) ?_
    refine x_istore C d_MD_refs_11 (by decide) rfl ?_
    refine x_loop 3 (fun i => EM a g τ v fc X) (fun i => [(0, .ref (g 143)), (1, .int (nI q)), (2, .int (nI (rL τ q f + pL τ q f i))), (3, .int (nI f)), (4, .int (nI i))]) (fun i => True) rfl ⟨rfl, rfl, rfl, rfl, rfl, trivial⟩ trivial ?_
    intro i hi hIi ihi
    refine x_iload C d_MD_refs_13 rfl ?_
    refine x_iconst C (v := nI 3) d_MD_refs_15 (by decide) ?_
    refine xn_icmp_ge C (by omega) (by decide) 68 d_MD_refs_16 (by decide) (fun h16 => ?_) (fun h16 => ?_)
    · refine x_lv [(0, .ref (g 143)), (1, .int (nI q)), (2, .int (nI (rL τ q f + pL τ q f i))), (3, .int (nI f)), (4, .int (nI i))] ⟨rfl, rfl, rfl, rfl, rfl, trivial⟩ ?_
      refine xn_iinc C d_MD_refs_68 3 rfl (by decide) rfl ?_
      refine x_goto C 4 d_MD_refs_71 (by decide) ?_
      have e : i = 3 := by omega
      subst e
      exact x_lv [(0, .ref (g 143)), (1, .int (nI q)), (2, .int (nI (rL τ q (f + 1)))), (3, .int (nI (f + 1)))] ⟨rfl, rfl, rfl, rfl, trivial⟩ (ihf (by omega) trivial)
    · refine x_iload_n C d_MD_refs_19 rfl rfl ?_
      refine x_aload_n C d_MD_refs_20 rfl rfl ?_
      refine g_MD_state C hn d_MD_refs_21 ?_
      refine x_iload_n C d_MD_refs_24 rfl rfl ?_
      refine e_mstate C (by omega) hn d_MD_refs_25 ?_
      refine xn_if_eq C (Nat.lt_trans (hB 2 f 0) (by decide)) 59 d_MD_refs_26 (by decide) (fun h26 => ?_) (fun h26 => ?_)
      · refine x_iconst C (v := nI 0) d_MD_refs_59 (by decide) ?_
        refine xn_iadd C d_MD_refs_60 ?_
        refine x_istore_n C d_MD_refs_61 rfl (by decide) rfl ?_
        refine x_lv [(0, .ref (g 143)), (1, .int (nI q)), (2, .int (nI ((rL τ q f + pL τ q f i) + 0))), (3, .int (nI f)), (4, .int (nI i))] ⟨rfl, rfl, rfl, rfl, rfl, trivial⟩ ?_
        refine xn_iinc C d_MD_refs_62 4 rfl (by decide) rfl ?_
        refine x_goto C 13 d_MD_refs_65 (by decide) ?_
        exact x_lv [(0, .ref (g 143)), (1, .int (nI q)), (2, .int (nI (rL τ q f + pL τ q f (i + 1)))), (3, .int (nI f)), (4, .int (nI (i + 1)))] ⟨rfl, rfl, by rw [show pL τ q f (i + 1) = pL τ q f i + (if ¬ τ 2 f 0 = 0 ∧ i < τ 3 f 0 ∧ τ 4 f i = q then 1 else 0) from rfl, if_neg (by omega)]; rfl, rfl, rfl, trivial⟩ (ihi (by omega) trivial)
      · refine x_iload C d_MD_refs_29 rfl ?_
        refine x_aload_n C d_MD_refs_31 rfl rfl ?_
        refine g_MD_length C hn d_MD_refs_32 ?_
        refine x_iload_n C d_MD_refs_35 rfl rfl ?_
        refine e_mlength C (by omega) hn d_MD_refs_36 ?_
        refine xn_icmp_ge C (by omega) (Nat.lt_trans (hB 3 f 0) (by decide)) 59 d_MD_refs_37 (by decide) (fun h37 => ?_) (fun h37 => ?_)
        · refine x_iconst C (v := nI 0) d_MD_refs_59 (by decide) ?_
          refine xn_iadd C d_MD_refs_60 ?_
          refine x_istore_n C d_MD_refs_61 rfl (by decide) rfl ?_
          refine x_lv [(0, .ref (g 143)), (1, .int (nI q)), (2, .int (nI ((rL τ q f + pL τ q f i) + 0))), (3, .int (nI f)), (4, .int (nI i))] ⟨rfl, rfl, rfl, rfl, rfl, trivial⟩ ?_
          refine xn_iinc C d_MD_refs_62 4 rfl (by decide) rfl ?_
          refine x_goto C 13 d_MD_refs_65 (by decide) ?_
          exact x_lv [(0, .ref (g 143)), (1, .int (nI q)), (2, .int (nI (rL τ q f + pL τ q f (i + 1)))), (3, .int (nI f)), (4, .int (nI (i + 1)))] ⟨rfl, rfl, by rw [show pL τ q f (i + 1) = pL τ q f i + (if ¬ τ 2 f 0 = 0 ∧ i < τ 3 f 0 ∧ τ 4 f i = q then 1 else 0) from rfl, if_neg (by omega)]; rfl, rfl, rfl, trivial⟩ (ihi (by omega) trivial)
        · refine x_aload_n C d_MD_refs_40 rfl rfl ?_
          refine g_MD_row C hn d_MD_refs_41 ?_
          refine x_iconst C (v := nI 3) d_MD_refs_44 (by decide) ?_
          refine x_iload_n C d_MD_refs_45 rfl rfl ?_
          refine xn_imul C d_MD_refs_46 ?_
          refine x_iload C d_MD_refs_47 rfl ?_
          refine xn_iadd C d_MD_refs_49 ?_
          refine e_mrow C (by omega) (by omega) hn d_MD_refs_50 ?_
          refine x_iload_n C d_MD_refs_51 rfl rfl ?_
          refine xn_icmp_ne C (Nat.lt_trans (hB 4 f i) (by decide)) hq 59 d_MD_refs_52 (by decide) (fun h52 => ?_) (fun h52 => ?_)
          · refine x_iconst C (v := nI 0) d_MD_refs_59 (by decide) ?_
            refine xn_iadd C d_MD_refs_60 ?_
            refine x_istore_n C d_MD_refs_61 rfl (by decide) rfl ?_
            refine x_lv [(0, .ref (g 143)), (1, .int (nI q)), (2, .int (nI ((rL τ q f + pL τ q f i) + 0))), (3, .int (nI f)), (4, .int (nI i))] ⟨rfl, rfl, rfl, rfl, rfl, trivial⟩ ?_
            refine xn_iinc C d_MD_refs_62 4 rfl (by decide) rfl ?_
            refine x_goto C 13 d_MD_refs_65 (by decide) ?_
            exact x_lv [(0, .ref (g 143)), (1, .int (nI q)), (2, .int (nI (rL τ q f + pL τ q f (i + 1)))), (3, .int (nI f)), (4, .int (nI (i + 1)))] ⟨rfl, rfl, by rw [show pL τ q f (i + 1) = pL τ q f i + (if ¬ τ 2 f 0 = 0 ∧ i < τ 3 f 0 ∧ τ 4 f i = q then 1 else 0) from rfl, if_neg (by omega)]; rfl, rfl, rfl, trivial⟩ (ihi (by omega) trivial)
          · refine x_iconst C (v := nI 1) d_MD_refs_55 (by decide) ?_
            refine x_goto C 60 d_MD_refs_56 (by decide) ?_
            refine xn_iadd C d_MD_refs_60 ?_
            refine x_istore_n C d_MD_refs_61 rfl (by decide) rfl ?_
            refine x_lv [(0, .ref (g 143)), (1, .int (nI q)), (2, .int (nI ((rL τ q f + pL τ q f i) + 1))), (3, .int (nI f)), (4, .int (nI i))] ⟨rfl, rfl, rfl, rfl, rfl, trivial⟩ ?_
            refine xn_iinc C d_MD_refs_62 4 rfl (by decide) rfl ?_
            refine x_goto C 13 d_MD_refs_65 (by decide) ?_
            exact x_lv [(0, .ref (g 143)), (1, .int (nI q)), (2, .int (nI (rL τ q f + pL τ q f (i + 1)))), (3, .int (nI f)), (4, .int (nI (i + 1)))] ⟨rfl, rfl, by rw [show pL τ q f (i + 1) = pL τ q f i + (if ¬ τ 2 f 0 = 0 ∧ i < τ 3 f 0 ∧ τ 4 f i = q then 1 else 0) from rfl, if_pos ⟨h26, h37, h52⟩]; rfl, rfl, rfl, trivial⟩ (ihi (by omega) trivial)
end XN1
