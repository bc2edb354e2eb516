section XM1
theorem m_CS_checkRange {l : Launch} (htr : xTr l) {D : va_G} {a : Nat → ClassId} {base : Nat} {g : Nat → Nat} {n : Nat} {E : Nat → va_E} {x : Int32} {N : Nat} (hN : N < 2 ^ 31) {k : Nat} (hk : 0 ≤ k) : xM l y_CS_checkRange b_CS_checkRange 2 none k D a base g n E [.int x, .int (nI N)] (fun r E' => E' = E ∧ r = if inR x N then .inl none else .inr e_IA) := by
  refine x_method (by decide) htr (Nat.le_of_ble_eq_true rfl) ?_
  intro p e s m args below meth c C hne hret hnm
  have C : xC p l e s m meth c b_CS_checkRange 2 "ChunkStore" args D xcl (xty a) base := C
  refine x_iload_n C d_CS_checkRange_0 rfl rfl ?_
  refine x_if_lt C 9 d_CS_checkRange_1 (by decide) (fun h1 => ?_) (fun h1 => ?_)
  · exact th_IA C hne (Nat.le_of_ble_eq_true rfl) d_CS_checkRange_9 d_CS_checkRange_12 d_CS_checkRange_13 d_CS_checkRange_15 d_CS_checkRange_18 (tx := "a number out of range") (by decide) ⟨rfl, by rw [if_neg (fun q => by obtain ⟨j, hj, rfl⟩ := inR_of q; first | exact nI_pos (by omega) h1 | exact h6 (nI_lt hj hN))]⟩
  · refine x_iload_n C d_CS_checkRange_4 rfl rfl ?_
    refine x_iload_n C d_CS_checkRange_5 rfl rfl ?_
    refine x_icmp_lt C 19 d_CS_checkRange_6 (by decide) (fun h6 => ?_) (fun h6 => ?_)
    · exact x_vret C hret d_CS_checkRange_19 ⟨rfl, by obtain ⟨j, hj, rfl⟩ := nI_of h1; rw [if_pos (inR_nI ((nI_ltI hj hN).mp h6) hN)]⟩
    · exact th_IA C hne (Nat.le_of_ble_eq_true rfl) d_CS_checkRange_9 d_CS_checkRange_12 d_CS_checkRange_13 d_CS_checkRange_15 d_CS_checkRange_18 (tx := "a number out of range") (by decide) ⟨rfl, by rw [if_neg (fun q => by obtain ⟨j, hj, rfl⟩ := inR_of q; first | exact nI_pos (by omega) h1 | exact h6 (nI_lt hj hN))]⟩
theorem m_CS_fileThere {l : Launch} (htr : xTr l) {D : va_G} {a : Nat → ClassId} {base : Nat} {g : Nat → Nat} {n : Nat} {σ : Nat → Nat → Nat → Nat} {w : Nat → Nat → Int32} {Y : Nat → va_E} (hn : 143 ≤ n) (hB : ∀ t i j, σ t i j < 2 ^ 30) {i : Nat} (hi : i < 8) {k : Nat} (hk : 0 ≤ k) : xM l y_CS_fileThere b_CS_fileThere 2 (some (FieldType.object "ChunkStore$FileEntry")) k D a base g n (EL a g σ w Y) [.ref (g 0), .int (nI i)] (fun r E' => E' = EL a g σ w Y ∧ r = if σ 2 i 0 = 1 then .inl (some (.ref (g (2 + 2 * i)))) else .inr e_NS) := by
  refine x_method (by decide) htr (Nat.le_of_ble_eq_true rfl) ?_
  intro p e s m args below meth c C hne hret hnm
  have C : xC p l e s m meth c b_CS_fileThere 2 "ChunkStore" args D xcl (xty a) base := C
  refine x_aload_n C d_CS_fileThere_0 rfl rfl ?_
  refine g_CS_cs_files C hn d_CS_fileThere_1 ?_
  refine x_iload_n C d_CS_fileThere_4 rfl rfl ?_
  refine e_arrF C hi hn d_CS_fileThere_5 ?_
  refine g_CS_file_state C hi hn d_CS_fileThere_6 ?_
  refine x_iconst C (v := nI 1) d_CS_fileThere_9 (by decide) ?_
  refine xn_icmp_eq C (Nat.lt_trans (hB 2 i 0) (by decide)) (by decide) 23 d_CS_fileThere_10 (by decide) (fun h10 => ?_) (fun h10 => ?_)
  · refine x_aload_n C d_CS_fileThere_23 rfl rfl ?_
    refine g_CS_cs_files C hn d_CS_fileThere_24 ?_
    refine x_iload_n C d_CS_fileThere_27 rfl rfl ?_
    refine e_arrF C hi hn d_CS_fileThere_28 ?_
    exact x_aret C hret (Or.inl ⟨_, rfl⟩) d_CS_fileThere_29 ⟨rfl, by rw [if_pos h10]⟩
  · exact th_NS C hne (Nat.le_of_ble_eq_true rfl) d_CS_fileThere_13 d_CS_fileThere_16 d_CS_fileThere_17 d_CS_fileThere_19 d_CS_fileThere_22 (tx := "the file is not there") (by decide) ⟨rfl, by rw [if_neg h10]⟩
theorem m_CS_fileNotYet {l : Launch} (htr : xTr l) {D : va_G} {a : Nat → ClassId} {base : Nat} {g : Nat → Nat} {n : Nat} {σ : Nat → Nat → Nat → Nat} {w : Nat → Nat → Int32} {Y : Nat → va_E} (hn : 143 ≤ n) (hB : ∀ t i j, σ t i j < 2 ^ 30) {i : Nat} (hi : i < 8) {k : Nat} (hk : 0 ≤ k) : xM l y_CS_fileNotYet b_CS_fileNotYet 2 (some (FieldType.object "ChunkStore$FileEntry")) k D a base g n (EL a g σ w Y) [.ref (g 0), .int (nI i)] (fun r E' => E' = EL a g σ w Y ∧ r = if σ 2 i 0 = 0 then .inl (some (.ref (g (2 + 2 * i)))) else .inr e_IS) := by
  refine x_method (by decide) htr (Nat.le_of_ble_eq_true rfl) ?_
  intro p e s m args below meth c C hne hret hnm
  have C : xC p l e s m meth c b_CS_fileNotYet 2 "ChunkStore" args D xcl (xty a) base := C
  refine x_aload_n C d_CS_fileNotYet_0 rfl rfl ?_
  refine g_CS_cs_files C hn d_CS_fileNotYet_1 ?_
  refine x_iload_n C d_CS_fileNotYet_4 rfl rfl ?_
  refine e_arrF C hi hn d_CS_fileNotYet_5 ?_
  refine g_CS_file_state C hi hn d_CS_fileNotYet_6 ?_
  refine xn_if_eq C (Nat.lt_trans (hB 2 i 0) (by decide)) 22 d_CS_fileNotYet_9 (by decide) (fun h9 => ?_) (fun h9 => ?_)
  · refine x_aload_n C d_CS_fileNotYet_22 rfl rfl ?_
    refine g_CS_cs_files C hn d_CS_fileNotYet_23 ?_
    refine x_iload_n C d_CS_fileNotYet_26 rfl rfl ?_
    refine e_arrF C hi hn d_CS_fileNotYet_27 ?_
    exact x_aret C hret (Or.inl ⟨_, rfl⟩) d_CS_fileNotYet_28 ⟨rfl, by rw [if_pos h9]⟩
  · exact th_IS C hne (Nat.le_of_ble_eq_true rfl) d_CS_fileNotYet_12 d_CS_fileNotYet_15 d_CS_fileNotYet_16 d_CS_fileNotYet_18 d_CS_fileNotYet_21 (tx := "the file is there or hidden") (by decide) ⟨rfl, by rw [if_neg h9]⟩
theorem m_CS_checkPlace {l : Launch} (htr : xTr l) {D : va_G} {a : Nat → ClassId} {base : Nat} {g : Nat → Nat} {n : Nat} {σ : Nat → Nat → Nat → Nat} {w : Nat → Nat → Int32} {Y : Nat → va_E} (hn : 143 ≤ n) (hB : ∀ t i j, σ t i j < 2 ^ 30) {i q : Nat} (hi : i < 8) (hq : q < 2 ^ 31) {k : Nat} (hk : 0 ≤ k) : xM l y_CS_checkPlace b_CS_checkPlace 2 none k D a base g n (EL a g σ w Y) [.ref (g (2 + 2 * i)), .int (nI q)] (fun r E' => E' = EL a g σ w Y ∧ r = if q < σ 3 i 0 then .inl none else .inr e_IO) := by
  refine x_method (by decide) htr (Nat.le_of_ble_eq_true rfl) ?_
  intro p e s m args below meth c C hne hret hnm
  have C : xC p l e s m meth c b_CS_checkPlace 2 "ChunkStore" args D xcl (xty a) base := C
  refine x_iload_n C d_CS_checkPlace_0 rfl rfl ?_
  refine x_aload_n C d_CS_checkPlace_1 rfl rfl ?_
  refine g_CS_file_count C hi hn d_CS_checkPlace_2 ?_
  refine xn_icmp_lt C hq (Nat.lt_trans (hB 3 i 0) (by decide)) 18 d_CS_checkPlace_5 (by decide) (fun h5 => ?_) (fun h5 => ?_)
  · exact x_vret C hret d_CS_checkPlace_18 ⟨rfl, by rw [if_pos h5]⟩
  · exact th_IO C hne (Nat.le_of_ble_eq_true rfl) d_CS_checkPlace_8 d_CS_checkPlace_11 d_CS_checkPlace_12 d_CS_checkPlace_14 d_CS_checkPlace_17 (tx := "no such place in the row") (by decide) ⟨rfl, by rw [if_neg (by omega)]⟩
theorem m_SV_has {l : Launch} (htr : xTr l) {D : va_G} {a : Nat → ClassId} {base : Nat} {g : Nat → Nat} {n : Nat} {σ : Nat → Nat → Nat → Nat} {w : Nat → Nat → Int32} {Y : Nat → va_E} (hn : 143 ≤ n) (hB : ∀ t i j, σ t i j < 2 ^ 30) {i q : Nat} (hi : i < 5) (hq : q < 30) {k : Nat} (hk : 0 ≤ k) : xM l y_SV_has b_SV_has 2 (some FieldType.boolean) k D a base g n (EL a g σ w Y) [.ref (g (50 + 4 * i)), .int (nI q)] (fun r E' => E' = EL a g σ w Y ∧ r = .inl (some (.int (nI (b01 (decide (0 < σ 12 i q))))))) := by
  refine x_method (by decide) htr (Nat.le_of_ble_eq_true rfl) ?_
  intro p e s m args below meth c C hne hret hnm
  have C : xC p l e s m meth c b_SV_has 2 "ChunkStore$Server" args D xcl (xty a) base := C
  refine x_aload_n C d_SV_has_0 rfl rfl ?_
  refine g_SV_server_versions C hi hn d_SV_has_1 ?_
  refine x_iload_n C d_SV_has_4 rfl rfl ?_
  refine e_vers C hi hq hn d_SV_has_5 ?_
  refine xn_if_le C (Nat.lt_trans (hB 12 i q) (by decide)) 13 d_SV_has_6 (by decide) (fun h6 => ?_) (fun h6 => ?_)
  · refine x_iconst C (v := nI 0) d_SV_has_13 (by decide) ?_
    exact x_zret C hret rfl d_SV_has_14 ⟨rfl, by rw [b01_f (by simp; omega)]⟩
  · refine x_iconst C (v := nI 1) d_SV_has_9 (by decide) ?_
    refine x_goto C 14 d_SV_has_10 (by decide) ?_
    exact x_zret C hret rfl d_SV_has_14 ⟨rfl, by rw [b01_t (by simp; omega)]⟩
theorem m_SV_isFull {l : Launch} (htr : xTr l) {D : va_G} {a : Nat → ClassId} {base : Nat} {g : Nat → Nat} {n : Nat} {σ : Nat → Nat → Nat → Nat} {w : Nat → Nat → Int32} {Y : Nat → va_E} (hn : 143 ≤ n) (hB : ∀ t i j, σ t i j < 2 ^ 30) {i : Nat} (hi : i < 5) {k : Nat} (hk : 0 ≤ k) : xM l y_SV_isFull b_SV_isFull 1 (some FieldType.boolean) k D a base g n (EL a g σ w Y) [.ref (g (50 + 4 * i))] (fun r E' => E' = EL a g σ w Y ∧ r = .inl (some (.int (nI (b01 (decide (12 ≤ σ 11 i 0))))))) := by
  refine x_method (by decide) htr (Nat.le_of_ble_eq_true rfl) ?_
  intro p e s m args below meth c C hne hret hnm
  have C : xC p l e s m meth c b_SV_isFull 1 "ChunkStore$Server" args D xcl (xty a) base := C
  refine x_aload_n C d_SV_isFull_0 rfl rfl ?_
  refine g_SV_server_replicas C hi hn d_SV_isFull_1 ?_
  refine x_bipush C (v := nI 12) d_SV_isFull_4 (by decide) ?_
  refine xn_icmp_lt C (Nat.lt_trans (hB 11 i 0) (by decide)) (by decide) 13 d_SV_isFull_6 (by decide) (fun h6 => ?_) (fun h6 => ?_)
  · refine x_iconst C (v := nI 0) d_SV_isFull_13 (by decide) ?_
    exact x_zret C hret rfl d_SV_isFull_14 ⟨rfl, by rw [b01_f (by simp; omega)]⟩
  · refine x_iconst C (v := nI 1) d_SV_isFull_9 (by decide) ?_
    refine x_goto C 14 d_SV_isFull_10 (by decide) ?_
    exact x_zret C hret rfl d_SV_isFull_14 ⟨rfl, by rw [b01_t (by simp; omega)]⟩
theorem m_SV_word {l : Launch} (htr : xTr l) {D : va_G} {a : Nat → ClassId} {base : Nat} {g : Nat → Nat} {n : Nat} {σ : Nat → Nat → Nat → Nat} {w : Nat → Nat → Int32} {Y : Nat → va_E} (hn : 143 ≤ n) (hB : ∀ t i j, σ t i j < 2 ^ 30) {i q u : Nat} (hi : i < 5) (hq : q < 30) (hu : u < 4) {k : Nat} (hk : 0 ≤ k) : xM l y_SV_word b_SV_word 3 (some FieldType.int) k D a base g n (EL a g σ w Y) [.ref (g (50 + 4 * i)), .int (nI q), .int (nI u)] (fun r E' => E' = EL a g σ w Y ∧ r = .inl (some (.int (w i (q * 4 + u))))) := by
  refine x_method (by decide) htr (Nat.le_of_ble_eq_true rfl) ?_
  intro p e s m args below meth c C hne hret hnm
  have C : xC p l e s m meth c b_SV_word 3 "ChunkStore$Server" args D xcl (xty a) base := C
  refine x_aload_n C d_SV_word_0 rfl rfl ?_
  refine g_SV_server_words C hi hn d_SV_word_1 ?_
  refine x_iload_n C d_SV_word_4 rfl rfl ?_
  refine x_iconst C (v := nI 4) d_SV_word_5 (by decide) ?_
  refine xn_imul C d_SV_word_6 ?_
  refine x_iload_n C d_SV_word_7 rfl rfl ?_
  refine xn_iadd C d_SV_word_8 ?_
  refine e_wrds C hi (by omega) hn d_SV_word_9 ?_
  exact x_iret C hret d_SV_word_10 ⟨rfl, rfl⟩
theorem m_SV_drop {l : Launch} (htr : xTr l) {D : va_G} {a : Nat → ClassId} {base : Nat} {g : Nat → Nat} {n : Nat} {σ : Nat → Nat → Nat → Nat} {w : Nat → Nat → Int32} {Y : Nat → va_E} (hn : 143 ≤ n) (hB : ∀ t i j, σ t i j < 2 ^ 30) {i q : Nat} (hi : i < 5) (hq : q < 30) (h1 : 1 ≤ σ 11 i 0) {k : Nat} (hk : 0 ≤ k) : xM l y_SV_drop b_SV_drop 2 none k D a base g n (EL a g σ w Y) [.ref (g (50 + 4 * i)), .int (nI q)] (fun r E' => E' = EL a g (up3 (up3 σ 12 i q 0) 11 i 0 (σ 11 i 0 - 1)) w Y ∧ r = .inl none) := by
  refine x_method (by decide) htr (Nat.le_of_ble_eq_true rfl) ?_
  intro p e s m args below meth c C hne hret hnm
  have C : xC p l e s m meth c b_SV_drop 2 "ChunkStore$Server" args D xcl (xty a) base := C
  refine x_aload_n C d_SV_drop_0 rfl rfl ?_
  refine g_SV_server_versions C hi hn d_SV_drop_1 ?_
  refine x_iload_n C d_SV_drop_4 rfl rfl ?_
  refine x_iconst C (v := nI 0) d_SV_drop_5 (by decide) ?_
  refine a_vers C hi hq hn d_SV_drop_6 ?_
  refine x_aload_n C d_SV_drop_7 rfl rfl ?_
  refine x_dup C d_SV_drop_8 rfl ?_
  refine g_SV_server_replicas C hi hn d_SV_drop_9 ?_
  refine x_iconst C (v := nI 1) d_SV_drop_12 (by decide) ?_
  refine xn_isub C (by rw [up3_n (by decide)]; exact h1) d_SV_drop_13 ?_
  refine p_SV_server_replicas C hi hn d_SV_drop_14 ?_
  exact x_vret C hret d_SV_drop_17 ⟨by simp only [up3_n (show ¬ 11 = 12 by decide)], rfl⟩
theorem m_SV_addEmpty {l : Launch} (htr : xTr l) {D : va_G} {a : Nat → ClassId} {base : Nat} {g : Nat → Nat} {n : Nat} {σ : Nat → Nat → Nat → Nat} {w : Nat → Nat → Int32} {Y : Nat → va_E} (hn : 143 ≤ n) (hB : ∀ t i j, σ t i j < 2 ^ 30) {i q : Nat} (hi : i < 5) (hq : q < 30) {k : Nat} (hk : 0 ≤ k) : xM l y_SV_addEmpty b_SV_addEmpty 2 none k D a base g n (EL a g σ w Y) [.ref (g (50 + 4 * i)), .int (nI q)] (fun r E' => E' = EL a g (up3 (up3 σ 12 i q 1) 11 i 0 (σ 11 i 0 + 1)) w Y ∧ r = .inl none) := by
  refine x_method (by decide) htr (Nat.le_of_ble_eq_true rfl) ?_
  intro p e s m args below meth c C hne hret hnm
  have C : xC p l e s m meth c b_SV_addEmpty 2 "ChunkStore$Server" args D xcl (xty a) base := C
  refine x_aload_n C d_SV_addEmpty_0 rfl rfl ?_
  refine g_SV_server_versions C hi hn d_SV_addEmpty_1 ?_
  refine x_iload_n C d_SV_addEmpty_4 rfl rfl ?_
  refine x_iconst C (v := nI 1) d_SV_addEmpty_5 (by decide) ?_
  refine a_vers C hi hq hn d_SV_addEmpty_6 ?_
  refine x_aload_n C d_SV_addEmpty_7 rfl rfl ?_
  refine x_dup C d_SV_addEmpty_8 rfl ?_
  refine g_SV_server_replicas C hi hn d_SV_addEmpty_9 ?_
  refine x_iconst C (v := nI 1) d_SV_addEmpty_12 (by decide) ?_
  refine xn_iadd C d_SV_addEmpty_13 ?_
  refine p_SV_server_replicas C hi hn d_SV_addEmpty_14 ?_
  exact x_vret C hret d_SV_addEmpty_17 ⟨by simp only [up3_n (show ¬ 11 = 12 by decide)], rfl⟩
theorem m_FE_addAtEnd {l : Launch} (htr : xTr l) {D : va_G} {a : Nat → ClassId} {base : Nat} {g : Nat → Nat} {n : Nat} {σ : Nat → Nat → Nat → Nat} {w : Nat → Nat → Int32} {Y : Nat → va_E} (hn : 143 ≤ n) (hB : ∀ t i j, σ t i j < 2 ^ 30) {i q : Nat} (hi : i < 8) (hq : q < 2 ^ 31) {k : Nat} (hk : 0 ≤ k) : xM l y_FE_addAtEnd b_FE_addAtEnd 2 none k D a base g n (EL a g σ w Y) [.ref (g (2 + 2 * i)), .int (nI q)] (fun r E' => E' = EL a g (if σ 3 i 0 < 3 then up3 (up3 σ 4 i (σ 3 i 0) q) 3 i 0 (σ 3 i 0 + 1) else σ) w Y ∧ r = .inl none) := by
  refine x_method (by decide) htr (Nat.le_of_ble_eq_true rfl) ?_
  intro p e s m args below meth c C hne hret hnm
  have C : xC p l e s m meth c b_FE_addAtEnd 2 "ChunkStore$FileEntry" args D xcl (xty a) base := C
  refine x_aload_n C d_FE_addAtEnd_0 rfl rfl ?_
  refine g_FE_file_count C hi hn d_FE_addAtEnd_1 ?_
  refine x_iconst C (v := nI 3) d_FE_addAtEnd_4 (by decide) ?_
  refine xn_icmp_ge C (Nat.lt_trans (hB 3 i 0) (by decide)) (by decide) 28 d_FE_addAtEnd_5 (by decide) (fun h5 => ?_) (fun h5 => ?_)
  · exact x_vret C hret d_FE_addAtEnd_28 ⟨by rw [if_neg (by omega)], rfl⟩
  · refine x_aload_n C d_FE_addAtEnd_8 rfl rfl ?_
    refine g_FE_file_row C hi hn d_FE_addAtEnd_9 ?_
    refine x_aload_n C d_FE_addAtEnd_12 rfl rfl ?_
    refine g_FE_file_count C hi hn d_FE_addAtEnd_13 ?_
    refine x_iload_n C d_FE_addAtEnd_16 rfl rfl ?_
    refine a_row C hi (by omega) hn d_FE_addAtEnd_17 ?_
    refine x_aload_n C d_FE_addAtEnd_18 rfl rfl ?_
    refine x_dup C d_FE_addAtEnd_19 rfl ?_
    refine g_FE_file_count C hi hn d_FE_addAtEnd_20 ?_
    refine x_iconst C (v := nI 1) d_FE_addAtEnd_23 (by decide) ?_
    refine xn_iadd C d_FE_addAtEnd_24 ?_
    refine p_FE_file_count C hi hn d_FE_addAtEnd_25 ?_
    exact x_vret C hret d_FE_addAtEnd_28 ⟨by rw [if_pos h5]; simp only [up3_n (show ¬ 3 = 4 by decide)], rfl⟩
theorem m_CS_startChunk {l : Launch} (htr : xTr l) {D : va_G} {a : Nat → ClassId} {base : Nat} {g : Nat → Nat} {n : Nat} {σ : Nat → Nat → Nat → Nat} {w : Nat → Nat → Int32} {Y : Nat → va_E} (hn : 143 ≤ n) (hB : ∀ t i j, σ t i j < 2 ^ 30) {h : Nat} (hm : σ 0 0 0 < 30) {k : Nat} (hk : 0 ≤ k) : xM l y_CS_startChunk b_CS_startChunk 3 none k D a base g n (EL a g σ w Y) [.ref (g 0), .int (nI h)] (fun r E' => E' = EL a g (up3 (up3 (up3 (up3 σ 6 (σ 0 0 0) 0 1) 7 (σ 0 0 0) 0 1) 8 (σ 0 0 0) 0 h) 0 0 0 (σ 0 0 0 + 1)) w Y ∧ r = .inl none) := by
  refine x_method (by decide) htr (Nat.le_of_ble_eq_true rfl) ?_
  intro p e s m args below meth c C hne hret hnm
  have C : xC p l e s m meth c b_CS_startChunk 3 "ChunkStore" args D xcl (xty a) base := C
  refine x_aload_n C d_CS_startChunk_0 rfl rfl ?_
  refine g_CS_cs_chunks C hn d_CS_startChunk_1 ?_
  refine x_aload_n C d_CS_startChunk_4 rfl rfl ?_
  refine g_CS_cs_made C hn d_CS_startChunk_5 ?_
  refine e_arrC C hm hn d_CS_startChunk_8 ?_
  refine x_astore_n C d_CS_startChunk_9 rfl (by decide) rfl ?_
  refine x_aload_n C d_CS_startChunk_10 rfl rfl ?_
  refine x_iconst C (v := nI 1) d_CS_startChunk_11 (by decide) ?_
  refine p_CS_chunk_version C hm hn d_CS_startChunk_12 ?_
  refine x_aload_n C d_CS_startChunk_15 rfl rfl ?_
  refine x_iconst C (v := nI 1) d_CS_startChunk_16 (by decide) ?_
  refine p_CS_chunk_refs C hm hn d_CS_startChunk_17 ?_
  refine x_aload_n C d_CS_startChunk_20 rfl rfl ?_
  refine x_iload_n C d_CS_startChunk_21 rfl rfl ?_
  refine p_CS_chunk_holders C hm hn d_CS_startChunk_22 ?_
  refine x_aload_n C d_CS_startChunk_25 rfl rfl ?_
  refine x_dup C d_CS_startChunk_26 rfl ?_
  refine g_CS_cs_made C hn d_CS_startChunk_27 ?_
  refine x_iconst C (v := nI 1) d_CS_startChunk_30 (by decide) ?_
  refine xn_iadd C d_CS_startChunk_31 ?_
  refine p_CS_cs_made C hn d_CS_startChunk_32 ?_
  exact x_vret C hret d_CS_startChunk_35 ⟨by simp only [up3_n (show ¬ 0 = 6 by decide), up3_n (show ¬ 0 = 7 by decide), up3_n (show ¬ 0 = 8 by decide)], rfl⟩
theorem m_CS_isIn {l : Launch} (htr : xTr l) {D : va_G} {a : Nat → ClassId} {base : Nat} {g : Nat → Nat} {n : Nat} {E : Nat → va_E} {h i : Nat} (hh : h < 32) (hi : i < 5) {k : Nat} (hk : 0 ≤ k) : xM l y_CS_isIn b_CS_isIn 2 (some FieldType.boolean) k D a base g n E [.int (nI h), .int (nI i)] (fun r E' => E' = E ∧ r = .inl (some (.int (nI (b01 (h.testBit i)))))) := by
  refine x_method (by decide) htr (Nat.le_of_ble_eq_true rfl) ?_
  intro p e s m args below meth c C hne hret hnm
  have C : xC p l e s m meth c b_CS_isIn 2 "ChunkStore" args D xcl (xty a) base := C
  refine x_iload_n C d_CS_isIn_0 rfl rfl ?_
  refine x_iconst C (v := nI 1) d_CS_isIn_1 (by decide) ?_
  refine x_iload_n C d_CS_isIn_2 rfl rfl ?_
  refine xn_bit C hi d_CS_isIn_3 ?_
  refine xn_iand C hh (bt_p _ hi) d_CS_isIn_4 ?_
  refine xn_if_eq C (Nat.lt_trans (bt_andlt _ hh _ (bt_p _ hi)) (by decide)) 12 d_CS_isIn_5 (by decide) (fun h5 => ?_) (fun h5 => ?_)
  · refine x_iconst C (v := nI 0) d_CS_isIn_12 (by decide) ?_
    exact x_zret C hret rfl d_CS_isIn_13 ⟨rfl, by rw [bt_and h hh i hi] at h5; simp [b01, h5]⟩
  · refine x_iconst C (v := nI 1) d_CS_isIn_8 (by decide) ?_
    refine x_goto C 13 d_CS_isIn_9 (by decide) ?_
    exact x_zret C hret rfl d_CS_isIn_13 ⟨rfl, by rw [bt_and h hh i hi] at h5; simp [b01, h5]⟩
theorem m_CS_isLeased {l : Launch} (htr : xTr l) {D : va_G} {a : Nat → ClassId} {base : Nat} {g : Nat → Nat} {n : Nat} {σ : Nat → Nat → Nat → Nat} {w : Nat → Nat → Int32} {Y : Nat → va_E} (hn : 143 ≤ n) (hB : ∀ t i j, σ t i j < 2 ^ 30) {i : Nat} (hi : i < 30) {k : Nat} (hk : 0 ≤ k) : xM l y_CS_isLeased b_CS_isLeased 2 (some FieldType.boolean) k D a base g n (EL a g σ w Y) [.ref (g 0), .ref (g (19 + i))] (fun r E' => E' = EL a g σ w Y ∧ r = .inl (some (.int (nI (b01 (decide (σ 1 0 0 < σ 9 i 0))))))) := by
  refine x_method (by decide) htr (Nat.le_of_ble_eq_true rfl) ?_
  intro p e s m args below meth c C hne hret hnm
  have C : xC p l e s m meth c b_CS_isLeased 2 "ChunkStore" args D xcl (xty a) base := C
  refine x_aload_n C d_CS_isLeased_0 rfl rfl ?_
  refine g_CS_chunk_leaseEnd C hi hn d_CS_isLeased_1 ?_
  refine x_aload_n C d_CS_isLeased_4 rfl rfl ?_
  refine g_CS_cs_time C hn d_CS_isLeased_5 ?_
  refine xn_dcmp C (Nat.lt_trans (hB 9 i 0) (by decide)) (Nat.lt_trans (hB 1 0 0) (by decide)) d_CS_isLeased_8 ?_
  refine x_if_le C 16 d_CS_isLeased_9 (by decide) (fun h9 => ?_) (fun h9 => ?_)
  · have h9 := cmpI_le h9
    refine x_iconst C (v := nI 0) d_CS_isLeased_16 (by decide) ?_
    exact x_zret C hret rfl d_CS_isLeased_17 ⟨rfl, by rw [b01_f (by simp; omega)]⟩
  · have h9 := cmpI_nle h9
    refine x_iconst C (v := nI 1) d_CS_isLeased_12 (by decide) ?_
    refine x_goto C 17 d_CS_isLeased_13 (by decide) ?_
    exact x_zret C hret rfl d_CS_isLeased_17 ⟨rfl, by rw [b01_t (by simp; omega)]⟩
theorem m_MA_max {l : Launch} (htr : xTr l) {D : va_G} {a : Nat → ClassId} {base : Nat} {g : Nat → Nat} {n : Nat} {E : Nat → va_E} {x y : Nat} (hx : x < 2 ^ 31) (hy : y < 2 ^ 31) {k : Nat} (hk : 0 ≤ k) : xM l y_MA_max b_MA_max 2 (some FieldType.int) k D a base g n E [.int (nI x), .int (nI y)] (fun r E' => E' = E ∧ r = .inl (some (.int (nI (if y ≤ x then x else y))))) := by
  refine x_methodF (by decide +kernel) htr (Nat.le_of_ble_eq_true rfl) ?_
  intro p e s m args below meth c C hne hret hnm
  have C : xC p l e s m meth c b_MA_max 2 "java/lang/Math" args D xcl (xty a) base := C
  refine x_iload_n C d_MA_max_0 rfl rfl ?_
  refine x_iload_n C d_MA_max_1 rfl rfl ?_
  refine xn_icmp_lt C hx hy 9 d_MA_max_2 (by decide) (fun h2 => ?_) (fun h2 => ?_)
  · refine x_iload_n C d_MA_max_9 rfl rfl ?_
    exact x_iret C hret d_MA_max_10 ⟨rfl, by first | rw [if_pos (by omega)] | rw [if_neg (by omega)]⟩
  · refine x_iload_n C d_MA_max_5 rfl rfl ?_
    refine x_goto C 10 d_MA_max_6 (by decide) ?_
    exact x_iret C hret d_MA_max_10 ⟨rfl, by first | rw [if_pos (by omega)] | rw [if_neg (by omega)]⟩
theorem m_CS_countThere {l : Launch} (htr : xTr l) {D : va_G} {a : Nat → ClassId} {base : Nat} {g : Nat → Nat} {n : Nat} {σ : Nat → Nat → Nat → Nat} {w : Nat → Nat → Int32} {Y : Nat → va_E} (hn : 143 ≤ n) (hB : ∀ t i j, σ t i j < 2 ^ 30)  {k : Nat} (hk : 0 ≤ k) : xM l y_CS_countThere b_CS_countThere 3 (some FieldType.int) k D a base g n (EL a g σ w Y) [.ref (g 0)] (fun r E' => E' = EL a g σ w Y ∧ r = .inl (some (.int (nI (nThere σ 8))))) := by
  refine x_method (by decide) htr (Nat.le_of_ble_eq_true rfl) ?_
  intro p e s m args below meth c C hne hret hnm
  have C : xC p l e s m meth c b_CS_countThere 3 "ChunkStore" args D xcl (xty a) base := C
  refine x_iconst C (v := nI 0) d_CS_countThere_0 (by decide) ?_
  refine x_istore_n C d_CS_countThere_1 rfl (by decide) rfl ?_
  refine x_iconst C (v := nI 0) d_CS_countThere_2 (by decide) ?_
  refine x_istore_n C d_CS_countThere_3 rfl (by decide) rfl ?_
  refine x_loop 8 (fun i => EL a g σ w Y) (fun i => [(0, .ref (g (0))), (1, .int (nI (nThere σ i))), (2, .int (nI i))]) (fun i => True) rfl ⟨rfl, rfl, rfl, trivial⟩ trivial ?_
  intro i hi hIi ihi
  refine x_iload_n C d_CS_countThere_4 rfl rfl ?_
  refine x_bipush C (v := nI 8) d_CS_countThere_5 (by decide) ?_
  refine xn_icmp_ge C (by omega) (by decide) 32 d_CS_countThere_7 (by decide) (fun h7 => ?_) (fun h7 => ?_)
  · refine x_iload_n C d_CS_countThere_32 rfl rfl ?_
    exact x_iret C hret d_CS_countThere_33 ⟨rfl, by rw [show i = 8 by omega]⟩
  · refine x_aload_n C d_CS_countThere_10 rfl rfl ?_
    refine g_CS_cs_files C hn d_CS_countThere_11 ?_
    refine x_iload_n C d_CS_countThere_14 rfl rfl ?_
    refine e_arrF C (by omega) hn d_CS_countThere_15 ?_
    refine g_CS_file_state C (by omega) hn d_CS_countThere_16 ?_
    refine x_iconst C (v := nI 1) d_CS_countThere_19 (by decide) ?_
    refine xn_icmp_ne C (Nat.lt_trans (hB 2 i 0) (by decide)) (by decide) 26 d_CS_countThere_20 (by decide) (fun h20 => ?_) (fun h20 => ?_)
    · refine x_lv [(0, .ref (g (0))), (1, .int (nI (nThere σ i))), (2, .int (nI i))] ⟨rfl, rfl, rfl, trivial⟩ ?_
      refine xn_iinc C d_CS_countThere_26 2 rfl (by decide) rfl ?_
      refine x_goto C 4 d_CS_countThere_29 (by decide) ?_
      exact x_lv [(0, .ref (g (0))), (1, .int (nI (nThere σ (i + 1)))), (2, .int (nI (i + 1)))] ⟨rfl, by rw [show nThere σ (i + 1) = nThere σ i by rw [nThere, if_neg h20]]; rfl, rfl, trivial⟩ (ihi (by omega) trivial)
    · refine x_lv [(0, .ref (g (0))), (1, .int (nI (nThere σ i))), (2, .int (nI i))] ⟨rfl, rfl, rfl, trivial⟩ ?_
      refine xn_iinc C d_CS_countThere_23 1 rfl (by decide) rfl ?_
      refine x_lv [(0, .ref (g (0))), (1, .int (nI ((nThere σ i) + 1))), (2, .int (nI i))] ⟨rfl, rfl, rfl, trivial⟩ ?_
      refine xn_iinc C d_CS_countThere_26 2 rfl (by decide) rfl ?_
      refine x_goto C 4 d_CS_countThere_29 (by decide) ?_
      exact x_lv [(0, .ref (g (0))), (1, .int (nI (nThere σ (i + 1)))), (2, .int (nI (i + 1)))] ⟨rfl, by rw [show nThere σ (i + 1) = nThere σ i + 1 by rw [nThere, if_pos h20]]; rfl, rfl, trivial⟩ (ihi (by omega) trivial)
end XM1
