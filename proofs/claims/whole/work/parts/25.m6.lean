section XM6
/-- what the calls need of the state -/
def Ok (σ : xSig) : Prop := (∀ t i j, σ t i j < 2 ^ 28) ∧ σ 0 0 0 ≤ 30 ∧ (∀ f, f < 8 → σ 3 f 0 ≤ 3 ∧ ∀ p, p < σ 3 f 0 → σ 4 f p < σ 0 0 0) ∧ (∀ c, σ 8 c 0 < 32) ∧ (∀ k, k < 72 → σ 14 k 0 < 30 ∧ σ 16 k 0 < 32) ∧ (∀ f, f < 8 → σ 5 f 0 ≤ σ 1 0 0)
/-- the answer, or which throw -/
def cr (L : List String) (k : Nat) (v : Value) : xR := if k = 0 then .inl (some v) else .inr (L.getD (k - 1) "")
def qc_create (σ : xSig) (x : Int32) : Nat := if inR x 8 = true then (if σ 2 (ix x) 0 = 0 then 0 else 2) else 1
def qc_remove (σ : xSig) (x : Int32) : Nat := if inR x 8 = true then (if σ 2 (ix x) 0 = 1 then 0 else 2) else 1
def qc_restore (σ : xSig) (x : Int32) : Nat := if inR x 8 = true then (if σ 2 (ix x) 0 = 2 then 0 else 2) else 1
def qc_extend (σ : xSig) (x : Int32) : Nat := if inR x 8 = true then (if σ 2 (ix x) 0 = 1 then (if mkC σ (ix x) = 0 then 0 else if mkC σ (ix x) = 1 then 4 else 3) else 2) else 1
def qc_locate (σ : xSig) (x y z : Int32) : Nat := if inR x 3 = true ∧ inR y 8 = true ∧ inR z 3 = true then fdC σ (ix y) (ix z) else 1
def kix (i f q : Nat) : Nat := (i * 8 + f) * 3 + q
def qc_up (σ : xSig) (x : Int32) : Nat := if inR x 5 = true then 0 else 1
def qc_look (σ : xSig) (x y z : Int32) : Nat := if inR x 5 = true ∧ inR y 30 = true ∧ inR z 6 = true then (if 0 < σ 12 (ix x) (ix y) then 0 else 2) else 1
def qa_look (σ : xSig) (w : xWrd) (s c u : Nat) : Int32 := if u = 0 then nI (σ 12 s c) else if u = 1 then nI (σ 13 s c) else w s (c * 4 + (u - 2))
def qc_file (σ : xSig) (x y : Int32) : Nat := if inR x 8 = true ∧ inR y 5 = true then 0 else 1
def qa_file (σ : xSig) (f u : Nat) : Int32 := if u = 0 then nI (σ 2 f 0) else if u = 1 then nI (σ 3 f 0) else if u - 2 < σ 3 f 0 then nI (σ 4 f (u - 2)) else -1
def qc_chunk (σ : xSig) (x y : Int32) : Nat := if inR x 30 = true ∧ inR y 5 = true then (if ix x < σ 0 0 0 then 0 else 2) else 1
def qa_chunk (σ : xSig) (c u : Nat) : Int32 := if u = 0 then nI (σ 6 c 0) else if u = 1 then nI (σ 7 c 0) else if u = 2 then nI (σ 8 c 0) else if u = 3 then nI (pop5 (lvh σ c)) else nI (b01 (decide (σ 1 0 0 < σ 9 c 0)))
theorem mkC_le (σ : xSig) (f : Nat) : mkC σ f ≤ 2 := by unfold mkC; split <;> (try split) <;> omega
theorem m_CS_create {l : Launch} (htr : xTr l) {D : va_G} {a : Nat → ClassId} {base : Nat} {g : Nat → Nat} {n : Nat} {σ : xSig} {w : xWrd} {Y : Nat → va_E} (hn : 143 ≤ n) (hO : Ok σ) {x : Int32}  {k : Nat} (hk : 1 ≤ k) : xM l y_CS_create b_CS_create 3 (some FieldType.int) k D a base g n (EL a g σ w Y) [.ref (g 0), .int x] (fun r E' => E' = EL a g (if qc_create σ x = 0 then up3 σ 2 (ix x) 0 1 else σ) w Y ∧ r = cr [e_IA, e_IS] (qc_create σ x) (.int (nI (nThere (up3 σ 2 (ix x) 0 1) 8)))) := by
  refine x_method (by decide) htr (Nat.le_of_ble_eq_true rfl) ?_
  intro p e s m args below meth c C hne hret hnm
  have C : xC p l e s m meth c b_CS_create 3 "ChunkStore" args D xcl (xty a) base := C
  have hB : ∀ t i j, σ t i j < 2 ^ 30 := fun t i j => Nat.lt_trans (hO.1 t i j) (by decide)
  have hH := hO.2.2.2.1
  have hS : ∀ i, σ 11 i 0 < 2 ^ 29 := fun i => Nat.lt_trans (hO.1 _ _ _) (by decide)
  refine x_iload_n C d_CS_create_0 rfl rfl ?_
  refine x_bipush C (v := nI 8) d_CS_create_1 (by decide) ?_
  refine c_CS_CS_checkRange C (by omega) (m_CS_checkRange htr (by decide) (Nat.le_refl _)) rfl rfl (Nat.le_of_ble_eq_true rfl) d_CS_create_3 (fun v E' hp => ?_) (fun X E' hp => ?_)
  · obtain ⟨rfl, hv⟩ := hp
    obtain ⟨h3, rfl⟩ := rif_l hv
    obtain ⟨i, hi, rfl⟩ := inR_of h3
    refine x_aload_n C d_CS_create_6 rfl rfl ?_
    refine x_iload_n C d_CS_create_7 rfl rfl ?_
    refine c_CS_CS_fileNotYet C (by omega) hn (m_CS_fileNotYet htr hn hB hi (Nat.le_refl _)) rfl rfl (Nat.le_of_ble_eq_true rfl) d_CS_create_8 (fun v E' hp => ?_) (fun X E' hp => ?_)
    · obtain ⟨rfl, hv⟩ := hp
      obtain ⟨h8, rfl⟩ := rif_l hv
      refine x_astore_n C d_CS_create_11 rfl (by decide) rfl ?_
      refine x_aload_n C d_CS_create_12 rfl rfl ?_
      refine x_iconst C (v := nI 1) d_CS_create_13 (by decide) ?_
      refine p_CS_file_state C hi hn d_CS_create_14 ?_
      refine x_aload_n C d_CS_create_17 rfl rfl ?_
      refine c_CS_CS_countThere C (by omega) hn (m_CS_countThere htr hn (up3_B hB (by omega)) (Nat.le_refl _)) rfl rfl (Nat.le_of_ble_eq_true rfl) d_CS_create_18 (fun v E' hp => ?_) (fun X E' hp => ?_)
      · obtain ⟨rfl, hv⟩ := hp
        cases hv
        exact x_iret C hret d_CS_create_21 ⟨by rw [show qc_create σ (nI i) = 0 by rw [qc_create, if_pos (inR_nI hi (by decide))]; simp only [ix_nI (show i < 2 ^ 31 by omega)]; rw [if_pos h8], if_pos rfl, ix_nI (by omega)], by rw [show qc_create σ (nI i) = 0 by rw [qc_create, if_pos (inR_nI hi (by decide))]; simp only [ix_nI (show i < 2 ^ 31 by omega)]; rw [if_pos h8], ix_nI (by omega)]; rfl⟩
      · cases hp.2
    · obtain ⟨rfl, hv⟩ := hp
      obtain ⟨h8, rfl⟩ := rif_r hv
      exact x_prop C hne (Nat.le_refl _) (Nat.le_refl _) ⟨by rw [show qc_create σ (nI i) = 2 by rw [qc_create, if_pos (inR_nI hi (by decide))]; simp only [ix_nI (show i < 2 ^ 31 by omega)]; rw [if_neg h8], if_neg (by decide)], by rw [show qc_create σ (nI i) = 2 by rw [qc_create, if_pos (inR_nI hi (by decide))]; simp only [ix_nI (show i < 2 ^ 31 by omega)]; rw [if_neg h8]]; rfl⟩
  · obtain ⟨rfl, hv⟩ := hp
    obtain ⟨h3, rfl⟩ := rif_r hv
    exact x_prop C hne (Nat.le_refl _) (Nat.le_refl _) ⟨by rw [show qc_create σ  x = 1 by rw [qc_create, if_neg h3], if_neg (by decide)], by rw [show qc_create σ  x = 1 by rw [qc_create, if_neg h3]]; rfl⟩
theorem m_CS_remove {l : Launch} (htr : xTr l) {D : va_G} {a : Nat → ClassId} {base : Nat} {g : Nat → Nat} {n : Nat} {σ : xSig} {w : xWrd} {Y : Nat → va_E} (hn : 143 ≤ n) (hO : Ok σ) {x : Int32}  {k : Nat} (hk : 1 ≤ k) : xM l y_CS_remove b_CS_remove 3 (some FieldType.int) k D a base g n (EL a g σ w Y) [.ref (g 0), .int x] (fun r E' => E' = EL a g (if qc_remove σ x = 0 then up3 (up3 σ 2 (ix x) 0 2) 5 (ix x) 0 (σ 1 0 0) else σ) w Y ∧ r = cr [e_IA, e_NS] (qc_remove σ x) (.int (nI (σ 3 (ix x) 0)))) := by
  refine x_method (by decide) htr (Nat.le_of_ble_eq_true rfl) ?_
  intro p e s m args below meth c C hne hret hnm
  have C : xC p l e s m meth c b_CS_remove 3 "ChunkStore" args D xcl (xty a) base := C
  have hB : ∀ t i j, σ t i j < 2 ^ 30 := fun t i j => Nat.lt_trans (hO.1 t i j) (by decide)
  have hH := hO.2.2.2.1
  have hS : ∀ i, σ 11 i 0 < 2 ^ 29 := fun i => Nat.lt_trans (hO.1 _ _ _) (by decide)
  refine x_iload_n C d_CS_remove_0 rfl rfl ?_
  refine x_bipush C (v := nI 8) d_CS_remove_1 (by decide) ?_
  refine c_CS_CS_checkRange C (by omega) (m_CS_checkRange htr (by decide) (Nat.le_refl _)) rfl rfl (Nat.le_of_ble_eq_true rfl) d_CS_remove_3 (fun v E' hp => ?_) (fun X E' hp => ?_)
  · obtain ⟨rfl, hv⟩ := hp
    obtain ⟨h3, rfl⟩ := rif_l hv
    obtain ⟨i, hi, rfl⟩ := inR_of h3
    refine x_aload_n C d_CS_remove_6 rfl rfl ?_
    refine x_iload_n C d_CS_remove_7 rfl rfl ?_
    refine c_CS_CS_fileThere C (by omega) hn (m_CS_fileThere htr hn hB hi (Nat.le_refl _)) rfl rfl (Nat.le_of_ble_eq_true rfl) d_CS_remove_8 (fun v E' hp => ?_) (fun X E' hp => ?_)
    · obtain ⟨rfl, hv⟩ := hp
      obtain ⟨h8, rfl⟩ := rif_l hv
      refine x_astore_n C d_CS_remove_11 rfl (by decide) rfl ?_
      refine x_aload_n C d_CS_remove_12 rfl rfl ?_
      refine x_iconst C (v := nI 2) d_CS_remove_13 (by decide) ?_
      refine p_CS_file_state C hi hn d_CS_remove_14 ?_
      refine x_aload_n C d_CS_remove_17 rfl rfl ?_
      refine x_aload_n C d_CS_remove_18 rfl rfl ?_
      refine g_CS_cs_time C hn d_CS_remove_19 ?_
      refine p_CS_file_hiddenSince C hi hn d_CS_remove_22 ?_
      refine x_aload_n C d_CS_remove_25 rfl rfl ?_
      refine g_CS_file_count C hi hn d_CS_remove_26 ?_
      exact x_iret C hret d_CS_remove_29 ⟨by rw [show qc_remove σ (nI i) = 0 by rw [qc_remove, if_pos (inR_nI hi (by decide))]; simp only [ix_nI (show i < 2 ^ 31 by omega)]; rw [if_pos h8], if_pos rfl, ix_nI (by omega), up3_n (show ¬ 1 = 2 by decide)], by rw [show qc_remove σ (nI i) = 0 by rw [qc_remove, if_pos (inR_nI hi (by decide))]; simp only [ix_nI (show i < 2 ^ 31 by omega)]; rw [if_pos h8], ix_nI (by omega), up3_n (by decide), up3_n (by decide)]; rfl⟩
    · obtain ⟨rfl, hv⟩ := hp
      obtain ⟨h8, rfl⟩ := rif_r hv
      exact x_prop C hne (Nat.le_refl _) (Nat.le_refl _) ⟨by rw [show qc_remove σ (nI i) = 2 by rw [qc_remove, if_pos (inR_nI hi (by decide))]; simp only [ix_nI (show i < 2 ^ 31 by omega)]; rw [if_neg h8], if_neg (by decide)], by rw [show qc_remove σ (nI i) = 2 by rw [qc_remove, if_pos (inR_nI hi (by decide))]; simp only [ix_nI (show i < 2 ^ 31 by omega)]; rw [if_neg h8]]; rfl⟩
  · obtain ⟨rfl, hv⟩ := hp
    obtain ⟨h3, rfl⟩ := rif_r hv
    exact x_prop C hne (Nat.le_refl _) (Nat.le_refl _) ⟨by rw [show qc_remove σ  x = 1 by rw [qc_remove, if_neg h3], if_neg (by decide)], by rw [show qc_remove σ  x = 1 by rw [qc_remove, if_neg h3]]; rfl⟩
theorem m_CS_restore {l : Launch} (htr : xTr l) {D : va_G} {a : Nat → ClassId} {base : Nat} {g : Nat → Nat} {n : Nat} {σ : xSig} {w : xWrd} {Y : Nat → va_E} (hn : 143 ≤ n) (hO : Ok σ) {x : Int32}  {k : Nat} (hk : 1 ≤ k) : xM l y_CS_restore b_CS_restore 3 (some FieldType.int) k D a base g n (EL a g σ w Y) [.ref (g 0), .int x] (fun r E' => E' = EL a g (if qc_restore σ x = 0 then up3 σ 2 (ix x) 0 1 else σ) w Y ∧ r = cr [e_IA, e_NS] (qc_restore σ x) (.int (nI (σ 3 (ix x) 0)))) := by
  refine x_method (by decide) htr (Nat.le_of_ble_eq_true rfl) ?_
  intro p e s m args below meth c C hne hret hnm
  have C : xC p l e s m meth c b_CS_restore 3 "ChunkStore" args D xcl (xty a) base := C
  have hB : ∀ t i j, σ t i j < 2 ^ 30 := fun t i j => Nat.lt_trans (hO.1 t i j) (by decide)
  have hH := hO.2.2.2.1
  have hS : ∀ i, σ 11 i 0 < 2 ^ 29 := fun i => Nat.lt_trans (hO.1 _ _ _) (by decide)
  refine x_iload_n C d_CS_restore_0 rfl rfl ?_
  refine x_bipush C (v := nI 8) d_CS_restore_1 (by decide) ?_
  refine c_CS_CS_checkRange C (by omega) (m_CS_checkRange htr (by decide) (Nat.le_refl _)) rfl rfl (Nat.le_of_ble_eq_true rfl) d_CS_restore_3 (fun v E' hp => ?_) (fun X E' hp => ?_)
  · obtain ⟨rfl, hv⟩ := hp
    obtain ⟨h3, rfl⟩ := rif_l hv
    obtain ⟨i, hi, rfl⟩ := inR_of h3
    refine x_aload_n C d_CS_restore_6 rfl rfl ?_
    refine g_CS_cs_files C hn d_CS_restore_7 ?_
    refine x_iload_n C d_CS_restore_10 rfl rfl ?_
    refine e_arrF C hi hn d_CS_restore_11 ?_
    refine x_astore_n C d_CS_restore_12 rfl (by decide) rfl ?_
    refine x_aload_n C d_CS_restore_13 rfl rfl ?_
    refine g_CS_file_state C hi hn d_CS_restore_14 ?_
    refine x_iconst C (v := nI 2) d_CS_restore_17 (by decide) ?_
    refine xn_icmp_eq C (Nat.lt_trans (hB 2 i 0) (by decide)) (by decide) 31 d_CS_restore_18 (by decide) (fun h18 => ?_) (fun h18 => ?_)
    · refine x_aload_n C d_CS_restore_31 rfl rfl ?_
      refine x_iconst C (v := nI 1) d_CS_restore_32 (by decide) ?_
      refine p_CS_file_state C hi hn d_CS_restore_33 ?_
      refine x_aload_n C d_CS_restore_36 rfl rfl ?_
      refine g_CS_file_count C hi hn d_CS_restore_37 ?_
      exact x_iret C hret d_CS_restore_40 ⟨by rw [show qc_restore σ (nI i) = 0 by rw [qc_restore, if_pos (inR_nI hi (by decide))]; simp only [ix_nI (show i < 2 ^ 31 by omega)]; rw [if_pos h18], if_pos rfl, ix_nI (by omega)], by rw [show qc_restore σ (nI i) = 0 by rw [qc_restore, if_pos (inR_nI hi (by decide))]; simp only [ix_nI (show i < 2 ^ 31 by omega)]; rw [if_pos h18], ix_nI (by omega), up3_n (by decide)]; rfl⟩
    · exact th_NS C hne (Nat.le_of_ble_eq_true rfl) d_CS_restore_21 d_CS_restore_24 d_CS_restore_25 d_CS_restore_27 d_CS_restore_30 (tx := "the file is not hidden") (by decide) ⟨by rw [show qc_restore σ (nI i) = 2 by rw [qc_restore, if_pos (inR_nI hi (by decide))]; simp only [ix_nI (show i < 2 ^ 31 by omega)]; rw [if_neg h18], if_neg (by decide)], by rw [show qc_restore σ (nI i) = 2 by rw [qc_restore, if_pos (inR_nI hi (by decide))]; simp only [ix_nI (show i < 2 ^ 31 by omega)]; rw [if_neg h18]]; rfl⟩
  · obtain ⟨rfl, hv⟩ := hp
    obtain ⟨h3, rfl⟩ := rif_r hv
    exact x_prop C hne (Nat.le_refl _) (Nat.le_refl _) ⟨by rw [show qc_restore σ  x = 1 by rw [qc_restore, if_neg h3], if_neg (by decide)], by rw [show qc_restore σ  x = 1 by rw [qc_restore, if_neg h3]]; rfl⟩
theorem m_CS_extend {l : Launch} (htr : xTr l) {D : va_G} {a : Nat → ClassId} {base : Nat} {g : Nat → Nat} {n : Nat} {σ : xSig} {w : xWrd} {Y : Nat → va_E} (hn : 143 ≤ n) (hO : Ok σ) {x : Int32}  {k : Nat} (hk : 4 ≤ k) : xM l y_CS_extend b_CS_extend 2 (some FieldType.int) k D a base g n (EL a g σ w Y) [.ref (g 0), .int x] (fun r E' => E' = EL a g (if qc_extend σ x = 0 then mkS σ (ix x) else σ) w Y ∧ r = cr [e_IA, e_NS, e_IS, e_IO] (qc_extend σ x) (.int (nI (σ 0 0 0)))) := by
  refine x_method (by decide) htr (Nat.le_of_ble_eq_true rfl) ?_
  intro p e s m args below meth c C hne hret hnm
  have C : xC p l e s m meth c b_CS_extend 2 "ChunkStore" args D xcl (xty a) base := C
  have hB : ∀ t i j, σ t i j < 2 ^ 30 := fun t i j => Nat.lt_trans (hO.1 t i j) (by decide)
  have hH := hO.2.2.2.1
  have hS : ∀ i, σ 11 i 0 < 2 ^ 29 := fun i => Nat.lt_trans (hO.1 _ _ _) (by decide)
  refine x_iload_n C d_CS_extend_0 rfl rfl ?_
  refine x_bipush C (v := nI 8) d_CS_extend_1 (by decide) ?_
  refine c_CS_CS_checkRange C (by omega) (m_CS_checkRange htr (by decide) (Nat.le_refl _)) rfl rfl (Nat.le_of_ble_eq_true rfl) d_CS_extend_3 (fun v E' hp => ?_) (fun X E' hp => ?_)
  · obtain ⟨rfl, hv⟩ := hp
    obtain ⟨h3, rfl⟩ := rif_l hv
    obtain ⟨i, hi, rfl⟩ := inR_of h3
    refine x_aload_n C d_CS_extend_6 rfl rfl ?_
    refine x_aload_n C d_CS_extend_7 rfl rfl ?_
    refine x_iload_n C d_CS_extend_8 rfl rfl ?_
    refine c_CS_CS_fileThere C (by omega) hn (m_CS_fileThere htr hn hB hi (Nat.le_refl _)) rfl rfl (Nat.le_of_ble_eq_true rfl) d_CS_extend_9 (fun v E' hp => ?_) (fun X E' hp => ?_)
    · obtain ⟨rfl, hv⟩ := hp
      obtain ⟨h9, rfl⟩ := rif_l hv
      refine c_CS_CS_makeChunk C (by omega) hn (m_CS_makeChunk htr hn hB hH hS hi (Nat.le_refl _)) rfl rfl (Nat.le_of_ble_eq_true rfl) d_CS_extend_12 (fun v E' hp => ?_) (fun X E' hp => ?_)
      · obtain ⟨rfl, hv⟩ := hp
        obtain ⟨h12, rfl⟩ := rif_l hv
        rw [if_pos h12]
        exact x_iret C hret d_CS_extend_15 ⟨by rw [show qc_extend σ (nI i) = 0 by rw [qc_extend, if_pos (inR_nI hi (by decide))]; simp only [ix_nI (show i < 2 ^ 31 by omega)]; rw [if_pos h9, if_pos h12], if_pos rfl, ix_nI (by omega)], by rw [show qc_extend σ (nI i) = 0 by rw [qc_extend, if_pos (inR_nI hi (by decide))]; simp only [ix_nI (show i < 2 ^ 31 by omega)]; rw [if_pos h9, if_pos h12]]; rfl⟩
      · obtain ⟨rfl, hv⟩ := hp
        obtain ⟨h12, rfl⟩ := rif_r hv
        rw [if_neg h12]
        exact x_prop C hne (Nat.le_refl _) (Nat.le_refl _) (by by_cases q : mkC σ i = 1; exact ⟨by rw [show qc_extend σ (nI i) = 4 by rw [qc_extend, if_pos (inR_nI hi (by decide))]; simp only [ix_nI (show i < 2 ^ 31 by omega)]; rw [if_pos h9, if_neg h12, if_pos q], if_neg (by decide)], by rw [show qc_extend σ (nI i) = 4 by rw [qc_extend, if_pos (inR_nI hi (by decide))]; simp only [ix_nI (show i < 2 ^ 31 by omega)]; rw [if_pos h9, if_neg h12, if_pos q], q]; rfl⟩; have q2 : mkC σ i = 2 := (by have := mkC_le σ i; omega); exact ⟨by rw [show qc_extend σ (nI i) = 3 by rw [qc_extend, if_pos (inR_nI hi (by decide))]; simp only [ix_nI (show i < 2 ^ 31 by omega)]; rw [if_pos h9, if_neg h12, if_neg q], if_neg (by decide)], by rw [show qc_extend σ (nI i) = 3 by rw [qc_extend, if_pos (inR_nI hi (by decide))]; simp only [ix_nI (show i < 2 ^ 31 by omega)]; rw [if_pos h9, if_neg h12, if_neg q], q2]; rfl⟩)
    · obtain ⟨rfl, hv⟩ := hp
      obtain ⟨h9, rfl⟩ := rif_r hv
      exact x_prop C hne (Nat.le_refl _) (Nat.le_refl _) ⟨by rw [show qc_extend σ (nI i) = 2 by rw [qc_extend, if_pos (inR_nI hi (by decide))]; simp only [ix_nI (show i < 2 ^ 31 by omega)]; rw [if_neg h9], if_neg (by decide)], by rw [show qc_extend σ (nI i) = 2 by rw [qc_extend, if_pos (inR_nI hi (by decide))]; simp only [ix_nI (show i < 2 ^ 31 by omega)]; rw [if_neg h9]]; rfl⟩
  · obtain ⟨rfl, hv⟩ := hp
    obtain ⟨h3, rfl⟩ := rif_r hv
    exact x_prop C hne (Nat.le_refl _) (Nat.le_refl _) ⟨by rw [show qc_extend σ  x = 1 by rw [qc_extend, if_neg h3], if_neg (by decide)], by rw [show qc_extend σ  x = 1 by rw [qc_extend, if_neg h3]]; rfl⟩
theorem fdS_B {σ : xSig} {K f q : Nat} (hO : Ok σ) : ∀ t i j, fdS σ K f q t i j < 2 ^ 30 := by
  have hB : ∀ t i j, σ t i j < 2 ^ 30 := fun t i j => Nat.lt_trans (hO.1 t i j) (by decide)
  unfold fdS
  split
  · exact hB
  · exact up3_B (up3_B (up3_B (up3_B hB (hB _ _ _)) (hB _ _ _)) (hB _ _ _)) (by have := hO.1 1 0 0; omega)
theorem fdC_c (σ : xSig) (f q : Nat) : fdC σ f q = 0 ∨ fdC σ f q = 2 ∨ fdC σ f q = 3 := by unfold fdC; split <;> (try split) <;> omega
theorem m_CS_locate {l : Launch} (htr : xTr l) {D : va_G} {a : Nat → ClassId} {base : Nat} {g : Nat → Nat} {n : Nat} {σ : xSig} {w : xWrd} {Y : Nat → va_E} (hn : 143 ≤ n) (hO : Ok σ) {x y z : Int32}  {k : Nat} (hk : 2 ≤ k) : xM l y_CS_locate b_CS_locate 4 (some FieldType.int) k D a base g n (EL a g σ w Y) [.ref (g 0), .int x, .int y, .int z] (fun r E' => E' = EL a g (if qc_locate σ x y z = 0 then fdS σ (kix (ix x) (ix y) (ix z)) (ix y) (ix z) else σ) w Y ∧ r = cr [e_IA, e_NS, e_IO] (qc_locate σ x y z) (.int (nI (fdS σ (kix (ix x) (ix y) (ix z)) (ix y) (ix z) 15 (kix (ix x) (ix y) (ix z)) 0)))) := by
  refine x_method (by decide) htr (Nat.le_of_ble_eq_true rfl) ?_
  intro p e s m args below meth c C hne hret hnm
  have C : xC p l e s m meth c b_CS_locate 4 "ChunkStore" args D xcl (xty a) base := C
  have hB : ∀ t i j, σ t i j < 2 ^ 30 := fun t i j => Nat.lt_trans (hO.1 t i j) (by decide)
  have hH := hO.2.2.2.1
  have hS : ∀ i, σ 11 i 0 < 2 ^ 29 := fun i => Nat.lt_trans (hO.1 _ _ _) (by decide)
  refine x_iload_n C d_CS_locate_0 rfl rfl ?_
  refine x_iconst C (v := nI 3) d_CS_locate_1 (by decide) ?_
  refine c_CS_CS_checkRange C (by omega) (m_CS_checkRange htr (by decide) (Nat.le_refl _)) rfl rfl (Nat.le_of_ble_eq_true rfl) d_CS_locate_2 (fun v E' hp => ?_) (fun X E' hp => ?_)
  · obtain ⟨rfl, hv⟩ := hp
    obtain ⟨h2, rfl⟩ := rif_l hv
    obtain ⟨i, hi, rfl⟩ := inR_of h2
    refine x_iload_n C d_CS_locate_5 rfl rfl ?_
    refine x_bipush C (v := nI 8) d_CS_locate_6 (by decide) ?_
    refine c_CS_CS_checkRange C (by omega) (m_CS_checkRange htr (by decide) (Nat.le_refl _)) rfl rfl (Nat.le_of_ble_eq_true rfl) d_CS_locate_8 (fun v E' hp => ?_) (fun X E' hp => ?_)
    · obtain ⟨rfl, hv⟩ := hp
      obtain ⟨h8, rfl⟩ := rif_l hv
      obtain ⟨f, hf, rfl⟩ := inR_of h8
      refine x_iload_n C d_CS_locate_11 rfl rfl ?_
      refine x_iconst C (v := nI 3) d_CS_locate_12 (by decide) ?_
      refine c_CS_CS_checkRange C (by omega) (m_CS_checkRange htr (by decide) (Nat.le_refl _)) rfl rfl (Nat.le_of_ble_eq_true rfl) d_CS_locate_13 (fun v E' hp => ?_) (fun X E' hp => ?_)
      · obtain ⟨rfl, hv⟩ := hp
        obtain ⟨h13, rfl⟩ := rif_l hv
        obtain ⟨q, hq, rfl⟩ := inR_of h13
        refine x_aload_n C d_CS_locate_16 rfl rfl ?_
        refine x_iload_n C d_CS_locate_17 rfl rfl ?_
        refine x_iload_n C d_CS_locate_18 rfl rfl ?_
        refine x_iload_n C d_CS_locate_19 rfl rfl ?_
        refine c_CS_CS_find C (by omega) hn (m_CS_find htr hn hB hi hf hq (fun h => Nat.lt_of_lt_of_le ((hO.2.2.1 f hf).2 q h) hO.2.1) (Nat.le_refl _)) rfl rfl (Nat.le_of_ble_eq_true rfl) d_CS_locate_20 (fun v E' hp => ?_) (fun X E' hp => ?_)
        · obtain ⟨rfl, hv⟩ := hp
          obtain ⟨h20, rfl⟩ := rif_l hv
          rw [if_pos h20]
          refine g_CS_kept_version C (show (i * 8 + f) * 3 + q < 72 by omega) hn d_CS_locate_23 ?_
          exact x_iret C hret d_CS_locate_26 ⟨by rw [show qc_locate σ (nI i) (nI f) (nI q) = 0 by rw [qc_locate, if_pos ⟨inR_nI hi (by decide), inR_nI hf (by decide), inR_nI hq (by decide)⟩]; simp only [ix_nI (show i < 2 ^ 31 by omega), ix_nI (show f < 2 ^ 31 by omega), ix_nI (show q < 2 ^ 31 by omega)]; exact h20, if_pos rfl, ix_nI (show i < 2 ^ 31 by omega), ix_nI (show f < 2 ^ 31 by omega), ix_nI (show q < 2 ^ 31 by omega), kix], by rw [show qc_locate σ (nI i) (nI f) (nI q) = 0 by rw [qc_locate, if_pos ⟨inR_nI hi (by decide), inR_nI hf (by decide), inR_nI hq (by decide)⟩]; simp only [ix_nI (show i < 2 ^ 31 by omega), ix_nI (show f < 2 ^ 31 by omega), ix_nI (show q < 2 ^ 31 by omega)]; exact h20, ix_nI (show i < 2 ^ 31 by omega), ix_nI (show f < 2 ^ 31 by omega), ix_nI (show q < 2 ^ 31 by omega), kix]; rfl⟩
        · obtain ⟨rfl, hv⟩ := hp
          obtain ⟨h20, rfl⟩ := rif_r hv
          rw [if_neg h20]
          exact x_prop C hne (Nat.le_refl _) (Nat.le_refl _) (by rcases fdC_c σ f q with e | e | e; exact absurd e h20; exact ⟨by rw [show qc_locate σ (nI i) (nI f) (nI q) = fdC σ f q by rw [qc_locate, if_pos ⟨inR_nI hi (by decide), inR_nI hf (by decide), inR_nI hq (by decide)⟩]; simp only [ix_nI (show i < 2 ^ 31 by omega), ix_nI (show f < 2 ^ 31 by omega), ix_nI (show q < 2 ^ 31 by omega)], if_neg h20], by rw [show qc_locate σ (nI i) (nI f) (nI q) = fdC σ f q by rw [qc_locate, if_pos ⟨inR_nI hi (by decide), inR_nI hf (by decide), inR_nI hq (by decide)⟩]; simp only [ix_nI (show i < 2 ^ 31 by omega), ix_nI (show f < 2 ^ 31 by omega), ix_nI (show q < 2 ^ 31 by omega)], e]; rfl⟩; exact ⟨by rw [show qc_locate σ (nI i) (nI f) (nI q) = fdC σ f q by rw [qc_locate, if_pos ⟨inR_nI hi (by decide), inR_nI hf (by decide), inR_nI hq (by decide)⟩]; simp only [ix_nI (show i < 2 ^ 31 by omega), ix_nI (show f < 2 ^ 31 by omega), ix_nI (show q < 2 ^ 31 by omega)], if_neg h20], by rw [show qc_locate σ (nI i) (nI f) (nI q) = fdC σ f q by rw [qc_locate, if_pos ⟨inR_nI hi (by decide), inR_nI hf (by decide), inR_nI hq (by decide)⟩]; simp only [ix_nI (show i < 2 ^ 31 by omega), ix_nI (show f < 2 ^ 31 by omega), ix_nI (show q < 2 ^ 31 by omega)], e]; rfl⟩)
      · obtain ⟨rfl, hv⟩ := hp
        obtain ⟨h13, rfl⟩ := rif_r hv
        exact x_prop C hne (Nat.le_refl _) (Nat.le_refl _) ⟨by rw [show qc_locate σ (nI i) (nI f) z = 1 by rw [qc_locate, if_neg (fun q => h13 q.2.2)], if_neg (by decide)], by rw [show qc_locate σ (nI i) (nI f) z = 1 by rw [qc_locate, if_neg (fun q => h13 q.2.2)]]; rfl⟩
    · obtain ⟨rfl, hv⟩ := hp
      obtain ⟨h8, rfl⟩ := rif_r hv
      exact x_prop C hne (Nat.le_refl _) (Nat.le_refl _) ⟨by rw [show qc_locate σ (nI i) y z = 1 by rw [qc_locate, if_neg (fun q => h8 q.2.1)], if_neg (by decide)], by rw [show qc_locate σ (nI i) y z = 1 by rw [qc_locate, if_neg (fun q => h8 q.2.1)]]; rfl⟩
  · obtain ⟨rfl, hv⟩ := hp
    obtain ⟨h2, rfl⟩ := rif_r hv
    exact x_prop C hne (Nat.le_refl _) (Nat.le_refl _) ⟨by rw [show qc_locate σ  x y z = 1 by rw [qc_locate, if_neg (fun q => h2 q.1)], if_neg (by decide)], by rw [show qc_locate σ  x y z = 1 by rw [qc_locate, if_neg (fun q => h2 q.1)]]; rfl⟩
theorem m_CS_up {l : Launch} (htr : xTr l) {D : va_G} {a : Nat → ClassId} {base : Nat} {g : Nat → Nat} {n : Nat} {σ : xSig} {w : xWrd} {Y : Nat → va_E} (hn : 143 ≤ n) (hO : Ok σ) {x : Int32} {b : Nat} (hb : b = 0 ∨ b = 1) {k : Nat} (hk : 1 ≤ k) : xM l y_CS_up b_CS_up 3 (some FieldType.int) k D a base g n (EL a g σ w Y) [.ref (g 0), .int x, .int (nI b)] (fun r E' => E' = EL a g (if qc_up σ x = 0 then up3 σ 10 (ix x) 0 b else σ) w Y ∧ r = cr [e_IA] (qc_up σ x) (.int (nI (σ 11 (ix x) 0)))) := by
  refine x_method (by decide) htr (Nat.le_of_ble_eq_true rfl) ?_
  intro p e s m args below meth c C hne hret hnm
  have C : xC p l e s m meth c b_CS_up 3 "ChunkStore" args D xcl (xty a) base := C
  have hB : ∀ t i j, σ t i j < 2 ^ 30 := fun t i j => Nat.lt_trans (hO.1 t i j) (by decide)
  have hH := hO.2.2.2.1
  have hS : ∀ i, σ 11 i 0 < 2 ^ 29 := fun i => Nat.lt_trans (hO.1 _ _ _) (by decide)
  refine x_iload_n C d_CS_up_0 rfl rfl ?_
  refine x_iconst C (v := nI 5) d_CS_up_1 (by decide) ?_
  refine c_CS_CS_checkRange C (by omega) (m_CS_checkRange htr (by decide) (Nat.le_refl _)) rfl rfl (Nat.le_of_ble_eq_true rfl) d_CS_up_2 (fun v E' hp => ?_) (fun X E' hp => ?_)
  · obtain ⟨rfl, hv⟩ := hp
    obtain ⟨h2, rfl⟩ := rif_l hv
    obtain ⟨i, hi, rfl⟩ := inR_of h2
    refine x_aload_n C d_CS_up_5 rfl rfl ?_
    refine g_CS_cs_servers C hn d_CS_up_6 ?_
    refine x_iload_n C d_CS_up_9 rfl rfl ?_
    refine e_arrS C hi hn d_CS_up_10 ?_
    refine x_iload_n C d_CS_up_11 rfl rfl ?_
    refine p_CS_server_isUp C hi hb hn d_CS_up_12 ?_
    refine x_aload_n C d_CS_up_15 rfl rfl ?_
    refine g_CS_cs_servers C hn d_CS_up_16 ?_
    refine x_iload_n C d_CS_up_19 rfl rfl ?_
    refine e_arrS C hi hn d_CS_up_20 ?_
    refine g_CS_server_replicas C hi hn d_CS_up_21 ?_
    exact x_iret C hret d_CS_up_24 ⟨by rw [show qc_up σ (nI i) = 0 by rw [qc_up, if_pos (inR_nI hi (by decide))], if_pos rfl, ix_nI (by omega)], by rw [show qc_up σ (nI i) = 0 by rw [qc_up, if_pos (inR_nI hi (by decide))], ix_nI (by omega), up3_n (by decide)]; rfl⟩
  · obtain ⟨rfl, hv⟩ := hp
    obtain ⟨h2, rfl⟩ := rif_r hv
    exact x_prop C hne (Nat.le_refl _) (Nat.le_refl _) ⟨by rw [show qc_up σ  x = 1 by rw [qc_up, if_neg h2], if_neg (by decide)], by rw [show qc_up σ  x = 1 by rw [qc_up, if_neg h2]]; rfl⟩
theorem m_CS_look {l : Launch} (htr : xTr l) {D : va_G} {a : Nat → ClassId} {base : Nat} {g : Nat → Nat} {n : Nat} {σ : xSig} {w : xWrd} {Y : Nat → va_E} (hn : 143 ≤ n) (hO : Ok σ) {x y z : Int32}  {k : Nat} (hk : 1 ≤ k) : xM l y_CS_look b_CS_look 5 (some FieldType.int) k D a base g n (EL a g σ w Y) [.ref (g 0), .int x, .int y, .int z] (fun r E' => E' = EL a g σ w Y ∧ r = cr [e_IA, e_NS] (qc_look σ x y z) (.int (qa_look σ w (ix x) (ix y) (ix z)))) := by
  refine x_method (by decide) htr (Nat.le_of_ble_eq_true rfl) ?_
  intro p e s m args below meth c C hne hret hnm
  have C : xC p l e s m meth c b_CS_look 5 "ChunkStore" args D xcl (xty a) base := C
  have hB : ∀ t i j, σ t i j < 2 ^ 30 := fun t i j => Nat.lt_trans (hO.1 t i j) (by decide)
  have hH := hO.2.2.2.1
  have hS : ∀ i, σ 11 i 0 < 2 ^ 29 := fun i => Nat.lt_trans (hO.1 _ _ _) (by decide)
  refine x_iload_n C d_CS_look_0 rfl rfl ?_
  refine x_iconst C (v := nI 5) d_CS_look_1 (by decide) ?_
  refine c_CS_CS_checkRange C (by omega) (m_CS_checkRange htr (by decide) (Nat.le_refl _)) rfl rfl (Nat.le_of_ble_eq_true rfl) d_CS_look_2 (fun v E' hp => ?_) (fun X E' hp => ?_)
  · obtain ⟨rfl, hv⟩ := hp
    obtain ⟨h2, rfl⟩ := rif_l hv
    obtain ⟨i, hi, rfl⟩ := inR_of h2
    refine x_iload_n C d_CS_look_5 rfl rfl ?_
    refine x_bipush C (v := nI 30) d_CS_look_6 (by decide) ?_
    refine c_CS_CS_checkRange C (by omega) (m_CS_checkRange htr (by decide) (Nat.le_refl _)) rfl rfl (Nat.le_of_ble_eq_true rfl) d_CS_look_8 (fun v E' hp => ?_) (fun X E' hp => ?_)
    · obtain ⟨rfl, hv⟩ := hp
      obtain ⟨h8, rfl⟩ := rif_l hv
      obtain ⟨q, hq, rfl⟩ := inR_of h8
      refine x_iload_n C d_CS_look_11 rfl rfl ?_
      refine x_bipush C (v := nI 6) d_CS_look_12 (by decide) ?_
      refine c_CS_CS_checkRange C (by omega) (m_CS_checkRange htr (by decide) (Nat.le_refl _)) rfl rfl (Nat.le_of_ble_eq_true rfl) d_CS_look_14 (fun v E' hp => ?_) (fun X E' hp => ?_)
      · obtain ⟨rfl, hv⟩ := hp
        obtain ⟨h14, rfl⟩ := rif_l hv
        obtain ⟨u, hu, rfl⟩ := inR_of h14
        refine x_aload_n C d_CS_look_17 rfl rfl ?_
        refine g_CS_cs_servers C hn d_CS_look_18 ?_
        refine x_iload_n C d_CS_look_21 rfl rfl ?_
        refine e_arrS C hi hn d_CS_look_22 ?_
        refine x_astore C d_CS_look_23 (by decide) rfl ?_
        refine x_aload C d_CS_look_25 rfl ?_
        refine x_iload_n C d_CS_look_27 rfl rfl ?_
        refine c_CS_SV_has C (by omega) hi hn (m_SV_has htr hn hB hi hq (Nat.le_refl _)) rfl rfl (Nat.le_of_ble_eq_true rfl) d_CS_look_28 (fun v E' hp => ?_) (fun X E' hp => ?_)
        · obtain ⟨rfl, hv⟩ := hp
          cases hv
          refine xn_if_ne C (b01_lt _) 44 d_CS_look_31 (by decide) (fun h31 => ?_) (fun h31 => ?_)
          · rw [b01_n0] at h31
            have h31 := of_decide_eq_true h31
            refine x_iload_n C d_CS_look_44 rfl rfl ?_
            refine xn_if_ne C (Nat.lt_trans hu (by decide)) 56 d_CS_look_45 (by decide) (fun h45 => ?_) (fun h45 => ?_)
            · refine x_iload_n C d_CS_look_56 rfl rfl ?_
              refine x_iconst C (v := nI 1) d_CS_look_57 (by decide) ?_
              refine xn_icmp_ne C (Nat.lt_trans hu (by decide)) (by decide) 71 d_CS_look_58 (by decide) (fun h58 => ?_) (fun h58 => ?_)
              · refine x_aload C d_CS_look_71 rfl ?_
                refine x_iload_n C d_CS_look_73 rfl rfl ?_
                refine x_iload_n C d_CS_look_74 rfl rfl ?_
                refine x_iconst C (v := nI 2) d_CS_look_75 (by decide) ?_
                refine xn_isub C (by omega) d_CS_look_76 ?_
                refine c_CS_SV_word C (by omega) hi hn (m_SV_word htr hn hB hi hq (by omega) (Nat.le_refl _)) rfl rfl (Nat.le_of_ble_eq_true rfl) d_CS_look_77 (fun v E' hp => ?_) (fun X E' hp => ?_)
                · obtain ⟨rfl, hv⟩ := hp
                  cases hv
                  exact x_iret C hret d_CS_look_80 ⟨rfl, by rw [show qc_look σ (nI i) (nI q) (nI u) = 0 by rw [qc_look, if_pos ⟨inR_nI hi (by decide), inR_nI hq (by decide), inR_nI hu (by decide)⟩]; simp only [ix_nI (show i < 2 ^ 31 by omega), ix_nI (show q < 2 ^ 31 by omega), ix_nI (show u < 2 ^ 31 by omega)]; rw [if_pos h31], ix_nI (show i < 2 ^ 31 by omega), ix_nI (show q < 2 ^ 31 by omega), ix_nI (show u < 2 ^ 31 by omega), qa_look, if_neg h45, if_neg h58]; rfl⟩
                · cases hp.2
              · refine x_aload C d_CS_look_61 rfl ?_
                refine g_CS_server_used C hi hn d_CS_look_63 ?_
                refine x_iload_n C d_CS_look_66 rfl rfl ?_
                refine e_used C hi hq hn d_CS_look_67 ?_
                refine x_goto C 80 d_CS_look_68 (by decide) ?_
                exact x_iret C hret d_CS_look_80 ⟨rfl, by rw [show qc_look σ (nI i) (nI q) (nI u) = 0 by rw [qc_look, if_pos ⟨inR_nI hi (by decide), inR_nI hq (by decide), inR_nI hu (by decide)⟩]; simp only [ix_nI (show i < 2 ^ 31 by omega), ix_nI (show q < 2 ^ 31 by omega), ix_nI (show u < 2 ^ 31 by omega)]; rw [if_pos h31], ix_nI (show i < 2 ^ 31 by omega), ix_nI (show q < 2 ^ 31 by omega), ix_nI (show u < 2 ^ 31 by omega), qa_look, if_neg h45, if_pos h58]; rfl⟩
            · refine x_aload C d_CS_look_48 rfl ?_
              refine g_CS_server_versions C hi hn d_CS_look_50 ?_
              refine x_iload_n C d_CS_look_53 rfl rfl ?_
              refine e_vers C hi hq hn d_CS_look_54 ?_
              exact x_iret C hret d_CS_look_55 ⟨rfl, by rw [show qc_look σ (nI i) (nI q) (nI u) = 0 by rw [qc_look, if_pos ⟨inR_nI hi (by decide), inR_nI hq (by decide), inR_nI hu (by decide)⟩]; simp only [ix_nI (show i < 2 ^ 31 by omega), ix_nI (show q < 2 ^ 31 by omega), ix_nI (show u < 2 ^ 31 by omega)]; rw [if_pos h31], ix_nI (show i < 2 ^ 31 by omega), ix_nI (show q < 2 ^ 31 by omega), ix_nI (show u < 2 ^ 31 by omega), qa_look, if_pos h45]; rfl⟩
          · rw [b01_0] at h31
            have h31 := of_decide_eq_false h31
            exact th_NS C hne (Nat.le_of_ble_eq_true rfl) d_CS_look_34 d_CS_look_37 d_CS_look_38 d_CS_look_40 d_CS_look_43 (tx := "the server has no replica of the chunk") (by decide) ⟨rfl, by rw [show qc_look σ (nI i) (nI q) (nI u) = 2 by rw [qc_look, if_pos ⟨inR_nI hi (by decide), inR_nI hq (by decide), inR_nI hu (by decide)⟩]; simp only [ix_nI (show i < 2 ^ 31 by omega), ix_nI (show q < 2 ^ 31 by omega), ix_nI (show u < 2 ^ 31 by omega)]; rw [if_neg h31]]; rfl⟩
        · cases hp.2
      · obtain ⟨rfl, hv⟩ := hp
        obtain ⟨h14, rfl⟩ := rif_r hv
        exact x_prop C hne (Nat.le_refl _) (Nat.le_refl _) ⟨rfl, by rw [show qc_look σ (nI i) (nI q) z = 1 by rw [qc_look, if_neg (fun q => h14 q.2.2)]]; rfl⟩
    · obtain ⟨rfl, hv⟩ := hp
      obtain ⟨h8, rfl⟩ := rif_r hv
      exact x_prop C hne (Nat.le_refl _) (Nat.le_refl _) ⟨rfl, by rw [show qc_look σ (nI i) y z = 1 by rw [qc_look, if_neg (fun q => h8 q.2.1)]]; rfl⟩
  · obtain ⟨rfl, hv⟩ := hp
    obtain ⟨h2, rfl⟩ := rif_r hv
    exact x_prop C hne (Nat.le_refl _) (Nat.le_refl _) ⟨rfl, by rw [show qc_look σ  x y z = 1 by rw [qc_look, if_neg (fun q => h2 q.1)]]; rfl⟩
theorem m_CS_file {l : Launch} (htr : xTr l) {D : va_G} {a : Nat → ClassId} {base : Nat} {g : Nat → Nat} {n : Nat} {σ : xSig} {w : xWrd} {Y : Nat → va_E} (hn : 143 ≤ n) (hO : Ok σ) {x y : Int32}  {k : Nat} (hk : 1 ≤ k) : xM l y_CS_file b_CS_file 4 (some FieldType.int) k D a base g n (EL a g σ w Y) [.ref (g 0), .int x, .int y] (fun r E' => E' = EL a g σ w Y ∧ r = cr [e_IA] (qc_file σ x y) (.int (qa_file σ (ix x) (ix y)))) := by
  refine x_method (by decide) htr (Nat.le_of_ble_eq_true rfl) ?_
  intro p e s m args below meth c C hne hret hnm
  have C : xC p l e s m meth c b_CS_file 4 "ChunkStore" args D xcl (xty a) base := C
  have hB : ∀ t i j, σ t i j < 2 ^ 30 := fun t i j => Nat.lt_trans (hO.1 t i j) (by decide)
  have hH := hO.2.2.2.1
  have hS : ∀ i, σ 11 i 0 < 2 ^ 29 := fun i => Nat.lt_trans (hO.1 _ _ _) (by decide)
  refine x_iload_n C d_CS_file_0 rfl rfl ?_
  refine x_bipush C (v := nI 8) d_CS_file_1 (by decide) ?_
  refine c_CS_CS_checkRange C (by omega) (m_CS_checkRange htr (by decide) (Nat.le_refl _)) rfl rfl (Nat.le_of_ble_eq_true rfl) d_CS_file_3 (fun v E' hp => ?_) (fun X E' hp => ?_)
  · obtain ⟨rfl, hv⟩ := hp
    obtain ⟨h3, rfl⟩ := rif_l hv
    obtain ⟨i, hi, rfl⟩ := inR_of h3
    refine x_iload_n C d_CS_file_6 rfl rfl ?_
    refine x_iconst C (v := nI 5) d_CS_file_7 (by decide) ?_
    refine c_CS_CS_checkRange C (by omega) (m_CS_checkRange htr (by decide) (Nat.le_refl _)) rfl rfl (Nat.le_of_ble_eq_true rfl) d_CS_file_8 (fun v E' hp => ?_) (fun X E' hp => ?_)
    · obtain ⟨rfl, hv⟩ := hp
      obtain ⟨h8, rfl⟩ := rif_l hv
      obtain ⟨u, hu, rfl⟩ := inR_of h8
      refine x_aload_n C d_CS_file_11 rfl rfl ?_
      refine g_CS_cs_files C hn d_CS_file_12 ?_
      refine x_iload_n C d_CS_file_15 rfl rfl ?_
      refine e_arrF C hi hn d_CS_file_16 ?_
      refine x_astore_n C d_CS_file_17 rfl (by decide) rfl ?_
      refine x_iload_n C d_CS_file_18 rfl rfl ?_
      refine xn_if_ne C (Nat.lt_trans hu (by decide)) 27 d_CS_file_19 (by decide) (fun h19 => ?_) (fun h19 => ?_)
      · refine x_iload_n C d_CS_file_27 rfl rfl ?_
        refine x_iconst C (v := nI 1) d_CS_file_28 (by decide) ?_
        refine xn_icmp_ne C (Nat.lt_trans hu (by decide)) (by decide) 37 d_CS_file_29 (by decide) (fun h29 => ?_) (fun h29 => ?_)
        · refine x_iload_n C d_CS_file_37 rfl rfl ?_
          refine x_iconst C (v := nI 2) d_CS_file_38 (by decide) ?_
          refine xn_isub C (by omega) d_CS_file_39 ?_
          refine x_aload_n C d_CS_file_40 rfl rfl ?_
          refine g_CS_file_count C hi hn d_CS_file_41 ?_
          refine xn_icmp_ge C (by omega) (Nat.lt_trans (hB 3 i 0) (by decide)) 58 d_CS_file_44 (by decide) (fun h44 => ?_) (fun h44 => ?_)
          · refine x_iconst C (v := -1) d_CS_file_58 (by decide) ?_
            exact x_iret C hret d_CS_file_59 ⟨rfl, by rw [show qc_file σ (nI i) (nI u) = 0 by rw [qc_file, if_pos ⟨inR_nI hi (by decide), inR_nI hu (by decide)⟩], ix_nI (show i < 2 ^ 31 by omega), ix_nI (show u < 2 ^ 31 by omega), qa_file, if_neg h19, if_neg h29, if_neg (by omega)]; rfl⟩
          · refine x_aload_n C d_CS_file_47 rfl rfl ?_
            refine g_CS_file_row C hi hn d_CS_file_48 ?_
            refine x_iload_n C d_CS_file_51 rfl rfl ?_
            refine x_iconst C (v := nI 2) d_CS_file_52 (by decide) ?_
            refine xn_isub C (by omega) d_CS_file_53 ?_
            refine e_row C hi (by omega) hn d_CS_file_54 ?_
            refine x_goto C 59 d_CS_file_55 (by decide) ?_
            exact x_iret C hret d_CS_file_59 ⟨rfl, by rw [show qc_file σ (nI i) (nI u) = 0 by rw [qc_file, if_pos ⟨inR_nI hi (by decide), inR_nI hu (by decide)⟩], ix_nI (show i < 2 ^ 31 by omega), ix_nI (show u < 2 ^ 31 by omega), qa_file, if_neg h19, if_neg h29, if_pos h44]; rfl⟩
        · refine x_aload_n C d_CS_file_32 rfl rfl ?_
          refine g_CS_file_count C hi hn d_CS_file_33 ?_
          exact x_iret C hret d_CS_file_36 ⟨rfl, by rw [show qc_file σ (nI i) (nI u) = 0 by rw [qc_file, if_pos ⟨inR_nI hi (by decide), inR_nI hu (by decide)⟩], ix_nI (show i < 2 ^ 31 by omega), ix_nI (show u < 2 ^ 31 by omega), qa_file, if_neg h19, if_pos h29]; rfl⟩
      · refine x_aload_n C d_CS_file_22 rfl rfl ?_
        refine g_CS_file_state C hi hn d_CS_file_23 ?_
        exact x_iret C hret d_CS_file_26 ⟨rfl, by rw [show qc_file σ (nI i) (nI u) = 0 by rw [qc_file, if_pos ⟨inR_nI hi (by decide), inR_nI hu (by decide)⟩], ix_nI (show i < 2 ^ 31 by omega), ix_nI (show u < 2 ^ 31 by omega), qa_file, if_pos h19]; rfl⟩
    · obtain ⟨rfl, hv⟩ := hp
      obtain ⟨h8, rfl⟩ := rif_r hv
      exact x_prop C hne (Nat.le_refl _) (Nat.le_refl _) ⟨rfl, by rw [show qc_file σ (nI i) y = 1 by rw [qc_file, if_neg (fun q => h8 q.2)]]; rfl⟩
  · obtain ⟨rfl, hv⟩ := hp
    obtain ⟨h3, rfl⟩ := rif_r hv
    exact x_prop C hne (Nat.le_refl _) (Nat.le_refl _) ⟨rfl, by rw [show qc_file σ  x y = 1 by rw [qc_file, if_neg (fun q => h3 q.1)]]; rfl⟩
end XM6
