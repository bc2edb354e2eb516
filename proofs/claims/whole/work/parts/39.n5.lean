section XN5
theorem nb_f {b : Bool} (h : (!b) = false) : b = true := by cases b <;> simp_all
theorem nb_t {b : Bool} (h : (!b) = true) : ¬ b = true := by cases b <;> simp_all
/-- what the model answers -/
def mr (k : Nat) (x : Int32) : xR := .inl (some (.int (if k = 0 then x else nI 0)))
theorem up3_same {σ : xSig} {t i j v : Nat} (h : σ t i j = v) : up3 σ t i j v = σ := by rw [← h]; exact up3_id
theorem m_MD_create {l : Launch} (htr : xTr l) {D : va_G} {a : Nat → ClassId} {base : Nat} {g : Nat → Nat} {n : Nat} {τ : xSig} {v : xWrd} {fc M : Nat} {X : Nat → va_E} (hn : 159 ≤ n) (hI : Inv τ v M) (hM : M ≤ 2 ^ 28) {x : Int32}  {k : Nat} (hk : 1 ≤ k) : xM l y_MD_create b_MD_create 4 (some FieldType.int) k D a base g n (EM a g τ v fc X) [.ref (g 143), .int x] (fun r E' => E' = EM a g (if (qc_create τ x) = 0 then up3 τ 2 (ix x) 0 1 else τ) v (qc_create τ x) X ∧ r = mr (qc_create τ x) (nI (nThere (up3 τ 2 (ix x) 0 1) 8))) := by
  refine x_method (by decide) htr (Nat.le_of_ble_eq_true rfl) ?_
  intro p e s m args below meth c C hne hret hnm
  have C : xC p l e s m meth c b_MD_create 4 "ChunkStoreModel" args D xcl (xty a) base := C
  have hO := hI.ok hM
  have hB : ∀ t i j, τ t i j < 2 ^ 30 := fun t i j => Nat.lt_trans (hO.1 t i j) (by decide)
  have hH := hO.2.2.2.1
  have hcv : ∀ s, s < 5 → τ 11 s 0 = cntV (τ 12 s) 30 := fun s hs => (hI.cnt s hs).1
  refine x_aload_n C d_MD_create_0 rfl rfl ?_
  refine x_iconst C (v := nI 0) d_MD_create_1 (by decide) ?_
  refine p_MD_failed C hn d_MD_create_2 ?_
  refine x_aload_n C d_MD_create_5 rfl rfl ?_
  refine x_iload_n C d_MD_create_6 rfl rfl ?_
  refine x_bipush C (v := nI 8) d_MD_create_7 (by decide) ?_
  refine c_MD_MD_out C (by omega) hn (m_MD_out htr hn hB (by decide) (Nat.le_refl _)) rfl rfl (Nat.le_of_ble_eq_true rfl) d_MD_create_9 (fun v E' hp => ?_) (fun X E' hp => ?_)
  · obtain ⟨rfl, hv⟩ := hp
    cases hv
    refine xn_if_eq C (b01_lt _) 21 d_MD_create_12 (by decide) (fun h12 => ?_) (fun h12 => ?_)
    · rw [b01_0] at h12
      obtain ⟨i, hi, rfl⟩ := inR_of (nb_f h12)
      refine x_aload_n C d_MD_create_21 rfl rfl ?_
      refine g_MD_state C hn d_MD_create_22 ?_
      refine x_iload_n C d_MD_create_25 rfl rfl ?_
      refine e_mstate C hi hn d_MD_create_26 ?_
      refine xn_if_eq C (Nat.lt_trans (hB 2 i 0) (by decide)) 36 d_MD_create_27 (by decide) (fun h27 => ?_) (fun h27 => ?_)
      · refine x_aload_n C d_MD_create_36 rfl rfl ?_
        refine g_MD_state C hn d_MD_create_37 ?_
        refine x_iload_n C d_MD_create_40 rfl rfl ?_
        refine x_iconst C (v := nI 1) d_MD_create_41 (by decide) ?_
        refine a_mstate C hi hn d_MD_create_42 ?_
        refine x_aload_n C d_MD_create_43 rfl rfl ?_
        refine g_MD_length C hn d_MD_create_44 ?_
        refine x_iload_n C d_MD_create_47 rfl rfl ?_
        refine x_iconst C (v := nI 0) d_MD_create_48 (by decide) ?_
        refine a_mlength C hi hn d_MD_create_49 ?_
        refine x_E (E' := EM a g (up3 τ 2 i 0 1) v 0 X) (by rw [up3_same (by rw [up3_n (by decide)]; exact (hI.file i hi).2.2.1 h27)]) ?_
        refine x_iconst C (v := nI 0) d_MD_create_50 (by decide) ?_
        refine x_istore_n C d_MD_create_51 rfl (by decide) rfl ?_
        refine x_iconst C (v := nI 0) d_MD_create_52 (by decide) ?_
        refine x_istore_n C d_MD_create_53 rfl (by decide) rfl ?_
        refine x_loop 8 (fun j => EM a g (up3 τ 2 i 0 1) v 0 X) (fun j => [(0, .ref (g 143)), (1, .int (nI i)), (2, .int (nI (nThere (up3 τ 2 i 0 1) j))), (3, .int (nI j))]) (fun j => True) rfl ⟨rfl, rfl, rfl, rfl, trivial⟩ trivial ?_
        intro j hj hIj ihj
        refine x_iload_n C d_MD_create_54 rfl rfl ?_
        refine x_bipush C (v := nI 8) d_MD_create_55 (by decide) ?_
        refine xn_icmp_ge C (by omega) (by decide) 84 d_MD_create_57 (by decide) (fun h57 => ?_) (fun h57 => ?_)
        · refine x_iload_n C d_MD_create_84 rfl rfl ?_
          exact x_iret C hret d_MD_create_85 ⟨by rw [show qc_create τ (nI i) = 0 by rw [qc_create, if_pos (inR_nI hi (by decide))]; simp only [ix_nI (show i < 2 ^ 31 by omega)]; rw [if_pos h27], if_pos rfl, ix_nI (by omega)], by rw [show qc_create τ (nI i) = 0 by rw [qc_create, if_pos (inR_nI hi (by decide))]; simp only [ix_nI (show i < 2 ^ 31 by omega)]; rw [if_pos h27], ix_nI (by omega), show j = 8 by omega]; rfl⟩
        · refine x_iload_n C d_MD_create_60 rfl rfl ?_
          refine x_aload_n C d_MD_create_61 rfl rfl ?_
          refine g_MD_state C hn d_MD_create_62 ?_
          refine x_iload_n C d_MD_create_65 rfl rfl ?_
          refine e_mstate C (by omega) hn d_MD_create_66 ?_
          refine x_iconst C (v := nI 1) d_MD_create_67 (by decide) ?_
          refine xn_icmp_ne C (Nat.lt_trans ((up3_B hB (by decide)) 2 j 0) (by decide)) (by decide) 75 d_MD_create_68 (by decide) (fun h68 => ?_) (fun h68 => ?_)
          · refine x_iconst C (v := nI 0) d_MD_create_75 (by decide) ?_
            refine xn_iadd C d_MD_create_76 ?_
            refine x_istore_n C d_MD_create_77 rfl (by decide) rfl ?_
            refine x_lv [(0, .ref (g 143)), (1, .int (nI i)), (2, .int (nI ((nThere (up3 τ 2 i 0 1) j) + 0))), (3, .int (nI j))] ⟨rfl, rfl, rfl, rfl, trivial⟩ ?_
            refine xn_iinc C d_MD_create_78 3 rfl (by decide) rfl ?_
            refine x_goto C 54 d_MD_create_81 (by decide) ?_
            exact x_lv [(0, .ref (g 143)), (1, .int (nI i)), (2, .int (nI (nThere (up3 τ 2 i 0 1) (j + 1)))), (3, .int (nI (j + 1)))] ⟨rfl, rfl, by rw [nThere, if_neg h68]; rfl, rfl, trivial⟩ (ihj (by omega) trivial)
          · refine x_iconst C (v := nI 1) d_MD_create_71 (by decide) ?_
            refine x_goto C 76 d_MD_create_72 (by decide) ?_
            refine xn_iadd C d_MD_create_76 ?_
            refine x_istore_n C d_MD_create_77 rfl (by decide) rfl ?_
            refine x_lv [(0, .ref (g 143)), (1, .int (nI i)), (2, .int (nI ((nThere (up3 τ 2 i 0 1) j) + 1))), (3, .int (nI j))] ⟨rfl, rfl, rfl, rfl, trivial⟩ ?_
            refine xn_iinc C d_MD_create_78 3 rfl (by decide) rfl ?_
            refine x_goto C 54 d_MD_create_81 (by decide) ?_
            exact x_lv [(0, .ref (g 143)), (1, .int (nI i)), (2, .int (nI (nThere (up3 τ 2 i 0 1) (j + 1)))), (3, .int (nI (j + 1)))] ⟨rfl, rfl, by rw [nThere, if_pos h68]; rfl, rfl, trivial⟩ (ihj (by omega) trivial)
      · refine x_aload_n C d_MD_create_30 rfl rfl ?_
        refine x_iconst C (v := nI 2) d_MD_create_31 (by decide) ?_
        refine c_MD_MD_fail C (by omega) hn (m_MD_fail htr hn hB (Nat.le_refl _)) rfl rfl (Nat.le_of_ble_eq_true rfl) d_MD_create_32 (fun v E' hp => ?_) (fun X E' hp => ?_)
        · obtain ⟨rfl, hv⟩ := hp
          cases hv
          exact x_iret C hret d_MD_create_35 ⟨by rw [show qc_create τ (nI i) = 2 by rw [qc_create, if_pos (inR_nI hi (by decide))]; simp only [ix_nI (show i < 2 ^ 31 by omega)]; rw [if_neg h27], if_neg (by decide)], by rw [show qc_create τ (nI i) = 2 by rw [qc_create, if_pos (inR_nI hi (by decide))]; simp only [ix_nI (show i < 2 ^ 31 by omega)]; rw [if_neg h27]]; rfl⟩
        · cases hp.2
    · rw [b01_n0] at h12
      have h12 := nb_t h12
      refine x_aload_n C d_MD_create_15 rfl rfl ?_
      refine x_iconst C (v := nI 1) d_MD_create_16 (by decide) ?_
      refine c_MD_MD_fail C (by omega) hn (m_MD_fail htr hn hB (Nat.le_refl _)) rfl rfl (Nat.le_of_ble_eq_true rfl) d_MD_create_17 (fun v E' hp => ?_) (fun X E' hp => ?_)
      · obtain ⟨rfl, hv⟩ := hp
        cases hv
        exact x_iret C hret d_MD_create_20 ⟨by rw [show qc_create τ  x = 1 by rw [qc_create, if_neg h12], if_neg (by decide)], by rw [show qc_create τ  x = 1 by rw [qc_create, if_neg h12]]; rfl⟩
      · cases hp.2
  · cases hp.2
theorem m_MD_remove {l : Launch} (htr : xTr l) {D : va_G} {a : Nat → ClassId} {base : Nat} {g : Nat → Nat} {n : Nat} {τ : xSig} {v : xWrd} {fc M : Nat} {X : Nat → va_E} (hn : 159 ≤ n) (hI : Inv τ v M) (hM : M ≤ 2 ^ 28) {x : Int32}  {k : Nat} (hk : 1 ≤ k) : xM l y_MD_remove b_MD_remove 2 (some FieldType.int) k D a base g n (EM a g τ v fc X) [.ref (g 143), .int x] (fun r E' => E' = EM a g (if (qc_remove τ x) = 0 then up3 (up3 τ 2 (ix x) 0 2) 5 (ix x) 0 (τ 1 0 0) else τ) v (qc_remove τ x) X ∧ r = mr (qc_remove τ x) (nI (τ 3 (ix x) 0))) := by
  refine x_method (by decide) htr (Nat.le_of_ble_eq_true rfl) ?_
  intro p e s m args below meth c C hne hret hnm
  have C : xC p l e s m meth c b_MD_remove 2 "ChunkStoreModel" args D xcl (xty a) base := C
  have hO := hI.ok hM
  have hB : ∀ t i j, τ t i j < 2 ^ 30 := fun t i j => Nat.lt_trans (hO.1 t i j) (by decide)
  have hH := hO.2.2.2.1
  have hcv : ∀ s, s < 5 → τ 11 s 0 = cntV (τ 12 s) 30 := fun s hs => (hI.cnt s hs).1
  refine x_aload_n C d_MD_remove_0 rfl rfl ?_
  refine x_iconst C (v := nI 0) d_MD_remove_1 (by decide) ?_
  refine p_MD_failed C hn d_MD_remove_2 ?_
  refine x_aload_n C d_MD_remove_5 rfl rfl ?_
  refine x_iload_n C d_MD_remove_6 rfl rfl ?_
  refine x_bipush C (v := nI 8) d_MD_remove_7 (by decide) ?_
  refine c_MD_MD_out C (by omega) hn (m_MD_out htr hn hB (by decide) (Nat.le_refl _)) rfl rfl (Nat.le_of_ble_eq_true rfl) d_MD_remove_9 (fun v E' hp => ?_) (fun X E' hp => ?_)
  · obtain ⟨rfl, hv⟩ := hp
    cases hv
    refine xn_if_eq C (b01_lt _) 21 d_MD_remove_12 (by decide) (fun h12 => ?_) (fun h12 => ?_)
    · rw [b01_0] at h12
      obtain ⟨i, hi, rfl⟩ := inR_of (nb_f h12)
      refine x_aload_n C d_MD_remove_21 rfl rfl ?_
      refine g_MD_state C hn d_MD_remove_22 ?_
      refine x_iload_n C d_MD_remove_25 rfl rfl ?_
      refine e_mstate C hi hn d_MD_remove_26 ?_
      refine x_iconst C (v := nI 1) d_MD_remove_27 (by decide) ?_
      refine xn_icmp_eq C (Nat.lt_trans (hB 2 i 0) (by decide)) (by decide) 37 d_MD_remove_28 (by decide) (fun h28 => ?_) (fun h28 => ?_)
      · refine x_aload_n C d_MD_remove_37 rfl rfl ?_
        refine g_MD_state C hn d_MD_remove_38 ?_
        refine x_iload_n C d_MD_remove_41 rfl rfl ?_
        refine x_iconst C (v := nI 2) d_MD_remove_42 (by decide) ?_
        refine a_mstate C hi hn d_MD_remove_43 ?_
        refine x_aload_n C d_MD_remove_44 rfl rfl ?_
        refine g_MD_hidden C hn d_MD_remove_45 ?_
        refine x_iload_n C d_MD_remove_48 rfl rfl ?_
        refine x_aload_n C d_MD_remove_49 rfl rfl ?_
        refine g_MD_time C hn d_MD_remove_50 ?_
        refine a_mhidden C hi hn d_MD_remove_53 ?_
        refine x_aload_n C d_MD_remove_54 rfl rfl ?_
        refine g_MD_length C hn d_MD_remove_55 ?_
        refine x_iload_n C d_MD_remove_58 rfl rfl ?_
        refine e_mlength C hi hn d_MD_remove_59 ?_
        exact x_iret C hret d_MD_remove_60 ⟨by rw [show qc_remove τ (nI i) = 0 by rw [qc_remove, if_pos (inR_nI hi (by decide))]; simp only [ix_nI (show i < 2 ^ 31 by omega)]; rw [if_pos h28], if_pos rfl, ix_nI (by omega), up3_n (show ¬ 1 = 2 by decide)], by rw [show qc_remove τ (nI i) = 0 by rw [qc_remove, if_pos (inR_nI hi (by decide))]; simp only [ix_nI (show i < 2 ^ 31 by omega)]; rw [if_pos h28], ix_nI (by omega), up3_n (by decide), up3_n (by decide)]; rfl⟩
      · refine x_aload_n C d_MD_remove_31 rfl rfl ?_
        refine x_iconst C (v := nI 2) d_MD_remove_32 (by decide) ?_
        refine c_MD_MD_fail C (by omega) hn (m_MD_fail htr hn hB (Nat.le_refl _)) rfl rfl (Nat.le_of_ble_eq_true rfl) d_MD_remove_33 (fun v E' hp => ?_) (fun X E' hp => ?_)
        · obtain ⟨rfl, hv⟩ := hp
          cases hv
          exact x_iret C hret d_MD_remove_36 ⟨by rw [show qc_remove τ (nI i) = 2 by rw [qc_remove, if_pos (inR_nI hi (by decide))]; simp only [ix_nI (show i < 2 ^ 31 by omega)]; rw [if_neg h28], if_neg (by decide)], by rw [show qc_remove τ (nI i) = 2 by rw [qc_remove, if_pos (inR_nI hi (by decide))]; simp only [ix_nI (show i < 2 ^ 31 by omega)]; rw [if_neg h28]]; rfl⟩
        · cases hp.2
    · rw [b01_n0] at h12
      have h12 := nb_t h12
      refine x_aload_n C d_MD_remove_15 rfl rfl ?_
      refine x_iconst C (v := nI 1) d_MD_remove_16 (by decide) ?_
      refine c_MD_MD_fail C (by omega) hn (m_MD_fail htr hn hB (Nat.le_refl _)) rfl rfl (Nat.le_of_ble_eq_true rfl) d_MD_remove_17 (fun v E' hp => ?_) (fun X E' hp => ?_)
      · obtain ⟨rfl, hv⟩ := hp
        cases hv
        exact x_iret C hret d_MD_remove_20 ⟨by rw [show qc_remove τ  x = 1 by rw [qc_remove, if_neg h12], if_neg (by decide)], by rw [show qc_remove τ  x = 1 by rw [qc_remove, if_neg h12]]; rfl⟩
      · cases hp.2
  · cases hp.2
theorem m_MD_restore {l : Launch} (htr : xTr l) {D : va_G} {a : Nat → ClassId} {base : Nat} {g : Nat → Nat} {n : Nat} {τ : xSig} {v : xWrd} {fc M : Nat} {X : Nat → va_E} (hn : 159 ≤ n) (hI : Inv τ v M) (hM : M ≤ 2 ^ 28) {x : Int32}  {k : Nat} (hk : 1 ≤ k) : xM l y_MD_restore b_MD_restore 2 (some FieldType.int) k D a base g n (EM a g τ v fc X) [.ref (g 143), .int x] (fun r E' => E' = EM a g (if (qc_restore τ x) = 0 then up3 τ 2 (ix x) 0 1 else τ) v (qc_restore τ x) X ∧ r = mr (qc_restore τ x) (nI (τ 3 (ix x) 0))) := by
  refine x_method (by decide) htr (Nat.le_of_ble_eq_true rfl) ?_
  intro p e s m args below meth c C hne hret hnm
  have C : xC p l e s m meth c b_MD_restore 2 "ChunkStoreModel" args D xcl (xty a) base := C
  have hO := hI.ok hM
  have hB : ∀ t i j, τ t i j < 2 ^ 30 := fun t i j => Nat.lt_trans (hO.1 t i j) (by decide)
  have hH := hO.2.2.2.1
  have hcv : ∀ s, s < 5 → τ 11 s 0 = cntV (τ 12 s) 30 := fun s hs => (hI.cnt s hs).1
  refine x_aload_n C d_MD_restore_0 rfl rfl ?_
  refine x_iconst C (v := nI 0) d_MD_restore_1 (by decide) ?_
  refine p_MD_failed C hn d_MD_restore_2 ?_
  refine x_aload_n C d_MD_restore_5 rfl rfl ?_
  refine x_iload_n C d_MD_restore_6 rfl rfl ?_
  refine x_bipush C (v := nI 8) d_MD_restore_7 (by decide) ?_
  refine c_MD_MD_out C (by omega) hn (m_MD_out htr hn hB (by decide) (Nat.le_refl _)) rfl rfl (Nat.le_of_ble_eq_true rfl) d_MD_restore_9 (fun v E' hp => ?_) (fun X E' hp => ?_)
  · obtain ⟨rfl, hv⟩ := hp
    cases hv
    refine xn_if_eq C (b01_lt _) 21 d_MD_restore_12 (by decide) (fun h12 => ?_) (fun h12 => ?_)
    · rw [b01_0] at h12
      obtain ⟨i, hi, rfl⟩ := inR_of (nb_f h12)
      refine x_aload_n C d_MD_restore_21 rfl rfl ?_
      refine g_MD_state C hn d_MD_restore_22 ?_
      refine x_iload_n C d_MD_restore_25 rfl rfl ?_
      refine e_mstate C hi hn d_MD_restore_26 ?_
      refine x_iconst C (v := nI 2) d_MD_restore_27 (by decide) ?_
      refine xn_icmp_eq C (Nat.lt_trans (hB 2 i 0) (by decide)) (by decide) 37 d_MD_restore_28 (by decide) (fun h28 => ?_) (fun h28 => ?_)
      · refine x_aload_n C d_MD_restore_37 rfl rfl ?_
        refine g_MD_state C hn d_MD_restore_38 ?_
        refine x_iload_n C d_MD_restore_41 rfl rfl ?_
        refine x_iconst C (v := nI 1) d_MD_restore_42 (by decide) ?_
        refine a_mstate C hi hn d_MD_restore_43 ?_
        refine x_aload_n C d_MD_restore_44 rfl rfl ?_
        refine g_MD_length C hn d_MD_restore_45 ?_
        refine x_iload_n C d_MD_restore_48 rfl rfl ?_
        refine e_mlength C hi hn d_MD_restore_49 ?_
        exact x_iret C hret d_MD_restore_50 ⟨by rw [show qc_restore τ (nI i) = 0 by rw [qc_restore, if_pos (inR_nI hi (by decide))]; simp only [ix_nI (show i < 2 ^ 31 by omega)]; rw [if_pos h28], if_pos rfl, ix_nI (by omega)], by rw [show qc_restore τ (nI i) = 0 by rw [qc_restore, if_pos (inR_nI hi (by decide))]; simp only [ix_nI (show i < 2 ^ 31 by omega)]; rw [if_pos h28], ix_nI (by omega), up3_n (by decide)]; rfl⟩
      · refine x_aload_n C d_MD_restore_31 rfl rfl ?_
        refine x_iconst C (v := nI 2) d_MD_restore_32 (by decide) ?_
        refine c_MD_MD_fail C (by omega) hn (m_MD_fail htr hn hB (Nat.le_refl _)) rfl rfl (Nat.le_of_ble_eq_true rfl) d_MD_restore_33 (fun v E' hp => ?_) (fun X E' hp => ?_)
        · obtain ⟨rfl, hv⟩ := hp
          cases hv
          exact x_iret C hret d_MD_restore_36 ⟨by rw [show qc_restore τ (nI i) = 2 by rw [qc_restore, if_pos (inR_nI hi (by decide))]; simp only [ix_nI (show i < 2 ^ 31 by omega)]; rw [if_neg h28], if_neg (by decide)], by rw [show qc_restore τ (nI i) = 2 by rw [qc_restore, if_pos (inR_nI hi (by decide))]; simp only [ix_nI (show i < 2 ^ 31 by omega)]; rw [if_neg h28]]; rfl⟩
        · cases hp.2
    · rw [b01_n0] at h12
      have h12 := nb_t h12
      refine x_aload_n C d_MD_restore_15 rfl rfl ?_
      refine x_iconst C (v := nI 1) d_MD_restore_16 (by decide) ?_
      refine c_MD_MD_fail C (by omega) hn (m_MD_fail htr hn hB (Nat.le_refl _)) rfl rfl (Nat.le_of_ble_eq_true rfl) d_MD_restore_17 (fun v E' hp => ?_) (fun X E' hp => ?_)
      · obtain ⟨rfl, hv⟩ := hp
        cases hv
        exact x_iret C hret d_MD_restore_20 ⟨by rw [show qc_restore τ  x = 1 by rw [qc_restore, if_neg h12], if_neg (by decide)], by rw [show qc_restore τ  x = 1 by rw [qc_restore, if_neg h12]]; rfl⟩
      · cases hp.2
  · cases hp.2
theorem m_MD_extend {l : Launch} (htr : xTr l) {D : va_G} {a : Nat → ClassId} {base : Nat} {g : Nat → Nat} {n : Nat} {τ : xSig} {v : xWrd} {fc M : Nat} {X : Nat → va_E} (hn : 159 ≤ n) (hI : Inv τ v M) (hM : M ≤ 2 ^ 28) {x : Int32}  {k : Nat} (hk : 3 ≤ k) : xM l y_MD_extend b_MD_extend 3 (some FieldType.int) k D a base g n (EM a g τ v fc X) [.ref (g 143), .int x] (fun r E' => E' = EM a g (if (qc_extend τ x) = 0 then mkS τ (ix x) else τ) v (qc_extend τ x) X ∧ r = mr (qc_extend τ x) (nI (τ 0 0 0))) := by
  refine x_method (by decide) htr (Nat.le_of_ble_eq_true rfl) ?_
  intro p e s m args below meth c C hne hret hnm
  have C : xC p l e s m meth c b_MD_extend 3 "ChunkStoreModel" args D xcl (xty a) base := C
  have hO := hI.ok hM
  have hB : ∀ t i j, τ t i j < 2 ^ 30 := fun t i j => Nat.lt_trans (hO.1 t i j) (by decide)
  have hH := hO.2.2.2.1
  have hcv : ∀ s, s < 5 → τ 11 s 0 = cntV (τ 12 s) 30 := fun s hs => (hI.cnt s hs).1
  refine x_aload_n C d_MD_extend_0 rfl rfl ?_
  refine x_iconst C (v := nI 0) d_MD_extend_1 (by decide) ?_
  refine p_MD_failed C hn d_MD_extend_2 ?_
  refine x_aload_n C d_MD_extend_5 rfl rfl ?_
  refine x_iload_n C d_MD_extend_6 rfl rfl ?_
  refine x_bipush C (v := nI 8) d_MD_extend_7 (by decide) ?_
  refine c_MD_MD_out C (by omega) hn (m_MD_out htr hn hB (by decide) (Nat.le_refl _)) rfl rfl (Nat.le_of_ble_eq_true rfl) d_MD_extend_9 (fun v E' hp => ?_) (fun X E' hp => ?_)
  · obtain ⟨rfl, hv⟩ := hp
    cases hv
    refine xn_if_eq C (b01_lt _) 21 d_MD_extend_12 (by decide) (fun h12 => ?_) (fun h12 => ?_)
    · rw [b01_0] at h12
      obtain ⟨i, hi, rfl⟩ := inR_of (nb_f h12)
      refine x_aload_n C d_MD_extend_21 rfl rfl ?_
      refine g_MD_state C hn d_MD_extend_22 ?_
      refine x_iload_n C d_MD_extend_25 rfl rfl ?_
      refine e_mstate C hi hn d_MD_extend_26 ?_
      refine x_iconst C (v := nI 1) d_MD_extend_27 (by decide) ?_
      refine xn_icmp_eq C (Nat.lt_trans (hB 2 i 0) (by decide)) (by decide) 37 d_MD_extend_28 (by decide) (fun h28 => ?_) (fun h28 => ?_)
      · refine x_aload_n C d_MD_extend_37 rfl rfl ?_
        refine x_iload_n C d_MD_extend_38 rfl rfl ?_
        refine c_MD_MD_makeChunk C (by omega) hn (m_MD_makeChunk htr hn hI hM hi (Nat.le_refl _)) rfl rfl (Nat.le_of_ble_eq_true rfl) d_MD_extend_39 (fun v E' hp => ?_) (fun X E' hp => ?_)
        · obtain ⟨rfl, hv⟩ := hp
          cases hv
          refine x_istore_n C d_MD_extend_42 rfl (by decide) rfl ?_
          refine x_iload_n C d_MD_extend_43 rfl rfl ?_
          refine xn_if_le C (Nat.lt_of_le_of_lt (mkC_le _ _) (by decide)) 62 d_MD_extend_44 (by decide) (fun h44 => ?_) (fun h44 => ?_)
          · rw [if_pos h44]
            refine x_aload_n C d_MD_extend_62 rfl rfl ?_
            refine g_MD_chunks C hn d_MD_extend_63 ?_
            refine x_iconst C (v := nI 1) d_MD_extend_66 (by decide) ?_
            refine xn_isub C (by rw [mkS_0]; omega) d_MD_extend_67 ?_
            exact x_iret C hret d_MD_extend_68 ⟨by rw [show qc_extend τ (nI i) = 0 by rw [qc_extend, if_pos (inR_nI hi (by decide))]; simp only [ix_nI (show i < 2 ^ 31 by omega)]; rw [if_pos h28, if_pos h44], if_pos rfl, ix_nI (by omega)], by rw [show qc_extend τ (nI i) = 0 by rw [qc_extend, if_pos (inR_nI hi (by decide))]; simp only [ix_nI (show i < 2 ^ 31 by omega)]; rw [if_pos h28, if_pos h44], mkS_0, Nat.add_sub_cancel]; rfl⟩
          · rw [if_neg (show ¬ mkC τ i = 0 by omega)]
            refine x_aload_n C d_MD_extend_47 rfl rfl ?_
            refine x_iload_n C d_MD_extend_48 rfl rfl ?_
            refine x_iconst C (v := nI 1) d_MD_extend_49 (by decide) ?_
            refine xn_icmp_ne C (Nat.lt_of_le_of_lt (mkC_le _ _) (by decide)) (by decide) 57 d_MD_extend_50 (by decide) (fun h50 => ?_) (fun h50 => ?_)
            · refine x_iconst C (v := nI 3) d_MD_extend_57 (by decide) ?_
              refine c_MD_MD_fail C (by omega) hn (m_MD_fail htr hn hB (Nat.le_refl _)) rfl rfl (Nat.le_of_ble_eq_true rfl) d_MD_extend_58 (fun v E' hp => ?_) (fun X E' hp => ?_)
              · obtain ⟨rfl, hv⟩ := hp
                cases hv
                exact x_iret C hret d_MD_extend_61 ⟨by rw [show qc_extend τ (nI i) = 3 by rw [qc_extend, if_pos (inR_nI hi (by decide))]; simp only [ix_nI (show i < 2 ^ 31 by omega)]; rw [if_pos h28, if_neg (by omega), if_neg h50], if_neg (by decide)], by rw [show qc_extend τ (nI i) = 3 by rw [qc_extend, if_pos (inR_nI hi (by decide))]; simp only [ix_nI (show i < 2 ^ 31 by omega)]; rw [if_pos h28, if_neg (by omega), if_neg h50]]; rfl⟩
              · cases hp.2
            · refine x_iconst C (v := nI 4) d_MD_extend_53 (by decide) ?_
              refine x_goto C 58 d_MD_extend_54 (by decide) ?_
              refine c_MD_MD_fail C (by omega) hn (m_MD_fail htr hn hB (Nat.le_refl _)) rfl rfl (Nat.le_of_ble_eq_true rfl) d_MD_extend_58 (fun v E' hp => ?_) (fun X E' hp => ?_)
              · obtain ⟨rfl, hv⟩ := hp
                cases hv
                exact x_iret C hret d_MD_extend_61 ⟨by rw [show qc_extend τ (nI i) = 4 by rw [qc_extend, if_pos (inR_nI hi (by decide))]; simp only [ix_nI (show i < 2 ^ 31 by omega)]; rw [if_pos h28, if_neg (by omega), if_pos h50], if_neg (by decide)], by rw [show qc_extend τ (nI i) = 4 by rw [qc_extend, if_pos (inR_nI hi (by decide))]; simp only [ix_nI (show i < 2 ^ 31 by omega)]; rw [if_pos h28, if_neg (by omega), if_pos h50]]; rfl⟩
              · cases hp.2
        · cases hp.2
      · refine x_aload_n C d_MD_extend_31 rfl rfl ?_
        refine x_iconst C (v := nI 2) d_MD_extend_32 (by decide) ?_
        refine c_MD_MD_fail C (by omega) hn (m_MD_fail htr hn hB (Nat.le_refl _)) rfl rfl (Nat.le_of_ble_eq_true rfl) d_MD_extend_33 (fun v E' hp => ?_) (fun X E' hp => ?_)
        · obtain ⟨rfl, hv⟩ := hp
          cases hv
          exact x_iret C hret d_MD_extend_36 ⟨by rw [show qc_extend τ (nI i) = 2 by rw [qc_extend, if_pos (inR_nI hi (by decide))]; simp only [ix_nI (show i < 2 ^ 31 by omega)]; rw [if_neg h28], if_neg (by decide)], by rw [show qc_extend τ (nI i) = 2 by rw [qc_extend, if_pos (inR_nI hi (by decide))]; simp only [ix_nI (show i < 2 ^ 31 by omega)]; rw [if_neg h28]]; rfl⟩
        · cases hp.2
    · rw [b01_n0] at h12
      have h12 := nb_t h12
      refine x_aload_n C d_MD_extend_15 rfl rfl ?_
      refine x_iconst C (v := nI 1) d_MD_extend_16 (by decide) ?_
      refine c_MD_MD_fail C (by omega) hn (m_MD_fail htr hn hB (Nat.le_refl _)) rfl rfl (Nat.le_of_ble_eq_true rfl) d_MD_extend_17 (fun v E' hp => ?_) (fun X E' hp => ?_)
      · obtain ⟨rfl, hv⟩ := hp
        cases hv
        exact x_iret C hret d_MD_extend_20 ⟨by rw [show qc_extend τ  x = 1 by rw [qc_extend, if_neg h12], if_neg (by decide)], by rw [show qc_extend τ  x = 1 by rw [qc_extend, if_neg h12]]; rfl⟩
      · cases hp.2
  · cases hp.2
theorem m_MD_look {l : Launch} (htr : xTr l) {D : va_G} {a : Nat → ClassId} {base : Nat} {g : Nat → Nat} {n : Nat} {τ : xSig} {v : xWrd} {fc M : Nat} {X : Nat → va_E} (hn : 159 ≤ n) (hI : Inv τ v M) (hM : M ≤ 2 ^ 28) {x y z : Int32}  {k : Nat} (hk : 1 ≤ k) : xM l y_MD_look b_MD_look 5 (some FieldType.int) k D a base g n (EM a g τ v fc X) [.ref (g 143), .int x, .int y, .int z] (fun r E' => E' = EM a g τ v (qc_look τ x y z) X ∧ r = mr (qc_look τ x y z) (qa_look τ v (ix x) (ix y) (ix z))) := by
  refine x_method (by decide) htr (Nat.le_of_ble_eq_true rfl) ?_
  intro p e s m args below meth c C hne hret hnm
  have C : xC p l e s m meth c b_MD_look 5 "ChunkStoreModel" args D xcl (xty a) base := C
  have hO := hI.ok hM
  have hB : ∀ t i j, τ t i j < 2 ^ 30 := fun t i j => Nat.lt_trans (hO.1 t i j) (by decide)
  have hH := hO.2.2.2.1
  have hcv : ∀ s, s < 5 → τ 11 s 0 = cntV (τ 12 s) 30 := fun s hs => (hI.cnt s hs).1
  refine x_aload_n C d_MD_look_0 rfl rfl ?_
  refine x_iconst C (v := nI 0) d_MD_look_1 (by decide) ?_
  refine p_MD_failed C hn d_MD_look_2 ?_
  refine x_aload_n C d_MD_look_5 rfl rfl ?_
  refine x_iload_n C d_MD_look_6 rfl rfl ?_
  refine x_iconst C (v := nI 5) d_MD_look_7 (by decide) ?_
  refine c_MD_MD_out C (by omega) hn (m_MD_out htr hn hB (by decide) (Nat.le_refl _)) rfl rfl (Nat.le_of_ble_eq_true rfl) d_MD_look_8 (fun v E' hp => ?_) (fun X E' hp => ?_)
  · obtain ⟨rfl, hv⟩ := hp
    cases hv
    refine xn_if_ne C (b01_lt _) 34 d_MD_look_11 (by decide) (fun h11 => ?_) (fun h11 => ?_)
    · rw [b01_n0] at h11
      have h11 := nb_t h11
      refine x_aload_n C d_MD_look_34 rfl rfl ?_
      refine x_iconst C (v := nI 1) d_MD_look_35 (by decide) ?_
      refine c_MD_MD_fail C (by omega) hn (m_MD_fail htr hn hB (Nat.le_refl _)) rfl rfl (Nat.le_of_ble_eq_true rfl) d_MD_look_36 (fun v E' hp => ?_) (fun X E' hp => ?_)
      · obtain ⟨rfl, hv⟩ := hp
        cases hv
        exact x_iret C hret d_MD_look_39 ⟨by rw [show qc_look τ  x y z = 1 by rw [qc_look, if_neg (fun q => h11 q.1)]], by rw [show qc_look τ  x y z = 1 by rw [qc_look, if_neg (fun q => h11 q.1)]]; rfl⟩
      · cases hp.2
    · rw [b01_0] at h11
      obtain ⟨i, hi, rfl⟩ := inR_of (nb_f h11)
      refine x_aload_n C d_MD_look_14 rfl rfl ?_
      refine x_iload_n C d_MD_look_15 rfl rfl ?_
      refine x_bipush C (v := nI 30) d_MD_look_16 (by decide) ?_
      refine c_MD_MD_out C (by omega) hn (m_MD_out htr hn hB (by decide) (Nat.le_refl _)) rfl rfl (Nat.le_of_ble_eq_true rfl) d_MD_look_18 (fun v E' hp => ?_) (fun X E' hp => ?_)
      · obtain ⟨rfl, hv⟩ := hp
        cases hv
        refine xn_if_ne C (b01_lt _) 34 d_MD_look_21 (by decide) (fun h21 => ?_) (fun h21 => ?_)
        · rw [b01_n0] at h21
          have h21 := nb_t h21
          refine x_aload_n C d_MD_look_34 rfl rfl ?_
          refine x_iconst C (v := nI 1) d_MD_look_35 (by decide) ?_
          refine c_MD_MD_fail C (by omega) hn (m_MD_fail htr hn hB (Nat.le_refl _)) rfl rfl (Nat.le_of_ble_eq_true rfl) d_MD_look_36 (fun v E' hp => ?_) (fun X E' hp => ?_)
          · obtain ⟨rfl, hv⟩ := hp
            cases hv
            exact x_iret C hret d_MD_look_39 ⟨by rw [show qc_look τ (nI i) y z = 1 by rw [qc_look, if_neg (fun q => h21 q.2.1)]], by rw [show qc_look τ (nI i) y z = 1 by rw [qc_look, if_neg (fun q => h21 q.2.1)]]; rfl⟩
          · cases hp.2
        · rw [b01_0] at h21
          obtain ⟨q, hq, rfl⟩ := inR_of (nb_f h21)
          refine x_aload_n C d_MD_look_24 rfl rfl ?_
          refine x_iload_n C d_MD_look_25 rfl rfl ?_
          refine x_bipush C (v := nI 6) d_MD_look_26 (by decide) ?_
          refine c_MD_MD_out C (by omega) hn (m_MD_out htr hn hB (by decide) (Nat.le_refl _)) rfl rfl (Nat.le_of_ble_eq_true rfl) d_MD_look_28 (fun v E' hp => ?_) (fun X E' hp => ?_)
          · obtain ⟨rfl, hv⟩ := hp
            cases hv
            refine xn_if_eq C (b01_lt _) 40 d_MD_look_31 (by decide) (fun h31 => ?_) (fun h31 => ?_)
            · rw [b01_0] at h31
              obtain ⟨u, hu, rfl⟩ := inR_of (nb_f h31)
              refine x_bipush C (v := nI 30) d_MD_look_40 (by decide) ?_
              refine x_iload_n C d_MD_look_42 rfl rfl ?_
              refine xn_imul C d_MD_look_43 ?_
              refine x_iload_n C d_MD_look_44 rfl rfl ?_
              refine xn_iadd C d_MD_look_45 ?_
              refine x_istore C d_MD_look_46 (by decide) rfl ?_
              refine x_aload_n C d_MD_look_48 rfl rfl ?_
              refine g_MD_replica C hn d_MD_look_49 ?_
              refine x_iload C d_MD_look_52 rfl ?_
              refine e_mreplica C hi hq hn d_MD_look_54 ?_
              refine xn_if_ne C (Nat.lt_trans (hB 12 i q) (by decide)) 64 d_MD_look_55 (by decide) (fun h55 => ?_) (fun h55 => ?_)
              · refine x_iload_n C d_MD_look_64 rfl rfl ?_
                refine xn_if_ne C (Nat.lt_trans hu (by decide)) 78 d_MD_look_65 (by decide) (fun h65 => ?_) (fun h65 => ?_)
                · refine x_iload_n C d_MD_look_78 rfl rfl ?_
                  refine x_iconst C (v := nI 1) d_MD_look_79 (by decide) ?_
                  refine xn_icmp_ne C (Nat.lt_trans hu (by decide)) (by decide) 93 d_MD_look_80 (by decide) (fun h80 => ?_) (fun h80 => ?_)
                  · refine x_aload_n C d_MD_look_93 rfl rfl ?_
                    refine g_MD_word C hn d_MD_look_94 ?_
                    refine x_iconst C (v := nI 4) d_MD_look_97 (by decide) ?_
                    refine x_iload C d_MD_look_98 rfl ?_
                    refine xn_imul C d_MD_look_100 ?_
                    refine x_iload_n C d_MD_look_101 rfl rfl ?_
                    refine xn_iadd C d_MD_look_102 ?_
                    refine x_iconst C (v := nI 2) d_MD_look_103 (by decide) ?_
                    refine xn_isub C (by omega) d_MD_look_104 ?_
                    refine x_topi (show nI (4 * (30 * i + q) + u - 2) = nI (4 * (30 * i + q) + (u - 2)) by congr 1; omega) ?_
                    refine e_mword C hi hq (by omega) hn d_MD_look_105 ?_
                    exact x_iret C hret d_MD_look_106 ⟨by rw [show qc_look τ (nI i) (nI q) (nI u) = 0 by rw [qc_look, if_pos ⟨inR_nI hi (by decide), inR_nI hq (by decide), inR_nI hu (by decide)⟩]; simp only [ix_nI (show i < 2 ^ 31 by omega), ix_nI (show q < 2 ^ 31 by omega), ix_nI (show u < 2 ^ 31 by omega)]; rw [if_pos (by omega)]], by rw [show qc_look τ (nI i) (nI q) (nI u) = 0 by rw [qc_look, if_pos ⟨inR_nI hi (by decide), inR_nI hq (by decide), inR_nI hu (by decide)⟩]; simp only [ix_nI (show i < 2 ^ 31 by omega), ix_nI (show q < 2 ^ 31 by omega), ix_nI (show u < 2 ^ 31 by omega)]; rw [if_pos (by omega)], ix_nI (show i < 2 ^ 31 by omega), ix_nI (show q < 2 ^ 31 by omega), ix_nI (show u < 2 ^ 31 by omega), qa_look, if_neg h65, if_neg h80]; rfl⟩
                  · refine x_aload_n C d_MD_look_83 rfl rfl ?_
                    refine g_MD_used C hn d_MD_look_84 ?_
                    refine x_iload C d_MD_look_87 rfl ?_
                    refine e_mused C hi hq hn d_MD_look_89 ?_
                    refine x_goto C 106 d_MD_look_90 (by decide) ?_
                    exact x_iret C hret d_MD_look_106 ⟨by rw [show qc_look τ (nI i) (nI q) (nI u) = 0 by rw [qc_look, if_pos ⟨inR_nI hi (by decide), inR_nI hq (by decide), inR_nI hu (by decide)⟩]; simp only [ix_nI (show i < 2 ^ 31 by omega), ix_nI (show q < 2 ^ 31 by omega), ix_nI (show u < 2 ^ 31 by omega)]; rw [if_pos (by omega)]], by rw [show qc_look τ (nI i) (nI q) (nI u) = 0 by rw [qc_look, if_pos ⟨inR_nI hi (by decide), inR_nI hq (by decide), inR_nI hu (by decide)⟩]; simp only [ix_nI (show i < 2 ^ 31 by omega), ix_nI (show q < 2 ^ 31 by omega), ix_nI (show u < 2 ^ 31 by omega)]; rw [if_pos (by omega)], ix_nI (show i < 2 ^ 31 by omega), ix_nI (show q < 2 ^ 31 by omega), ix_nI (show u < 2 ^ 31 by omega), qa_look, if_neg h65, if_pos h80]; rfl⟩
                · refine x_aload_n C d_MD_look_68 rfl rfl ?_
                  refine g_MD_replica C hn d_MD_look_69 ?_
                  refine x_iload C d_MD_look_72 rfl ?_
                  refine e_mreplica C hi hq hn d_MD_look_74 ?_
                  refine x_goto C 106 d_MD_look_75 (by decide) ?_
                  exact x_iret C hret d_MD_look_106 ⟨by rw [show qc_look τ (nI i) (nI q) (nI u) = 0 by rw [qc_look, if_pos ⟨inR_nI hi (by decide), inR_nI hq (by decide), inR_nI hu (by decide)⟩]; simp only [ix_nI (show i < 2 ^ 31 by omega), ix_nI (show q < 2 ^ 31 by omega), ix_nI (show u < 2 ^ 31 by omega)]; rw [if_pos (by omega)]], by rw [show qc_look τ (nI i) (nI q) (nI u) = 0 by rw [qc_look, if_pos ⟨inR_nI hi (by decide), inR_nI hq (by decide), inR_nI hu (by decide)⟩]; simp only [ix_nI (show i < 2 ^ 31 by omega), ix_nI (show q < 2 ^ 31 by omega), ix_nI (show u < 2 ^ 31 by omega)]; rw [if_pos (by omega)], ix_nI (show i < 2 ^ 31 by omega), ix_nI (show q < 2 ^ 31 by omega), ix_nI (show u < 2 ^ 31 by omega), qa_look, if_pos h65]; rfl⟩
              · refine x_aload_n C d_MD_look_58 rfl rfl ?_
                refine x_iconst C (v := nI 2) d_MD_look_59 (by decide) ?_
                refine c_MD_MD_fail C (by omega) hn (m_MD_fail htr hn hB (Nat.le_refl _)) rfl rfl (Nat.le_of_ble_eq_true rfl) d_MD_look_60 (fun v E' hp => ?_) (fun X E' hp => ?_)
                · obtain ⟨rfl, hv⟩ := hp
                  cases hv
                  exact x_iret C hret d_MD_look_63 ⟨by rw [show qc_look τ (nI i) (nI q) (nI u) = 2 by rw [qc_look, if_pos ⟨inR_nI hi (by decide), inR_nI hq (by decide), inR_nI hu (by decide)⟩]; simp only [ix_nI (show i < 2 ^ 31 by omega), ix_nI (show q < 2 ^ 31 by omega), ix_nI (show u < 2 ^ 31 by omega)]; rw [if_neg (by omega)]], by rw [show qc_look τ (nI i) (nI q) (nI u) = 2 by rw [qc_look, if_pos ⟨inR_nI hi (by decide), inR_nI hq (by decide), inR_nI hu (by decide)⟩]; simp only [ix_nI (show i < 2 ^ 31 by omega), ix_nI (show q < 2 ^ 31 by omega), ix_nI (show u < 2 ^ 31 by omega)]; rw [if_neg (by omega)]]; rfl⟩
                · cases hp.2
            · rw [b01_n0] at h31
              have h31 := nb_t h31
              refine x_aload_n C d_MD_look_34 rfl rfl ?_
              refine x_iconst C (v := nI 1) d_MD_look_35 (by decide) ?_
              refine c_MD_MD_fail C (by omega) hn (m_MD_fail htr hn hB (Nat.le_refl _)) rfl rfl (Nat.le_of_ble_eq_true rfl) d_MD_look_36 (fun v E' hp => ?_) (fun X E' hp => ?_)
              · obtain ⟨rfl, hv⟩ := hp
                cases hv
                exact x_iret C hret d_MD_look_39 ⟨by rw [show qc_look τ (nI i) (nI q) z = 1 by rw [qc_look, if_neg (fun q => h31 q.2.2)]], by rw [show qc_look τ (nI i) (nI q) z = 1 by rw [qc_look, if_neg (fun q => h31 q.2.2)]]; rfl⟩
              · cases hp.2
          · cases hp.2
      · cases hp.2
  · cases hp.2
theorem m_MD_file {l : Launch} (htr : xTr l) {D : va_G} {a : Nat → ClassId} {base : Nat} {g : Nat → Nat} {n : Nat} {τ : xSig} {v : xWrd} {fc M : Nat} {X : Nat → va_E} (hn : 159 ≤ n) (hI : Inv τ v M) (hM : M ≤ 2 ^ 28) {x y : Int32}  {k : Nat} (hk : 1 ≤ k) : xM l y_MD_file b_MD_file 3 (some FieldType.int) k D a base g n (EM a g τ v fc X) [.ref (g 143), .int x, .int y] (fun r E' => E' = EM a g τ v (qc_file τ x y) X ∧ r = mr (qc_file τ x y) (qa_file τ (ix x) (ix y))) := by
  refine x_method (by decide) htr (Nat.le_of_ble_eq_true rfl) ?_
  intro p e s m args below meth c C hne hret hnm
  have C : xC p l e s m meth c b_MD_file 3 "ChunkStoreModel" args D xcl (xty a) base := C
  have hO := hI.ok hM
  have hB : ∀ t i j, τ t i j < 2 ^ 30 := fun t i j => Nat.lt_trans (hO.1 t i j) (by decide)
  have hH := hO.2.2.2.1
  have hcv : ∀ s, s < 5 → τ 11 s 0 = cntV (τ 12 s) 30 := fun s hs => (hI.cnt s hs).1
  refine x_aload_n C d_MD_file_0 rfl rfl ?_
  refine x_iconst C (v := nI 0) d_MD_file_1 (by decide) ?_
  refine p_MD_failed C hn d_MD_file_2 ?_
  refine x_aload_n C d_MD_file_5 rfl rfl ?_
  refine x_iload_n C d_MD_file_6 rfl rfl ?_
  refine x_bipush C (v := nI 8) d_MD_file_7 (by decide) ?_
  refine c_MD_MD_out C (by omega) hn (m_MD_out htr hn hB (by decide) (Nat.le_refl _)) rfl rfl (Nat.le_of_ble_eq_true rfl) d_MD_file_9 (fun v E' hp => ?_) (fun X E' hp => ?_)
  · obtain ⟨rfl, hv⟩ := hp
    cases hv
    refine xn_if_ne C (b01_lt _) 24 d_MD_file_12 (by decide) (fun h12 => ?_) (fun h12 => ?_)
    · rw [b01_n0] at h12
      have h12 := nb_t h12
      refine x_aload_n C d_MD_file_24 rfl rfl ?_
      refine x_iconst C (v := nI 1) d_MD_file_25 (by decide) ?_
      refine c_MD_MD_fail C (by omega) hn (m_MD_fail htr hn hB (Nat.le_refl _)) rfl rfl (Nat.le_of_ble_eq_true rfl) d_MD_file_26 (fun v E' hp => ?_) (fun X E' hp => ?_)
      · obtain ⟨rfl, hv⟩ := hp
        cases hv
        exact x_iret C hret d_MD_file_29 ⟨by rw [show qc_file τ  x y = 1 by rw [qc_file, if_neg (fun q => h12 q.1)]], by rw [show qc_file τ  x y = 1 by rw [qc_file, if_neg (fun q => h12 q.1)]]; rfl⟩
      · cases hp.2
    · rw [b01_0] at h12
      obtain ⟨i, hi, rfl⟩ := inR_of (nb_f h12)
      refine x_aload_n C d_MD_file_15 rfl rfl ?_
      refine x_iload_n C d_MD_file_16 rfl rfl ?_
      refine x_iconst C (v := nI 5) d_MD_file_17 (by decide) ?_
      refine c_MD_MD_out C (by omega) hn (m_MD_out htr hn hB (by decide) (Nat.le_refl _)) rfl rfl (Nat.le_of_ble_eq_true rfl) d_MD_file_18 (fun v E' hp => ?_) (fun X E' hp => ?_)
      · obtain ⟨rfl, hv⟩ := hp
        cases hv
        refine xn_if_eq C (b01_lt _) 30 d_MD_file_21 (by decide) (fun h21 => ?_) (fun h21 => ?_)
        · rw [b01_0] at h21
          obtain ⟨u, hu, rfl⟩ := inR_of (nb_f h21)
          refine x_iload_n C d_MD_file_30 rfl rfl ?_
          refine xn_if_ne C (Nat.lt_trans hu (by decide)) 41 d_MD_file_31 (by decide) (fun h31 => ?_) (fun h31 => ?_)
          · refine x_iload_n C d_MD_file_41 rfl rfl ?_
            refine x_iconst C (v := nI 1) d_MD_file_42 (by decide) ?_
            refine xn_icmp_ne C (Nat.lt_trans hu (by decide)) (by decide) 53 d_MD_file_43 (by decide) (fun h43 => ?_) (fun h43 => ?_)
            · refine x_iload_n C d_MD_file_53 rfl rfl ?_
              refine x_iconst C (v := nI 2) d_MD_file_54 (by decide) ?_
              refine xn_isub C (by omega) d_MD_file_55 ?_
              refine x_aload_n C d_MD_file_56 rfl rfl ?_
              refine g_MD_length C hn d_MD_file_57 ?_
              refine x_iload_n C d_MD_file_60 rfl rfl ?_
              refine e_mlength C hi hn d_MD_file_61 ?_
              refine xn_icmp_ge C (by omega) (Nat.lt_trans (hB 3 i 0) (by decide)) 80 d_MD_file_62 (by decide) (fun h62 => ?_) (fun h62 => ?_)
              · refine x_iconst C (v := -1) d_MD_file_80 (by decide) ?_
                exact x_iret C hret d_MD_file_81 ⟨by rw [show qc_file τ (nI i) (nI u) = 0 by rw [qc_file, if_pos ⟨inR_nI hi (by decide), inR_nI hu (by decide)⟩]], by rw [show qc_file τ (nI i) (nI u) = 0 by rw [qc_file, if_pos ⟨inR_nI hi (by decide), inR_nI hu (by decide)⟩], ix_nI (show i < 2 ^ 31 by omega), ix_nI (show u < 2 ^ 31 by omega), qa_file, if_neg h31, if_neg h43, if_neg (by omega)]; rfl⟩
              · refine x_aload_n C d_MD_file_65 rfl rfl ?_
                refine g_MD_row C hn d_MD_file_66 ?_
                refine x_iconst C (v := nI 3) d_MD_file_69 (by decide) ?_
                refine x_iload_n C d_MD_file_70 rfl rfl ?_
                refine xn_imul C d_MD_file_71 ?_
                refine x_iload_n C d_MD_file_72 rfl rfl ?_
                refine xn_iadd C d_MD_file_73 ?_
                refine x_iconst C (v := nI 2) d_MD_file_74 (by decide) ?_
                refine xn_isub C (by omega) d_MD_file_75 ?_
                refine x_topi (show nI (3 * i + u - 2) = nI (3 * i + (u - 2)) by congr 1; omega) ?_
                refine e_mrow C hi (by omega) hn d_MD_file_76 ?_
                refine x_goto C 81 d_MD_file_77 (by decide) ?_
                exact x_iret C hret d_MD_file_81 ⟨by rw [show qc_file τ (nI i) (nI u) = 0 by rw [qc_file, if_pos ⟨inR_nI hi (by decide), inR_nI hu (by decide)⟩]], by rw [show qc_file τ (nI i) (nI u) = 0 by rw [qc_file, if_pos ⟨inR_nI hi (by decide), inR_nI hu (by decide)⟩], ix_nI (show i < 2 ^ 31 by omega), ix_nI (show u < 2 ^ 31 by omega), qa_file, if_neg h31, if_neg h43, if_pos h62]; rfl⟩
            · refine x_aload_n C d_MD_file_46 rfl rfl ?_
              refine g_MD_length C hn d_MD_file_47 ?_
              refine x_iload_n C d_MD_file_50 rfl rfl ?_
              refine e_mlength C hi hn d_MD_file_51 ?_
              exact x_iret C hret d_MD_file_52 ⟨by rw [show qc_file τ (nI i) (nI u) = 0 by rw [qc_file, if_pos ⟨inR_nI hi (by decide), inR_nI hu (by decide)⟩]], by rw [show qc_file τ (nI i) (nI u) = 0 by rw [qc_file, if_pos ⟨inR_nI hi (by decide), inR_nI hu (by decide)⟩], ix_nI (show i < 2 ^ 31 by omega), ix_nI (show u < 2 ^ 31 by omega), qa_file, if_neg h31, if_pos h43]; rfl⟩
          · refine x_aload_n C d_MD_file_34 rfl rfl ?_
            refine g_MD_state C hn d_MD_file_35 ?_
            refine x_iload_n C d_MD_file_38 rfl rfl ?_
            refine e_mstate C hi hn d_MD_file_39 ?_
            exact x_iret C hret d_MD_file_40 ⟨by rw [show qc_file τ (nI i) (nI u) = 0 by rw [qc_file, if_pos ⟨inR_nI hi (by decide), inR_nI hu (by decide)⟩]], by rw [show qc_file τ (nI i) (nI u) = 0 by rw [qc_file, if_pos ⟨inR_nI hi (by decide), inR_nI hu (by decide)⟩], ix_nI (show i < 2 ^ 31 by omega), ix_nI (show u < 2 ^ 31 by omega), qa_file, if_pos h31]; rfl⟩
        · rw [b01_n0] at h21
          have h21 := nb_t h21
          refine x_aload_n C d_MD_file_24 rfl rfl ?_
          refine x_iconst C (v := nI 1) d_MD_file_25 (by decide) ?_
          refine c_MD_MD_fail C (by omega) hn (m_MD_fail htr hn hB (Nat.le_refl _)) rfl rfl (Nat.le_of_ble_eq_true rfl) d_MD_file_26 (fun v E' hp => ?_) (fun X E' hp => ?_)
          · obtain ⟨rfl, hv⟩ := hp
            cases hv
            exact x_iret C hret d_MD_file_29 ⟨by rw [show qc_file τ (nI i) y = 1 by rw [qc_file, if_neg (fun q => h21 q.2)]], by rw [show qc_file τ (nI i) y = 1 by rw [qc_file, if_neg (fun q => h21 q.2)]]; rfl⟩
          · cases hp.2
      · cases hp.2
  · cases hp.2
theorem m_MD_chunk {l : Launch} (htr : xTr l) {D : va_G} {a : Nat → ClassId} {base : Nat} {g : Nat → Nat} {n : Nat} {τ : xSig} {v : xWrd} {fc M : Nat} {X : Nat → va_E} (hn : 159 ≤ n) (hI : Inv τ v M) (hM : M ≤ 2 ^ 28) {x y : Int32}  {k : Nat} (hk : 1 ≤ k) : xM l y_MD_chunk b_MD_chunk 3 (some FieldType.int) k D a base g n (EM a g τ v fc X) [.ref (g 143), .int x, .int y] (fun r E' => E' = EM a g τ v (qc_chunk τ x y) X ∧ r = mr (qc_chunk τ x y) (qa_chunk τ (ix x) (ix y))) := by
  refine x_method (by decide) htr (Nat.le_of_ble_eq_true rfl) ?_
  intro p e s m args below meth c C hne hret hnm
  have C : xC p l e s m meth c b_MD_chunk 3 "ChunkStoreModel" args D xcl (xty a) base := C
  have hO := hI.ok hM
  have hB : ∀ t i j, τ t i j < 2 ^ 30 := fun t i j => Nat.lt_trans (hO.1 t i j) (by decide)
  have hH := hO.2.2.2.1
  have hcv : ∀ s, s < 5 → τ 11 s 0 = cntV (τ 12 s) 30 := fun s hs => (hI.cnt s hs).1
  refine x_aload_n C d_MD_chunk_0 rfl rfl ?_
  refine x_iconst C (v := nI 0) d_MD_chunk_1 (by decide) ?_
  refine p_MD_failed C hn d_MD_chunk_2 ?_
  refine x_aload_n C d_MD_chunk_5 rfl rfl ?_
  refine x_iload_n C d_MD_chunk_6 rfl rfl ?_
  refine x_bipush C (v := nI 30) d_MD_chunk_7 (by decide) ?_
  refine c_MD_MD_out C (by omega) hn (m_MD_out htr hn hB (by decide) (Nat.le_refl _)) rfl rfl (Nat.le_of_ble_eq_true rfl) d_MD_chunk_9 (fun v E' hp => ?_) (fun X E' hp => ?_)
  · obtain ⟨rfl, hv⟩ := hp
    cases hv
    refine xn_if_ne C (b01_lt _) 24 d_MD_chunk_12 (by decide) (fun h12 => ?_) (fun h12 => ?_)
    · rw [b01_n0] at h12
      have h12 := nb_t h12
      refine x_aload_n C d_MD_chunk_24 rfl rfl ?_
      refine x_iconst C (v := nI 1) d_MD_chunk_25 (by decide) ?_
      refine c_MD_MD_fail C (by omega) hn (m_MD_fail htr hn hB (Nat.le_refl _)) rfl rfl (Nat.le_of_ble_eq_true rfl) d_MD_chunk_26 (fun v E' hp => ?_) (fun X E' hp => ?_)
      · obtain ⟨rfl, hv⟩ := hp
        cases hv
        exact x_iret C hret d_MD_chunk_29 ⟨by rw [show qc_chunk τ  x y = 1 by rw [qc_chunk, if_neg (fun q => h12 q.1)]], by rw [show qc_chunk τ  x y = 1 by rw [qc_chunk, if_neg (fun q => h12 q.1)]]; rfl⟩
      · cases hp.2
    · rw [b01_0] at h12
      obtain ⟨i, hi, rfl⟩ := inR_of (nb_f h12)
      refine x_aload_n C d_MD_chunk_15 rfl rfl ?_
      refine x_iload_n C d_MD_chunk_16 rfl rfl ?_
      refine x_iconst C (v := nI 5) d_MD_chunk_17 (by decide) ?_
      refine c_MD_MD_out C (by omega) hn (m_MD_out htr hn hB (by decide) (Nat.le_refl _)) rfl rfl (Nat.le_of_ble_eq_true rfl) d_MD_chunk_18 (fun v E' hp => ?_) (fun X E' hp => ?_)
      · obtain ⟨rfl, hv⟩ := hp
        cases hv
        refine xn_if_eq C (b01_lt _) 30 d_MD_chunk_21 (by decide) (fun h21 => ?_) (fun h21 => ?_)
        · rw [b01_0] at h21
          obtain ⟨u, hu, rfl⟩ := inR_of (nb_f h21)
          refine x_iload_n C d_MD_chunk_30 rfl rfl ?_
          refine x_aload_n C d_MD_chunk_31 rfl rfl ?_
          refine g_MD_chunks C hn d_MD_chunk_32 ?_
          refine xn_icmp_lt C (Nat.lt_trans hi (by decide)) (Nat.lt_trans (hB 0 0 0) (by decide)) 44 d_MD_chunk_35 (by decide) (fun h35 => ?_) (fun h35 => ?_)
          · refine x_iload_n C d_MD_chunk_44 rfl rfl ?_
            have hsw : u = 0 ∨ u = 1 ∨ u = 2 ∨ u = 3 ∨ u = 4 := by omega
            rcases hsw with rfl | rfl | rfl | rfl | rfl
            · refine x_tableIn C 76 d_MD_chunk_45 (by decide) (by decide) rfl (by decide) ?_
              refine x_aload_n C d_MD_chunk_76 rfl rfl ?_
              refine g_MD_version C hn d_MD_chunk_77 ?_
              refine x_iload_n C d_MD_chunk_80 rfl rfl ?_
              refine e_mversion C hi hn d_MD_chunk_81 ?_
              exact x_iret C hret d_MD_chunk_82 ⟨by rw [show qc_chunk τ (nI i) (nI 0) = 0 by rw [qc_chunk, if_pos ⟨inR_nI hi (by decide), inR_nI (show 0 < 5 by decide) (by decide)⟩]; simp only [ix_nI (show i < 2 ^ 31 by omega), ix_nI (show 0 < 2 ^ 31 by omega)]; rw [if_pos h35]], by rw [show qc_chunk τ (nI i) (nI 0) = 0 by rw [qc_chunk, if_pos ⟨inR_nI hi (by decide), inR_nI (show 0 < 5 by decide) (by decide)⟩]; simp only [ix_nI (show i < 2 ^ 31 by omega), ix_nI (show 0 < 2 ^ 31 by omega)]; rw [if_pos h35], ix_nI (show i < 2 ^ 31 by omega), ix_nI (show 0 < 2 ^ 31 by omega)]; rfl⟩
            · refine x_tableIn C 83 d_MD_chunk_45 (by decide) (by decide) rfl (by decide) ?_
              refine x_aload_n C d_MD_chunk_83 rfl rfl ?_
              refine x_iload_n C d_MD_chunk_84 rfl rfl ?_
              refine c_MD_MD_refs C (by omega) hn (m_MD_refs htr hn hB (Nat.lt_trans hi (by decide)) (Nat.le_refl _)) rfl rfl (Nat.le_of_ble_eq_true rfl) d_MD_chunk_85 (fun v E' hp => ?_) (fun X E' hp => ?_)
              · obtain ⟨rfl, hv⟩ := hp
                cases hv
                exact x_iret C hret d_MD_chunk_88 ⟨by rw [show qc_chunk τ (nI i) (nI 1) = 0 by rw [qc_chunk, if_pos ⟨inR_nI hi (by decide), inR_nI (show 1 < 5 by decide) (by decide)⟩]; simp only [ix_nI (show i < 2 ^ 31 by omega), ix_nI (show 1 < 2 ^ 31 by omega)]; rw [if_pos h35]], by rw [show qc_chunk τ (nI i) (nI 1) = 0 by rw [qc_chunk, if_pos ⟨inR_nI hi (by decide), inR_nI (show 1 < 5 by decide) (by decide)⟩]; simp only [ix_nI (show i < 2 ^ 31 by omega), ix_nI (show 1 < 2 ^ 31 by omega)]; rw [if_pos h35], ix_nI (show i < 2 ^ 31 by omega), ix_nI (show 1 < 2 ^ 31 by omega), ← hI.refs i hi]; rfl⟩
              · cases hp.2
            · refine x_tableIn C 89 d_MD_chunk_45 (by decide) (by decide) rfl (by decide) ?_
              refine x_aload_n C d_MD_chunk_89 rfl rfl ?_
              refine g_MD_holders C hn d_MD_chunk_90 ?_
              refine x_iload_n C d_MD_chunk_93 rfl rfl ?_
              refine e_mholders C hi hn d_MD_chunk_94 ?_
              exact x_iret C hret d_MD_chunk_95 ⟨by rw [show qc_chunk τ (nI i) (nI 2) = 0 by rw [qc_chunk, if_pos ⟨inR_nI hi (by decide), inR_nI (show 2 < 5 by decide) (by decide)⟩]; simp only [ix_nI (show i < 2 ^ 31 by omega), ix_nI (show 2 < 2 ^ 31 by omega)]; rw [if_pos h35]], by rw [show qc_chunk τ (nI i) (nI 2) = 0 by rw [qc_chunk, if_pos ⟨inR_nI hi (by decide), inR_nI (show 2 < 5 by decide) (by decide)⟩]; simp only [ix_nI (show i < 2 ^ 31 by omega), ix_nI (show 2 < 2 ^ 31 by omega)]; rw [if_pos h35], ix_nI (show i < 2 ^ 31 by omega), ix_nI (show 2 < 2 ^ 31 by omega)]; rfl⟩
            · refine x_tableIn C 96 d_MD_chunk_45 (by decide) (by decide) rfl (by decide) ?_
              refine x_aload_n C d_MD_chunk_96 rfl rfl ?_
              refine x_aload_n C d_MD_chunk_97 rfl rfl ?_
              refine x_iload_n C d_MD_chunk_98 rfl rfl ?_
              refine c_MD_MD_live C (by omega) hn (m_MD_live htr hn hB hH hi (Nat.le_refl _)) rfl rfl (Nat.le_of_ble_eq_true rfl) d_MD_chunk_99 (fun v E' hp => ?_) (fun X E' hp => ?_)
              · obtain ⟨rfl, hv⟩ := hp
                cases hv
                refine c_MD_MD_ones C (by omega) hn (m_MD_ones htr hn hB (lvh_lt _ _) (Nat.le_refl _)) rfl rfl (Nat.le_of_ble_eq_true rfl) d_MD_chunk_102 (fun v E' hp => ?_) (fun X E' hp => ?_)
                · obtain ⟨rfl, hv⟩ := hp
                  cases hv
                  exact x_iret C hret d_MD_chunk_105 ⟨by rw [show qc_chunk τ (nI i) (nI 3) = 0 by rw [qc_chunk, if_pos ⟨inR_nI hi (by decide), inR_nI (show 3 < 5 by decide) (by decide)⟩]; simp only [ix_nI (show i < 2 ^ 31 by omega), ix_nI (show 3 < 2 ^ 31 by omega)]; rw [if_pos h35]], by rw [show qc_chunk τ (nI i) (nI 3) = 0 by rw [qc_chunk, if_pos ⟨inR_nI hi (by decide), inR_nI (show 3 < 5 by decide) (by decide)⟩]; simp only [ix_nI (show i < 2 ^ 31 by omega), ix_nI (show 3 < 2 ^ 31 by omega)]; rw [if_pos h35], ix_nI (show i < 2 ^ 31 by omega), ix_nI (show 3 < 2 ^ 31 by omega)]; rfl⟩
                · cases hp.2
              · cases hp.2
            · refine x_tableOut C 106 d_MD_chunk_45 (by decide) (by decide) ?_
              refine x_aload_n C d_MD_chunk_106 rfl rfl ?_
              refine g_MD_lease C hn d_MD_chunk_107 ?_
              refine x_iload_n C d_MD_chunk_110 rfl rfl ?_
              refine e_mlease C hi hn d_MD_chunk_111 ?_
              refine x_aload_n C d_MD_chunk_112 rfl rfl ?_
              refine g_MD_time C hn d_MD_chunk_113 ?_
              refine xn_dcmpE C (Nat.lt_trans (hB 9 i 0) (by decide)) (Nat.lt_trans (hB 1 0 0) (by decide)) d_MD_chunk_116 ?_
              refine x_if_le C 124 d_MD_chunk_117 (by decide) (fun h117 => ?_) (fun h117 => ?_)
              · have h117 := cmpE_le h117
                refine x_iconst C (v := nI 0) d_MD_chunk_124 (by decide) ?_
                exact x_iret C hret d_MD_chunk_125 ⟨by rw [show qc_chunk τ (nI i) (nI 4) = 0 by rw [qc_chunk, if_pos ⟨inR_nI hi (by decide), inR_nI (show 4 < 5 by decide) (by decide)⟩]; simp only [ix_nI (show i < 2 ^ 31 by omega), ix_nI (show 4 < 2 ^ 31 by omega)]; rw [if_pos h35]], by rw [show qc_chunk τ (nI i) (nI 4) = 0 by rw [qc_chunk, if_pos ⟨inR_nI hi (by decide), inR_nI (show 4 < 5 by decide) (by decide)⟩]; simp only [ix_nI (show i < 2 ^ 31 by omega), ix_nI (show 4 < 2 ^ 31 by omega)]; rw [if_pos h35], ix_nI (show i < 2 ^ 31 by omega), ix_nI (show 4 < 2 ^ 31 by omega), show qa_chunk τ i 4 = nI (b01 (decide (τ 1 0 0 < τ 9 i 0))) from rfl, b01_f (decide_eq_false (by omega))]; rfl⟩
              · have h117 := cmpE_nle h117
                refine x_iconst C (v := nI 1) d_MD_chunk_120 (by decide) ?_
                refine x_goto C 125 d_MD_chunk_121 (by decide) ?_
                exact x_iret C hret d_MD_chunk_125 ⟨by rw [show qc_chunk τ (nI i) (nI 4) = 0 by rw [qc_chunk, if_pos ⟨inR_nI hi (by decide), inR_nI (show 4 < 5 by decide) (by decide)⟩]; simp only [ix_nI (show i < 2 ^ 31 by omega), ix_nI (show 4 < 2 ^ 31 by omega)]; rw [if_pos h35]], by rw [show qc_chunk τ (nI i) (nI 4) = 0 by rw [qc_chunk, if_pos ⟨inR_nI hi (by decide), inR_nI (show 4 < 5 by decide) (by decide)⟩]; simp only [ix_nI (show i < 2 ^ 31 by omega), ix_nI (show 4 < 2 ^ 31 by omega)]; rw [if_pos h35], ix_nI (show i < 2 ^ 31 by omega), ix_nI (show 4 < 2 ^ 31 by omega), show qa_chunk τ i 4 = nI (b01 (decide (τ 1 0 0 < τ 9 i 0))) from rfl, b01_t (decide_eq_true h117)]; rfl⟩
          · refine x_aload_n C d_MD_chunk_38 rfl rfl ?_
            refine x_iconst C (v := nI 2) d_MD_chunk_39 (by decide) ?_
            refine c_MD_MD_fail C (by omega) hn (m_MD_fail htr hn hB (Nat.le_refl _)) rfl rfl (Nat.le_of_ble_eq_true rfl) d_MD_chunk_40 (fun v E' hp => ?_) (fun X E' hp => ?_)
            · obtain ⟨rfl, hv⟩ := hp
              cases hv
              exact x_iret C hret d_MD_chunk_43 ⟨by rw [show qc_chunk τ (nI i) (nI u) = 2 by rw [qc_chunk, if_pos ⟨inR_nI hi (by decide), inR_nI hu (by decide)⟩]; simp only [ix_nI (show i < 2 ^ 31 by omega), ix_nI (show u < 2 ^ 31 by omega)]; rw [if_neg (by omega)]], by rw [show qc_chunk τ (nI i) (nI u) = 2 by rw [qc_chunk, if_pos ⟨inR_nI hi (by decide), inR_nI hu (by decide)⟩]; simp only [ix_nI (show i < 2 ^ 31 by omega), ix_nI (show u < 2 ^ 31 by omega)]; rw [if_neg (by omega)]]; rfl⟩
            · cases hp.2
        · rw [b01_n0] at h21
          have h21 := nb_t h21
          refine x_aload_n C d_MD_chunk_24 rfl rfl ?_
          refine x_iconst C (v := nI 1) d_MD_chunk_25 (by decide) ?_
          refine c_MD_MD_fail C (by omega) hn (m_MD_fail htr hn hB (Nat.le_refl _)) rfl rfl (Nat.le_of_ble_eq_true rfl) d_MD_chunk_26 (fun v E' hp => ?_) (fun X E' hp => ?_)
          · obtain ⟨rfl, hv⟩ := hp
            cases hv
            exact x_iret C hret d_MD_chunk_29 ⟨by rw [show qc_chunk τ (nI i) y = 1 by rw [qc_chunk, if_neg (fun q => h21 q.2)]], by rw [show qc_chunk τ (nI i) y = 1 by rw [qc_chunk, if_neg (fun q => h21 q.2)]]; rfl⟩
          · cases hp.2
      · cases hp.2
  · cases hp.2
end XN5
