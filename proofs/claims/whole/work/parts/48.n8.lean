section XN8
theorem m_MD_write {l : Launch} (htr : xTr l) {D : va_G} {a : Nat → ClassId} {base : Nat} {g : Nat → Nat} {n : Nat} {τ : xSig} {v : xWrd} {fc M : Nat} {X : Nat → va_E} (hn : 159 ≤ n) (hI : Inv τ v M) (hM : M ≤ 2 ^ 28) {x y z : Int32} {x0 : Int32} {k : Nat} (hk : 2 ≤ k) : xM l y_MD_write b_MD_write 7 (some FieldType.int) k D a base g n (EM a g τ v fc X) [.ref (g 143), .int x, .int y, .int z, .int x0] (fun r E' => E' = EM a g (if qc_write τ x y z = 0 then qs_write τ (ix x) (ix y) (ix z) else τ) (if qc_write τ x y z = 0 then qw_write τ v (ix x) (ix y) (ix z) x0 else v) (qc_write τ x y z) X ∧ r = mr (qc_write τ x y z) (qa_write τ (ix x) (ix y))) := by
  refine x_method (by decide) htr (Nat.le_of_ble_eq_true rfl) ?_
  intro p e s m args below meth c C hne hret hnm
  have C : xC p l e s m meth c b_MD_write 7 "ChunkStoreModel" args D xcl (xty a) base := C
  have hO := hI.ok hM
  have hB : ∀ t i j, τ t i j < 2 ^ 30 := fun t i j => Nat.lt_trans (hO.1 t i j) (by decide)
  have hH := hO.2.2.2.1
  have hcv : ∀ s, s < 5 → τ 11 s 0 = cntV (τ 12 s) 30 := fun s hs => (hI.cnt s hs).1
  refine x_aload_n C d_MD_write_0 rfl rfl ?_
  refine x_iconst C (v := nI 0) d_MD_write_1 (by decide) ?_
  refine p_MD_failed C hn d_MD_write_2 ?_
  refine x_aload_n C d_MD_write_5 rfl rfl ?_
  refine x_iload_n C d_MD_write_6 rfl rfl ?_
  refine x_bipush C (v := nI 8) d_MD_write_7 (by decide) ?_
  refine c_MD_MD_out C (by omega) hn (m_MD_out htr hn hB (by decide) (Nat.le_refl _)) rfl rfl (Nat.le_of_ble_eq_true rfl) d_MD_write_9 (fun v E' hp => ?_) (fun X E' hp => ?_)
  · obtain ⟨rfl, hv⟩ := hp
    cases hv
    refine xn_if_ne C (b01_lt _) 33 d_MD_write_12 (by decide) (fun h12 => ?_) (fun h12 => ?_)
    · rw [b01_n0] at h12
      have h12 := nb_t h12
      refine x_aload_n C d_MD_write_33 rfl rfl ?_
      refine x_iconst C (v := nI 1) d_MD_write_34 (by decide) ?_
      refine c_MD_MD_fail C (by omega) hn (m_MD_fail htr hn hB (Nat.le_refl _)) rfl rfl (Nat.le_of_ble_eq_true rfl) d_MD_write_35 (fun v E' hp => ?_) (fun X E' hp => ?_)
      · obtain ⟨rfl, hv⟩ := hp
        cases hv
        exact x_iret C hret d_MD_write_38 ⟨by rw [show qc_write τ  x y z = 1 by rw [qc_write, if_neg (fun q => h12 q.1)], if_neg (by decide), if_neg (by decide)], by rw [show qc_write τ  x y z = 1 by rw [qc_write, if_neg (fun q => h12 q.1)]]; rfl⟩
      · cases hp.2
    · rw [b01_0] at h12
      obtain ⟨f, hf, rfl⟩ := inR_of (nb_f h12)
      refine x_aload_n C d_MD_write_15 rfl rfl ?_
      refine x_iload_n C d_MD_write_16 rfl rfl ?_
      refine x_iconst C (v := nI 3) d_MD_write_17 (by decide) ?_
      refine c_MD_MD_out C (by omega) hn (m_MD_out htr hn hB (by decide) (Nat.le_refl _)) rfl rfl (Nat.le_of_ble_eq_true rfl) d_MD_write_18 (fun v E' hp => ?_) (fun X E' hp => ?_)
      · obtain ⟨rfl, hv⟩ := hp
        cases hv
        refine xn_if_ne C (b01_lt _) 33 d_MD_write_21 (by decide) (fun h21 => ?_) (fun h21 => ?_)
        · rw [b01_n0] at h21
          have h21 := nb_t h21
          refine x_aload_n C d_MD_write_33 rfl rfl ?_
          refine x_iconst C (v := nI 1) d_MD_write_34 (by decide) ?_
          refine c_MD_MD_fail C (by omega) hn (m_MD_fail htr hn hB (Nat.le_refl _)) rfl rfl (Nat.le_of_ble_eq_true rfl) d_MD_write_35 (fun v E' hp => ?_) (fun X E' hp => ?_)
          · obtain ⟨rfl, hv⟩ := hp
            cases hv
            exact x_iret C hret d_MD_write_38 ⟨by rw [show qc_write τ (nI f) y z = 1 by rw [qc_write, if_neg (fun q => h21 q.2.1)], if_neg (by decide), if_neg (by decide)], by rw [show qc_write τ (nI f) y z = 1 by rw [qc_write, if_neg (fun q => h21 q.2.1)]]; rfl⟩
          · cases hp.2
        · rw [b01_0] at h21
          obtain ⟨q, hq, rfl⟩ := inR_of (nb_f h21)
          refine x_aload_n C d_MD_write_24 rfl rfl ?_
          refine x_iload_n C d_MD_write_25 rfl rfl ?_
          refine x_iconst C (v := nI 4) d_MD_write_26 (by decide) ?_
          refine c_MD_MD_out C (by omega) hn (m_MD_out htr hn hB (by decide) (Nat.le_refl _)) rfl rfl (Nat.le_of_ble_eq_true rfl) d_MD_write_27 (fun v E' hp => ?_) (fun X E' hp => ?_)
          · obtain ⟨rfl, hv⟩ := hp
            cases hv
            refine xn_if_eq C (b01_lt _) 39 d_MD_write_30 (by decide) (fun h30 => ?_) (fun h30 => ?_)
            · rw [b01_0] at h30
              obtain ⟨u, hu, rfl⟩ := inR_of (nb_f h30)
              refine x_aload_n C d_MD_write_39 rfl rfl ?_
              refine g_MD_state C hn d_MD_write_40 ?_
              refine x_iload_n C d_MD_write_43 rfl rfl ?_
              refine e_mstate C hf hn d_MD_write_44 ?_
              refine x_iconst C (v := nI 1) d_MD_write_45 (by decide) ?_
              refine xn_icmp_eq C (Nat.lt_trans (hB 2 f 0) (by decide)) (by decide) 55 d_MD_write_46 (by decide) (fun h46 => ?_) (fun h46 => ?_)
              · refine x_iload_n C d_MD_write_55 rfl rfl ?_
                refine x_aload_n C d_MD_write_56 rfl rfl ?_
                refine g_MD_length C hn d_MD_write_57 ?_
                refine x_iload_n C d_MD_write_60 rfl rfl ?_
                refine e_mlength C hf hn d_MD_write_61 ?_
                refine xn_icmp_lt C (Nat.lt_trans hq (by decide)) (Nat.lt_trans (hB 3 f 0) (by decide)) 71 d_MD_write_62 (by decide) (fun h62 => ?_) (fun h62 => ?_)
                · refine x_aload_n C d_MD_write_71 rfl rfl ?_
                  refine x_iload_n C d_MD_write_72 rfl rfl ?_
                  refine x_iload_n C d_MD_write_73 rfl rfl ?_
                  refine c_MD_MD_takeLease C (by omega) hn (m_MD_takeLease htr hn hI hM hf hq h62 (Nat.le_refl _)) rfl rfl (Nat.le_of_ble_eq_true rfl) d_MD_write_74 (fun v E' hp => ?_) (fun X E' hp => ?_)
                  · obtain ⟨rfl, hv⟩ := hp
                    cases hv
                    refine x_istore C d_MD_write_77 (by decide) rfl ?_
                    refine x_iload C d_MD_write_79 rfl ?_
                    refine xn_if_le C (by rcases lsC_c τ (τ 4 f q) with e | e | e | e <;> omega) 91 d_MD_write_81 (by decide) (fun h81 => ?_) (fun h81 => ?_)
                    · rw [if_pos h81, if_pos h81]
                      have h29 : ∀ t i j, τ t i j < 2 ^ 29 := fun t i j => Nat.lt_trans (hO.1 t i j) (by decide)
                      have hcc : τ 4 f q < τ 0 0 0 := (hI.file f hf).2.2.2.1 q h62
                      have hBl := lsS_B h29 hcc h81
                      have hHl := lsS_H (f := f) (q := q) hH
                      have hnl := lsN_lt (Nat.lt_of_lt_of_le hcc hO.2.1) h81
                      refine x_aload_n C d_MD_write_91 rfl rfl ?_
                      refine g_MD_row C hn d_MD_write_92 ?_
                      refine x_iconst C (v := nI 3) d_MD_write_95 (by decide) ?_
                      refine x_iload_n C d_MD_write_96 rfl rfl ?_
                      refine xn_imul C d_MD_write_97 ?_
                      refine x_iload_n C d_MD_write_98 rfl rfl ?_
                      refine xn_iadd C d_MD_write_99 ?_
                      refine e_mrow C hf hq hn d_MD_write_100 ?_
                      refine x_topi (show nI (lsS τ f q 4 f q) = nI (lsN τ (τ 4 f q)) by rw [lsS_4]) ?_
                      refine x_istore C d_MD_write_101 (by decide) rfl ?_
                      refine x_aload_n C d_MD_write_103 rfl rfl ?_
                      refine x_iload C d_MD_write_104 rfl ?_
                      refine x_iload_n C d_MD_write_106 rfl rfl ?_
                      refine x_iload C d_MD_write_107 rfl ?_
                      refine c_MD_MD_store C (by omega) hn (m_MD_store htr hn hBl hHl hnl hu (Nat.le_refl _)) rfl rfl (Nat.le_of_ble_eq_true rfl) d_MD_write_109 (fun v E' hp => ?_) (fun X E' hp => ?_)
                      · obtain ⟨rfl, hv⟩ := hp
                        cases hv
                        refine x_aload_n C d_MD_write_112 rfl rfl ?_
                        refine g_MD_version C hn d_MD_write_113 ?_
                        refine x_iload C d_MD_write_116 rfl ?_
                        refine e_mversion C hnl hn d_MD_write_118 ?_
                        exact x_iret C hret d_MD_write_119 ⟨by rw [show qc_write τ (nI f) (nI q) (nI u) = lsC τ (τ 4 f q) by rw [qc_write, if_pos ⟨inR_nI hf (by decide), inR_nI hq (by decide), inR_nI hu (by decide)⟩]; simp only [ix_nI (show f < 2 ^ 31 by omega), ix_nI (show q < 2 ^ 31 by omega), ix_nI (show u < 2 ^ 31 by omega)]; rw [if_pos h46, if_pos h62], if_pos h81, if_pos h81, ix_nI (show f < 2 ^ 31 by omega), ix_nI (show q < 2 ^ 31 by omega), ix_nI (show u < 2 ^ 31 by omega), qs_write, qw_write, h81], by rw [show qc_write τ (nI f) (nI q) (nI u) = lsC τ (τ 4 f q) by rw [qc_write, if_pos ⟨inR_nI hf (by decide), inR_nI hq (by decide), inR_nI hu (by decide)⟩]; simp only [ix_nI (show f < 2 ^ 31 by omega), ix_nI (show q < 2 ^ 31 by omega), ix_nI (show u < 2 ^ 31 by omega)]; rw [if_pos h46, if_pos h62], h81, ix_nI (show f < 2 ^ 31 by omega), ix_nI (show q < 2 ^ 31 by omega), qa_write, wrS, swL_o _ (by decide)]; rfl⟩
                      · cases hp.2
                    · rw [if_neg (show ¬ lsC τ (τ 4 f q) = 0 by omega), if_neg (show ¬ lsC τ (τ 4 f q) = 0 by omega)]
                      refine x_aload_n C d_MD_write_84 rfl rfl ?_
                      refine x_iload C d_MD_write_85 rfl ?_
                      refine c_MD_MD_fail C (by omega) hn (m_MD_fail htr hn hB (Nat.le_refl _)) rfl rfl (Nat.le_of_ble_eq_true rfl) d_MD_write_87 (fun v E' hp => ?_) (fun X E' hp => ?_)
                      · obtain ⟨rfl, hv⟩ := hp
                        cases hv
                        exact x_iret C hret d_MD_write_90 ⟨by rw [show qc_write τ (nI f) (nI q) (nI u) = lsC τ (τ 4 f q) by rw [qc_write, if_pos ⟨inR_nI hf (by decide), inR_nI hq (by decide), inR_nI hu (by decide)⟩]; simp only [ix_nI (show f < 2 ^ 31 by omega), ix_nI (show q < 2 ^ 31 by omega), ix_nI (show u < 2 ^ 31 by omega)]; rw [if_pos h46, if_pos h62], if_neg (by omega), if_neg (by omega)], by rw [show qc_write τ (nI f) (nI q) (nI u) = lsC τ (τ 4 f q) by rw [qc_write, if_pos ⟨inR_nI hf (by decide), inR_nI hq (by decide), inR_nI hu (by decide)⟩]; simp only [ix_nI (show f < 2 ^ 31 by omega), ix_nI (show q < 2 ^ 31 by omega), ix_nI (show u < 2 ^ 31 by omega)]; rw [if_pos h46, if_pos h62], mr, if_neg (by omega)]⟩
                      · cases hp.2
                  · cases hp.2
                · refine x_aload_n C d_MD_write_65 rfl rfl ?_
                  refine x_iconst C (v := nI 5) d_MD_write_66 (by decide) ?_
                  refine c_MD_MD_fail C (by omega) hn (m_MD_fail htr hn hB (Nat.le_refl _)) rfl rfl (Nat.le_of_ble_eq_true rfl) d_MD_write_67 (fun v E' hp => ?_) (fun X E' hp => ?_)
                  · obtain ⟨rfl, hv⟩ := hp
                    cases hv
                    exact x_iret C hret d_MD_write_70 ⟨by rw [show qc_write τ (nI f) (nI q) (nI u) = 5 by rw [qc_write, if_pos ⟨inR_nI hf (by decide), inR_nI hq (by decide), inR_nI hu (by decide)⟩]; simp only [ix_nI (show f < 2 ^ 31 by omega), ix_nI (show q < 2 ^ 31 by omega), ix_nI (show u < 2 ^ 31 by omega)]; rw [if_pos h46, if_neg (by omega)], if_neg (by decide), if_neg (by decide)], by rw [show qc_write τ (nI f) (nI q) (nI u) = 5 by rw [qc_write, if_pos ⟨inR_nI hf (by decide), inR_nI hq (by decide), inR_nI hu (by decide)⟩]; simp only [ix_nI (show f < 2 ^ 31 by omega), ix_nI (show q < 2 ^ 31 by omega), ix_nI (show u < 2 ^ 31 by omega)]; rw [if_pos h46, if_neg (by omega)]]; rfl⟩
                  · cases hp.2
              · refine x_aload_n C d_MD_write_49 rfl rfl ?_
                refine x_iconst C (v := nI 2) d_MD_write_50 (by decide) ?_
                refine c_MD_MD_fail C (by omega) hn (m_MD_fail htr hn hB (Nat.le_refl _)) rfl rfl (Nat.le_of_ble_eq_true rfl) d_MD_write_51 (fun v E' hp => ?_) (fun X E' hp => ?_)
                · obtain ⟨rfl, hv⟩ := hp
                  cases hv
                  exact x_iret C hret d_MD_write_54 ⟨by rw [show qc_write τ (nI f) (nI q) (nI u) = 2 by rw [qc_write, if_pos ⟨inR_nI hf (by decide), inR_nI hq (by decide), inR_nI hu (by decide)⟩]; simp only [ix_nI (show f < 2 ^ 31 by omega), ix_nI (show q < 2 ^ 31 by omega), ix_nI (show u < 2 ^ 31 by omega)]; rw [if_neg h46], if_neg (by decide), if_neg (by decide)], by rw [show qc_write τ (nI f) (nI q) (nI u) = 2 by rw [qc_write, if_pos ⟨inR_nI hf (by decide), inR_nI hq (by decide), inR_nI hu (by decide)⟩]; simp only [ix_nI (show f < 2 ^ 31 by omega), ix_nI (show q < 2 ^ 31 by omega), ix_nI (show u < 2 ^ 31 by omega)]; rw [if_neg h46]]; rfl⟩
                · cases hp.2
            · rw [b01_n0] at h30
              have h30 := nb_t h30
              refine x_aload_n C d_MD_write_33 rfl rfl ?_
              refine x_iconst C (v := nI 1) d_MD_write_34 (by decide) ?_
              refine c_MD_MD_fail C (by omega) hn (m_MD_fail htr hn hB (Nat.le_refl _)) rfl rfl (Nat.le_of_ble_eq_true rfl) d_MD_write_35 (fun v E' hp => ?_) (fun X E' hp => ?_)
              · obtain ⟨rfl, hv⟩ := hp
                cases hv
                exact x_iret C hret d_MD_write_38 ⟨by rw [show qc_write τ (nI f) (nI q) z = 1 by rw [qc_write, if_neg (fun q => h30 q.2.2)], if_neg (by decide), if_neg (by decide)], by rw [show qc_write τ (nI f) (nI q) z = 1 by rw [qc_write, if_neg (fun q => h30 q.2.2)]]; rfl⟩
              · cases hp.2
          · cases hp.2
      · cases hp.2
  · cases hp.2
theorem fd_t {τ : xSig} {K f q : Nat} (hO : Ok τ) : fdS τ K f q 1 0 0 < fdS τ K f q 17 K 0 := by
  unfold fdS
  split
  · assumption
  · rw [up3_s, up3_n (by decide), up3_n (by decide), up3_n (by decide), up3_n (by decide)]; omega
theorem m_MD_read {l : Launch} (htr : xTr l) {D : va_G} {a : Nat → ClassId} {base : Nat} {g : Nat → Nat} {n : Nat} {τ : xSig} {v : xWrd} {fc M : Nat} {X : Nat → va_E} (hn : 159 ≤ n) (hI : Inv τ v M) (hM : M ≤ 2 ^ 28) {x y z u s' : Int32}  {k : Nat} (hk : 1 ≤ k) : xM l y_MD_read b_MD_read 9 (some FieldType.int) k D a base g n (EM a g τ v fc X) [.ref (g 143), .int x, .int y, .int z, .int u, .int s'] (fun r E' => E' = EM a g (qs_read τ x y z u s') v (qc_read τ x y z u s') X ∧ r = mr (qc_read τ x y z u s') (qa_read (qs_read τ x y z u s') v (kix (ix x) (ix y) (ix z)) (ix u) (ix s'))) := by
  refine x_method (by decide) htr (Nat.le_of_ble_eq_true rfl) ?_
  intro p e s m args below meth c C hne hret hnm
  have C : xC p l e s m meth c b_MD_read 9 "ChunkStoreModel" args D xcl (xty a) base := C
  have hO := hI.ok hM
  have hB : ∀ t i j, τ t i j < 2 ^ 30 := fun t i j => Nat.lt_trans (hO.1 t i j) (by decide)
  have hH := hO.2.2.2.1
  have hcv : ∀ s, s < 5 → τ 11 s 0 = cntV (τ 12 s) 30 := fun s hs => (hI.cnt s hs).1
  refine x_aload_n C d_MD_read_0 rfl rfl ?_
  refine x_iload_n C d_MD_read_1 rfl rfl ?_
  refine x_iconst C (v := nI 3) d_MD_read_2 (by decide) ?_
  refine c_MD_MD_out C (by omega) hn (m_MD_out htr hn hB (by decide) (Nat.le_refl _)) rfl rfl (Nat.le_of_ble_eq_true rfl) d_MD_read_3 (fun v E' hp => ?_) (fun X E' hp => ?_)
  · obtain ⟨rfl, hv⟩ := hp
    cases hv
    refine xn_if_ne C (b01_lt _) 48 d_MD_read_6 (by decide) (fun h6 => ?_) (fun h6 => ?_)
    · rw [b01_n0] at h6
      have h6 := nb_t h6
      refine x_iconst C (v := nI 1) d_MD_read_48 (by decide) ?_
      refine x_goto C 53 d_MD_read_49 (by decide) ?_
      refine x_istore C d_MD_read_53 (by decide) rfl ?_
      refine x_aload_n C d_MD_read_55 rfl rfl ?_
      refine x_iload C d_MD_read_56 rfl ?_
      refine xn_if_eq C (by decide) 65 d_MD_read_58 (by decide) (fun h58 => ?_) (fun h58 => ?_)
      · exact absurd h58 (by decide)
      · refine x_iconst C (v := nI 1) d_MD_read_61 (by decide) ?_
        refine x_goto C 72 d_MD_read_62 (by decide) ?_
        refine p_MD_failed C hn d_MD_read_72 ?_
        refine x_aload_n C d_MD_read_75 rfl rfl ?_
        refine g_MD_failed C hn d_MD_read_76 ?_
        refine x_iconst C (v := nI 3) d_MD_read_79 (by decide) ?_
        refine xn_icmp_ne C (by first | decide | (rcases fdC_c τ f q with e | e | e <;> omega)) (by decide) 88 d_MD_read_80 (by decide) (fun h80 => ?_) (fun h80 => ?_)
        · refine x_aload_n C d_MD_read_88 rfl rfl ?_
          refine g_MD_failed C hn d_MD_read_89 ?_
          refine xn_if_le C (by first | decide | (rcases fdC_c τ f q with e | e | e <;> omega)) 97 d_MD_read_92 (by decide) (fun h92 => ?_) (fun h92 => ?_)
          · exact absurd h92 (by decide)
          · refine x_iconst C (v := nI 0) d_MD_read_95 (by decide) ?_
            exact x_iret C hret d_MD_read_96 ⟨by rw [show qs_read τ  x y z u s' = τ by rw [qs_read, if_neg (fun r => h6 r.1.1)], show qc_read τ  x y z u s' = 1 by rw [qc_read, if_neg (fun q => h6 q.1)]], by rw [show qc_read τ  x y z u s' = 1 by rw [qc_read, if_neg (fun q => h6 q.1)]]; rfl⟩
        · exact absurd h80 (by decide)
    · rw [b01_0] at h6
      obtain ⟨i, hi, rfl⟩ := inR_of (nb_f h6)
      refine x_aload_n C d_MD_read_9 rfl rfl ?_
      refine x_iload_n C d_MD_read_10 rfl rfl ?_
      refine x_bipush C (v := nI 8) d_MD_read_11 (by decide) ?_
      refine c_MD_MD_out C (by omega) hn (m_MD_out htr hn hB (by decide) (Nat.le_refl _)) rfl rfl (Nat.le_of_ble_eq_true rfl) d_MD_read_13 (fun v E' hp => ?_) (fun X E' hp => ?_)
      · obtain ⟨rfl, hv⟩ := hp
        cases hv
        refine xn_if_ne C (b01_lt _) 48 d_MD_read_16 (by decide) (fun h16 => ?_) (fun h16 => ?_)
        · rw [b01_n0] at h16
          have h16 := nb_t h16
          refine x_iconst C (v := nI 1) d_MD_read_48 (by decide) ?_
          refine x_goto C 53 d_MD_read_49 (by decide) ?_
          refine x_istore C d_MD_read_53 (by decide) rfl ?_
          refine x_aload_n C d_MD_read_55 rfl rfl ?_
          refine x_iload C d_MD_read_56 rfl ?_
          refine xn_if_eq C (by decide) 65 d_MD_read_58 (by decide) (fun h58 => ?_) (fun h58 => ?_)
          · exact absurd h58 (by decide)
          · refine x_iconst C (v := nI 1) d_MD_read_61 (by decide) ?_
            refine x_goto C 72 d_MD_read_62 (by decide) ?_
            refine p_MD_failed C hn d_MD_read_72 ?_
            refine x_aload_n C d_MD_read_75 rfl rfl ?_
            refine g_MD_failed C hn d_MD_read_76 ?_
            refine x_iconst C (v := nI 3) d_MD_read_79 (by decide) ?_
            refine xn_icmp_ne C (by first | decide | (rcases fdC_c τ f q with e | e | e <;> omega)) (by decide) 88 d_MD_read_80 (by decide) (fun h80 => ?_) (fun h80 => ?_)
            · refine x_aload_n C d_MD_read_88 rfl rfl ?_
              refine g_MD_failed C hn d_MD_read_89 ?_
              refine xn_if_le C (by first | decide | (rcases fdC_c τ f q with e | e | e <;> omega)) 97 d_MD_read_92 (by decide) (fun h92 => ?_) (fun h92 => ?_)
              · exact absurd h92 (by decide)
              · refine x_iconst C (v := nI 0) d_MD_read_95 (by decide) ?_
                exact x_iret C hret d_MD_read_96 ⟨by rw [show qs_read τ (nI i) y z u s' = τ by rw [qs_read, if_neg (fun r => h16 r.1.2.1)], show qc_read τ (nI i) y z u s' = 1 by rw [qc_read, if_neg (fun q => h16 q.2.1)]], by rw [show qc_read τ (nI i) y z u s' = 1 by rw [qc_read, if_neg (fun q => h16 q.2.1)]]; rfl⟩
            · exact absurd h80 (by decide)
        · rw [b01_0] at h16
          obtain ⟨f, hf, rfl⟩ := inR_of (nb_f h16)
          refine x_aload_n C d_MD_read_19 rfl rfl ?_
          refine x_iload_n C d_MD_read_20 rfl rfl ?_
          refine x_iconst C (v := nI 3) d_MD_read_21 (by decide) ?_
          refine c_MD_MD_out C (by omega) hn (m_MD_out htr hn hB (by decide) (Nat.le_refl _)) rfl rfl (Nat.le_of_ble_eq_true rfl) d_MD_read_22 (fun v E' hp => ?_) (fun X E' hp => ?_)
          · obtain ⟨rfl, hv⟩ := hp
            cases hv
            refine xn_if_ne C (b01_lt _) 48 d_MD_read_25 (by decide) (fun h25 => ?_) (fun h25 => ?_)
            · rw [b01_n0] at h25
              have h25 := nb_t h25
              refine x_iconst C (v := nI 1) d_MD_read_48 (by decide) ?_
              refine x_goto C 53 d_MD_read_49 (by decide) ?_
              refine x_istore C d_MD_read_53 (by decide) rfl ?_
              refine x_aload_n C d_MD_read_55 rfl rfl ?_
              refine x_iload C d_MD_read_56 rfl ?_
              refine xn_if_eq C (by decide) 65 d_MD_read_58 (by decide) (fun h58 => ?_) (fun h58 => ?_)
              · exact absurd h58 (by decide)
              · refine x_iconst C (v := nI 1) d_MD_read_61 (by decide) ?_
                refine x_goto C 72 d_MD_read_62 (by decide) ?_
                refine p_MD_failed C hn d_MD_read_72 ?_
                refine x_aload_n C d_MD_read_75 rfl rfl ?_
                refine g_MD_failed C hn d_MD_read_76 ?_
                refine x_iconst C (v := nI 3) d_MD_read_79 (by decide) ?_
                refine xn_icmp_ne C (by first | decide | (rcases fdC_c τ f q with e | e | e <;> omega)) (by decide) 88 d_MD_read_80 (by decide) (fun h80 => ?_) (fun h80 => ?_)
                · refine x_aload_n C d_MD_read_88 rfl rfl ?_
                  refine g_MD_failed C hn d_MD_read_89 ?_
                  refine xn_if_le C (by first | decide | (rcases fdC_c τ f q with e | e | e <;> omega)) 97 d_MD_read_92 (by decide) (fun h92 => ?_) (fun h92 => ?_)
                  · exact absurd h92 (by decide)
                  · refine x_iconst C (v := nI 0) d_MD_read_95 (by decide) ?_
                    exact x_iret C hret d_MD_read_96 ⟨by rw [show qs_read τ (nI i) (nI f) z u s' = τ by rw [qs_read, if_neg (fun r => h25 r.1.2.2.1)], show qc_read τ (nI i) (nI f) z u s' = 1 by rw [qc_read, if_neg (fun q => h25 q.2.2.1)]], by rw [show qc_read τ (nI i) (nI f) z u s' = 1 by rw [qc_read, if_neg (fun q => h25 q.2.2.1)]]; rfl⟩
                · exact absurd h80 (by decide)
            · rw [b01_0] at h25
              obtain ⟨q, hq, rfl⟩ := inR_of (nb_f h25)
              refine x_aload_n C d_MD_read_28 rfl rfl ?_
              refine x_iload C d_MD_read_29 rfl ?_
              refine x_iconst C (v := nI 4) d_MD_read_31 (by decide) ?_
              refine c_MD_MD_out C (by omega) hn (m_MD_out htr hn hB (by decide) (Nat.le_refl _)) rfl rfl (Nat.le_of_ble_eq_true rfl) d_MD_read_32 (fun v E' hp => ?_) (fun X E' hp => ?_)
              · obtain ⟨rfl, hv⟩ := hp
                cases hv
                refine xn_if_ne C (b01_lt _) 48 d_MD_read_35 (by decide) (fun h35 => ?_) (fun h35 => ?_)
                · rw [b01_n0] at h35
                  have h35 := nb_t h35
                  refine x_iconst C (v := nI 1) d_MD_read_48 (by decide) ?_
                  refine x_goto C 53 d_MD_read_49 (by decide) ?_
                  refine x_istore C d_MD_read_53 (by decide) rfl ?_
                  refine x_aload_n C d_MD_read_55 rfl rfl ?_
                  refine x_iload C d_MD_read_56 rfl ?_
                  refine xn_if_eq C (by decide) 65 d_MD_read_58 (by decide) (fun h58 => ?_) (fun h58 => ?_)
                  · exact absurd h58 (by decide)
                  · refine x_iconst C (v := nI 1) d_MD_read_61 (by decide) ?_
                    refine x_goto C 72 d_MD_read_62 (by decide) ?_
                    refine p_MD_failed C hn d_MD_read_72 ?_
                    refine x_aload_n C d_MD_read_75 rfl rfl ?_
                    refine g_MD_failed C hn d_MD_read_76 ?_
                    refine x_iconst C (v := nI 3) d_MD_read_79 (by decide) ?_
                    refine xn_icmp_ne C (by first | decide | (rcases fdC_c τ f q with e | e | e <;> omega)) (by decide) 88 d_MD_read_80 (by decide) (fun h80 => ?_) (fun h80 => ?_)
                    · refine x_aload_n C d_MD_read_88 rfl rfl ?_
                      refine g_MD_failed C hn d_MD_read_89 ?_
                      refine xn_if_le C (by first | decide | (rcases fdC_c τ f q with e | e | e <;> omega)) 97 d_MD_read_92 (by decide) (fun h92 => ?_) (fun h92 => ?_)
                      · exact absurd h92 (by decide)
                      · refine x_iconst C (v := nI 0) d_MD_read_95 (by decide) ?_
                        exact x_iret C hret d_MD_read_96 ⟨by rw [show qs_read τ (nI i) (nI f) (nI q) u s' = τ by rw [qs_read, if_neg (fun r => h35 r.1.2.2.2.1)], show qc_read τ (nI i) (nI f) (nI q) u s' = 1 by rw [qc_read, if_neg (fun q => h35 q.2.2.2.1)]], by rw [show qc_read τ (nI i) (nI f) (nI q) u s' = 1 by rw [qc_read, if_neg (fun q => h35 q.2.2.2.1)]]; rfl⟩
                    · exact absurd h80 (by decide)
                · rw [b01_0] at h35
                  obtain ⟨j, hj, rfl⟩ := inR_of (nb_f h35)
                  refine x_aload_n C d_MD_read_38 rfl rfl ?_
                  refine x_iload C d_MD_read_39 rfl ?_
                  refine x_iconst C (v := nI 5) d_MD_read_41 (by decide) ?_
                  refine c_MD_MD_out C (by omega) hn (m_MD_out htr hn hB (by decide) (Nat.le_refl _)) rfl rfl (Nat.le_of_ble_eq_true rfl) d_MD_read_42 (fun v E' hp => ?_) (fun X E' hp => ?_)
                  · obtain ⟨rfl, hv⟩ := hp
                    cases hv
                    refine xn_if_eq C (b01_lt _) 52 d_MD_read_45 (by decide) (fun h45 => ?_) (fun h45 => ?_)
                    · rw [b01_0] at h45
                      obtain ⟨t, ht, rfl⟩ := inR_of (nb_f h45)
                      refine x_iconst C (v := nI 0) d_MD_read_52 (by decide) ?_
                      refine x_istore C d_MD_read_53 (by decide) rfl ?_
                      refine x_aload_n C d_MD_read_55 rfl rfl ?_
                      refine x_iload C d_MD_read_56 rfl ?_
                      refine xn_if_eq C (by decide) 65 d_MD_read_58 (by decide) (fun h58 => ?_) (fun h58 => ?_)
                      · refine x_aload_n C d_MD_read_65 rfl rfl ?_
                        refine x_iload_n C d_MD_read_66 rfl rfl ?_
                        refine x_iload_n C d_MD_read_67 rfl rfl ?_
                        refine x_iload_n C d_MD_read_68 rfl rfl ?_
                        refine c_MD_MD_find C (by omega) hn (m_MD_find htr hn hI hM hi hf hq (Nat.le_refl _)) rfl rfl (Nat.le_of_ble_eq_true rfl) d_MD_read_69 (fun v E' hp => ?_) (fun X E' hp => ?_)
                        · obtain ⟨rfl, hv⟩ := hp
                          cases hv
                          refine p_MD_failed C hn d_MD_read_72 ?_
                          refine x_aload_n C d_MD_read_75 rfl rfl ?_
                          refine g_MD_failed C hn d_MD_read_76 ?_
                          refine x_iconst C (v := nI 3) d_MD_read_79 (by decide) ?_
                          refine xn_icmp_ne C (by first | decide | (rcases fdC_c τ f q with e | e | e <;> omega)) (by decide) 88 d_MD_read_80 (by decide) (fun h80 => ?_) (fun h80 => ?_)
                          · refine x_aload_n C d_MD_read_88 rfl rfl ?_
                            refine g_MD_failed C hn d_MD_read_89 ?_
                            refine xn_if_le C (by first | decide | (rcases fdC_c τ f q with e | e | e <;> omega)) 97 d_MD_read_92 (by decide) (fun h92 => ?_) (fun h92 => ?_)
                            · rw [if_pos h92]
                              have hK : kix i f q < 72 := by unfold kix; omega
                              have hIf := hI.find (K := kix i f q) (Nat.le_refl _) hf h92
                              have hr4 : τ 4 f q < 30 := Nat.lt_of_lt_of_le ((hI.file f hf).2.2.2.1 q (fdC_0 h92).2) hI.2.1
                              have hv1 : 1 ≤ fdS τ (kix i f q) f q 15 (kix i f q) 0 := (hIf.kept _ hK).2.2 (fd_t hO)
                              refine x_bipush C (v := nI 24) d_MD_read_97 (by decide) ?_
                              refine x_iload_n C d_MD_read_99 rfl rfl ?_
                              refine xn_imul C d_MD_read_100 ?_
                              refine x_iconst C (v := nI 3) d_MD_read_101 (by decide) ?_
                              refine x_iload_n C d_MD_read_102 rfl rfl ?_
                              refine xn_imul C d_MD_read_103 ?_
                              refine xn_iadd C d_MD_read_104 ?_
                              refine x_iload_n C d_MD_read_105 rfl rfl ?_
                              refine xn_iadd C d_MD_read_106 ?_
                              refine x_topi (show nI (24 * i + 3 * f + q) = nI (kix i f q) by rw [kix]; congr 1; omega) ?_
                              refine x_istore C d_MD_read_107 (by decide) rfl ?_
                              refine x_aload_n C d_MD_read_109 rfl rfl ?_
                              refine g_MD_keptHolders C hn d_MD_read_110 ?_
                              refine x_iload C d_MD_read_113 rfl ?_
                              refine e_mkeptHolders C hK hn d_MD_read_115 ?_
                              refine x_iload C d_MD_read_116 rfl ?_
                              refine xn_ishr C (fdS_16 hO hK) ht d_MD_read_118 ?_
                              refine x_iconst C (v := nI 1) d_MD_read_119 (by decide) ?_
                              refine xn_iand C (bt_shlt _ (fdS_16 hO hK) _ ht) (by decide) d_MD_read_120 ?_
                              refine xn_if_ne C (Nat.lt_trans (bt_andlt _ (bt_shlt _ (fdS_16 hO hK) _ ht) _ (by decide)) (by decide)) 130 d_MD_read_121 (by decide) (fun h121 => ?_) (fun h121 => ?_)
                              · refine x_bipush C (v := nI 30) d_MD_read_130 (by decide) ?_
                                refine x_iload C d_MD_read_132 rfl ?_
                                refine xn_imul C d_MD_read_134 ?_
                                refine x_aload_n C d_MD_read_135 rfl rfl ?_
                                refine g_MD_keptChunk C hn d_MD_read_136 ?_
                                refine x_iload C d_MD_read_139 rfl ?_
                                refine e_mkeptChunk C hK hn d_MD_read_141 ?_
                                refine xn_iadd C d_MD_read_142 ?_
                                refine x_istore C d_MD_read_143 (by decide) rfl ?_
                                refine x_aload_n C d_MD_read_145 rfl rfl ?_
                                refine g_MD_down C hn d_MD_read_146 ?_
                                refine x_iload C d_MD_read_149 rfl ?_
                                refine e_mdown C ht hn d_MD_read_151 ?_
                                refine xn_if_ne C (b01_lt _) 182 d_MD_read_152 (by decide) (fun h152 => ?_) (fun h152 => ?_)
                                · rw [b01_n0] at h152
                                  have h152 := of_decide_eq_true h152
                                  refine x_aload_n C d_MD_read_182 rfl rfl ?_
                                  refine x_iconst C (v := nI 3) d_MD_read_183 (by decide) ?_
                                  refine c_MD_MD_fail C (by omega) hn (m_MD_fail htr hn (fdS_B hO) (Nat.le_refl _)) rfl rfl (Nat.le_of_ble_eq_true rfl) d_MD_read_184 (fun v E' hp => ?_) (fun X E' hp => ?_)
                                  · obtain ⟨rfl, hv⟩ := hp
                                    cases hv
                                    exact x_iret C hret d_MD_read_187 (by rw [bt_shr _ (fdS_16 hO hK) t ht] at h121; have hbb : (fdS τ (kix i f q) f q 16 (kix i f q) 0).testBit t = true := (by by_cases r : (fdS τ (kix i f q) f q 16 (kix i f q) 0).testBit t = true; exact r; rw [if_neg r] at h121; exact absurd rfl h121); exact ⟨by rw [show qs_read τ (nI i) (nI f) (nI q) (nI j) (nI t) = fdS τ (kix i f q) f q by rw [qs_read]; simp only [ix_nI (show i < 2 ^ 31 by omega), ix_nI (show f < 2 ^ 31 by omega), ix_nI (show q < 2 ^ 31 by omega), ix_nI (show j < 2 ^ 31 by omega), ix_nI (show t < 2 ^ 31 by omega)]; rw [if_pos ⟨⟨inR_nI hi (by decide), inR_nI hf (by decide), inR_nI hq (by decide), inR_nI hj (by decide), inR_nI ht (by decide)⟩, h92⟩], show qc_read τ (nI i) (nI f) (nI q) (nI j) (nI t) = 3 by rw [qc_read, if_pos ⟨inR_nI hi (by decide), inR_nI hf (by decide), inR_nI hq (by decide), inR_nI hj (by decide), inR_nI ht (by decide)⟩]; simp only [ix_nI (show i < 2 ^ 31 by omega), ix_nI (show f < 2 ^ 31 by omega), ix_nI (show q < 2 ^ 31 by omega), ix_nI (show j < 2 ^ 31 by omega), ix_nI (show t < 2 ^ 31 by omega)]; rw [rdQ, if_pos h92, rdC, if_pos hbb, if_pos (by have := hv1; omega)]], by rw [show qc_read τ (nI i) (nI f) (nI q) (nI j) (nI t) = 3 by rw [qc_read, if_pos ⟨inR_nI hi (by decide), inR_nI hf (by decide), inR_nI hq (by decide), inR_nI hj (by decide), inR_nI ht (by decide)⟩]; simp only [ix_nI (show i < 2 ^ 31 by omega), ix_nI (show f < 2 ^ 31 by omega), ix_nI (show q < 2 ^ 31 by omega), ix_nI (show j < 2 ^ 31 by omega), ix_nI (show t < 2 ^ 31 by omega)]; rw [rdQ, if_pos h92, rdC, if_pos hbb, if_pos (by have := hv1; omega)]]; rfl⟩)
                                  · cases hp.2
                                · rw [b01_0] at h152
                                  have h152 := of_decide_eq_false h152
                                  refine x_aload_n C d_MD_read_155 rfl rfl ?_
                                  refine g_MD_replica C hn d_MD_read_156 ?_
                                  refine x_iload C d_MD_read_159 rfl ?_
                                  refine e_mreplica C ht (fdS_14 hO hK hr4) hn d_MD_read_161 ?_
                                  refine xn_if_eq C (Nat.lt_trans ((fdS_B hO) 12 t ((fdS τ (kix i f q) f q) 14 (kix i f q) 0)) (by decide)) 182 d_MD_read_162 (by decide) (fun h162 => ?_) (fun h162 => ?_)
                                  · refine x_aload_n C d_MD_read_182 rfl rfl ?_
                                    refine x_iconst C (v := nI 3) d_MD_read_183 (by decide) ?_
                                    refine c_MD_MD_fail C (by omega) hn (m_MD_fail htr hn (fdS_B hO) (Nat.le_refl _)) rfl rfl (Nat.le_of_ble_eq_true rfl) d_MD_read_184 (fun v E' hp => ?_) (fun X E' hp => ?_)
                                    · obtain ⟨rfl, hv⟩ := hp
                                      cases hv
                                      exact x_iret C hret d_MD_read_187 (by rw [bt_shr _ (fdS_16 hO hK) t ht] at h121; have hbb : (fdS τ (kix i f q) f q 16 (kix i f q) 0).testBit t = true := (by by_cases r : (fdS τ (kix i f q) f q 16 (kix i f q) 0).testBit t = true; exact r; rw [if_neg r] at h121; exact absurd rfl h121); exact ⟨by rw [show qs_read τ (nI i) (nI f) (nI q) (nI j) (nI t) = fdS τ (kix i f q) f q by rw [qs_read]; simp only [ix_nI (show i < 2 ^ 31 by omega), ix_nI (show f < 2 ^ 31 by omega), ix_nI (show q < 2 ^ 31 by omega), ix_nI (show j < 2 ^ 31 by omega), ix_nI (show t < 2 ^ 31 by omega)]; rw [if_pos ⟨⟨inR_nI hi (by decide), inR_nI hf (by decide), inR_nI hq (by decide), inR_nI hj (by decide), inR_nI ht (by decide)⟩, h92⟩], show qc_read τ (nI i) (nI f) (nI q) (nI j) (nI t) = 3 by rw [qc_read, if_pos ⟨inR_nI hi (by decide), inR_nI hf (by decide), inR_nI hq (by decide), inR_nI hj (by decide), inR_nI ht (by decide)⟩]; simp only [ix_nI (show i < 2 ^ 31 by omega), ix_nI (show f < 2 ^ 31 by omega), ix_nI (show q < 2 ^ 31 by omega), ix_nI (show j < 2 ^ 31 by omega), ix_nI (show t < 2 ^ 31 by omega)]; rw [rdQ, if_pos h92, rdC, if_pos hbb, if_pos (by have := hv1; omega)]], by rw [show qc_read τ (nI i) (nI f) (nI q) (nI j) (nI t) = 3 by rw [qc_read, if_pos ⟨inR_nI hi (by decide), inR_nI hf (by decide), inR_nI hq (by decide), inR_nI hj (by decide), inR_nI ht (by decide)⟩]; simp only [ix_nI (show i < 2 ^ 31 by omega), ix_nI (show f < 2 ^ 31 by omega), ix_nI (show q < 2 ^ 31 by omega), ix_nI (show j < 2 ^ 31 by omega), ix_nI (show t < 2 ^ 31 by omega)]; rw [rdQ, if_pos h92, rdC, if_pos hbb, if_pos (by have := hv1; omega)]]; rfl⟩)
                                    · cases hp.2
                                  · refine x_aload_n C d_MD_read_165 rfl rfl ?_
                                    refine g_MD_replica C hn d_MD_read_166 ?_
                                    refine x_iload C d_MD_read_169 rfl ?_
                                    refine e_mreplica C ht (fdS_14 hO hK hr4) hn d_MD_read_171 ?_
                                    refine x_aload_n C d_MD_read_172 rfl rfl ?_
                                    refine g_MD_keptVersion C hn d_MD_read_173 ?_
                                    refine x_iload C d_MD_read_176 rfl ?_
                                    refine e_mkeptVersion C hK hn d_MD_read_178 ?_
                                    refine xn_icmp_ge C (Nat.lt_trans ((fdS_B hO) 12 t ((fdS τ (kix i f q) f q) 14 (kix i f q) 0)) (by decide)) (Nat.lt_trans ((fdS_B hO) 15 (kix i f q) 0) (by decide)) 188 d_MD_read_179 (by decide) (fun h179 => ?_) (fun h179 => ?_)
                                    · refine x_aload_n C d_MD_read_188 rfl rfl ?_
                                      refine g_MD_word C hn d_MD_read_189 ?_
                                      refine x_iconst C (v := nI 4) d_MD_read_192 (by decide) ?_
                                      refine x_iload C d_MD_read_193 rfl ?_
                                      refine xn_imul C d_MD_read_195 ?_
                                      refine x_iload C d_MD_read_196 rfl ?_
                                      refine xn_iadd C d_MD_read_198 ?_
                                      refine e_mword C ht (fdS_14 hO hK hr4) hj hn d_MD_read_199 ?_
                                      exact x_iret C hret d_MD_read_200 (by rw [bt_shr _ (fdS_16 hO hK) t ht] at h121; have hbb : (fdS τ (kix i f q) f q 16 (kix i f q) 0).testBit t = true := (by by_cases r : (fdS τ (kix i f q) f q 16 (kix i f q) 0).testBit t = true; exact r; rw [if_neg r] at h121; exact absurd rfl h121); exact ⟨by rw [show qs_read τ (nI i) (nI f) (nI q) (nI j) (nI t) = fdS τ (kix i f q) f q by rw [qs_read]; simp only [ix_nI (show i < 2 ^ 31 by omega), ix_nI (show f < 2 ^ 31 by omega), ix_nI (show q < 2 ^ 31 by omega), ix_nI (show j < 2 ^ 31 by omega), ix_nI (show t < 2 ^ 31 by omega)]; rw [if_pos ⟨⟨inR_nI hi (by decide), inR_nI hf (by decide), inR_nI hq (by decide), inR_nI hj (by decide), inR_nI ht (by decide)⟩, h92⟩], show qc_read τ (nI i) (nI f) (nI q) (nI j) (nI t) = 0 by rw [qc_read, if_pos ⟨inR_nI hi (by decide), inR_nI hf (by decide), inR_nI hq (by decide), inR_nI hj (by decide), inR_nI ht (by decide)⟩]; simp only [ix_nI (show i < 2 ^ 31 by omega), ix_nI (show f < 2 ^ 31 by omega), ix_nI (show q < 2 ^ 31 by omega), ix_nI (show j < 2 ^ 31 by omega), ix_nI (show t < 2 ^ 31 by omega)]; rw [rdQ, if_pos h92, rdC, if_pos hbb, if_neg (by omega)], h92], by rw [show qc_read τ (nI i) (nI f) (nI q) (nI j) (nI t) = 0 by rw [qc_read, if_pos ⟨inR_nI hi (by decide), inR_nI hf (by decide), inR_nI hq (by decide), inR_nI hj (by decide), inR_nI ht (by decide)⟩]; simp only [ix_nI (show i < 2 ^ 31 by omega), ix_nI (show f < 2 ^ 31 by omega), ix_nI (show q < 2 ^ 31 by omega), ix_nI (show j < 2 ^ 31 by omega), ix_nI (show t < 2 ^ 31 by omega)]; rw [rdQ, if_pos h92, rdC, if_pos hbb, if_neg (by omega)], ix_nI (show i < 2 ^ 31 by omega), ix_nI (show f < 2 ^ 31 by omega), ix_nI (show q < 2 ^ 31 by omega), ix_nI (show j < 2 ^ 31 by omega), ix_nI (show t < 2 ^ 31 by omega), show qs_read τ (nI i) (nI f) (nI q) (nI j) (nI t) = fdS τ (kix i f q) f q by rw [qs_read]; simp only [ix_nI (show i < 2 ^ 31 by omega), ix_nI (show f < 2 ^ 31 by omega), ix_nI (show q < 2 ^ 31 by omega), ix_nI (show j < 2 ^ 31 by omega), ix_nI (show t < 2 ^ 31 by omega)]; rw [if_pos ⟨⟨inR_nI hi (by decide), inR_nI hf (by decide), inR_nI hq (by decide), inR_nI hj (by decide), inR_nI ht (by decide)⟩, h92⟩], qa_read]; rfl⟩)
                                    · refine x_aload_n C d_MD_read_182 rfl rfl ?_
                                      refine x_iconst C (v := nI 3) d_MD_read_183 (by decide) ?_
                                      refine c_MD_MD_fail C (by omega) hn (m_MD_fail htr hn (fdS_B hO) (Nat.le_refl _)) rfl rfl (Nat.le_of_ble_eq_true rfl) d_MD_read_184 (fun v E' hp => ?_) (fun X E' hp => ?_)
                                      · obtain ⟨rfl, hv⟩ := hp
                                        cases hv
                                        exact x_iret C hret d_MD_read_187 (by rw [bt_shr _ (fdS_16 hO hK) t ht] at h121; have hbb : (fdS τ (kix i f q) f q 16 (kix i f q) 0).testBit t = true := (by by_cases r : (fdS τ (kix i f q) f q 16 (kix i f q) 0).testBit t = true; exact r; rw [if_neg r] at h121; exact absurd rfl h121); exact ⟨by rw [show qs_read τ (nI i) (nI f) (nI q) (nI j) (nI t) = fdS τ (kix i f q) f q by rw [qs_read]; simp only [ix_nI (show i < 2 ^ 31 by omega), ix_nI (show f < 2 ^ 31 by omega), ix_nI (show q < 2 ^ 31 by omega), ix_nI (show j < 2 ^ 31 by omega), ix_nI (show t < 2 ^ 31 by omega)]; rw [if_pos ⟨⟨inR_nI hi (by decide), inR_nI hf (by decide), inR_nI hq (by decide), inR_nI hj (by decide), inR_nI ht (by decide)⟩, h92⟩], show qc_read τ (nI i) (nI f) (nI q) (nI j) (nI t) = 3 by rw [qc_read, if_pos ⟨inR_nI hi (by decide), inR_nI hf (by decide), inR_nI hq (by decide), inR_nI hj (by decide), inR_nI ht (by decide)⟩]; simp only [ix_nI (show i < 2 ^ 31 by omega), ix_nI (show f < 2 ^ 31 by omega), ix_nI (show q < 2 ^ 31 by omega), ix_nI (show j < 2 ^ 31 by omega), ix_nI (show t < 2 ^ 31 by omega)]; rw [rdQ, if_pos h92, rdC, if_pos hbb, if_pos (by have := hv1; omega)]], by rw [show qc_read τ (nI i) (nI f) (nI q) (nI j) (nI t) = 3 by rw [qc_read, if_pos ⟨inR_nI hi (by decide), inR_nI hf (by decide), inR_nI hq (by decide), inR_nI hj (by decide), inR_nI ht (by decide)⟩]; simp only [ix_nI (show i < 2 ^ 31 by omega), ix_nI (show f < 2 ^ 31 by omega), ix_nI (show q < 2 ^ 31 by omega), ix_nI (show j < 2 ^ 31 by omega), ix_nI (show t < 2 ^ 31 by omega)]; rw [rdQ, if_pos h92, rdC, if_pos hbb, if_pos (by have := hv1; omega)]]; rfl⟩)
                                      · cases hp.2
                              · refine x_aload_n C d_MD_read_124 rfl rfl ?_
                                refine x_iconst C (v := nI 4) d_MD_read_125 (by decide) ?_
                                refine c_MD_MD_fail C (by omega) hn (m_MD_fail htr hn (fdS_B hO) (Nat.le_refl _)) rfl rfl (Nat.le_of_ble_eq_true rfl) d_MD_read_126 (fun v E' hp => ?_) (fun X E' hp => ?_)
                                · obtain ⟨rfl, hv⟩ := hp
                                  cases hv
                                  exact x_iret C hret d_MD_read_129 (by rw [bt_shr _ (fdS_16 hO hK) t ht] at h121; have hnb : ¬ (fdS τ (kix i f q) f q 16 (kix i f q) 0).testBit t = true := (fun r => by rw [if_pos r] at h121; omega); exact ⟨by rw [show qs_read τ (nI i) (nI f) (nI q) (nI j) (nI t) = fdS τ (kix i f q) f q by rw [qs_read]; simp only [ix_nI (show i < 2 ^ 31 by omega), ix_nI (show f < 2 ^ 31 by omega), ix_nI (show q < 2 ^ 31 by omega), ix_nI (show j < 2 ^ 31 by omega), ix_nI (show t < 2 ^ 31 by omega)]; rw [if_pos ⟨⟨inR_nI hi (by decide), inR_nI hf (by decide), inR_nI hq (by decide), inR_nI hj (by decide), inR_nI ht (by decide)⟩, h92⟩], show qc_read τ (nI i) (nI f) (nI q) (nI j) (nI t) = 4 by rw [qc_read, if_pos ⟨inR_nI hi (by decide), inR_nI hf (by decide), inR_nI hq (by decide), inR_nI hj (by decide), inR_nI ht (by decide)⟩]; simp only [ix_nI (show i < 2 ^ 31 by omega), ix_nI (show f < 2 ^ 31 by omega), ix_nI (show q < 2 ^ 31 by omega), ix_nI (show j < 2 ^ 31 by omega), ix_nI (show t < 2 ^ 31 by omega)]; rw [rdQ, if_pos h92, rdC, if_neg hnb]], by rw [show qc_read τ (nI i) (nI f) (nI q) (nI j) (nI t) = 4 by rw [qc_read, if_pos ⟨inR_nI hi (by decide), inR_nI hf (by decide), inR_nI hq (by decide), inR_nI hj (by decide), inR_nI ht (by decide)⟩]; simp only [ix_nI (show i < 2 ^ 31 by omega), ix_nI (show f < 2 ^ 31 by omega), ix_nI (show q < 2 ^ 31 by omega), ix_nI (show j < 2 ^ 31 by omega), ix_nI (show t < 2 ^ 31 by omega)]; rw [rdQ, if_pos h92, rdC, if_neg hnb]]; rfl⟩)
                                · cases hp.2
                            · rw [if_neg (show ¬ fdC τ f q = 0 by omega)]
                              refine x_iconst C (v := nI 0) d_MD_read_95 (by decide) ?_
                              exact x_iret C hret d_MD_read_96 (by have hf2 : fdC τ f q = 2 := (by rcases fdC_c τ f q with e | e | e <;> omega); exact ⟨by rw [show qs_read τ (nI i) (nI f) (nI q) (nI j) (nI t) = τ by rw [qs_read]; simp only [ix_nI (show i < 2 ^ 31 by omega), ix_nI (show f < 2 ^ 31 by omega), ix_nI (show q < 2 ^ 31 by omega), ix_nI (show j < 2 ^ 31 by omega), ix_nI (show t < 2 ^ 31 by omega)]; rw [if_neg (fun r => by have := r.2; omega)], show qc_read τ (nI i) (nI f) (nI q) (nI j) (nI t) = 2 by rw [qc_read, if_pos ⟨inR_nI hi (by decide), inR_nI hf (by decide), inR_nI hq (by decide), inR_nI hj (by decide), inR_nI ht (by decide)⟩]; simp only [ix_nI (show i < 2 ^ 31 by omega), ix_nI (show f < 2 ^ 31 by omega), ix_nI (show q < 2 ^ 31 by omega), ix_nI (show j < 2 ^ 31 by omega), ix_nI (show t < 2 ^ 31 by omega)]; rw [rdQ, if_neg (by omega), if_pos hf2], hf2], by rw [show qc_read τ (nI i) (nI f) (nI q) (nI j) (nI t) = 2 by rw [qc_read, if_pos ⟨inR_nI hi (by decide), inR_nI hf (by decide), inR_nI hq (by decide), inR_nI hj (by decide), inR_nI ht (by decide)⟩]; simp only [ix_nI (show i < 2 ^ 31 by omega), ix_nI (show f < 2 ^ 31 by omega), ix_nI (show q < 2 ^ 31 by omega), ix_nI (show j < 2 ^ 31 by omega), ix_nI (show t < 2 ^ 31 by omega)]; rw [rdQ, if_neg (by omega), if_pos hf2]]; rfl⟩)
                          · refine x_aload_n C d_MD_read_83 rfl rfl ?_
                            refine x_iconst C (v := nI 5) d_MD_read_84 (by decide) ?_
                            refine p_MD_failed C hn d_MD_read_85 ?_
                            refine x_aload_n C d_MD_read_88 rfl rfl ?_
                            refine g_MD_failed C hn d_MD_read_89 ?_
                            refine xn_if_le C (by first | decide | (rcases fdC_c τ f q with e | e | e <;> omega)) 97 d_MD_read_92 (by decide) (fun h92 => ?_) (fun h92 => ?_)
                            · exact absurd h92 (by decide)
                            · rw [if_neg (show ¬ fdC τ f q = 0 by omega)]
                              refine x_iconst C (v := nI 0) d_MD_read_95 (by decide) ?_
                              exact x_iret C hret d_MD_read_96 (by exact ⟨by rw [show qs_read τ (nI i) (nI f) (nI q) (nI j) (nI t) = τ by rw [qs_read]; simp only [ix_nI (show i < 2 ^ 31 by omega), ix_nI (show f < 2 ^ 31 by omega), ix_nI (show q < 2 ^ 31 by omega), ix_nI (show j < 2 ^ 31 by omega), ix_nI (show t < 2 ^ 31 by omega)]; rw [if_neg (fun r => by have := r.2; omega)], show qc_read τ (nI i) (nI f) (nI q) (nI j) (nI t) = 5 by rw [qc_read, if_pos ⟨inR_nI hi (by decide), inR_nI hf (by decide), inR_nI hq (by decide), inR_nI hj (by decide), inR_nI ht (by decide)⟩]; simp only [ix_nI (show i < 2 ^ 31 by omega), ix_nI (show f < 2 ^ 31 by omega), ix_nI (show q < 2 ^ 31 by omega), ix_nI (show j < 2 ^ 31 by omega), ix_nI (show t < 2 ^ 31 by omega)]; rw [rdQ, if_neg (by omega), if_neg (by omega)]], by rw [show qc_read τ (nI i) (nI f) (nI q) (nI j) (nI t) = 5 by rw [qc_read, if_pos ⟨inR_nI hi (by decide), inR_nI hf (by decide), inR_nI hq (by decide), inR_nI hj (by decide), inR_nI ht (by decide)⟩]; simp only [ix_nI (show i < 2 ^ 31 by omega), ix_nI (show f < 2 ^ 31 by omega), ix_nI (show q < 2 ^ 31 by omega), ix_nI (show j < 2 ^ 31 by omega), ix_nI (show t < 2 ^ 31 by omega)]; rw [rdQ, if_neg (by omega), if_neg (by omega)]]; rfl⟩)
                        · cases hp.2
                      · exact absurd h58 (by decide)
                    · rw [b01_n0] at h45
                      have h45 := nb_t h45
                      refine x_iconst C (v := nI 1) d_MD_read_48 (by decide) ?_
                      refine x_goto C 53 d_MD_read_49 (by decide) ?_
                      refine x_istore C d_MD_read_53 (by decide) rfl ?_
                      refine x_aload_n C d_MD_read_55 rfl rfl ?_
                      refine x_iload C d_MD_read_56 rfl ?_
                      refine xn_if_eq C (by decide) 65 d_MD_read_58 (by decide) (fun h58 => ?_) (fun h58 => ?_)
                      · exact absurd h58 (by decide)
                      · refine x_iconst C (v := nI 1) d_MD_read_61 (by decide) ?_
                        refine x_goto C 72 d_MD_read_62 (by decide) ?_
                        refine p_MD_failed C hn d_MD_read_72 ?_
                        refine x_aload_n C d_MD_read_75 rfl rfl ?_
                        refine g_MD_failed C hn d_MD_read_76 ?_
                        refine x_iconst C (v := nI 3) d_MD_read_79 (by decide) ?_
                        refine xn_icmp_ne C (by first | decide | (rcases fdC_c τ f q with e | e | e <;> omega)) (by decide) 88 d_MD_read_80 (by decide) (fun h80 => ?_) (fun h80 => ?_)
                        · refine x_aload_n C d_MD_read_88 rfl rfl ?_
                          refine g_MD_failed C hn d_MD_read_89 ?_
                          refine xn_if_le C (by first | decide | (rcases fdC_c τ f q with e | e | e <;> omega)) 97 d_MD_read_92 (by decide) (fun h92 => ?_) (fun h92 => ?_)
                          · exact absurd h92 (by decide)
                          · refine x_iconst C (v := nI 0) d_MD_read_95 (by decide) ?_
                            exact x_iret C hret d_MD_read_96 ⟨by rw [show qs_read τ (nI i) (nI f) (nI q) (nI j) s' = τ by rw [qs_read, if_neg (fun r => h45 r.1.2.2.2.2)], show qc_read τ (nI i) (nI f) (nI q) (nI j) s' = 1 by rw [qc_read, if_neg (fun q => h45 q.2.2.2.2)]], by rw [show qc_read τ (nI i) (nI f) (nI q) (nI j) s' = 1 by rw [qc_read, if_neg (fun q => h45 q.2.2.2.2)]]; rfl⟩
                        · exact absurd h80 (by decide)
                  · cases hp.2
              · cases hp.2
          · cases hp.2
      · cases hp.2
  · cases hp.2
end XN8
