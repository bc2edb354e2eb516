section XN9
theorem ap_inv {τ : xSig} {v : xWrd} {M f : Nat} (h : Inv τ v M) (hf : f < 8) (h2 : τ 2 f 0 = 1) (hm : apM τ f = true → mkC τ f = 0) : Inv (ap1 τ f) v (M + 40) ∧ ap1 τ f 2 f 0 = 1 ∧ 1 ≤ ap1 τ f 3 f 0 ∧ uaf (ap1 τ f) (apC τ f) < 4 := by
  unfold apC apP ap1
  by_cases q : apM τ f = true
  · simp only [if_pos q]
    refine ⟨h.mk hf h2 (hm q), by rw [mkS_o (by omega)]; exact h2, by rw [mkS_3]; omega, ?_⟩
    rw [mkS_3, Nat.add_sub_cancel, mkS_4, uaf_mk h (hm q)]
    omega
  · simp only [if_neg q]
    have q' : ¬ (τ 3 f 0 = 0 ∨ 4 ≤ uaf τ (τ 4 f (τ 3 f 0 - 1))) := fun r => q (by simp only [apM, decide_eq_true_eq]; exact r)
    exact ⟨h.mono (by omega), h2, by omega, by omega⟩
theorem row_first {τ : xSig} {v : xWrd} {M f p : Nat} (h : Inv τ v M) (hf : f < 8) (h2 : τ 2 f 0 = 1) (hp : p < τ 3 f 0) : fst5 (τ 8 (τ 4 f p) 0) < 5 := fst5_pos _ (h.2.2.2.1 _) (h.hold _ ((h.file f hf).2.2.2.1 p hp) (row_refs h hf (by omega) hp)).1
theorem nd_2 {τ : xSig} : ∀ n, (nd τ n).2 ≤ 3 ∧ ((nd τ n).1 = 30 ∧ (nd τ n).2 = 3 ∨ (nd τ n).1 < n ∧ (nd τ n).2 = pop5 (lvh τ (nd τ n).1) ∧ 1 ≤ (nd τ n).2 ∧ ¬ bst τ (nd τ n).1 0 = 5) := by
  intro n
  induction n with
  | zero => exact ⟨Nat.le_refl _, Or.inl ⟨rfl, rfl⟩⟩
  | succ n ih =>
    unfold nd
    split
    · rename_i q
      exact ⟨by have := ih.1; show pop5 (lvh τ n) ≤ 3; omega, Or.inr ⟨Nat.lt_succ_self n, rfl, q.2.1, q.2.2.2⟩⟩
    · refine ⟨ih.1, ?_⟩
      rcases ih.2 with r | r
      · exact Or.inl r
      · exact Or.inr ⟨by omega, r.2⟩
theorem m_MD_append {l : Launch} (htr : xTr l) {D : va_G} {a : Nat → ClassId} {base : Nat} {g : Nat → Nat} {n : Nat} {τ : xSig} {v : xWrd} {fc M : Nat} {X : Nat → va_E} (hn : 159 ≤ n) (hI : Inv τ v M) (hM2 : M + 1000 ≤ 2 ^ 28) {x : Int32} {x0 : Int32} {k : Nat} (hk : 3 ≤ k) : xM l y_MD_append b_MD_append 7 (some FieldType.int) k D a base g n (EM a g τ v fc X) [.ref (g 143), .int x, .int x0] (fun r E' => E' = EM a g (qs_append τ x) (qw_append τ v x x0) (qc_append τ x) X ∧ r = mr (qc_append τ x) (qa_append τ (ix x))) := by
  refine x_method (by decide) htr (Nat.le_of_ble_eq_true rfl) ?_
  intro p e s m args below meth c C hne hret hnm
  have C : xC p l e s m meth c b_MD_append 7 "ChunkStoreModel" args D xcl (xty a) base := C
  have hM : M ≤ 2 ^ 28 := by omega
  have hO := hI.ok hM
  have hB : ∀ t i j, τ t i j < 2 ^ 30 := fun t i j => Nat.lt_trans (hO.1 t i j) (by decide)
  have hH := hO.2.2.2.1
  have hcv : ∀ s, s < 5 → τ 11 s 0 = cntV (τ 12 s) 30 := fun s hs => (hI.cnt s hs).1
  refine x_aload_n C d_MD_append_0 rfl rfl ?_
  refine x_iconst C (v := nI 0) d_MD_append_1 (by decide) ?_
  refine p_MD_failed C hn d_MD_append_2 ?_
  refine x_aload_n C d_MD_append_5 rfl rfl ?_
  refine x_iload_n C d_MD_append_6 rfl rfl ?_
  refine x_bipush C (v := nI 8) d_MD_append_7 (by decide) ?_
  refine c_MD_MD_out C (by omega) hn (m_MD_out htr hn hB (by decide) (Nat.le_refl _)) rfl rfl (Nat.le_of_ble_eq_true rfl) d_MD_append_9 (fun v E' hp => ?_) (fun X E' hp => ?_)
  · obtain ⟨rfl, hv⟩ := hp
    cases hv
    refine xn_if_eq C (b01_lt _) 21 d_MD_append_12 (by decide) (fun h12 => ?_) (fun h12 => ?_)
    · rw [b01_0] at h12
      obtain ⟨f, hf, rfl⟩ := inR_of (nb_f h12)
      refine x_aload_n C d_MD_append_21 rfl rfl ?_
      refine g_MD_state C hn d_MD_append_22 ?_
      refine x_iload_n C d_MD_append_25 rfl rfl ?_
      refine e_mstate C hf hn d_MD_append_26 ?_
      refine x_iconst C (v := nI 1) d_MD_append_27 (by decide) ?_
      refine xn_icmp_eq C (Nat.lt_trans (hB 2 f 0) (by decide)) (by decide) 37 d_MD_append_28 (by decide) (fun h28 => ?_) (fun h28 => ?_)
      · refine x_aload_n C d_MD_append_37 rfl rfl ?_
        refine g_MD_length C hn d_MD_append_38 ?_
        refine x_iload_n C d_MD_append_41 rfl rfl ?_
        refine e_mlength C hf hn d_MD_append_42 ?_
        refine xn_if_eq C (Nat.lt_trans (hB 3 f 0) (by decide)) 71 d_MD_append_43 (by decide) (fun h43 => ?_) (fun h43 => ?_)
        · refine x_aload_n C d_MD_append_71 rfl rfl ?_
          refine x_iload_n C d_MD_append_72 rfl rfl ?_
          refine c_MD_MD_makeChunk C (by omega) hn (m_MD_makeChunk htr hn hI hM hf (Nat.le_refl _)) rfl rfl (Nat.le_of_ble_eq_true rfl) d_MD_append_73 (fun v E' hp => ?_) (fun X E' hp => ?_)
          · obtain ⟨rfl, hv⟩ := hp
            cases hv
            refine x_istore_n C d_MD_append_76 rfl (by decide) rfl ?_
            refine x_iload_n C d_MD_append_77 rfl rfl ?_
            refine xn_if_le C (Nat.lt_of_le_of_lt (mkC_le _ _) (by decide)) 96 d_MD_append_78 (by decide) (fun h78 => ?_) (fun h78 => ?_)
            · have hA : apM τ f = true := by simp only [apM, decide_eq_true_eq]; omega
              have hF : ¬ apF τ f = true := by simp [apF, h78]
              rw [if_pos h78]
              refine x_E (E' := EM a g (ap1 τ f) v 0 X) (by rw [ap1, if_pos hA]) ?_
              obtain ⟨hI1, t2, t1, tu⟩ := ap_inv hI hf h28 (fun _ => h78)
              have hM1 : M + 40 ≤ 2 ^ 28 := by omega
              have t3 := (hI1.file f hf).2.1
              have tp : (ap1 τ f 3 f 0 - 1) < ap1 τ f 3 f 0 := by omega
              have hO1 := hI1.ok hM1
              have tB' : ∀ t i j, ap1 τ f t i j < 2 ^ 30 := fun t i j => Nat.lt_trans (hO1.1 t i j) (by decide)
              have tB : ∀ t i j, ap1 τ f t i j < 2 ^ 29 := fun t i j => Nat.lt_trans (hO1.1 t i j) (by decide)
              have tc : (ap1 τ f 4 f (ap1 τ f 3 f 0 - 1)) < ap1 τ f 0 0 0 := (hI1.file f hf).2.2.2.1 _ tp
              have t0 := hI1.2.1
              have tH := hI1.2.2.2.1
              refine x_aload_n C d_MD_append_96 rfl rfl ?_
              refine g_MD_length C hn d_MD_append_97 ?_
              refine x_iload_n C d_MD_append_100 rfl rfl ?_
              refine e_mlength C hf hn d_MD_append_101 ?_
              refine x_iconst C (v := nI 1) d_MD_append_102 (by decide) ?_
              refine xn_isub C (by omega) d_MD_append_103 ?_
              refine x_istore_n C d_MD_append_104 rfl (by decide) rfl ?_
              refine x_aload_n C d_MD_append_105 rfl rfl ?_
              refine x_iload_n C d_MD_append_106 rfl rfl ?_
              refine x_iload_n C d_MD_append_107 rfl rfl ?_
              refine c_MD_MD_takeLease C (by omega) hn (m_MD_takeLease htr hn hI1 hM1 hf (show (ap1 τ f 3 f 0 - 1) < 3 by omega) tp (Nat.le_refl _)) rfl rfl (Nat.le_of_ble_eq_true rfl) d_MD_append_108 (fun v E' hp => ?_) (fun X E' hp => ?_)
              · obtain ⟨rfl, hv⟩ := hp
                cases hv
                refine x_istore C d_MD_append_111 (by decide) rfl ?_
                refine x_iload C d_MD_append_113 rfl ?_
                refine xn_if_le C (by rcases lsC_c (ap1 τ f) (ap1 τ f 4 f (ap1 τ f 3 f 0 - 1)) with e | e | e | e <;> omega) 125 d_MD_append_115 (by decide) (fun h115 => ?_) (fun h115 => ?_)
                · rw [if_pos h115, if_pos h115]
                  have hBl := lsS_B tB tc h115
                  have hHl := lsS_H (f := f) (q := (ap1 τ f 3 f 0 - 1)) tH
                  have hnl := lsN_lt (Nat.lt_of_lt_of_le tc t0) h115
                  have hfs : fst5 (lsS (ap1 τ f) f (ap1 τ f 3 f 0 - 1) 8 (lsN (ap1 τ f) (ap1 τ f 4 f (ap1 τ f 3 f 0 - 1))) 0) < 5 := by rw [ls_8]; exact fst5_pos _ (lvh_lt _ _) (ls_l hI1 hf (by omega) tp h115)
                  have hu4 : uaf (lsS (ap1 τ f) f (ap1 τ f 3 f 0 - 1)) (lsN (ap1 τ f) (ap1 τ f 4 f (ap1 τ f 3 f 0 - 1))) < 4 := by rw [ls_uaf hI1 hf (by omega) tp h115]; exact tu
                  refine x_aload_n C d_MD_append_125 rfl rfl ?_
                  refine g_MD_row C hn d_MD_append_126 ?_
                  refine x_iconst C (v := nI 3) d_MD_append_129 (by decide) ?_
                  refine x_iload_n C d_MD_append_130 rfl rfl ?_
                  refine xn_imul C d_MD_append_131 ?_
                  refine x_iload_n C d_MD_append_132 rfl rfl ?_
                  refine xn_iadd C d_MD_append_133 ?_
                  refine e_mrow C hf (by omega) hn d_MD_append_134 ?_
                  refine x_topi (show nI (lsS (ap1 τ f) f (ap1 τ f 3 f 0 - 1) 4 f (ap1 τ f 3 f 0 - 1)) = nI (lsN (ap1 τ f) (ap1 τ f 4 f (ap1 τ f 3 f 0 - 1))) by rw [lsS_4]) ?_
                  refine x_istore C d_MD_append_135 (by decide) rfl ?_
                  refine x_aload_n C d_MD_append_137 rfl rfl ?_
                  refine x_iload C d_MD_append_138 rfl ?_
                  refine c_MD_MD_usedIn C (by omega) hn (m_MD_usedIn htr hn hBl hHl hnl hfs (Nat.le_refl _)) rfl rfl (Nat.le_of_ble_eq_true rfl) d_MD_append_140 (fun v E' hp => ?_) (fun X E' hp => ?_)
                  · obtain ⟨rfl, hv⟩ := hp
                    cases hv
                    refine x_istore C d_MD_append_143 (by decide) rfl ?_
                    refine x_aload_n C d_MD_append_145 rfl rfl ?_
                    refine x_iload C d_MD_append_146 rfl ?_
                    refine x_iload C d_MD_append_148 rfl ?_
                    refine x_iload_n C d_MD_append_150 rfl rfl ?_
                    refine c_MD_MD_store C (by omega) hn (m_MD_store htr hn hBl hHl hnl hu4 (Nat.le_refl _)) rfl rfl (Nat.le_of_ble_eq_true rfl) d_MD_append_151 (fun v E' hp => ?_) (fun X E' hp => ?_)
                    · obtain ⟨rfl, hv⟩ := hp
                      cases hv
                      refine x_iconst C (v := nI 4) d_MD_append_154 (by decide) ?_
                      refine x_iload_n C d_MD_append_155 rfl rfl ?_
                      refine xn_imul C d_MD_append_156 ?_
                      refine x_iload C d_MD_append_157 rfl ?_
                      refine xn_iadd C d_MD_append_159 ?_
                      exact x_iret C hret d_MD_append_160 (by have e : apQ τ f = 0 := (by rw [apQ, if_pos h28, if_neg hF, apC, apP]; exact h115); exact ⟨by rw [qs_append, qw_append, qc_append, if_pos (inR_nI hf (by decide)), if_pos (inR_nI hf (by decide)), if_pos (inR_nI hf (by decide)), ix_nI (show f < 2 ^ 31 by omega), apS, apW, e, if_pos rfl, if_pos rfl, apU, apC, apP], by rw [qc_append, if_pos (inR_nI hf (by decide)), ix_nI (show f < 2 ^ 31 by omega), e, qa_append, apU, apC, apP]; rfl⟩)
                    · cases hp.2
                  · cases hp.2
                · rw [if_neg (show ¬ lsC (ap1 τ f) (ap1 τ f 4 f (ap1 τ f 3 f 0 - 1)) = 0 by omega), if_neg (show ¬ lsC (ap1 τ f) (ap1 τ f 4 f (ap1 τ f 3 f 0 - 1)) = 0 by omega)]
                  refine x_aload_n C d_MD_append_118 rfl rfl ?_
                  refine x_iload C d_MD_append_119 rfl ?_
                  refine c_MD_MD_fail C (by omega) hn (m_MD_fail htr hn tB' (Nat.le_refl _)) rfl rfl (Nat.le_of_ble_eq_true rfl) d_MD_append_121 (fun v E' hp => ?_) (fun X E' hp => ?_)
                  · obtain ⟨rfl, hv⟩ := hp
                    cases hv
                    exact x_iret C hret d_MD_append_124 (by have e : apQ τ f = lsC (ap1 τ f) (apC τ f) := (by rw [apQ, if_pos h28, if_neg hF]); exact ⟨by rw [qs_append, qw_append, qc_append, if_pos (inR_nI hf (by decide)), if_pos (inR_nI hf (by decide)), if_pos (inR_nI hf (by decide)), ix_nI (show f < 2 ^ 31 by omega), apS, apW, e]; rw [apC, apP, if_neg (show ¬ lsC (ap1 τ f) (ap1 τ f 4 f (ap1 τ f 3 f 0 - 1)) = 0 by omega), if_neg (show ¬ lsC (ap1 τ f) (ap1 τ f 4 f (ap1 τ f 3 f 0 - 1)) = 0 by omega), if_pos ⟨h28, hF⟩], by rw [qc_append, if_pos (inR_nI hf (by decide)), ix_nI (show f < 2 ^ 31 by omega), e]; rw [apC, apP, mr, if_neg (show ¬ lsC (ap1 τ f) (ap1 τ f 4 f (ap1 τ f 3 f 0 - 1)) = 0 by omega)]⟩)
                  · cases hp.2
              · cases hp.2
            · rw [if_neg (show ¬ mkC τ f = 0 by omega)]
              have hA : apM τ f = true := by simp only [apM, decide_eq_true_eq]; omega
              have hF : apF τ f = true := by simp [apF, hA]; omega
              refine x_aload_n C d_MD_append_81 rfl rfl ?_
              refine x_iload_n C d_MD_append_82 rfl rfl ?_
              refine x_iconst C (v := nI 1) d_MD_append_83 (by decide) ?_
              refine xn_icmp_ne C (Nat.lt_of_le_of_lt (mkC_le _ _) (by decide)) (by decide) 91 d_MD_append_84 (by decide) (fun h84 => ?_) (fun h84 => ?_)
              · refine x_iconst C (v := nI 3) d_MD_append_91 (by decide) ?_
                refine c_MD_MD_fail C (by omega) hn (m_MD_fail htr hn hB (Nat.le_refl _)) rfl rfl (Nat.le_of_ble_eq_true rfl) d_MD_append_92 (fun v E' hp => ?_) (fun X E' hp => ?_)
                · obtain ⟨rfl, hv⟩ := hp
                  cases hv
                  exact x_iret C hret d_MD_append_95 (by have e : apQ τ f = 3 := (by rw [apQ, if_pos h28, if_pos hF, if_neg h84]); exact ⟨by rw [qs_append, qw_append, qc_append, if_pos (inR_nI hf (by decide)), if_pos (inR_nI hf (by decide)), if_pos (inR_nI hf (by decide)), ix_nI (show f < 2 ^ 31 by omega), apS, apW, e]; simp [hF], by rw [qc_append, if_pos (inR_nI hf (by decide)), ix_nI (show f < 2 ^ 31 by omega), e]; rfl⟩)
                · cases hp.2
              · refine x_iconst C (v := nI 5) d_MD_append_87 (by decide) ?_
                refine x_goto C 92 d_MD_append_88 (by decide) ?_
                refine c_MD_MD_fail C (by omega) hn (m_MD_fail htr hn hB (Nat.le_refl _)) rfl rfl (Nat.le_of_ble_eq_true rfl) d_MD_append_92 (fun v E' hp => ?_) (fun X E' hp => ?_)
                · obtain ⟨rfl, hv⟩ := hp
                  cases hv
                  exact x_iret C hret d_MD_append_95 (by have e : apQ τ f = 5 := (by rw [apQ, if_pos h28, if_pos hF, if_pos h84]); exact ⟨by rw [qs_append, qw_append, qc_append, if_pos (inR_nI hf (by decide)), if_pos (inR_nI hf (by decide)), if_pos (inR_nI hf (by decide)), ix_nI (show f < 2 ^ 31 by omega), apS, apW, e]; simp [hF], by rw [qc_append, if_pos (inR_nI hf (by decide)), ix_nI (show f < 2 ^ 31 by omega), e]; rfl⟩)
                · cases hp.2
          · cases hp.2
        · refine x_aload_n C d_MD_append_46 rfl rfl ?_
          refine x_aload_n C d_MD_append_47 rfl rfl ?_
          refine g_MD_row C hn d_MD_append_48 ?_
          refine x_iconst C (v := nI 3) d_MD_append_51 (by decide) ?_
          refine x_iload_n C d_MD_append_52 rfl rfl ?_
          refine xn_imul C d_MD_append_53 ?_
          refine x_aload_n C d_MD_append_54 rfl rfl ?_
          refine g_MD_length C hn d_MD_append_55 ?_
          refine x_iload_n C d_MD_append_58 rfl rfl ?_
          refine e_mlength C hf hn d_MD_append_59 ?_
          refine xn_iadd C d_MD_append_60 ?_
          refine x_iconst C (v := nI 1) d_MD_append_61 (by decide) ?_
          refine xn_isub C (by omega) d_MD_append_62 ?_
          have h3 := (hI.file f hf).2.1
          refine x_topi (show nI (3 * f + τ 3 f 0 - 1) = nI (3 * f + (τ 3 f 0 - 1)) by congr 1; omega) ?_
          refine e_mrow C hf (by omega) hn d_MD_append_63 ?_
          have hc30 : τ 4 f (τ 3 f 0 - 1) < 30 := Nat.lt_of_lt_of_le ((hI.file f hf).2.2.2.1 _ (by omega)) hI.2.1
          refine c_MD_MD_usedIn C (by omega) hn (m_MD_usedIn htr hn hB hH hc30 (row_first hI hf h28 (by omega)) (Nat.le_refl _)) rfl rfl (Nat.le_of_ble_eq_true rfl) d_MD_append_64 (fun v E' hp => ?_) (fun X E' hp => ?_)
          · obtain ⟨rfl, hv⟩ := hp
            cases hv
            refine x_iconst C (v := nI 4) d_MD_append_67 (by decide) ?_
            refine xn_icmp_ne C (by have := uaf_4 hI hc30; omega) (by decide) 96 d_MD_append_68 (by decide) (fun h68 => ?_) (fun h68 => ?_)
            · have hA : ¬ apM τ f = true := by simp only [apM, decide_eq_true_eq]; have := uaf_4 hI hc30; omega
              have hF : ¬ apF τ f = true := by simp [apF, hA]
              refine x_E (E' := EM a g (ap1 τ f) v 0 X) (by rw [ap1, if_neg hA]) ?_
              obtain ⟨hI1, t2, t1, tu⟩ := ap_inv hI hf h28 (fun q => absurd q hA)
              have hM1 : M + 40 ≤ 2 ^ 28 := by omega
              have t3 := (hI1.file f hf).2.1
              have tp : (ap1 τ f 3 f 0 - 1) < ap1 τ f 3 f 0 := by omega
              have hO1 := hI1.ok hM1
              have tB' : ∀ t i j, ap1 τ f t i j < 2 ^ 30 := fun t i j => Nat.lt_trans (hO1.1 t i j) (by decide)
              have tB : ∀ t i j, ap1 τ f t i j < 2 ^ 29 := fun t i j => Nat.lt_trans (hO1.1 t i j) (by decide)
              have tc : (ap1 τ f 4 f (ap1 τ f 3 f 0 - 1)) < ap1 τ f 0 0 0 := (hI1.file f hf).2.2.2.1 _ tp
              have t0 := hI1.2.1
              have tH := hI1.2.2.2.1
              refine x_aload_n C d_MD_append_96 rfl rfl ?_
              refine g_MD_length C hn d_MD_append_97 ?_
              refine x_iload_n C d_MD_append_100 rfl rfl ?_
              refine e_mlength C hf hn d_MD_append_101 ?_
              refine x_iconst C (v := nI 1) d_MD_append_102 (by decide) ?_
              refine xn_isub C (by omega) d_MD_append_103 ?_
              refine x_istore_n C d_MD_append_104 rfl (by decide) rfl ?_
              refine x_aload_n C d_MD_append_105 rfl rfl ?_
              refine x_iload_n C d_MD_append_106 rfl rfl ?_
              refine x_iload_n C d_MD_append_107 rfl rfl ?_
              refine c_MD_MD_takeLease C (by omega) hn (m_MD_takeLease htr hn hI1 hM1 hf (show (ap1 τ f 3 f 0 - 1) < 3 by omega) tp (Nat.le_refl _)) rfl rfl (Nat.le_of_ble_eq_true rfl) d_MD_append_108 (fun v E' hp => ?_) (fun X E' hp => ?_)
              · obtain ⟨rfl, hv⟩ := hp
                cases hv
                refine x_istore C d_MD_append_111 (by decide) rfl ?_
                refine x_iload C d_MD_append_113 rfl ?_
                refine xn_if_le C (by rcases lsC_c (ap1 τ f) (ap1 τ f 4 f (ap1 τ f 3 f 0 - 1)) with e | e | e | e <;> omega) 125 d_MD_append_115 (by decide) (fun h115 => ?_) (fun h115 => ?_)
                · rw [if_pos h115, if_pos h115]
                  have hBl := lsS_B tB tc h115
                  have hHl := lsS_H (f := f) (q := (ap1 τ f 3 f 0 - 1)) tH
                  have hnl := lsN_lt (Nat.lt_of_lt_of_le tc t0) h115
                  have hfs : fst5 (lsS (ap1 τ f) f (ap1 τ f 3 f 0 - 1) 8 (lsN (ap1 τ f) (ap1 τ f 4 f (ap1 τ f 3 f 0 - 1))) 0) < 5 := by rw [ls_8]; exact fst5_pos _ (lvh_lt _ _) (ls_l hI1 hf (by omega) tp h115)
                  have hu4 : uaf (lsS (ap1 τ f) f (ap1 τ f 3 f 0 - 1)) (lsN (ap1 τ f) (ap1 τ f 4 f (ap1 τ f 3 f 0 - 1))) < 4 := by rw [ls_uaf hI1 hf (by omega) tp h115]; exact tu
                  refine x_aload_n C d_MD_append_125 rfl rfl ?_
                  refine g_MD_row C hn d_MD_append_126 ?_
                  refine x_iconst C (v := nI 3) d_MD_append_129 (by decide) ?_
                  refine x_iload_n C d_MD_append_130 rfl rfl ?_
                  refine xn_imul C d_MD_append_131 ?_
                  refine x_iload_n C d_MD_append_132 rfl rfl ?_
                  refine xn_iadd C d_MD_append_133 ?_
                  refine e_mrow C hf (by omega) hn d_MD_append_134 ?_
                  refine x_topi (show nI (lsS (ap1 τ f) f (ap1 τ f 3 f 0 - 1) 4 f (ap1 τ f 3 f 0 - 1)) = nI (lsN (ap1 τ f) (ap1 τ f 4 f (ap1 τ f 3 f 0 - 1))) by rw [lsS_4]) ?_
                  refine x_istore C d_MD_append_135 (by decide) rfl ?_
                  refine x_aload_n C d_MD_append_137 rfl rfl ?_
                  refine x_iload C d_MD_append_138 rfl ?_
                  refine c_MD_MD_usedIn C (by omega) hn (m_MD_usedIn htr hn hBl hHl hnl hfs (Nat.le_refl _)) rfl rfl (Nat.le_of_ble_eq_true rfl) d_MD_append_140 (fun v E' hp => ?_) (fun X E' hp => ?_)
                  · obtain ⟨rfl, hv⟩ := hp
                    cases hv
                    refine x_istore C d_MD_append_143 (by decide) rfl ?_
                    refine x_aload_n C d_MD_append_145 rfl rfl ?_
                    refine x_iload C d_MD_append_146 rfl ?_
                    refine x_iload C d_MD_append_148 rfl ?_
                    refine x_iload_n C d_MD_append_150 rfl rfl ?_
                    refine c_MD_MD_store C (by omega) hn (m_MD_store htr hn hBl hHl hnl hu4 (Nat.le_refl _)) rfl rfl (Nat.le_of_ble_eq_true rfl) d_MD_append_151 (fun v E' hp => ?_) (fun X E' hp => ?_)
                    · obtain ⟨rfl, hv⟩ := hp
                      cases hv
                      refine x_iconst C (v := nI 4) d_MD_append_154 (by decide) ?_
                      refine x_iload_n C d_MD_append_155 rfl rfl ?_
                      refine xn_imul C d_MD_append_156 ?_
                      refine x_iload C d_MD_append_157 rfl ?_
                      refine xn_iadd C d_MD_append_159 ?_
                      exact x_iret C hret d_MD_append_160 (by have e : apQ τ f = 0 := (by rw [apQ, if_pos h28, if_neg hF, apC, apP]; exact h115); exact ⟨by rw [qs_append, qw_append, qc_append, if_pos (inR_nI hf (by decide)), if_pos (inR_nI hf (by decide)), if_pos (inR_nI hf (by decide)), ix_nI (show f < 2 ^ 31 by omega), apS, apW, e, if_pos rfl, if_pos rfl, apU, apC, apP], by rw [qc_append, if_pos (inR_nI hf (by decide)), ix_nI (show f < 2 ^ 31 by omega), e, qa_append, apU, apC, apP]; rfl⟩)
                    · cases hp.2
                  · cases hp.2
                · rw [if_neg (show ¬ lsC (ap1 τ f) (ap1 τ f 4 f (ap1 τ f 3 f 0 - 1)) = 0 by omega), if_neg (show ¬ lsC (ap1 τ f) (ap1 τ f 4 f (ap1 τ f 3 f 0 - 1)) = 0 by omega)]
                  refine x_aload_n C d_MD_append_118 rfl rfl ?_
                  refine x_iload C d_MD_append_119 rfl ?_
                  refine c_MD_MD_fail C (by omega) hn (m_MD_fail htr hn tB' (Nat.le_refl _)) rfl rfl (Nat.le_of_ble_eq_true rfl) d_MD_append_121 (fun v E' hp => ?_) (fun X E' hp => ?_)
                  · obtain ⟨rfl, hv⟩ := hp
                    cases hv
                    exact x_iret C hret d_MD_append_124 (by have e : apQ τ f = lsC (ap1 τ f) (apC τ f) := (by rw [apQ, if_pos h28, if_neg hF]); exact ⟨by rw [qs_append, qw_append, qc_append, if_pos (inR_nI hf (by decide)), if_pos (inR_nI hf (by decide)), if_pos (inR_nI hf (by decide)), ix_nI (show f < 2 ^ 31 by omega), apS, apW, e]; rw [apC, apP, if_neg (show ¬ lsC (ap1 τ f) (ap1 τ f 4 f (ap1 τ f 3 f 0 - 1)) = 0 by omega), if_neg (show ¬ lsC (ap1 τ f) (ap1 τ f 4 f (ap1 τ f 3 f 0 - 1)) = 0 by omega), if_pos ⟨h28, hF⟩], by rw [qc_append, if_pos (inR_nI hf (by decide)), ix_nI (show f < 2 ^ 31 by omega), e]; rw [apC, apP, mr, if_neg (show ¬ lsC (ap1 τ f) (ap1 τ f 4 f (ap1 τ f 3 f 0 - 1)) = 0 by omega)]⟩)
                  · cases hp.2
              · cases hp.2
            · refine x_aload_n C d_MD_append_71 rfl rfl ?_
              refine x_iload_n C d_MD_append_72 rfl rfl ?_
              refine c_MD_MD_makeChunk C (by omega) hn (m_MD_makeChunk htr hn hI hM hf (Nat.le_refl _)) rfl rfl (Nat.le_of_ble_eq_true rfl) d_MD_append_73 (fun v E' hp => ?_) (fun X E' hp => ?_)
              · obtain ⟨rfl, hv⟩ := hp
                cases hv
                refine x_istore_n C d_MD_append_76 rfl (by decide) rfl ?_
                refine x_iload_n C d_MD_append_77 rfl rfl ?_
                refine xn_if_le C (Nat.lt_of_le_of_lt (mkC_le _ _) (by decide)) 96 d_MD_append_78 (by decide) (fun h78 => ?_) (fun h78 => ?_)
                · have hA : apM τ f = true := by simp only [apM, decide_eq_true_eq]; omega
                  have hF : ¬ apF τ f = true := by simp [apF, h78]
                  rw [if_pos h78]
                  refine x_E (E' := EM a g (ap1 τ f) v 0 X) (by rw [ap1, if_pos hA]) ?_
                  obtain ⟨hI1, t2, t1, tu⟩ := ap_inv hI hf h28 (fun _ => h78)
                  have hM1 : M + 40 ≤ 2 ^ 28 := by omega
                  have t3 := (hI1.file f hf).2.1
                  have tp : (ap1 τ f 3 f 0 - 1) < ap1 τ f 3 f 0 := by omega
                  have hO1 := hI1.ok hM1
                  have tB' : ∀ t i j, ap1 τ f t i j < 2 ^ 30 := fun t i j => Nat.lt_trans (hO1.1 t i j) (by decide)
                  have tB : ∀ t i j, ap1 τ f t i j < 2 ^ 29 := fun t i j => Nat.lt_trans (hO1.1 t i j) (by decide)
                  have tc : (ap1 τ f 4 f (ap1 τ f 3 f 0 - 1)) < ap1 τ f 0 0 0 := (hI1.file f hf).2.2.2.1 _ tp
                  have t0 := hI1.2.1
                  have tH := hI1.2.2.2.1
                  refine x_aload_n C d_MD_append_96 rfl rfl ?_
                  refine g_MD_length C hn d_MD_append_97 ?_
                  refine x_iload_n C d_MD_append_100 rfl rfl ?_
                  refine e_mlength C hf hn d_MD_append_101 ?_
                  refine x_iconst C (v := nI 1) d_MD_append_102 (by decide) ?_
                  refine xn_isub C (by omega) d_MD_append_103 ?_
                  refine x_istore_n C d_MD_append_104 rfl (by decide) rfl ?_
                  refine x_aload_n C d_MD_append_105 rfl rfl ?_
                  refine x_iload_n C d_MD_append_106 rfl rfl ?_
                  refine x_iload_n C d_MD_append_107 rfl rfl ?_
                  refine c_MD_MD_takeLease C (by omega) hn (m_MD_takeLease htr hn hI1 hM1 hf (show (ap1 τ f 3 f 0 - 1) < 3 by omega) tp (Nat.le_refl _)) rfl rfl (Nat.le_of_ble_eq_true rfl) d_MD_append_108 (fun v E' hp => ?_) (fun X E' hp => ?_)
                  · obtain ⟨rfl, hv⟩ := hp
                    cases hv
                    refine x_istore C d_MD_append_111 (by decide) rfl ?_
                    refine x_iload C d_MD_append_113 rfl ?_
                    refine xn_if_le C (by rcases lsC_c (ap1 τ f) (ap1 τ f 4 f (ap1 τ f 3 f 0 - 1)) with e | e | e | e <;> omega) 125 d_MD_append_115 (by decide) (fun h115 => ?_) (fun h115 => ?_)
                    · rw [if_pos h115, if_pos h115]
                      have hBl := lsS_B tB tc h115
                      have hHl := lsS_H (f := f) (q := (ap1 τ f 3 f 0 - 1)) tH
                      have hnl := lsN_lt (Nat.lt_of_lt_of_le tc t0) h115
                      have hfs : fst5 (lsS (ap1 τ f) f (ap1 τ f 3 f 0 - 1) 8 (lsN (ap1 τ f) (ap1 τ f 4 f (ap1 τ f 3 f 0 - 1))) 0) < 5 := by rw [ls_8]; exact fst5_pos _ (lvh_lt _ _) (ls_l hI1 hf (by omega) tp h115)
                      have hu4 : uaf (lsS (ap1 τ f) f (ap1 τ f 3 f 0 - 1)) (lsN (ap1 τ f) (ap1 τ f 4 f (ap1 τ f 3 f 0 - 1))) < 4 := by rw [ls_uaf hI1 hf (by omega) tp h115]; exact tu
                      refine x_aload_n C d_MD_append_125 rfl rfl ?_
                      refine g_MD_row C hn d_MD_append_126 ?_
                      refine x_iconst C (v := nI 3) d_MD_append_129 (by decide) ?_
                      refine x_iload_n C d_MD_append_130 rfl rfl ?_
                      refine xn_imul C d_MD_append_131 ?_
                      refine x_iload_n C d_MD_append_132 rfl rfl ?_
                      refine xn_iadd C d_MD_append_133 ?_
                      refine e_mrow C hf (by omega) hn d_MD_append_134 ?_
                      refine x_topi (show nI (lsS (ap1 τ f) f (ap1 τ f 3 f 0 - 1) 4 f (ap1 τ f 3 f 0 - 1)) = nI (lsN (ap1 τ f) (ap1 τ f 4 f (ap1 τ f 3 f 0 - 1))) by rw [lsS_4]) ?_
                      refine x_istore C d_MD_append_135 (by decide) rfl ?_
                      refine x_aload_n C d_MD_append_137 rfl rfl ?_
                      refine x_iload C d_MD_append_138 rfl ?_
                      refine c_MD_MD_usedIn C (by omega) hn (m_MD_usedIn htr hn hBl hHl hnl hfs (Nat.le_refl _)) rfl rfl (Nat.le_of_ble_eq_true rfl) d_MD_append_140 (fun v E' hp => ?_) (fun X E' hp => ?_)
                      · obtain ⟨rfl, hv⟩ := hp
                        cases hv
                        refine x_istore C d_MD_append_143 (by decide) rfl ?_
                        refine x_aload_n C d_MD_append_145 rfl rfl ?_
                        refine x_iload C d_MD_append_146 rfl ?_
                        refine x_iload C d_MD_append_148 rfl ?_
                        refine x_iload_n C d_MD_append_150 rfl rfl ?_
                        refine c_MD_MD_store C (by omega) hn (m_MD_store htr hn hBl hHl hnl hu4 (Nat.le_refl _)) rfl rfl (Nat.le_of_ble_eq_true rfl) d_MD_append_151 (fun v E' hp => ?_) (fun X E' hp => ?_)
                        · obtain ⟨rfl, hv⟩ := hp
                          cases hv
                          refine x_iconst C (v := nI 4) d_MD_append_154 (by decide) ?_
                          refine x_iload_n C d_MD_append_155 rfl rfl ?_
                          refine xn_imul C d_MD_append_156 ?_
                          refine x_iload C d_MD_append_157 rfl ?_
                          refine xn_iadd C d_MD_append_159 ?_
                          exact x_iret C hret d_MD_append_160 (by have e : apQ τ f = 0 := (by rw [apQ, if_pos h28, if_neg hF, apC, apP]; exact h115); exact ⟨by rw [qs_append, qw_append, qc_append, if_pos (inR_nI hf (by decide)), if_pos (inR_nI hf (by decide)), if_pos (inR_nI hf (by decide)), ix_nI (show f < 2 ^ 31 by omega), apS, apW, e, if_pos rfl, if_pos rfl, apU, apC, apP], by rw [qc_append, if_pos (inR_nI hf (by decide)), ix_nI (show f < 2 ^ 31 by omega), e, qa_append, apU, apC, apP]; rfl⟩)
                        · cases hp.2
                      · cases hp.2
                    · rw [if_neg (show ¬ lsC (ap1 τ f) (ap1 τ f 4 f (ap1 τ f 3 f 0 - 1)) = 0 by omega), if_neg (show ¬ lsC (ap1 τ f) (ap1 τ f 4 f (ap1 τ f 3 f 0 - 1)) = 0 by omega)]
                      refine x_aload_n C d_MD_append_118 rfl rfl ?_
                      refine x_iload C d_MD_append_119 rfl ?_
                      refine c_MD_MD_fail C (by omega) hn (m_MD_fail htr hn tB' (Nat.le_refl _)) rfl rfl (Nat.le_of_ble_eq_true rfl) d_MD_append_121 (fun v E' hp => ?_) (fun X E' hp => ?_)
                      · obtain ⟨rfl, hv⟩ := hp
                        cases hv
                        exact x_iret C hret d_MD_append_124 (by have e : apQ τ f = lsC (ap1 τ f) (apC τ f) := (by rw [apQ, if_pos h28, if_neg hF]); exact ⟨by rw [qs_append, qw_append, qc_append, if_pos (inR_nI hf (by decide)), if_pos (inR_nI hf (by decide)), if_pos (inR_nI hf (by decide)), ix_nI (show f < 2 ^ 31 by omega), apS, apW, e]; rw [apC, apP, if_neg (show ¬ lsC (ap1 τ f) (ap1 τ f 4 f (ap1 τ f 3 f 0 - 1)) = 0 by omega), if_neg (show ¬ lsC (ap1 τ f) (ap1 τ f 4 f (ap1 τ f 3 f 0 - 1)) = 0 by omega), if_pos ⟨h28, hF⟩], by rw [qc_append, if_pos (inR_nI hf (by decide)), ix_nI (show f < 2 ^ 31 by omega), e]; rw [apC, apP, mr, if_neg (show ¬ lsC (ap1 τ f) (ap1 τ f 4 f (ap1 τ f 3 f 0 - 1)) = 0 by omega)]⟩)
                      · cases hp.2
                  · cases hp.2
                · rw [if_neg (show ¬ mkC τ f = 0 by omega)]
                  have hA : apM τ f = true := by simp only [apM, decide_eq_true_eq]; omega
                  have hF : apF τ f = true := by simp [apF, hA]; omega
                  refine x_aload_n C d_MD_append_81 rfl rfl ?_
                  refine x_iload_n C d_MD_append_82 rfl rfl ?_
                  refine x_iconst C (v := nI 1) d_MD_append_83 (by decide) ?_
                  refine xn_icmp_ne C (Nat.lt_of_le_of_lt (mkC_le _ _) (by decide)) (by decide) 91 d_MD_append_84 (by decide) (fun h84 => ?_) (fun h84 => ?_)
                  · refine x_iconst C (v := nI 3) d_MD_append_91 (by decide) ?_
                    refine c_MD_MD_fail C (by omega) hn (m_MD_fail htr hn hB (Nat.le_refl _)) rfl rfl (Nat.le_of_ble_eq_true rfl) d_MD_append_92 (fun v E' hp => ?_) (fun X E' hp => ?_)
                    · obtain ⟨rfl, hv⟩ := hp
                      cases hv
                      exact x_iret C hret d_MD_append_95 (by have e : apQ τ f = 3 := (by rw [apQ, if_pos h28, if_pos hF, if_neg h84]); exact ⟨by rw [qs_append, qw_append, qc_append, if_pos (inR_nI hf (by decide)), if_pos (inR_nI hf (by decide)), if_pos (inR_nI hf (by decide)), ix_nI (show f < 2 ^ 31 by omega), apS, apW, e]; simp [hF], by rw [qc_append, if_pos (inR_nI hf (by decide)), ix_nI (show f < 2 ^ 31 by omega), e]; rfl⟩)
                    · cases hp.2
                  · refine x_iconst C (v := nI 5) d_MD_append_87 (by decide) ?_
                    refine x_goto C 92 d_MD_append_88 (by decide) ?_
                    refine c_MD_MD_fail C (by omega) hn (m_MD_fail htr hn hB (Nat.le_refl _)) rfl rfl (Nat.le_of_ble_eq_true rfl) d_MD_append_92 (fun v E' hp => ?_) (fun X E' hp => ?_)
                    · obtain ⟨rfl, hv⟩ := hp
                      cases hv
                      exact x_iret C hret d_MD_append_95 (by have e : apQ τ f = 5 := (by rw [apQ, if_pos h28, if_pos hF, if_pos h84]); exact ⟨by rw [qs_append, qw_append, qc_append, if_pos (inR_nI hf (by decide)), if_pos (inR_nI hf (by decide)), if_pos (inR_nI hf (by decide)), ix_nI (show f < 2 ^ 31 by omega), apS, apW, e]; simp [hF], by rw [qc_append, if_pos (inR_nI hf (by decide)), ix_nI (show f < 2 ^ 31 by omega), e]; rfl⟩)
                    · cases hp.2
              · cases hp.2
          · cases hp.2
      · refine x_aload_n C d_MD_append_31 rfl rfl ?_
        refine x_iconst C (v := nI 2) d_MD_append_32 (by decide) ?_
        refine c_MD_MD_fail C (by omega) hn (m_MD_fail htr hn hB (Nat.le_refl _)) rfl rfl (Nat.le_of_ble_eq_true rfl) d_MD_append_33 (fun v E' hp => ?_) (fun X E' hp => ?_)
        · obtain ⟨rfl, hv⟩ := hp
          cases hv
          exact x_iret C hret d_MD_append_36 (by have e : apQ τ f = 2 := (by rw [apQ, if_neg h28]); exact ⟨by rw [qs_append, qw_append, qc_append, if_pos (inR_nI hf (by decide)), if_pos (inR_nI hf (by decide)), if_pos (inR_nI hf (by decide)), ix_nI (show f < 2 ^ 31 by omega), apS, apW, e]; simp [h28], by rw [qc_append, if_pos (inR_nI hf (by decide)), ix_nI (show f < 2 ^ 31 by omega), e]; rfl⟩)
        · cases hp.2
    · rw [b01_n0] at h12
      have h12 := nb_t h12
      refine x_aload_n C d_MD_append_15 rfl rfl ?_
      refine x_iconst C (v := nI 1) d_MD_append_16 (by decide) ?_
      refine c_MD_MD_fail C (by omega) hn (m_MD_fail htr hn hB (Nat.le_refl _)) rfl rfl (Nat.le_of_ble_eq_true rfl) d_MD_append_17 (fun v E' hp => ?_) (fun X E' hp => ?_)
      · obtain ⟨rfl, hv⟩ := hp
        cases hv
        exact x_iret C hret d_MD_append_20 ⟨by rw [qs_append, qw_append, qc_append, if_neg h12, if_neg h12, if_neg h12], by rw [qc_append, if_neg h12]; rfl⟩
      · cases hp.2
  · cases hp.2
end XN9
