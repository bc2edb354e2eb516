section XN7
theorem m_MD_locate {l : Launch} (htr : xTr l) {D : va_G} {a : Nat → ClassId} {base : Nat} {g : Nat → Nat} {n : Nat} {τ : xSig} {v : xWrd} {fc M : Nat} {X : Nat → va_E} (hn : 159 ≤ n) (hI : Inv τ v M) (hM : M ≤ 2 ^ 28) {x y z : Int32}  {k : Nat} (hk : 1 ≤ k) : xM l y_MD_locate b_MD_locate 4 (some FieldType.int) k D a base g n (EM a g τ v fc X) [.ref (g 143), .int x, .int y, .int z] (fun r E' => E' = EM a g (if (qc_locate τ x y z) = 0 then fdS τ (kix (ix x) (ix y) (ix z)) (ix y) (ix z) else τ) v (qc_locate τ x y z) X ∧ r = mr (qc_locate τ x y z) (nI (fdS τ (kix (ix x) (ix y) (ix z)) (ix y) (ix z) 15 (kix (ix x) (ix y) (ix z)) 0))) := by
  refine x_method (by decide) htr (Nat.le_of_ble_eq_true rfl) ?_
  intro p e s m args below meth c C hne hret hnm
  have C : xC p l e s m meth c b_MD_locate 4 "ChunkStoreModel" args D xcl (xty a) base := C
  have hO := hI.ok hM
  have hB : ∀ t i j, τ t i j < 2 ^ 30 := fun t i j => Nat.lt_trans (hO.1 t i j) (by decide)
  have hH := hO.2.2.2.1
  have hcv : ∀ s, s < 5 → τ 11 s 0 = cntV (τ 12 s) 30 := fun s hs => (hI.cnt s hs).1
  refine x_aload_n C d_MD_locate_0 rfl rfl ?_
  refine x_aload_n C d_MD_locate_1 rfl rfl ?_
  refine x_iload_n C d_MD_locate_2 rfl rfl ?_
  refine x_iconst C (v := nI 3) d_MD_locate_3 (by decide) ?_
  refine c_MD_MD_out C (by omega) hn (m_MD_out htr hn hB (by decide) (Nat.le_refl _)) rfl rfl (Nat.le_of_ble_eq_true rfl) d_MD_locate_4 (fun v E' hp => ?_) (fun X E' hp => ?_)
  · obtain ⟨rfl, hv⟩ := hp
    cases hv
    refine xn_if_ne C (b01_lt _) 29 d_MD_locate_7 (by decide) (fun h7 => ?_) (fun h7 => ?_)
    · rw [b01_n0] at h7
      have h7 := nb_t h7
      refine x_iconst C (v := nI 1) d_MD_locate_29 (by decide) ?_
      refine x_goto C 40 d_MD_locate_30 (by decide) ?_
      refine p_MD_failed C hn d_MD_locate_40 ?_
      refine x_aload_n C d_MD_locate_43 rfl rfl ?_
      refine g_MD_failed C hn d_MD_locate_44 ?_
      refine xn_if_le C (by first | decide | (rcases fdC_c τ f q with e | e | e <;> omega)) 54 d_MD_locate_47 (by decide) (fun h47 => ?_) (fun h47 => ?_)
      · exact absurd h47 (by decide)
      · refine x_iconst C (v := nI 0) d_MD_locate_50 (by decide) ?_
        refine x_goto C 69 d_MD_locate_51 (by decide) ?_
        exact x_iret C hret d_MD_locate_69 ⟨by rw [show qc_locate τ  x y z = 1 by rw [qc_locate, if_neg (fun q => h7 q.1)], if_neg (by decide)], by rw [show qc_locate τ  x y z = 1 by rw [qc_locate, if_neg (fun q => h7 q.1)]]; rfl⟩
    · rw [b01_0] at h7
      obtain ⟨i, hi, rfl⟩ := inR_of (nb_f h7)
      refine x_aload_n C d_MD_locate_10 rfl rfl ?_
      refine x_iload_n C d_MD_locate_11 rfl rfl ?_
      refine x_bipush C (v := nI 8) d_MD_locate_12 (by decide) ?_
      refine c_MD_MD_out C (by omega) hn (m_MD_out htr hn hB (by decide) (Nat.le_refl _)) rfl rfl (Nat.le_of_ble_eq_true rfl) d_MD_locate_14 (fun v E' hp => ?_) (fun X E' hp => ?_)
      · obtain ⟨rfl, hv⟩ := hp
        cases hv
        refine xn_if_ne C (b01_lt _) 29 d_MD_locate_17 (by decide) (fun h17 => ?_) (fun h17 => ?_)
        · rw [b01_n0] at h17
          have h17 := nb_t h17
          refine x_iconst C (v := nI 1) d_MD_locate_29 (by decide) ?_
          refine x_goto C 40 d_MD_locate_30 (by decide) ?_
          refine p_MD_failed C hn d_MD_locate_40 ?_
          refine x_aload_n C d_MD_locate_43 rfl rfl ?_
          refine g_MD_failed C hn d_MD_locate_44 ?_
          refine xn_if_le C (by first | decide | (rcases fdC_c τ f q with e | e | e <;> omega)) 54 d_MD_locate_47 (by decide) (fun h47 => ?_) (fun h47 => ?_)
          · exact absurd h47 (by decide)
          · refine x_iconst C (v := nI 0) d_MD_locate_50 (by decide) ?_
            refine x_goto C 69 d_MD_locate_51 (by decide) ?_
            exact x_iret C hret d_MD_locate_69 ⟨by rw [show qc_locate τ (nI i) y z = 1 by rw [qc_locate, if_neg (fun q => h17 q.2.1)], if_neg (by decide)], by rw [show qc_locate τ (nI i) y z = 1 by rw [qc_locate, if_neg (fun q => h17 q.2.1)]]; rfl⟩
        · rw [b01_0] at h17
          obtain ⟨f, hf, rfl⟩ := inR_of (nb_f h17)
          refine x_aload_n C d_MD_locate_20 rfl rfl ?_
          refine x_iload_n C d_MD_locate_21 rfl rfl ?_
          refine x_iconst C (v := nI 3) d_MD_locate_22 (by decide) ?_
          refine c_MD_MD_out C (by omega) hn (m_MD_out htr hn hB (by decide) (Nat.le_refl _)) rfl rfl (Nat.le_of_ble_eq_true rfl) d_MD_locate_23 (fun v E' hp => ?_) (fun X E' hp => ?_)
          · obtain ⟨rfl, hv⟩ := hp
            cases hv
            refine xn_if_eq C (b01_lt _) 33 d_MD_locate_26 (by decide) (fun h26 => ?_) (fun h26 => ?_)
            · rw [b01_0] at h26
              obtain ⟨q, hq, rfl⟩ := inR_of (nb_f h26)
              refine x_aload_n C d_MD_locate_33 rfl rfl ?_
              refine x_iload_n C d_MD_locate_34 rfl rfl ?_
              refine x_iload_n C d_MD_locate_35 rfl rfl ?_
              refine x_iload_n C d_MD_locate_36 rfl rfl ?_
              refine c_MD_MD_find C (by omega) hn (m_MD_find htr hn hI hM hi hf hq (Nat.le_refl _)) rfl rfl (Nat.le_of_ble_eq_true rfl) d_MD_locate_37 (fun v E' hp => ?_) (fun X E' hp => ?_)
              · obtain ⟨rfl, hv⟩ := hp
                cases hv
                refine p_MD_failed C hn d_MD_locate_40 ?_
                refine x_aload_n C d_MD_locate_43 rfl rfl ?_
                refine g_MD_failed C hn d_MD_locate_44 ?_
                refine xn_if_le C (by first | decide | (rcases fdC_c τ f q with e | e | e <;> omega)) 54 d_MD_locate_47 (by decide) (fun h47 => ?_) (fun h47 => ?_)
                · rw [if_pos h47]
                  refine x_aload_n C d_MD_locate_54 rfl rfl ?_
                  refine g_MD_keptVersion C hn d_MD_locate_55 ?_
                  refine x_bipush C (v := nI 24) d_MD_locate_58 (by decide) ?_
                  refine x_iload_n C d_MD_locate_60 rfl rfl ?_
                  refine xn_imul C d_MD_locate_61 ?_
                  refine x_iconst C (v := nI 3) d_MD_locate_62 (by decide) ?_
                  refine x_iload_n C d_MD_locate_63 rfl rfl ?_
                  refine xn_imul C d_MD_locate_64 ?_
                  refine xn_iadd C d_MD_locate_65 ?_
                  refine x_iload_n C d_MD_locate_66 rfl rfl ?_
                  refine xn_iadd C d_MD_locate_67 ?_
                  refine x_topi (show nI (24 * i + 3 * f + q) = nI (kix i f q) by rw [kix]; congr 1; omega) ?_
                  refine e_mkeptVersion C (by unfold kix; omega) hn d_MD_locate_68 ?_
                  exact x_iret C hret d_MD_locate_69 ⟨by rw [show qc_locate τ (nI i) (nI f) (nI q) = fdC τ f q by rw [qc_locate, if_pos ⟨inR_nI hi (by decide), inR_nI hf (by decide), inR_nI hq (by decide)⟩]; simp only [ix_nI (show i < 2 ^ 31 by omega), ix_nI (show f < 2 ^ 31 by omega), ix_nI (show q < 2 ^ 31 by omega)], if_pos h47, ix_nI (show i < 2 ^ 31 by omega), ix_nI (show f < 2 ^ 31 by omega), ix_nI (show q < 2 ^ 31 by omega)], by rw [show qc_locate τ (nI i) (nI f) (nI q) = fdC τ f q by rw [qc_locate, if_pos ⟨inR_nI hi (by decide), inR_nI hf (by decide), inR_nI hq (by decide)⟩]; simp only [ix_nI (show i < 2 ^ 31 by omega), ix_nI (show f < 2 ^ 31 by omega), ix_nI (show q < 2 ^ 31 by omega)], mr, if_pos h47, ix_nI (show i < 2 ^ 31 by omega), ix_nI (show f < 2 ^ 31 by omega), ix_nI (show q < 2 ^ 31 by omega)]⟩
                · refine x_iconst C (v := nI 0) d_MD_locate_50 (by decide) ?_
                  refine x_goto C 69 d_MD_locate_51 (by decide) ?_
                  exact x_iret C hret d_MD_locate_69 ⟨by rw [show qc_locate τ (nI i) (nI f) (nI q) = fdC τ f q by rw [qc_locate, if_pos ⟨inR_nI hi (by decide), inR_nI hf (by decide), inR_nI hq (by decide)⟩]; simp only [ix_nI (show i < 2 ^ 31 by omega), ix_nI (show f < 2 ^ 31 by omega), ix_nI (show q < 2 ^ 31 by omega)], if_neg (by omega), if_neg (by omega)], by rw [show qc_locate τ (nI i) (nI f) (nI q) = fdC τ f q by rw [qc_locate, if_pos ⟨inR_nI hi (by decide), inR_nI hf (by decide), inR_nI hq (by decide)⟩]; simp only [ix_nI (show i < 2 ^ 31 by omega), ix_nI (show f < 2 ^ 31 by omega), ix_nI (show q < 2 ^ 31 by omega)], mr, if_neg (by omega)]⟩
              · cases hp.2
            · rw [b01_n0] at h26
              have h26 := nb_t h26
              refine x_iconst C (v := nI 1) d_MD_locate_29 (by decide) ?_
              refine x_goto C 40 d_MD_locate_30 (by decide) ?_
              refine p_MD_failed C hn d_MD_locate_40 ?_
              refine x_aload_n C d_MD_locate_43 rfl rfl ?_
              refine g_MD_failed C hn d_MD_locate_44 ?_
              refine xn_if_le C (by first | decide | (rcases fdC_c τ f q with e | e | e <;> omega)) 54 d_MD_locate_47 (by decide) (fun h47 => ?_) (fun h47 => ?_)
              · exact absurd h47 (by decide)
              · refine x_iconst C (v := nI 0) d_MD_locate_50 (by decide) ?_
                refine x_goto C 69 d_MD_locate_51 (by decide) ?_
                exact x_iret C hret d_MD_locate_69 ⟨by rw [show qc_locate τ (nI i) (nI f) z = 1 by rw [qc_locate, if_neg (fun q => h26 q.2.2)], if_neg (by decide)], by rw [show qc_locate τ (nI i) (nI f) z = 1 by rw [qc_locate, if_neg (fun q => h26 q.2.2)]]; rfl⟩
          · cases hp.2
      · cases hp.2
  · cases hp.2
theorem rL_congr {σ σ' : xSig} {c : Nat} (h : ∀ t i j, (t = 2 ∨ t = 3 ∨ t = 4) → σ t i j = σ' t i j) : ∀ n, rL σ c n = rL σ' c n := by
  have hp : ∀ f n, pL σ c f n = pL σ' c f n := by
    intro f n
    induction n with
    | zero => rfl
    | succ n ih => unfold pL; rw [ih, h 2 _ _ (Or.inl rfl), h 3 _ _ (Or.inr (Or.inl rfl)), h 4 _ _ (Or.inr (Or.inr rfl))]
  intro n
  induction n with
  | zero => rfl
  | succ n ih => unfold rL; rw [ih, hp]
theorem rp_st {X : xSig} {s c : Nat} (hd : cfD X s c = true) : ∀ t x y, ¬ t = 7 → ¬ t = 11 → up3 (up3 X 12 s c 0) 8 c 0 (if (up3 X 12 s c 0 8 c 0).testBit s then up3 X 12 s c 0 8 c 0 - 2 ^ s else up3 X 12 s c 0 8 c 0) t x y = cfS X s c t x y := by
  intro t x y h7 h11
  rw [cfS, if_pos hd, clr, up3_n (show ¬ 8 = 12 by decide)]
  unfold up3
  grind
theorem m_MD_report {l : Launch} (htr : xTr l) {D : va_G} {a : Nat → ClassId} {base : Nat} {g : Nat → Nat} {n : Nat} {τ : xSig} {v : xWrd} {fc M : Nat} {X : Nat → va_E} (hn : 159 ≤ n) (hI : Inv τ v M) (hM : M ≤ 2 ^ 28) {x : Int32}  {k : Nat} (hk : 1 ≤ k) : xM l y_MD_report b_MD_report 5 (some FieldType.int) k D a base g n (EM a g τ v fc X) [.ref (g 143), .int x] (fun r E' => E' = EM a g (if (qc_report τ x) = 0 then rpL τ (ix x) (τ 0 0 0) else τ) v (qc_report τ x) X ∧ r = mr (qc_report τ x) (nI (rpN τ (ix x) (τ 0 0 0)))) := by
  refine x_method (by decide) htr (Nat.le_of_ble_eq_true rfl) ?_
  intro p e s m args below meth c C hne hret hnm
  have C : xC p l e s m meth c b_MD_report 5 "ChunkStoreModel" args D xcl (xty a) base := C
  have hO := hI.ok hM
  have hB : ∀ t i j, τ t i j < 2 ^ 30 := fun t i j => Nat.lt_trans (hO.1 t i j) (by decide)
  have hH := hO.2.2.2.1
  have hcv : ∀ s, s < 5 → τ 11 s 0 = cntV (τ 12 s) 30 := fun s hs => (hI.cnt s hs).1
  refine x_aload_n C d_MD_report_0 rfl rfl ?_
  refine x_iconst C (v := nI 0) d_MD_report_1 (by decide) ?_
  refine p_MD_failed C hn d_MD_report_2 ?_
  refine x_aload_n C d_MD_report_5 rfl rfl ?_
  refine x_iload_n C d_MD_report_6 rfl rfl ?_
  refine x_iconst C (v := nI 5) d_MD_report_7 (by decide) ?_
  refine c_MD_MD_out C (by omega) hn (m_MD_out htr hn hB (by decide) (Nat.le_refl _)) rfl rfl (Nat.le_of_ble_eq_true rfl) d_MD_report_8 (fun v E' hp => ?_) (fun X E' hp => ?_)
  · obtain ⟨rfl, hv⟩ := hp
    cases hv
    refine xn_if_eq C (b01_lt _) 20 d_MD_report_11 (by decide) (fun h11 => ?_) (fun h11 => ?_)
    · rw [b01_0] at h11
      obtain ⟨j, hj, rfl⟩ := inR_of (nb_f h11)
      refine x_aload_n C d_MD_report_20 rfl rfl ?_
      refine g_MD_down C hn d_MD_report_21 ?_
      refine x_iload_n C d_MD_report_24 rfl rfl ?_
      refine e_mdown C hj hn d_MD_report_25 ?_
      refine xn_if_eq C (b01_lt _) 35 d_MD_report_26 (by decide) (fun h26 => ?_) (fun h26 => ?_)
      · rw [b01_0] at h26
        have h26 := of_decide_eq_false h26
        refine x_iconst C (v := nI 0) d_MD_report_35 (by decide) ?_
        refine x_istore_n C d_MD_report_36 rfl (by decide) rfl ?_
        refine x_iconst C (v := nI 0) d_MD_report_37 (by decide) ?_
        refine x_istore_n C d_MD_report_38 rfl (by decide) rfl ?_
        refine x_loop (τ 0 0 0) (fun i => EM a g (rpL τ j i) v 0 X) (fun i => [(0, .ref (g 143)), (1, .int (nI j)), (2, .int (nI (rpN τ j i))), (3, .int (nI i))]) (fun i => True) rfl ⟨rfl, rfl, rfl, rfl, trivial⟩ trivial ?_
        intro i hi hIi ihi
        have h30 := hO.2.1
        refine x_iload_n C d_MD_report_39 rfl rfl ?_
        refine x_aload_n C d_MD_report_40 rfl rfl ?_
        refine g_MD_chunks C hn d_MD_report_41 ?_
        refine xn_icmp_ge C (by have := hO.2.1; omega) (Nat.lt_trans ((rpL_M hj hH hB (by decide) i) 0 0 0) (by decide)) 138 d_MD_report_44 (by decide) (fun h44 => ?_) (fun h44 => ?_)
        · rw [rpL_o _ (by decide)] at h44
          refine x_iload_n C d_MD_report_138 rfl rfl ?_
          exact x_iret C hret d_MD_report_139 ⟨by rw [show qc_report τ (nI j) = 0 by rw [qc_report, if_pos (inR_nI hj (by decide))]; simp only [ix_nI (show j < 2 ^ 31 by omega)]; rw [if_neg h26], if_pos rfl, ix_nI (show j < 2 ^ 31 by omega), show i = τ 0 0 0 by omega], by rw [show qc_report τ (nI j) = 0 by rw [qc_report, if_pos (inR_nI hj (by decide))]; simp only [ix_nI (show j < 2 ^ 31 by omega)]; rw [if_neg h26], ix_nI (show j < 2 ^ 31 by omega), show i = τ 0 0 0 by omega]; rfl⟩
        · rw [rpL_o _ (by decide)] at h44
          refine x_bipush C (v := nI 30) d_MD_report_47 (by decide) ?_
          refine x_iload_n C d_MD_report_49 rfl rfl ?_
          refine xn_imul C d_MD_report_50 ?_
          refine x_iload_n C d_MD_report_51 rfl rfl ?_
          refine xn_iadd C d_MD_report_52 ?_
          refine x_istore C d_MD_report_53 (by decide) rfl ?_
          refine x_aload_n C d_MD_report_55 rfl rfl ?_
          refine g_MD_replica C hn d_MD_report_56 ?_
          refine x_iload C d_MD_report_59 rfl ?_
          refine e_mreplica C hj (by omega) hn d_MD_report_61 ?_
          refine xn_if_ne C (Nat.lt_trans ((rpL_M hj hH hB (by decide) i) 12 j i) (by decide)) 68 d_MD_report_62 (by decide) (fun h62 => ?_) (fun h62 => ?_)
          · refine x_aload_n C d_MD_report_68 rfl rfl ?_
            refine x_iload_n C d_MD_report_69 rfl rfl ?_
            refine c_MD_MD_refs C (by omega) hn (m_MD_refs htr hn (rpL_M hj hH hB (by decide) i) (by have := hO.2.1; omega) (Nat.le_refl _)) rfl rfl (Nat.le_of_ble_eq_true rfl) d_MD_report_70 (fun v E' hp => ?_) (fun X E' hp => ?_)
            · obtain ⟨rfl, hv⟩ := hp
              cases hv
              rw [show rL (rpL τ j i) i 8 = (rpL τ j i) 7 i 0 by rw [rpL_o _ (by decide), hI.refs i (by omega)]; exact rL_congr (fun t x y h => rpL_o _ (by omega)) 8]
              refine xn_if_eq C (Nat.lt_trans (rpL_M hj hH hB (by decide) i 7 i 0) (by decide)) 92 d_MD_report_73 (by decide) (fun h73 => ?_) (fun h73 => ?_)
              · refine x_aload_n C d_MD_report_92 rfl rfl ?_
                refine g_MD_replica C hn d_MD_report_93 ?_
                refine x_iload C d_MD_report_96 rfl ?_
                refine x_iconst C (v := nI 0) d_MD_report_98 (by decide) ?_
                refine a_mreplica C hj (by omega) hn d_MD_report_99 ?_
                refine x_aload_n C d_MD_report_100 rfl rfl ?_
                refine g_MD_holders C hn d_MD_report_101 ?_
                refine x_iload_n C d_MD_report_104 rfl rfl ?_
                refine x_dup2 C d_MD_report_105 rfl rfl ?_
                refine e_mholders C (by omega) hn d_MD_report_106 ?_
                refine x_iconst C (v := nI 1) d_MD_report_107 (by decide) ?_
                refine x_iload_n C d_MD_report_108 rfl rfl ?_
                refine xn_bit C hj d_MD_report_109 ?_
                refine x_iconst C (v := -1) d_MD_report_110 (by decide) ?_
                refine x_ixor C d_MD_report_111 ?_
                refine xn_iandnot C (by rw [up3_n (by decide)]; exact rpL_H hj hH i _) hj d_MD_report_112 ?_
                refine a_mholders C (by omega) hn d_MD_report_113 ?_
                refine x_lv [(0, .ref (g 143)), (1, .int (nI j)), (2, .int (nI (rpN τ j i))), (3, .int (nI i)), (4, .int (nI ((30 * j) + i)))] ⟨rfl, rfl, rfl, rfl, rfl, trivial⟩ ?_
                refine xn_iinc C d_MD_report_114 2 rfl (by decide) rfl ?_
                refine x_goto C 132 d_MD_report_117 (by decide) ?_
                refine x_lv [(0, .ref (g 143)), (1, .int (nI j)), (2, .int (nI ((rpN τ j i) + 1))), (3, .int (nI i)), (4, .int (nI ((30 * j) + i)))] ⟨rfl, rfl, rfl, rfl, rfl, trivial⟩ ?_
                refine xn_iinc C d_MD_report_132 3 rfl (by decide) rfl ?_
                refine x_goto C 39 d_MD_report_135 (by decide) ?_
                have hD : cfD (rpL τ j i) j i = true := by simp only [cfD, decide_eq_true_eq]; omega
                refine x_E (E' := EM a g (rpL τ j (i + 1)) v 0 X) (by rw [rpL, if_pos (show 0 < rpL τ j i 12 j i by omega)]; exact EM_cg (rp_st hD) rfl) ?_
                exact x_lv [(0, .ref (g 143)), (1, .int (nI j)), (2, .int (nI (rpN τ j (i + 1)))), (3, .int (nI (i + 1)))] ⟨rfl, rfl, by rw [show rpN τ j (i + 1) = (rpN τ j i) + 1 by rw [rpN, if_pos ⟨by omega, hD⟩]]; rfl, rfl, trivial⟩ (ihi h44 trivial)
              · refine x_aload_n C d_MD_report_76 rfl rfl ?_
                refine g_MD_version C hn d_MD_report_77 ?_
                refine x_iload_n C d_MD_report_80 rfl rfl ?_
                refine e_mversion C (by omega) hn d_MD_report_81 ?_
                refine x_aload_n C d_MD_report_82 rfl rfl ?_
                refine g_MD_replica C hn d_MD_report_83 ?_
                refine x_iload C d_MD_report_86 rfl ?_
                refine e_mreplica C hj (by omega) hn d_MD_report_88 ?_
                refine xn_icmp_le C (Nat.lt_trans ((rpL_M hj hH hB (by decide) i) 6 i 0) (by decide)) (Nat.lt_trans ((rpL_M hj hH hB (by decide) i) 12 j i) (by decide)) 120 d_MD_report_89 (by decide) (fun h89 => ?_) (fun h89 => ?_)
                · refine x_aload_n C d_MD_report_120 rfl rfl ?_
                  refine g_MD_holders C hn d_MD_report_121 ?_
                  refine x_iload_n C d_MD_report_124 rfl rfl ?_
                  refine x_dup2 C d_MD_report_125 rfl rfl ?_
                  refine e_mholders C (by omega) hn d_MD_report_126 ?_
                  refine x_iconst C (v := nI 1) d_MD_report_127 (by decide) ?_
                  refine x_iload_n C d_MD_report_128 rfl rfl ?_
                  refine xn_bit C hj d_MD_report_129 ?_
                  refine xn_ior C (rpL_H hj hH i _) (bt_p _ hj) d_MD_report_130 ?_
                  refine a_mholders C (by omega) hn d_MD_report_131 ?_
                  refine x_lv [(0, .ref (g 143)), (1, .int (nI j)), (2, .int (nI (rpN τ j i))), (3, .int (nI i)), (4, .int (nI ((30 * j) + i)))] ⟨rfl, rfl, rfl, rfl, rfl, trivial⟩ ?_
                  refine xn_iinc C d_MD_report_132 3 rfl (by decide) rfl ?_
                  refine x_goto C 39 d_MD_report_135 (by decide) ?_
                  have hD : ¬ cfD (rpL τ j i) j i = true := by simp only [cfD, decide_eq_true_eq]; omega
                  refine x_E (E' := EM a g (rpL τ j (i + 1)) v 0 X) (by rw [rpL, if_pos (by omega)]; rw [cfS, if_neg hD]) ?_
                  exact x_lv [(0, .ref (g 143)), (1, .int (nI j)), (2, .int (nI (rpN τ j (i + 1)))), (3, .int (nI (i + 1)))] ⟨rfl, rfl, by rw [show rpN τ j (i + 1) = rpN τ j i by rw [rpN, if_neg (fun q => hD q.2)]]; rfl, rfl, trivial⟩ (ihi h44 trivial)
                · refine x_aload_n C d_MD_report_92 rfl rfl ?_
                  refine g_MD_replica C hn d_MD_report_93 ?_
                  refine x_iload C d_MD_report_96 rfl ?_
                  refine x_iconst C (v := nI 0) d_MD_report_98 (by decide) ?_
                  refine a_mreplica C hj (by omega) hn d_MD_report_99 ?_
                  refine x_aload_n C d_MD_report_100 rfl rfl ?_
                  refine g_MD_holders C hn d_MD_report_101 ?_
                  refine x_iload_n C d_MD_report_104 rfl rfl ?_
                  refine x_dup2 C d_MD_report_105 rfl rfl ?_
                  refine e_mholders C (by omega) hn d_MD_report_106 ?_
                  refine x_iconst C (v := nI 1) d_MD_report_107 (by decide) ?_
                  refine x_iload_n C d_MD_report_108 rfl rfl ?_
                  refine xn_bit C hj d_MD_report_109 ?_
                  refine x_iconst C (v := -1) d_MD_report_110 (by decide) ?_
                  refine x_ixor C d_MD_report_111 ?_
                  refine xn_iandnot C (by rw [up3_n (by decide)]; exact rpL_H hj hH i _) hj d_MD_report_112 ?_
                  refine a_mholders C (by omega) hn d_MD_report_113 ?_
                  refine x_lv [(0, .ref (g 143)), (1, .int (nI j)), (2, .int (nI (rpN τ j i))), (3, .int (nI i)), (4, .int (nI ((30 * j) + i)))] ⟨rfl, rfl, rfl, rfl, rfl, trivial⟩ ?_
                  refine xn_iinc C d_MD_report_114 2 rfl (by decide) rfl ?_
                  refine x_goto C 132 d_MD_report_117 (by decide) ?_
                  refine x_lv [(0, .ref (g 143)), (1, .int (nI j)), (2, .int (nI ((rpN τ j i) + 1))), (3, .int (nI i)), (4, .int (nI ((30 * j) + i)))] ⟨rfl, rfl, rfl, rfl, rfl, trivial⟩ ?_
                  refine xn_iinc C d_MD_report_132 3 rfl (by decide) rfl ?_
                  refine x_goto C 39 d_MD_report_135 (by decide) ?_
                  have hD : cfD (rpL τ j i) j i = true := by simp only [cfD, decide_eq_true_eq]; omega
                  refine x_E (E' := EM a g (rpL τ j (i + 1)) v 0 X) (by rw [rpL, if_pos (show 0 < rpL τ j i 12 j i by omega)]; exact EM_cg (rp_st hD) rfl) ?_
                  exact x_lv [(0, .ref (g 143)), (1, .int (nI j)), (2, .int (nI (rpN τ j (i + 1)))), (3, .int (nI (i + 1)))] ⟨rfl, rfl, by rw [show rpN τ j (i + 1) = (rpN τ j i) + 1 by rw [rpN, if_pos ⟨by omega, hD⟩]]; rfl, rfl, trivial⟩ (ihi h44 trivial)
            · cases hp.2
          · refine x_goto C 132 d_MD_report_65 (by decide) ?_
            refine x_lv [(0, .ref (g 143)), (1, .int (nI j)), (2, .int (nI (rpN τ j i))), (3, .int (nI i)), (4, .int (nI ((30 * j) + i)))] ⟨rfl, rfl, rfl, rfl, rfl, trivial⟩ ?_
            refine xn_iinc C d_MD_report_132 3 rfl (by decide) rfl ?_
            refine x_goto C 39 d_MD_report_135 (by decide) ?_
            refine x_E (E' := EM a g (rpL τ j (i + 1)) v 0 X) (by rw [rpL, if_neg (by omega)]) ?_
            exact x_lv [(0, .ref (g 143)), (1, .int (nI j)), (2, .int (nI (rpN τ j (i + 1)))), (3, .int (nI (i + 1)))] ⟨rfl, rfl, by rw [show rpN τ j (i + 1) = rpN τ j i by rw [rpN, if_neg (fun q => by omega)]]; rfl, rfl, trivial⟩ (ihi h44 trivial)
      · rw [b01_n0] at h26
        have h26 := of_decide_eq_true h26
        refine x_aload_n C d_MD_report_29 rfl rfl ?_
        refine x_iconst C (v := nI 2) d_MD_report_30 (by decide) ?_
        refine c_MD_MD_fail C (by omega) hn (m_MD_fail htr hn hB (Nat.le_refl _)) rfl rfl (Nat.le_of_ble_eq_true rfl) d_MD_report_31 (fun v E' hp => ?_) (fun X E' hp => ?_)
        · obtain ⟨rfl, hv⟩ := hp
          cases hv
          exact x_iret C hret d_MD_report_34 ⟨by rw [show qc_report τ (nI j) = 2 by rw [qc_report, if_pos (inR_nI hj (by decide))]; simp only [ix_nI (show j < 2 ^ 31 by omega)]; rw [if_pos h26], if_neg (by decide)], by rw [show qc_report τ (nI j) = 2 by rw [qc_report, if_pos (inR_nI hj (by decide))]; simp only [ix_nI (show j < 2 ^ 31 by omega)]; rw [if_pos h26]]; rfl⟩
        · cases hp.2
    · rw [b01_n0] at h11
      have h11 := nb_t h11
      refine x_aload_n C d_MD_report_14 rfl rfl ?_
      refine x_iconst C (v := nI 1) d_MD_report_15 (by decide) ?_
      refine c_MD_MD_fail C (by omega) hn (m_MD_fail htr hn hB (Nat.le_refl _)) rfl rfl (Nat.le_of_ble_eq_true rfl) d_MD_report_16 (fun v E' hp => ?_) (fun X E' hp => ?_)
      · obtain ⟨rfl, hv⟩ := hp
        cases hv
        exact x_iret C hret d_MD_report_19 ⟨by rw [show qc_report τ  x = 1 by rw [qc_report, if_neg h11], if_neg (by decide)], by rw [show qc_report τ  x = 1 by rw [qc_report, if_neg h11]]; rfl⟩
      · cases hp.2
  · cases hp.2
end XN7
