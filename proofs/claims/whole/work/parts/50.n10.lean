section XN10
theorem rp_fin {τ : xSig} : ∀ t x y, ¬ t = 7 → ¬ t = 11 → up3 (up3 (up3 τ 12 (bst τ (rqC τ) 0) (rqC τ) (τ 12 (fst5 (lvh τ (rqC τ))) (rqC τ))) 13 (bst τ (rqC τ) 0) (rqC τ) (τ 13 (fst5 (lvh τ (rqC τ))) (rqC τ))) 8 (rqC τ) 0 ((up3 (up3 τ 12 (bst τ (rqC τ) 0) (rqC τ) (τ 12 (fst5 (lvh τ (rqC τ))) (rqC τ))) 13 (bst τ (rqC τ) 0) (rqC τ) (τ 13 (fst5 (lvh τ (rqC τ))) (rqC τ))) 8 (rqC τ) 0 ||| 2 ^ bst τ (rqC τ) 0) t x y = qs_repair τ t x y := by
  intro t x y h7 h11
  rw [up3_n (show ¬ 8 = 13 by decide), up3_n (show ¬ 8 = 12 by decide)]
  unfold qs_repair alS
  generalize τ 8 (rqC τ) 0 ||| 2 ^ bst τ (rqC τ) 0 = z
  by_cases q : t = 8 ∧ x = rqC τ ∧ y = 0
  · rw [show ∀ A : xSig, up3 A 8 (rqC τ) 0 z t x y = z from fun A => if_pos q, show ∀ A : xSig, up3 A 8 (rqC τ) 0 z t x y = z from fun A => if_pos q]
  · rw [show ∀ A : xSig, up3 A 8 (rqC τ) 0 z t x y = A t x y from fun A => if_neg q, show ∀ A : xSig, up3 A 8 (rqC τ) 0 z t x y = A t x y from fun A => if_neg q, up3_n h11]
theorem m_MD_repair {l : Launch} (htr : xTr l) {D : va_G} {a : Nat → ClassId} {base : Nat} {g : Nat → Nat} {n : Nat} {τ : xSig} {v : xWrd} {fc M : Nat} {X : Nat → va_E} (hn : 159 ≤ n) (hI : Inv τ v M) (hM : M ≤ 2 ^ 28)  {k : Nat} (hk : 2 ≤ k) : xM l y_MD_repair b_MD_repair 4 (some FieldType.int) k D a base g n (EM a g τ v fc X) [.ref (g 143)] (fun r E' => E' = EM a g (if qc_repair τ = 0 then qs_repair τ else τ) (if qc_repair τ = 0 then qw_repair τ v else v) (qc_repair τ) X ∧ r = mr (qc_repair τ) (qa_repair τ)) := by
  refine x_method (by decide) htr (Nat.le_of_ble_eq_true rfl) ?_
  intro p e s m args below meth c C hne hret hnm
  have C : xC p l e s m meth c b_MD_repair 4 "ChunkStoreModel" args D xcl (xty a) base := C
  have hO := hI.ok hM
  have hB : ∀ t i j, τ t i j < 2 ^ 30 := fun t i j => Nat.lt_trans (hO.1 t i j) (by decide)
  have hH := hO.2.2.2.1
  have hcv : ∀ s, s < 5 → τ 11 s 0 = cntV (τ 12 s) 30 := fun s hs => (hI.cnt s hs).1
  have h30 := hI.2.1
  refine x_aload_n C d_MD_repair_0 rfl rfl ?_
  refine x_iconst C (v := nI 0) d_MD_repair_1 (by decide) ?_
  refine p_MD_failed C hn d_MD_repair_2 ?_
  refine x_iconst C (v := -1) d_MD_repair_5 (by decide) ?_
  refine x_istore_n C d_MD_repair_6 rfl (by decide) rfl ?_
  refine x_iconst C (v := nI 0) d_MD_repair_7 (by decide) ?_
  refine x_istore_n C d_MD_repair_8 rfl (by decide) rfl ?_
  refine x_loop (τ 0 0 0) (fun i => EM a g τ v 0 X) (fun i => [(0, .ref (g 143)), (1, .int (iv 30 ((nd τ i).1))), (2, .int (nI i))]) (fun i => True) rfl ⟨rfl, rfl, rfl, trivial⟩ trivial ?_
  intro i hi hIi ihi
  refine x_iload_n C d_MD_repair_9 rfl rfl ?_
  refine x_aload_n C d_MD_repair_10 rfl rfl ?_
  refine g_MD_chunks C hn d_MD_repair_11 ?_
  refine xn_icmp_ge C (by omega) (Nat.lt_trans (hB 0 0 0) (by decide)) 82 d_MD_repair_14 (by decide) (fun h14 => ?_) (fun h14 => ?_)
  · have e9 : i = τ 0 0 0 := by omega
    subst e9
    refine x_lv [(0, .ref (g 143)), (1, .int (iv 30 (rqC τ)))] ⟨rfl, rfl, trivial⟩ ?_
    refine x_iload_n C d_MD_repair_82 rfl rfl ?_
    refine x_if_ge C 92 d_MD_repair_83 (by decide) (fun h83 => ?_) (fun h83 => ?_)
    · have h83 := iv_ge (rqC_le hO) h83
      have hnd := (nd_2 (τ := τ) (τ 0 0 0)).2.resolve_left (fun r => by have : rqC τ = 30 := r.1; omega)
      have hcm : rqC τ < τ 0 0 0 := hnd.1
      have hb5 : bst τ (rqC τ) 0 < 5 := (bst_fr hnd.2.2.2).1
      have hl1 : ¬ lvh τ (rqC τ) = 0 := fun r => by have h1 := hnd.2.2.1; have h2 := hnd.2.1; change (nd τ (τ 0 0 0)).2 = pop5 (lvh τ (rqC τ)) at h2; rw [(pop5_0 _ (lvh_lt _ _)).mpr r] at h2; omega
      have hf5 : fst5 (lvh τ (rqC τ)) < 5 := fst5_pos _ (lvh_lt _ _) hl1
      have hq : qc_repair τ = 0 := by rw [qc_repair, if_neg (by omega)]
      refine x_aload_n C d_MD_repair_92 rfl rfl ?_
      refine x_iload_n C d_MD_repair_93 rfl rfl ?_
      refine x_topi (iv_lt h83) ?_
      refine x_iconst C (v := nI 0) d_MD_repair_94 (by decide) ?_
      refine c_MD_MD_choose C (by omega) hn (m_MD_choose htr hn hB hcv (show rqC τ ≤ 30 by omega) (by decide) (Nat.le_refl _)) rfl rfl (Nat.le_of_ble_eq_true rfl) d_MD_repair_95 (fun v E' hp => ?_) (fun X E' hp => ?_)
      · obtain ⟨rfl, hv⟩ := hp
        cases hv
        rw [bM_c (show rqC τ < 30 by omega)]
        refine x_istore_n C d_MD_repair_98 rfl (by decide) rfl ?_
        refine x_bipush C (v := nI 30) d_MD_repair_99 (by decide) ?_
        refine x_aload_n C d_MD_repair_101 rfl rfl ?_
        refine x_aload_n C d_MD_repair_102 rfl rfl ?_
        refine x_iload_n C d_MD_repair_103 rfl rfl ?_
        refine x_topi (iv_lt h83) ?_
        refine c_MD_MD_live C (by omega) hn (m_MD_live htr hn hB hH (by omega) (Nat.le_refl _)) rfl rfl (Nat.le_of_ble_eq_true rfl) d_MD_repair_104 (fun v E' hp => ?_) (fun X E' hp => ?_)
        · obtain ⟨rfl, hv⟩ := hp
          cases hv
          refine c_MD_MD_first C (by omega) hn (m_MD_first htr hn hB (lvh_lt _ _) (Nat.le_refl _)) rfl rfl (Nat.le_of_ble_eq_true rfl) d_MD_repair_107 (fun v E' hp => ?_) (fun X E' hp => ?_)
          · obtain ⟨rfl, hv⟩ := hp
            cases hv
            refine xn_imul C d_MD_repair_110 ?_
            refine x_iload_n C d_MD_repair_111 rfl rfl ?_
            refine x_topi (iv_lt h83) ?_
            refine xn_iadd C d_MD_repair_112 ?_
            refine x_istore_n C d_MD_repair_113 rfl (by decide) rfl ?_
            refine x_aload_n C d_MD_repair_114 rfl rfl ?_
            refine x_bipush C (v := nI 30) d_MD_repair_115 (by decide) ?_
            refine x_iload_n C d_MD_repair_117 rfl rfl ?_
            refine x_topi (iv_lt hb5) ?_
            refine xn_imul C d_MD_repair_118 ?_
            refine x_iload_n C d_MD_repair_119 rfl rfl ?_
            refine x_topi (iv_lt h83) ?_
            refine xn_iadd C d_MD_repair_120 ?_
            refine x_iload_n C d_MD_repair_121 rfl rfl ?_
            refine x_aload_n C d_MD_repair_122 rfl rfl ?_
            refine g_MD_replica C hn d_MD_repair_123 ?_
            refine x_iload_n C d_MD_repair_126 rfl rfl ?_
            refine e_mreplica C hf5 (by omega) hn d_MD_repair_127 ?_
            refine c_MD_MD_place C (by omega) hn (m_MD_placeC htr hn hB hb5 (by omega) hf5 (by omega) (hB _ _ _) (Nat.le_refl _)) rfl rfl (Nat.le_of_ble_eq_true rfl) d_MD_repair_128 (fun v E' hp => ?_) (fun X E' hp => ?_)
            · obtain ⟨rfl, hv⟩ := hp
              cases hv
              refine x_aload_n C d_MD_repair_131 rfl rfl ?_
              refine g_MD_holders C hn d_MD_repair_132 ?_
              refine x_iload_n C d_MD_repair_135 rfl rfl ?_
              refine x_topi (iv_lt h83) ?_
              refine x_dup2 C d_MD_repair_136 rfl rfl ?_
              refine e_mholders C (by omega) hn d_MD_repair_137 ?_
              refine x_iconst C (v := nI 1) d_MD_repair_138 (by decide) ?_
              refine x_iload_n C d_MD_repair_139 rfl rfl ?_
              refine x_topi (iv_lt hb5) ?_
              refine xn_bit C hb5 d_MD_repair_140 ?_
              refine xn_ior C (by rw [up3_n (by decide), up3_n (by decide)]; exact hH _) (bt_p _ hb5) d_MD_repair_141 ?_
              refine a_mholders C (by omega) hn d_MD_repair_142 ?_
              refine x_bipush C (v := nI 10) d_MD_repair_143 (by decide) ?_
              refine x_iload_n C d_MD_repair_145 rfl rfl ?_
              refine x_topi (iv_lt h83) ?_
              refine xn_imul C d_MD_repair_146 ?_
              refine x_iload_n C d_MD_repair_147 rfl rfl ?_
              refine x_topi (iv_lt hb5) ?_
              refine xn_iadd C d_MD_repair_148 ?_
              exact x_iret C hret d_MD_repair_149 ⟨by rw [hq, if_pos rfl, if_pos rfl]; exact EM_cg rp_fin rfl, by rw [hq]; rfl⟩
            · cases hp.2
          · cases hp.2
        · cases hp.2
      · cases hp.2
    · have h83 := iv_nge (rqC_le hO) h83
      refine x_aload_n C d_MD_repair_86 rfl rfl ?_
      refine x_iconst C (v := nI 1) d_MD_repair_87 (by decide) ?_
      refine c_MD_MD_fail C (by omega) hn (m_MD_fail htr hn hB (Nat.le_refl _)) rfl rfl (Nat.le_of_ble_eq_true rfl) d_MD_repair_88 (fun v E' hp => ?_) (fun X E' hp => ?_)
      · obtain ⟨rfl, hv⟩ := hp
        cases hv
        exact x_iret C hret d_MD_repair_91 (by have e : qc_repair τ = 1 := (by rw [qc_repair, if_pos (Or.inl h83)]); exact ⟨by rw [e, if_neg (by decide), if_neg (by decide)], by rw [e]; rfl⟩)
      · cases hp.2
  · refine x_aload_n C d_MD_repair_17 rfl rfl ?_
    refine x_aload_n C d_MD_repair_18 rfl rfl ?_
    refine x_iload_n C d_MD_repair_19 rfl rfl ?_
    refine c_MD_MD_live C (by omega) hn (m_MD_live htr hn hB hH (by omega) (Nat.le_refl _)) rfl rfl (Nat.le_of_ble_eq_true rfl) d_MD_repair_20 (fun v E' hp => ?_) (fun X E' hp => ?_)
    · obtain ⟨rfl, hv⟩ := hp
      cases hv
      refine c_MD_MD_ones C (by omega) hn (m_MD_ones htr hn hB (lvh_lt _ _) (Nat.le_refl _)) rfl rfl (Nat.le_of_ble_eq_true rfl) d_MD_repair_23 (fun v E' hp => ?_) (fun X E' hp => ?_)
      · obtain ⟨rfl, hv⟩ := hp
        cases hv
        refine x_istore_n C d_MD_repair_26 rfl (by decide) rfl ?_
        refine x_iload_n C d_MD_repair_27 rfl rfl ?_
        refine x_iconst C (v := nI 1) d_MD_repair_28 (by decide) ?_
        refine xn_icmp_lt C (Nat.lt_of_le_of_lt (pop5_le _) (by decide)) (by decide) 76 d_MD_repair_29 (by decide) (fun h29 => ?_) (fun h29 => ?_)
        · refine x_lv [(0, .ref (g 143)), (1, .int (iv 30 ((nd τ i).1))), (2, .int (nI i)), (3, .int (nI (pop5 (lvh τ i))))] ⟨rfl, rfl, rfl, rfl, trivial⟩ ?_
          refine xn_iinc C d_MD_repair_76 2 rfl (by decide) rfl ?_
          refine x_goto C 9 d_MD_repair_79 (by decide) ?_
          obtain ⟨n3, n2⟩ := nd_2 (τ := τ) i
          have e : nd τ (i + 1) = nd τ i := by rw [nd, if_neg (by rcases n2 with r | r <;> omega)]
          exact x_lv [(0, .ref (g 143)), (1, .int (iv 30 ((nd τ (i + 1)).1))), (2, .int (nI (i + 1)))] ⟨rfl, by rw [e]; rfl, rfl, trivial⟩ (ihi (by omega) trivial)
        · refine x_iload_n C d_MD_repair_32 rfl rfl ?_
          refine x_iconst C (v := nI 2) d_MD_repair_33 (by decide) ?_
          refine xn_icmp_gt C (Nat.lt_of_le_of_lt (pop5_le _) (by decide)) (by decide) 76 d_MD_repair_34 (by decide) (fun h34 => ?_) (fun h34 => ?_)
          · refine x_lv [(0, .ref (g 143)), (1, .int (iv 30 ((nd τ i).1))), (2, .int (nI i)), (3, .int (nI (pop5 (lvh τ i))))] ⟨rfl, rfl, rfl, rfl, trivial⟩ ?_
            refine xn_iinc C d_MD_repair_76 2 rfl (by decide) rfl ?_
            refine x_goto C 9 d_MD_repair_79 (by decide) ?_
            obtain ⟨n3, n2⟩ := nd_2 (τ := τ) i
            have e : nd τ (i + 1) = nd τ i := by rw [nd, if_neg (by rcases n2 with r | r <;> omega)]
            exact x_lv [(0, .ref (g 143)), (1, .int (iv 30 ((nd τ (i + 1)).1))), (2, .int (nI (i + 1)))] ⟨rfl, by rw [e]; rfl, rfl, trivial⟩ (ihi (by omega) trivial)
          · refine x_aload_n C d_MD_repair_37 rfl rfl ?_
            refine x_iload_n C d_MD_repair_38 rfl rfl ?_
            refine c_MD_MD_refs C (by omega) hn (m_MD_refs htr hn hB (by omega) (Nat.le_refl _)) rfl rfl (Nat.le_of_ble_eq_true rfl) d_MD_repair_39 (fun v E' hp => ?_) (fun X E' hp => ?_)
            · obtain ⟨rfl, hv⟩ := hp
              cases hv
              rw [← hI.refs i (by omega)]
              refine xn_if_eq C (Nat.lt_trans (hB _ _ _) (by decide)) 76 d_MD_repair_42 (by decide) (fun h42 => ?_) (fun h42 => ?_)
              · refine x_lv [(0, .ref (g 143)), (1, .int (iv 30 ((nd τ i).1))), (2, .int (nI i)), (3, .int (nI (pop5 (lvh τ i))))] ⟨rfl, rfl, rfl, rfl, trivial⟩ ?_
                refine xn_iinc C d_MD_repair_76 2 rfl (by decide) rfl ?_
                refine x_goto C 9 d_MD_repair_79 (by decide) ?_
                obtain ⟨n3, n2⟩ := nd_2 (τ := τ) i
                have e : nd τ (i + 1) = nd τ i := by rw [nd, if_neg (by rcases n2 with r | r <;> omega)]
                exact x_lv [(0, .ref (g 143)), (1, .int (iv 30 ((nd τ (i + 1)).1))), (2, .int (nI (i + 1)))] ⟨rfl, by rw [e]; rfl, rfl, trivial⟩ (ihi (by omega) trivial)
              · refine x_aload_n C d_MD_repair_45 rfl rfl ?_
                refine x_iload_n C d_MD_repair_46 rfl rfl ?_
                refine x_iconst C (v := nI 0) d_MD_repair_47 (by decide) ?_
                refine c_MD_MD_choose C (by omega) hn (m_MD_choose htr hn hB hcv (show i ≤ 30 by omega) (by decide) (Nat.le_refl _)) rfl rfl (Nat.le_of_ble_eq_true rfl) d_MD_repair_48 (fun v E' hp => ?_) (fun X E' hp => ?_)
                · obtain ⟨rfl, hv⟩ := hp
                  cases hv
                  rw [bM_c (show i < 30 by omega)]
                  refine x_if_ge C 57 d_MD_repair_51 (by decide) (fun h51 => ?_) (fun h51 => ?_)
                  · have h51 := iv_ge ⟨bst_le _ _ _, by decide⟩ h51
                    refine x_iload_n C d_MD_repair_57 rfl rfl ?_
                    refine x_if_lt C 74 d_MD_repair_58 (by decide) (fun h58 => ?_) (fun h58 => ?_)
                    · have h58 := iv_neg ⟨(nd_le i (by omega)).1, by decide⟩ h58
                      refine x_iload_n C d_MD_repair_74 rfl rfl ?_
                      refine x_istore_n C d_MD_repair_75 rfl (by decide) rfl ?_
                      refine x_lv [(0, .ref (g 143)), (1, .int (nI i)), (2, .int (nI i)), (3, .int (nI (pop5 (lvh τ i))))] ⟨rfl, rfl, rfl, rfl, trivial⟩ ?_
                      refine xn_iinc C d_MD_repair_76 2 rfl (by decide) rfl ?_
                      refine x_goto C 9 d_MD_repair_79 (by decide) ?_
                      obtain ⟨n3, n2⟩ := nd_2 (τ := τ) i
                      have e : nd τ (i + 1) = (i, pop5 (lvh τ i)) := by rw [nd, if_pos (by rcases n2 with r | r <;> omega)]
                      exact x_lv [(0, .ref (g 143)), (1, .int (iv 30 ((nd τ (i + 1)).1))), (2, .int (nI (i + 1)))] ⟨rfl, by rw [e]; rw [iv_lt (show i < 30 by omega)]; rfl, rfl, trivial⟩ (ihi (by omega) trivial)
                    · have h58 := iv_nneg ⟨(nd_le i (by omega)).1, by decide⟩ h58
                      refine x_iload_n C d_MD_repair_61 rfl rfl ?_
                      refine x_aload_n C d_MD_repair_62 rfl rfl ?_
                      refine x_aload_n C d_MD_repair_63 rfl rfl ?_
                      refine x_iload_n C d_MD_repair_64 rfl rfl ?_
                      refine x_topi (iv_lt h58) ?_
                      refine c_MD_MD_live C (by omega) hn (m_MD_live htr hn hB hH (by omega) (Nat.le_refl _)) rfl rfl (Nat.le_of_ble_eq_true rfl) d_MD_repair_65 (fun v E' hp => ?_) (fun X E' hp => ?_)
                      · obtain ⟨rfl, hv⟩ := hp
                        cases hv
                        refine c_MD_MD_ones C (by omega) hn (m_MD_ones htr hn hB (lvh_lt _ _) (Nat.le_refl _)) rfl rfl (Nat.le_of_ble_eq_true rfl) d_MD_repair_68 (fun v E' hp => ?_) (fun X E' hp => ?_)
                        · obtain ⟨rfl, hv⟩ := hp
                          cases hv
                          refine xn_icmp_ge C (Nat.lt_of_le_of_lt (pop5_le _) (by decide)) (Nat.lt_of_le_of_lt (pop5_le _) (by decide)) 76 d_MD_repair_71 (by decide) (fun h71 => ?_) (fun h71 => ?_)
                          · refine x_lv [(0, .ref (g 143)), (1, .int (iv 30 ((nd τ i).1))), (2, .int (nI i)), (3, .int (nI (pop5 (lvh τ i))))] ⟨rfl, rfl, rfl, rfl, trivial⟩ ?_
                            refine xn_iinc C d_MD_repair_76 2 rfl (by decide) rfl ?_
                            refine x_goto C 9 d_MD_repair_79 (by decide) ?_
                            obtain ⟨n3, n2⟩ := nd_2 (τ := τ) i
                            have e : nd τ (i + 1) = nd τ i := by rw [nd, if_neg (by rcases n2 with r | r <;> omega)]
                            exact x_lv [(0, .ref (g 143)), (1, .int (iv 30 ((nd τ (i + 1)).1))), (2, .int (nI (i + 1)))] ⟨rfl, by rw [e]; rfl, rfl, trivial⟩ (ihi (by omega) trivial)
                          · refine x_iload_n C d_MD_repair_74 rfl rfl ?_
                            refine x_istore_n C d_MD_repair_75 rfl (by decide) rfl ?_
                            refine x_lv [(0, .ref (g 143)), (1, .int (nI i)), (2, .int (nI i)), (3, .int (nI (pop5 (lvh τ i))))] ⟨rfl, rfl, rfl, rfl, trivial⟩ ?_
                            refine xn_iinc C d_MD_repair_76 2 rfl (by decide) rfl ?_
                            refine x_goto C 9 d_MD_repair_79 (by decide) ?_
                            obtain ⟨n3, n2⟩ := nd_2 (τ := τ) i
                            have e : nd τ (i + 1) = (i, pop5 (lvh τ i)) := by rw [nd, if_pos (by rcases n2 with r | r <;> omega)]
                            exact x_lv [(0, .ref (g 143)), (1, .int (iv 30 ((nd τ (i + 1)).1))), (2, .int (nI (i + 1)))] ⟨rfl, by rw [e]; rw [iv_lt (show i < 30 by omega)]; rfl, rfl, trivial⟩ (ihi (by omega) trivial)
                        · cases hp.2
                      · cases hp.2
                  · have h51 := iv_nge ⟨bst_le _ _ _, by decide⟩ h51
                    refine x_goto C 76 d_MD_repair_54 (by decide) ?_
                    refine x_lv [(0, .ref (g 143)), (1, .int (iv 30 ((nd τ i).1))), (2, .int (nI i)), (3, .int (nI (pop5 (lvh τ i))))] ⟨rfl, rfl, rfl, rfl, trivial⟩ ?_
                    refine xn_iinc C d_MD_repair_76 2 rfl (by decide) rfl ?_
                    refine x_goto C 9 d_MD_repair_79 (by decide) ?_
                    obtain ⟨n3, n2⟩ := nd_2 (τ := τ) i
                    have e : nd τ (i + 1) = nd τ i := by rw [nd, if_neg (by rcases n2 with r | r <;> omega)]
                    exact x_lv [(0, .ref (g 143)), (1, .int (iv 30 ((nd τ (i + 1)).1))), (2, .int (nI (i + 1)))] ⟨rfl, by rw [e]; rfl, rfl, trivial⟩ (ihi (by omega) trivial)
                · cases hp.2
            · cases hp.2
      · cases hp.2
    · cases hp.2
end XN10
