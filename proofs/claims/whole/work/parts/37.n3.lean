section XN3
theorem mk_st {τ : xSig} {j : Nat} (hb : (cho τ (τ 0 0 0) 3).testBit j = true) (hz : τ 13 j (τ 0 0 0) = 0) : ∀ t x y, ¬ t = 7 → ¬ t = 11 → up3 (up3 (addE (up3 (up3 τ 6 (τ 0 0 0) 0 1) 8 (τ 0 0 0) 0 (cho τ (τ 0 0 0) 3)) (cho τ (τ 0 0 0) 3) (τ 0 0 0) j) 12 j (τ 0 0 0) 1) 13 j (τ 0 0 0) 0 t x y = addE (up3 (up3 τ 6 (τ 0 0 0) 0 1) 8 (τ 0 0 0) 0 (cho τ (τ 0 0 0) 3)) (cho τ (τ 0 0 0) 3) (τ 0 0 0) (j + 1) t x y := by
  intro t x y h7 h11
  rw [addE, if_pos hb, up3_n h11]
  by_cases q : t = 13 ∧ x = j ∧ y = τ 0 0 0
  · obtain ⟨rfl, rfl, rfl⟩ := q
    rw [up3_s, up3_n (by decide), addE_o (by decide), up3_n (by decide), up3_n (by decide), hz]
  · rw [show up3 (up3 (addE (up3 (up3 τ 6 (τ 0 0 0) 0 1) 8 (τ 0 0 0) 0 (cho τ (τ 0 0 0) 3)) (cho τ (τ 0 0 0) 3) (τ 0 0 0) j) 12 j (τ 0 0 0) 1) 13 j (τ 0 0 0) 0 t x y = up3 (addE (up3 (up3 τ 6 (τ 0 0 0) 0 1) 8 (τ 0 0 0) 0 (cho τ (τ 0 0 0) 3)) (cho τ (τ 0 0 0) 3) (τ 0 0 0) j) 12 j (τ 0 0 0) 1 t x y from if_neg q]
theorem mk_fin {τ : xSig} {f : Nat} : ∀ t x y, ¬ t = 7 → ¬ t = 11 → up3 (up3 (up3 (addE (up3 (up3 τ 6 (τ 0 0 0) 0 1) 8 (τ 0 0 0) 0 (cho τ (τ 0 0 0) 3)) (cho τ (τ 0 0 0) 3) (τ 0 0 0) 5) 4 f (τ 3 f 0) (τ 0 0 0)) 3 f 0 (τ 3 f 0 + 1)) 0 0 0 (τ 0 0 0 + 1) t x y = mkS τ f t x y := by
  intro t x y h7 h11
  unfold mkS
  simp only [up3, addE_at, scS]
  grind
theorem m_MD_makeChunk {l : Launch} (htr : xTr l) {D : va_G} {a : Nat → ClassId} {base : Nat} {g : Nat → Nat} {n : Nat} {τ : xSig} {v : xWrd} {fc M : Nat} {X : Nat → va_E} (hn : 159 ≤ n) (hI : Inv τ v M) (hM : M ≤ 2 ^ 28) {f : Nat} (hf : f < 8) {k : Nat} (hk : 2 ≤ k) : xM l y_MD_makeChunk b_MD_makeChunk 5 (some FieldType.int) k D a base g n (EM a g τ v fc X) [.ref (g 143), .int (nI f)] (fun r E' => E' = EM a g (if mkC τ f = 0 then mkS τ f else τ) v fc X ∧ r = .inl (some (.int (nI (mkC τ f))))) := by
  refine x_method (by decide) htr (Nat.le_of_ble_eq_true rfl) ?_
  intro p e s m args below meth c C hne hret hnm
  have C : xC p l e s m meth c b_MD_makeChunk 5 "ChunkStoreModel" args D xcl (xty a) base := C
  have hO := hI.ok hM
  have hB : ∀ t i j, τ t i j < 2 ^ 30 := fun t i j => Nat.lt_trans (hO.1 t i j) (by decide)
  have hH := hO.2.2.2.1
  have hcv : ∀ s, s < 5 → τ 11 s 0 = cntV (τ 12 s) 30 := fun s hs => (hI.cnt s hs).1
  have h3 := (hI.file f hf).2.1
  have h30 := hI.2.1
  refine x_aload_n C d_MD_makeChunk_0 rfl rfl ?_
  refine g_MD_chunks C hn d_MD_makeChunk_1 ?_
  refine x_bipush C (v := nI 30) d_MD_makeChunk_4 (by decide) ?_
  refine xn_icmp_eq C (Nat.lt_trans (hB 0 0 0) (by decide)) (by decide) 19 d_MD_makeChunk_6 (by decide) (fun h6 => ?_) (fun h6 => ?_)
  · refine x_iconst C (v := nI 1) d_MD_makeChunk_19 (by decide) ?_
    exact x_iret C hret d_MD_makeChunk_20 ⟨by rw [show mkC τ f = 1 by rw [mkC, if_pos (by omega)], if_neg (by decide)], by rw [show mkC τ f = 1 by rw [mkC, if_pos (by omega)]]⟩
  · refine x_aload_n C d_MD_makeChunk_9 rfl rfl ?_
    refine g_MD_length C hn d_MD_makeChunk_10 ?_
    refine x_iload_n C d_MD_makeChunk_13 rfl rfl ?_
    refine e_mlength C hf hn d_MD_makeChunk_14 ?_
    refine x_iconst C (v := nI 3) d_MD_makeChunk_15 (by decide) ?_
    refine xn_icmp_ne C (Nat.lt_trans (hB 3 f 0) (by decide)) (by decide) 21 d_MD_makeChunk_16 (by decide) (fun h16 => ?_) (fun h16 => ?_)
    · have hm : τ 0 0 0 < 30 := by omega
      have hfr : ∀ s, s < 5 → τ 12 s (τ 0 0 0) = 0 := fun s hs => (hI.fresh s _ hs (Nat.le_refl _) hm).1
      refine x_iconst C (v := nI 0) d_MD_makeChunk_21 (by decide) ?_
      refine x_istore_n C d_MD_makeChunk_22 rfl (by decide) rfl ?_
      refine x_iconst C (v := nI 0) d_MD_makeChunk_23 (by decide) ?_
      refine x_istore_n C d_MD_makeChunk_24 rfl (by decide) rfl ?_
      refine x_loop 3 (fun i => EM a g τ v fc X) (fun i => [(0, .ref (g 143)), (1, .int (nI f)), (2, .int (nI (cho τ (τ 0 0 0) i))), (3, .int (nI i))]) (fun i => True) rfl ⟨rfl, rfl, rfl, rfl, trivial⟩ trivial ?_
      intro i hi hIi ihi
      refine x_iload_n C d_MD_makeChunk_25 rfl rfl ?_
      refine x_iconst C (v := nI 3) d_MD_makeChunk_26 (by decide) ?_
      refine xn_icmp_ge C (by omega) (by decide) 57 d_MD_makeChunk_27 (by decide) (fun h27 => ?_) (fun h27 => ?_)
      · refine x_iload_n C d_MD_makeChunk_57 rfl rfl ?_
        refine xn_if_ne C (Nat.lt_trans (cho_lt _ _ _) (by decide)) 63 d_MD_makeChunk_58 (by decide) (fun h58 => ?_) (fun h58 => ?_)
        · have e3 : i = 3 := by omega
          subst e3
          refine x_aload_n C d_MD_makeChunk_63 rfl rfl ?_
          refine g_MD_version C hn d_MD_makeChunk_64 ?_
          refine x_aload_n C d_MD_makeChunk_67 rfl rfl ?_
          refine g_MD_chunks C hn d_MD_makeChunk_68 ?_
          refine x_iconst C (v := nI 1) d_MD_makeChunk_71 (by decide) ?_
          refine a_mversion C hm hn d_MD_makeChunk_72 ?_
          refine x_aload_n C d_MD_makeChunk_73 rfl rfl ?_
          refine g_MD_holders C hn d_MD_makeChunk_74 ?_
          refine x_aload_n C d_MD_makeChunk_77 rfl rfl ?_
          refine g_MD_chunks C hn d_MD_makeChunk_78 ?_
          refine x_iload_n C d_MD_makeChunk_81 rfl rfl ?_
          refine a_mholders C (by simp only [up3_n (show ¬ 0 = 6 by decide)]; exact hm) hn d_MD_makeChunk_82 ?_
          refine x_iconst C (v := nI 0) d_MD_makeChunk_83 (by decide) ?_
          refine x_istore_n C d_MD_makeChunk_84 rfl (by decide) rfl ?_
          refine x_loop 5 (fun j => EM a g (addE (up3 (up3 τ 6 (τ 0 0 0) 0 1) 8 (τ 0 0 0) 0 (cho τ (τ 0 0 0) 3)) (cho τ (τ 0 0 0) 3) (τ 0 0 0) j) v fc X) (fun j => [(0, .ref (g 143)), (1, .int (nI f)), (2, .int (nI (cho τ (τ 0 0 0) 3))), (3, .int (nI j))]) (fun j => True) rfl ⟨rfl, rfl, rfl, rfl, trivial⟩ trivial ?_
          intro j hj hIj ihj
          refine x_iload_n C d_MD_makeChunk_85 rfl rfl ?_
          refine x_iconst C (v := nI 5) d_MD_makeChunk_86 (by decide) ?_
          refine xn_icmp_ge C (by omega) (by decide) 119 d_MD_makeChunk_87 (by decide) (fun h87 => ?_) (fun h87 => ?_)
          · refine x_aload_n C d_MD_makeChunk_119 rfl rfl ?_
            refine g_MD_row C hn d_MD_makeChunk_120 ?_
            refine x_iconst C (v := nI 3) d_MD_makeChunk_123 (by decide) ?_
            refine x_iload_n C d_MD_makeChunk_124 rfl rfl ?_
            refine xn_imul C d_MD_makeChunk_125 ?_
            refine x_aload_n C d_MD_makeChunk_126 rfl rfl ?_
            refine g_MD_length C hn d_MD_makeChunk_127 ?_
            refine x_iload_n C d_MD_makeChunk_130 rfl rfl ?_
            refine e_mlength C hf hn d_MD_makeChunk_131 ?_
            refine xn_iadd C d_MD_makeChunk_132 ?_
            refine x_aload_n C d_MD_makeChunk_133 rfl rfl ?_
            refine g_MD_chunks C hn d_MD_makeChunk_134 ?_
            refine a_mrow C hf (by rw [addE_o (by decide), up3_n (by decide), up3_n (by decide)]; omega) hn d_MD_makeChunk_137 ?_
            refine x_aload_n C d_MD_makeChunk_138 rfl rfl ?_
            refine g_MD_length C hn d_MD_makeChunk_139 ?_
            refine x_iload_n C d_MD_makeChunk_142 rfl rfl ?_
            refine x_dup2 C d_MD_makeChunk_143 rfl rfl ?_
            refine e_mlength C hf hn d_MD_makeChunk_144 ?_
            refine x_iconst C (v := nI 1) d_MD_makeChunk_145 (by decide) ?_
            refine xn_iadd C d_MD_makeChunk_146 ?_
            refine a_mlength C hf hn d_MD_makeChunk_147 ?_
            refine x_aload_n C d_MD_makeChunk_148 rfl rfl ?_
            refine x_dup C d_MD_makeChunk_149 rfl ?_
            refine g_MD_chunks C hn d_MD_makeChunk_150 ?_
            refine x_iconst C (v := nI 1) d_MD_makeChunk_153 (by decide) ?_
            refine xn_iadd C d_MD_makeChunk_154 ?_
            refine p_MD_chunks C hn d_MD_makeChunk_155 ?_
            refine x_iconst C (v := nI 0) d_MD_makeChunk_158 (by decide) ?_
            exact x_iret C hret d_MD_makeChunk_159 ⟨by rw [show mkC τ f = 0 by rw [mkC, if_neg (by omega), if_neg h58], if_pos rfl, show j = 5 by omega]; simp only [up3_n (show ¬ 0 = 3 by decide), up3_n (show ¬ 0 = 4 by decide), up3_n (show ¬ 3 = 4 by decide), addE_o (show ¬ 3 = 12 ∧ ¬ 3 = 11 by decide), up3_n (show ¬ 3 = 8 by decide), up3_n (show ¬ 3 = 6 by decide), addE_o (show ¬ 0 = 12 ∧ ¬ 0 = 11 by decide), up3_n (show ¬ 0 = 8 by decide), up3_n (show ¬ 0 = 6 by decide)]; exact EM_cg mk_fin rfl, by rw [show mkC τ f = 0 by rw [mkC, if_neg (by omega), if_neg h58]]⟩
          · refine x_iload_n C d_MD_makeChunk_90 rfl rfl ?_
            refine x_iload_n C d_MD_makeChunk_91 rfl rfl ?_
            refine xn_ishr C (cho_lt _ _ _) (by omega) d_MD_makeChunk_92 ?_
            refine x_iconst C (v := nI 1) d_MD_makeChunk_93 (by decide) ?_
            refine xn_iand C (bt_shlt _ (cho_lt _ _ _) _ (by omega)) (by decide) d_MD_makeChunk_94 ?_
            refine xn_if_eq C (Nat.lt_trans (bt_andlt _ (bt_shlt _ (cho_lt _ _ _) _ (by omega)) _ (by decide)) (by decide)) 113 d_MD_makeChunk_95 (by decide) (fun h95 => ?_) (fun h95 => ?_)
            · refine x_lv [(0, .ref (g 143)), (1, .int (nI f)), (2, .int (nI (cho τ (τ 0 0 0) 3))), (3, .int (nI j))] ⟨rfl, rfl, rfl, rfl, trivial⟩ ?_
              refine xn_iinc C d_MD_makeChunk_113 3 rfl (by decide) rfl ?_
              refine x_goto C 85 d_MD_makeChunk_116 (by decide) ?_
              rw [bt_shr _ (cho_lt _ _ _) j (by omega)] at h95
              have hb : ¬ (cho τ (τ 0 0 0) 3).testBit j = true := fun r => by rw [if_pos r] at h95; omega
              refine x_E (E' := EM a g (addE (up3 (up3 τ 6 (τ 0 0 0) 0 1) 8 (τ 0 0 0) 0 (cho τ (τ 0 0 0) 3)) (cho τ (τ 0 0 0) 3) (τ 0 0 0) (j + 1)) v fc X) (by rw [addE, if_neg hb]) ?_
              exact x_lv [(0, .ref (g 143)), (1, .int (nI f)), (2, .int (nI (cho τ (τ 0 0 0) 3))), (3, .int (nI (j + 1)))] ⟨rfl, rfl, rfl, rfl, trivial⟩ (ihj (by omega) trivial)
            · refine x_aload_n C d_MD_makeChunk_98 rfl rfl ?_
              refine x_bipush C (v := nI 30) d_MD_makeChunk_99 (by decide) ?_
              refine x_iload_n C d_MD_makeChunk_101 rfl rfl ?_
              refine xn_imul C d_MD_makeChunk_102 ?_
              refine x_aload_n C d_MD_makeChunk_103 rfl rfl ?_
              refine g_MD_chunks C hn d_MD_makeChunk_104 ?_
              refine xn_iadd C d_MD_makeChunk_107 ?_
              refine x_iconst C (v := -1) d_MD_makeChunk_108 (by decide) ?_
              refine x_iconst C (v := nI 1) d_MD_makeChunk_109 (by decide) ?_
              refine c_MD_MD_place C (by omega) hn (m_MD_placeN htr hn (addE_B (up3_B (up3_B hB (by decide)) (by have := cho_lt τ (τ 0 0 0) 3; omega)) (fun i => by rw [up3_n (by decide), up3_n (by decide)]; exact Nat.lt_trans (hO.1 _ _ _) (by decide))) (by omega) (by rw [addE_o (show ¬ 0 = 12 ∧ ¬ 0 = 11 by decide), up3_n (show ¬ 0 = 8 by decide), up3_n (show ¬ 0 = 6 by decide)]; exact hm) (by decide) (Nat.le_refl _)) rfl rfl (Nat.le_of_ble_eq_true rfl) d_MD_makeChunk_110 (fun v E' hp => ?_) (fun X E' hp => ?_)
              · obtain ⟨rfl, hv⟩ := hp
                cases hv
                refine x_lv [(0, .ref (g 143)), (1, .int (nI f)), (2, .int (nI (cho τ (τ 0 0 0) 3))), (3, .int (nI j))] ⟨rfl, rfl, rfl, rfl, trivial⟩ ?_
                refine xn_iinc C d_MD_makeChunk_113 3 rfl (by decide) rfl ?_
                refine x_goto C 85 d_MD_makeChunk_116 (by decide) ?_
                rw [bt_shr _ (cho_lt _ _ _) j (by omega)] at h95
                have hb : (cho τ (τ 0 0 0) 3).testBit j = true := by by_cases r : (cho τ (τ 0 0 0) 3).testBit j = true; exact r; rw [if_neg r] at h95; exact absurd rfl h95
                have hz := hI.fresh j (τ 0 0 0) (by omega) (Nat.le_refl _) hm
                refine x_E (E' := EM a g (addE (up3 (up3 τ 6 (τ 0 0 0) 0 1) 8 (τ 0 0 0) 0 (cho τ (τ 0 0 0) 3)) (cho τ (τ 0 0 0) 3) (τ 0 0 0) (j + 1)) v fc X) (by rw [addE_o (show ¬ 0 = 12 ∧ ¬ 0 = 11 by decide), up3_n (show ¬ 0 = 8 by decide), up3_n (show ¬ 0 = 6 by decide), zrW_id hz.2.2 4 (by decide)]; exact EM_cg (mk_st hb hz.2.1) rfl) ?_
                exact x_lv [(0, .ref (g 143)), (1, .int (nI f)), (2, .int (nI (cho τ (τ 0 0 0) 3))), (3, .int (nI (j + 1)))] ⟨rfl, rfl, rfl, rfl, trivial⟩ (ihj (by omega) trivial)
              · cases hp.2
        · refine x_iconst C (v := nI 2) d_MD_makeChunk_61 (by decide) ?_
          exact x_iret C hret d_MD_makeChunk_62 (by rw [show i = 3 by omega] at h58; exact ⟨by rw [show mkC τ f = 2 by rw [mkC, if_neg (by omega), if_pos h58], if_neg (by decide)], by rw [show mkC τ f = 2 by rw [mkC, if_neg (by omega), if_pos h58]]⟩)
      · refine x_aload_n C d_MD_makeChunk_30 rfl rfl ?_
        refine x_bipush C (v := nI 30) d_MD_makeChunk_31 (by decide) ?_
        refine x_iload_n C d_MD_makeChunk_33 rfl rfl ?_
        refine c_MD_MD_choose C (by omega) hn (m_MD_choose htr hn hB hcv (Nat.le_refl _) (cho_lt _ _ _) (Nat.le_refl _)) rfl rfl (Nat.le_of_ble_eq_true rfl) d_MD_makeChunk_34 (fun v E' hp => ?_) (fun X E' hp => ?_)
        · obtain ⟨rfl, hv⟩ := hp
          cases hv
          rw [bM_30 hfr]
          refine x_istore C d_MD_makeChunk_37 (by decide) rfl ?_
          refine x_iload C d_MD_makeChunk_39 rfl ?_
          refine x_if_lt C 51 d_MD_makeChunk_41 (by decide) (fun h41 => ?_) (fun h41 => ?_)
          · have h41 := iv_neg ⟨bst_le _ _ _, by decide⟩ h41
            refine x_lv [(0, .ref (g 143)), (1, .int (nI f)), (2, .int (nI (cho τ (τ 0 0 0) i))), (3, .int (nI i)), (4, .int (iv 5 (bst τ (τ 0 0 0) (cho τ (τ 0 0 0) i))))] ⟨rfl, rfl, rfl, rfl, rfl, trivial⟩ ?_
            refine xn_iinc C d_MD_makeChunk_51 3 rfl (by decide) rfl ?_
            refine x_goto C 25 d_MD_makeChunk_54 (by decide) ?_
            exact x_lv [(0, .ref (g 143)), (1, .int (nI f)), (2, .int (nI (cho τ (τ 0 0 0) (i + 1)))), (3, .int (nI (i + 1)))] ⟨rfl, rfl, by rw [cho, if_pos h41]; rfl, rfl, trivial⟩ (ihi (by omega) trivial)
          · have h41 := iv_nneg ⟨bst_le _ _ _, by decide⟩ h41
            refine x_iload_n C d_MD_makeChunk_44 rfl rfl ?_
            refine x_iconst C (v := nI 1) d_MD_makeChunk_45 (by decide) ?_
            refine x_iload C d_MD_makeChunk_46 rfl ?_
            refine x_topi (iv_lt h41) ?_
            refine xn_bit C h41 d_MD_makeChunk_48 ?_
            refine xn_ior C (cho_lt _ _ _) (bt_p _ h41) d_MD_makeChunk_49 ?_
            refine x_istore_n C d_MD_makeChunk_50 rfl (by decide) rfl ?_
            refine x_lv [(0, .ref (g 143)), (1, .int (nI f)), (2, .int (nI ((cho τ (τ 0 0 0) i) ||| (2 ^ (bst τ (τ 0 0 0) (cho τ (τ 0 0 0) i)))))), (3, .int (nI i)), (4, .int (iv 5 (bst τ (τ 0 0 0) (cho τ (τ 0 0 0) i))))] ⟨rfl, rfl, rfl, rfl, rfl, trivial⟩ ?_
            refine xn_iinc C d_MD_makeChunk_51 3 rfl (by decide) rfl ?_
            refine x_goto C 25 d_MD_makeChunk_54 (by decide) ?_
            exact x_lv [(0, .ref (g 143)), (1, .int (nI f)), (2, .int (nI (cho τ (τ 0 0 0) (i + 1)))), (3, .int (nI (i + 1)))] ⟨rfl, rfl, by rw [cho, if_neg (by omega)]; rfl, rfl, trivial⟩ (ihi (by omega) trivial)
        · cases hp.2
    · refine x_iconst C (v := nI 1) d_MD_makeChunk_19 (by decide) ?_
      exact x_iret C hret d_MD_makeChunk_20 ⟨by rw [show mkC τ f = 1 by rw [mkC, if_pos (by omega)], if_neg (by decide)], by rw [show mkC τ f = 1 by rw [mkC, if_pos (by omega)]]⟩
end XN3
