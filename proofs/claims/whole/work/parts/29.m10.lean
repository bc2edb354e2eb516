section XM10
def rqC (σ : xSig) : Nat := (nd σ (σ 0 0 0)).1
theorem rqC_le {σ : xSig} (hO : Ok σ) : rqC σ ≤ 30 ∧ 30 < 2 ^ 31 := ⟨(nd_le _ hO.2.1).1, by decide⟩
def qc_repair (σ : xSig) : Nat := if rqC σ = 30 ∨ bst σ (rqC σ) 0 = 5 ∨ fst5 (lvh σ (rqC σ)) = 5 then 1 else 0
def qs_repair (σ : xSig) : xSig := up3 (alS σ (bst σ (rqC σ) 0) (rqC σ) (fst5 (lvh σ (rqC σ))) (rqC σ) (σ 12 (fst5 (lvh σ (rqC σ))) (rqC σ))) 8 (rqC σ) 0 (σ 8 (rqC σ) 0 ||| 2 ^ bst σ (rqC σ) 0)
def qw_repair (σ : xSig) (w : xWrd) : xWrd := cpW w (bst σ (rqC σ) 0) (rqC σ) (fst5 (lvh σ (rqC σ))) (rqC σ) 4
def qa_repair (σ : xSig) : Int32 := nI (10 * rqC σ + bst σ (rqC σ) 0)
theorem alS_o {σ : xSig} {i q i2 q2 v t x y : Nat} (h : ¬ t = 11 ∧ ¬ t = 12 ∧ ¬ t = 13) : alS σ i q i2 q2 v t x y = σ t x y := by unfold alS; rw [up3_n h.1, up3_n h.2.2, up3_n h.2.1]
theorem alS_M {σ : xSig} {i q i2 q2 v M : Nat} (h : ∀ t i j, σ t i j < M) (hv : v < M) : ∀ t x y, alS σ i q i2 q2 v t x y < M + 1 := by
  have h' : ∀ t i j, σ t i j < M + 1 := fun t i j => Nat.lt_succ_of_lt (h t i j)
  exact up3_M (up3_M (up3_M h' (by omega)) (h' _ _ _)) (by have := h 11 i 0; omega)
theorem m_CS_repair {l : Launch} (htr : xTr l) {D : va_G} {a : Nat → ClassId} {base : Nat} {g : Nat → Nat} {n : Nat} {σ : xSig} {w : xWrd} {Y : Nat → va_E} (hn : 143 ≤ n) (hO : Ok σ)  {k : Nat} (hk : 3 ≤ k) : xM l y_CS_repair b_CS_repair 4 (some FieldType.int) k D a base g n (EL a g σ w Y) [.ref (g 0)] (fun r E' => E' = EL a g (if qc_repair σ = 0 then qs_repair σ else σ) (if qc_repair σ = 0 then qw_repair σ w else w) Y ∧ r = cr [e_NS] (qc_repair σ) (.int (qa_repair σ))) := by
  refine x_method (by decide) htr (Nat.le_of_ble_eq_true rfl) ?_
  intro p e s m args below meth c C hne hret hnm
  have C : xC p l e s m meth c b_CS_repair 4 "ChunkStore" args D xcl (xty a) base := C
  have hB : ∀ t i j, σ t i j < 2 ^ 30 := fun t i j => Nat.lt_trans (hO.1 t i j) (by decide)
  have hH := hO.2.2.2.1
  have hS : ∀ i, σ 11 i 0 < 2 ^ 29 := fun i => Nat.lt_trans (hO.1 _ _ _) (by decide)
  refine x_aload_n C d_CS_repair_0 rfl rfl ?_
  refine c_CS_CS_mostInNeed C (by omega) hn (m_CS_mostInNeed htr hn hB hH hO.2.1 (Nat.le_refl _)) rfl rfl (Nat.le_of_ble_eq_true rfl) d_CS_repair_1 (fun v E' hp => ?_) (fun X E' hp => ?_)
  · obtain ⟨rfl, hv⟩ := hp
    cases hv
    refine x_istore_n C d_CS_repair_4 rfl (by decide) rfl ?_
    change xG _ _ _ _ _ _ _ _ _ _ _ _ _ _ _ _ _ _ _ _ _ ((1, Value.int (iv 30 (rqC σ))) :: _) _
    refine x_iload_n C d_CS_repair_5 rfl rfl ?_
    refine x_iconst C (v := -1) d_CS_repair_6 (by decide) ?_
    refine x_icmp_ne C 14 d_CS_repair_7 (by decide) (fun h7 => ?_) (fun h7 => ?_)
    · have h7 := iv_n1 (rqC_le hO) h7
      refine x_aload_n C d_CS_repair_14 rfl rfl ?_
      refine x_iload_n C d_CS_repair_15 rfl rfl ?_
      refine x_topi (iv_lt h7) ?_
      refine x_iconst C (v := nI 0) d_CS_repair_16 (by decide) ?_
      refine c_CS_CS_lightest C (by omega) hn (m_CS_lightest htr hn hB (show rqC σ < 30 by omega) (by decide) (Nat.le_refl _)) rfl rfl (Nat.le_of_ble_eq_true rfl) d_CS_repair_17 (fun v E' hp => ?_) (fun X E' hp => ?_)
      · obtain ⟨rfl, hv⟩ := hp
        cases hv
        refine x_istore_n C d_CS_repair_20 rfl (by decide) rfl ?_
        refine x_iload_n C d_CS_repair_21 rfl rfl ?_
        refine x_topi (iv_lt h7) ?_
        refine x_iconst C (v := -1) d_CS_repair_22 (by decide) ?_
        refine x_icmp_ne C 30 d_CS_repair_23 (by decide) (fun h23 => ?_) (fun h23 => ?_)
        · refine x_aload_n C d_CS_repair_30 rfl rfl ?_
          refine x_iload_n C d_CS_repair_31 rfl rfl ?_
          refine x_topi (iv_lt h7) ?_
          refine c_CS_CS_liveHolders C (by omega) hn (m_CS_liveHolders htr hn hB hH (show rqC σ < 30 by omega) (Nat.le_refl _)) rfl rfl (Nat.le_of_ble_eq_true rfl) d_CS_repair_32 (fun v E' hp => ?_) (fun X E' hp => ?_)
          · obtain ⟨rfl, hv⟩ := hp
            cases hv
            refine c_CS_CS_first C (by omega) (m_CS_first htr (lvh_lt _ _) (Nat.le_refl _)) rfl rfl (Nat.le_of_ble_eq_true rfl) d_CS_repair_35 (fun v E' hp => ?_) (fun X E' hp => ?_)
            · obtain ⟨rfl, hv⟩ := hp
              cases hv
              refine x_istore_n C d_CS_repair_38 rfl (by decide) rfl ?_
              refine x_iload_n C d_CS_repair_39 rfl rfl ?_
              refine x_iconst C (v := -1) d_CS_repair_40 (by decide) ?_
              refine x_icmp_eq C 49 d_CS_repair_41 (by decide) (fun h41 => ?_) (fun h41 => ?_)
              · have h41 := (iv_m1 ⟨bst_le _ _ _, by decide⟩).mp h41
                exact th_NS C hne (Nat.le_of_ble_eq_true rfl) d_CS_repair_49 d_CS_repair_52 d_CS_repair_53 d_CS_repair_55 d_CS_repair_58 (tx := "no chunk can be repaired") (by decide) (by first | exact absurd h7 h23 | exact absurd h23 (by omega) | exact absurd rfl h41 | exact ⟨by rw [show qc_repair σ = 1 by rw [qc_repair, if_pos (by omega)], if_neg (by decide), if_neg (by decide)], by rw [show qc_repair σ = 1 by rw [qc_repair, if_pos (by omega)]]; rfl⟩)
              · have h41 := iv_n1 ⟨bst_le _ _ _, by decide⟩ h41
                refine x_iload_n C d_CS_repair_44 rfl rfl ?_
                refine x_iconst C (v := -1) d_CS_repair_45 (by decide) ?_
                refine x_icmp_ne C 59 d_CS_repair_46 (by decide) (fun h46 => ?_) (fun h46 => ?_)
                · have h46 := iv_n1 ⟨fst5_le _, by decide⟩ h46
                  refine x_aload_n C d_CS_repair_59 rfl rfl ?_
                  refine g_CS_cs_servers C hn d_CS_repair_60 ?_
                  refine x_iload_n C d_CS_repair_63 rfl rfl ?_
                  refine x_topi (iv_lt h41) ?_
                  refine e_arrS C h41 hn d_CS_repair_64 ?_
                  refine x_iload_n C d_CS_repair_65 rfl rfl ?_
                  refine x_topi (iv_lt h7) ?_
                  refine x_aload_n C d_CS_repair_66 rfl rfl ?_
                  refine g_CS_cs_servers C hn d_CS_repair_67 ?_
                  refine x_iload_n C d_CS_repair_70 rfl rfl ?_
                  refine x_topi (iv_lt h46) ?_
                  refine e_arrS C h46 hn d_CS_repair_71 ?_
                  refine x_iload_n C d_CS_repair_72 rfl rfl ?_
                  refine x_topi (iv_lt h7) ?_
                  refine x_aload_n C d_CS_repair_73 rfl rfl ?_
                  refine g_CS_cs_servers C hn d_CS_repair_74 ?_
                  refine x_iload_n C d_CS_repair_77 rfl rfl ?_
                  refine x_topi (iv_lt h46) ?_
                  refine e_arrS C h46 hn d_CS_repair_78 ?_
                  refine g_CS_server_versions C h46 hn d_CS_repair_79 ?_
                  refine x_iload_n C d_CS_repair_82 rfl rfl ?_
                  refine x_topi (iv_lt h7) ?_
                  refine e_vers C h46 (show rqC σ < 30 by omega) hn d_CS_repair_83 ?_
                  refine c_CS_SV_addLike C (by omega) h41 hn (m_SV_addLike htr hn hB h41 (show rqC σ < 30 by omega) h46 (show rqC σ < 30 by omega) (hB _ _ _) (Nat.le_refl _)) rfl rfl (Nat.le_of_ble_eq_true rfl) d_CS_repair_84 (fun v E' hp => ?_) (fun X E' hp => ?_)
                  · obtain ⟨rfl, hv⟩ := hp
                    cases hv
                    refine x_aload_n C d_CS_repair_87 rfl rfl ?_
                    refine g_CS_cs_chunks C hn d_CS_repair_88 ?_
                    refine x_iload_n C d_CS_repair_91 rfl rfl ?_
                    refine x_topi (iv_lt h7) ?_
                    refine e_arrC C (show rqC σ < 30 by omega) hn d_CS_repair_92 ?_
                    refine x_dup C d_CS_repair_93 rfl ?_
                    refine g_CS_chunk_holders C (show rqC σ < 30 by omega) hn d_CS_repair_94 ?_
                    refine x_iconst C (v := nI 1) d_CS_repair_97 (by decide) ?_
                    refine x_iload_n C d_CS_repair_98 rfl rfl ?_
                    refine x_topi (iv_lt h41) ?_
                    refine xn_bit C h41 d_CS_repair_99 ?_
                    refine xn_ior C (by rw [alS_o (by decide)]; exact hH _) (bt_p _ h41) d_CS_repair_100 ?_
                    refine p_CS_chunk_holders C (show rqC σ < 30 by omega) hn d_CS_repair_101 ?_
                    refine x_bipush C (v := nI 10) d_CS_repair_104 (by decide) ?_
                    refine x_iload_n C d_CS_repair_106 rfl rfl ?_
                    refine x_topi (iv_lt h7) ?_
                    refine xn_imul C d_CS_repair_107 ?_
                    refine x_iload_n C d_CS_repair_108 rfl rfl ?_
                    refine x_topi (iv_lt h41) ?_
                    refine xn_iadd C d_CS_repair_109 ?_
                    exact x_iret C hret d_CS_repair_110 ⟨by rw [show qc_repair σ = 0 by rw [qc_repair, if_neg (by omega)], if_pos rfl, if_pos rfl, qs_repair, qw_repair, alS_o (show ¬ 8 = 11 ∧ ¬ 8 = 12 ∧ ¬ 8 = 13 by decide)], by rw [show qc_repair σ = 0 by rw [qc_repair, if_neg (by omega)]]; rfl⟩
                  · cases hp.2
                · have h46 := (iv_m1 ⟨fst5_le _, by decide⟩).mp h46
                  exact th_NS C hne (Nat.le_of_ble_eq_true rfl) d_CS_repair_49 d_CS_repair_52 d_CS_repair_53 d_CS_repair_55 d_CS_repair_58 (tx := "no chunk can be repaired") (by decide) (by first | exact absurd h7 h23 | exact absurd h23 (by omega) | exact absurd rfl h41 | exact ⟨by rw [show qc_repair σ = 1 by rw [qc_repair, if_pos (by omega)], if_neg (by decide), if_neg (by decide)], by rw [show qc_repair σ = 1 by rw [qc_repair, if_pos (by omega)]]; rfl⟩)
            · cases hp.2
          · cases hp.2
        · exact absurd h23 (nI_m1 (Nat.lt_trans h7 (by decide)))
      · cases hp.2
    · have h7 := (iv_m1 (rqC_le hO)).mp h7
      refine x_iconst C (v := -1) d_CS_repair_10 (by decide) ?_
      refine x_goto C 20 d_CS_repair_11 (by decide) ?_
      refine x_istore_n C d_CS_repair_20 rfl (by decide) rfl ?_
      refine x_iload_n C d_CS_repair_21 rfl rfl ?_
      refine x_iconst C (v := -1) d_CS_repair_22 (by decide) ?_
      refine x_icmp_ne C 30 d_CS_repair_23 (by decide) (fun h23 => ?_) (fun h23 => ?_)
      · exact absurd ((iv_m1 (rqC_le hO)).mpr h7) h23
      · refine x_iconst C (v := -1) d_CS_repair_26 (by decide) ?_
        refine x_goto C 38 d_CS_repair_27 (by decide) ?_
        refine x_istore_n C d_CS_repair_38 rfl (by decide) rfl ?_
        refine x_iload_n C d_CS_repair_39 rfl rfl ?_
        refine x_iconst C (v := -1) d_CS_repair_40 (by decide) ?_
        refine x_icmp_eq C 49 d_CS_repair_41 (by decide) (fun h41 => ?_) (fun h41 => ?_)
        · exact th_NS C hne (Nat.le_of_ble_eq_true rfl) d_CS_repair_49 d_CS_repair_52 d_CS_repair_53 d_CS_repair_55 d_CS_repair_58 (tx := "no chunk can be repaired") (by decide) (by first | exact absurd h7 h23 | exact absurd h23 (by omega) | exact absurd rfl h41 | exact ⟨by rw [show qc_repair σ = 1 by rw [qc_repair, if_pos (by omega)], if_neg (by decide), if_neg (by decide)], by rw [show qc_repair σ = 1 by rw [qc_repair, if_pos (by omega)]]; rfl⟩)
        · exact absurd rfl h41
  · cases hp.2
end XM10
