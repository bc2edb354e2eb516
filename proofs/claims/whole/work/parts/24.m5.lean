section XM5
/-- find: 0, or which throw -/
def fdC (σ : xSig) (f q : Nat) : Nat := if σ 2 f 0 = 1 then (if q < σ 3 f 0 then 0 else 3) else 2
def fdX (k : Nat) : String := if k = 2 then e_NS else e_IO
def fdS (σ : xSig) (K f q : Nat) : xSig := if σ 1 0 0 < σ 17 K 0 then σ else up3 (up3 (up3 (up3 σ 14 K 0 (σ 4 f q)) 15 K 0 (σ 6 (σ 4 f q) 0)) 16 K 0 (σ 8 (σ 4 f q) 0)) 17 K 0 (σ 1 0 0 + 40)
/-- makeChunk -/
def mkC (σ : xSig) (f : Nat) : Nat := if 30 ≤ σ 0 0 0 ∨ 3 ≤ σ 3 f 0 then 1 else if cho σ (σ 0 0 0) 3 = 0 then 2 else 0
def mkX (k : Nat) : String := if k = 1 then e_IO else e_IS
def mkS (σ : xSig) (f : Nat) : xSig := up3 (up3 (addE (scS σ (cho σ (σ 0 0 0) 3)) (cho σ (σ 0 0 0) 3) (σ 0 0 0) 5) 4 f (σ 3 f 0) (σ 0 0 0)) 3 f 0 (σ 3 f 0 + 1)
/-- splitOff -/
def spC (σ : xSig) (h : Nat) : Nat := if 30 ≤ σ 0 0 0 then 5 else if anyF σ h = true then 4 else 0
def xcW (k : Nat) : String := if k = 1 then e_IA else if k = 2 then e_NS else if k = 3 then e_IS else if k = 4 then e_UO else e_IO
def spS (σ : xSig) (f q h : Nat) : xSig := up3 (up3 (spL (scS σ h) h (σ 0 0 0) (σ 4 f q) 5) 7 (σ 4 f q) 0 (σ 7 (σ 4 f q) 0 - 1)) 4 f q (σ 0 0 0)
theorem scS_o {σ : xSig} {h t i j : Nat} (ht : ¬ t = 0 ∧ ¬ t = 6 ∧ ¬ t = 7 ∧ ¬ t = 8) : scS σ h t i j = σ t i j := by unfold scS; rw [up3_n ht.1, up3_n ht.2.2.2, up3_n ht.2.2.1, up3_n ht.2.1]
theorem scS_7 {σ : xSig} {h c : Nat} (hc : ¬ c = σ 0 0 0) : scS σ h 7 c 0 = σ 7 c 0 := by unfold scS; rw [up3_n (by decide), up3_n (by decide)]; unfold up3; rw [if_neg (fun q => hc q.2.1), if_neg (fun q => absurd q.1 (by decide))]
/-- lease -/
def lsK (σ : xSig) (c : Nat) : Bool := decide (σ 1 0 0 < σ 9 c 0 ∧ lvh σ c = σ 8 c 0)
def lsC (σ : xSig) (c : Nat) : Nat := if lsK σ c = true then 0 else if lvh σ c = 0 then 3 else if 2 ≤ σ 7 c 0 then spC σ (lvh σ c) else 0
def lsN (σ : xSig) (c : Nat) : Nat := if lsK σ c = true then c else if 2 ≤ σ 7 c 0 then σ 0 0 0 else c
def lsS (σ : xSig) (f q : Nat) : xSig := if lsK σ (σ 4 f q) = true then σ else if 2 ≤ σ 7 (σ 4 f q) 0 then up3 (spS σ f q (lvh σ (σ 4 f q))) 9 (σ 0 0 0) 0 (σ 1 0 0 + 80) else up3 (rvS σ (σ 4 f q) (lvh σ (σ 4 f q))) 9 (σ 4 f q) 0 (σ 1 0 0 + 80)
def lsW (σ : xSig) (w : xWrd) (c : Nat) : xWrd := if lsK σ c = true then w else if 2 ≤ σ 7 c 0 then spW w (lvh σ c) (σ 0 0 0) c 5 else w
theorem m_CS_find {l : Launch} (htr : xTr l) {D : va_G} {a : Nat → ClassId} {base : Nat} {g : Nat → Nat} {n : Nat} {σ : Nat → Nat → Nat → Nat} {w : Nat → Nat → Int32} {Y : Nat → va_E} (hn : 143 ≤ n) (hB : ∀ t i j, σ t i j < 2 ^ 30) {cl f q : Nat} (hc : cl < 3) (hf : f < 8) (hq : q < 3) (hr : q < σ 3 f 0 → σ 4 f q < 30) {k : Nat} (hk : 1 ≤ k) : xM l y_CS_find b_CS_find 7 (some (FieldType.object "ChunkStore$Kept")) k D a base g n (EL a g σ w Y) [.ref (g 0), .int (nI cl), .int (nI f), .int (nI q)] (fun r E' => E' = EL a g (if fdC σ f q = 0 then fdS σ ((cl * 8 + f) * 3 + q) f q else σ) w Y ∧ r = if fdC σ f q = 0 then .inl (some (.ref (g (71 + ((cl * 8 + f) * 3 + q))))) else .inr (fdX (fdC σ f q))) := by
  refine x_method (by decide) htr (Nat.le_of_ble_eq_true rfl) ?_
  intro p e s m args below meth c C hne hret hnm
  have C : xC p l e s m meth c b_CS_find 7 "ChunkStore" args D xcl (xty a) base := C
  refine x_aload_n C d_CS_find_0 rfl rfl ?_
  refine x_iload_n C d_CS_find_1 rfl rfl ?_
  refine c_CS_CS_fileThere C (by omega) hn (m_CS_fileThere htr hn hB hf (Nat.le_refl _)) rfl rfl (Nat.le_of_ble_eq_true rfl) d_CS_find_2 (fun v E' hp => ?_) (fun X E' hp => ?_)
  · obtain ⟨rfl, hv⟩ := hp
    obtain ⟨h2, rfl⟩ := rif_l hv
    refine x_astore C d_CS_find_5 (by decide) rfl ?_
    refine x_aload C d_CS_find_7 rfl ?_
    refine x_iload_n C d_CS_find_9 rfl rfl ?_
    refine c_CS_CS_checkPlace C (by omega) (m_CS_checkPlace htr hn hB hf (by omega) (Nat.le_refl _)) rfl rfl (Nat.le_of_ble_eq_true rfl) d_CS_find_10 (fun v E' hp => ?_) (fun X E' hp => ?_)
    · obtain ⟨rfl, hv⟩ := hp
      obtain ⟨h10, rfl⟩ := rif_l hv
      refine x_aload_n C d_CS_find_13 rfl rfl ?_
      refine g_CS_cs_keeps C hn d_CS_find_14 ?_
      refine x_iload_n C d_CS_find_17 rfl rfl ?_
      refine x_bipush C (v := nI 8) d_CS_find_18 (by decide) ?_
      refine xn_imul C d_CS_find_20 ?_
      refine x_iload_n C d_CS_find_21 rfl rfl ?_
      refine xn_iadd C d_CS_find_22 ?_
      refine x_iconst C (v := nI 3) d_CS_find_23 (by decide) ?_
      refine xn_imul C d_CS_find_24 ?_
      refine x_iload_n C d_CS_find_25 rfl rfl ?_
      refine xn_iadd C d_CS_find_26 ?_
      refine e_arrK C (by omega) hn d_CS_find_27 ?_
      refine x_astore C d_CS_find_28 (by decide) rfl ?_
      refine x_aload C d_CS_find_30 rfl ?_
      refine g_CS_kept_end C (by omega) hn d_CS_find_32 ?_
      refine x_aload_n C d_CS_find_35 rfl rfl ?_
      refine g_CS_cs_time C hn d_CS_find_36 ?_
      refine xn_dcmp C (Nat.lt_trans (hB 17 ((((cl * 8) + f) * 3) + q) 0) (by decide)) (Nat.lt_trans (hB 1 0 0) (by decide)) d_CS_find_39 ?_
      refine x_if_gt C 102 d_CS_find_40 (by decide) (fun h40 => ?_) (fun h40 => ?_)
      · have h40 := cmpI_gt h40
        refine x_aload C d_CS_find_102 rfl ?_
        exact x_aret C hret (Or.inl ⟨_, rfl⟩) d_CS_find_104 ⟨by rw [fdC, if_pos h2, if_pos h10, if_pos rfl, fdS, if_pos h40], by rw [fdC, if_pos h2, if_pos h10, if_pos rfl]⟩
      · have h40 := cmpI_ngt h40
        refine x_aload_n C d_CS_find_43 rfl rfl ?_
        refine g_CS_cs_chunks C hn d_CS_find_44 ?_
        refine x_aload C d_CS_find_47 rfl ?_
        refine g_CS_file_row C hf hn d_CS_find_49 ?_
        refine x_iload_n C d_CS_find_52 rfl rfl ?_
        refine e_row C hf hq hn d_CS_find_53 ?_
        refine e_arrC C (hr h10) hn d_CS_find_54 ?_
        refine x_astore C d_CS_find_55 (by decide) rfl ?_
        refine x_aload C d_CS_find_57 rfl ?_
        refine x_aload C d_CS_find_59 rfl ?_
        refine g_CS_file_row C hf hn d_CS_find_61 ?_
        refine x_iload_n C d_CS_find_64 rfl rfl ?_
        refine e_row C hf hq hn d_CS_find_65 ?_
        refine p_CS_kept_number C (by omega) hn d_CS_find_66 ?_
        refine x_aload C d_CS_find_69 rfl ?_
        refine x_aload C d_CS_find_71 rfl ?_
        refine g_CS_chunk_version C (hr h10) hn d_CS_find_73 ?_
        refine p_CS_kept_version C (by omega) hn d_CS_find_76 ?_
        refine x_aload C d_CS_find_79 rfl ?_
        refine x_aload C d_CS_find_81 rfl ?_
        refine g_CS_chunk_holders C (hr h10) hn d_CS_find_83 ?_
        refine p_CS_kept_holders C (by omega) hn d_CS_find_86 ?_
        refine x_aload C d_CS_find_89 rfl ?_
        refine x_aload_n C d_CS_find_91 rfl rfl ?_
        refine g_CS_cs_time C hn d_CS_find_92 ?_
        refine x_ldc2d C kw369 d_CS_find_95 ?_
        refine x_topd (show _ = dT 40 from dT_40i.symm) ?_
        refine xn_dadd C (by simp only [up3_n (show ¬ 1 = 14 by decide), up3_n (show ¬ 1 = 15 by decide), up3_n (show ¬ 1 = 16 by decide)]; have := hB 1 0 0; omega) d_CS_find_98 ?_
        refine p_CS_kept_end C (by omega) hn d_CS_find_99 ?_
        refine x_aload C d_CS_find_102 rfl ?_
        exact x_aret C hret (Or.inl ⟨_, rfl⟩) d_CS_find_104 ⟨by rw [fdC, if_pos h2, if_pos h10, if_pos rfl, fdS, if_neg (by omega)]; congr 1, by rw [fdC, if_pos h2, if_pos h10, if_pos rfl]⟩
    · obtain ⟨rfl, hv⟩ := hp
      obtain ⟨h10, rfl⟩ := rif_r hv
      exact x_prop C hne (Nat.le_refl _) (Nat.le_refl _) ⟨by rw [fdC, if_pos h2, if_neg h10, if_neg (by decide)], by rw [fdC, if_pos h2, if_neg h10]; rfl⟩
  · obtain ⟨rfl, hv⟩ := hp
    obtain ⟨h2, rfl⟩ := rif_r hv
    exact x_prop C hne (Nat.le_refl _) (Nat.le_refl _) ⟨by rw [fdC, if_neg h2, if_neg (by decide)], by rw [fdC, if_neg h2]; rfl⟩
theorem m_CS_makeChunk {l : Launch} (htr : xTr l) {D : va_G} {a : Nat → ClassId} {base : Nat} {g : Nat → Nat} {n : Nat} {σ : Nat → Nat → Nat → Nat} {w : Nat → Nat → Int32} {Y : Nat → va_E} (hn : 143 ≤ n) (hB : ∀ t i j, σ t i j < 2 ^ 30) (hH : ∀ c, σ 8 c 0 < 32) (hS : ∀ i, σ 11 i 0 < 2 ^ 29) {f : Nat} (hf : f < 8) {k : Nat} (hk : 3 ≤ k) : xM l y_CS_makeChunk b_CS_makeChunk 5 (some FieldType.int) k D a base g n (EL a g σ w Y) [.ref (g 0), .ref (g (2 + 2 * f))] (fun r E' => E' = EL a g (if mkC σ f = 0 then mkS σ f else σ) w Y ∧ r = if mkC σ f = 0 then .inl (some (.int (nI (σ 0 0 0)))) else .inr (mkX (mkC σ f))) := by
  refine x_method (by decide) htr (Nat.le_of_ble_eq_true rfl) ?_
  intro p e s m args below meth c C hne hret hnm
  have C : xC p l e s m meth c b_CS_makeChunk 5 "ChunkStore" args D xcl (xty a) base := C
  refine x_aload_n C d_CS_makeChunk_0 rfl rfl ?_
  refine g_CS_cs_made C hn d_CS_makeChunk_1 ?_
  refine x_bipush C (v := nI 30) d_CS_makeChunk_4 (by decide) ?_
  refine xn_icmp_ge C (Nat.lt_trans (hB 0 0 0) (by decide)) (by decide) 17 d_CS_makeChunk_6 (by decide) (fun h6 => ?_) (fun h6 => ?_)
  · exact th_IO C hne (Nat.le_of_ble_eq_true rfl) d_CS_makeChunk_17 d_CS_makeChunk_20 d_CS_makeChunk_21 d_CS_makeChunk_23 d_CS_makeChunk_26 (tx := "no chunk can be made for the row") (by decide) ⟨by rw [show mkC σ f = 1 by rw [mkC, if_pos (by omega)], if_neg (by decide)], by rw [show mkC σ f = 1 by rw [mkC, if_pos (by omega)]]; rfl⟩
  · refine x_aload_n C d_CS_makeChunk_9 rfl rfl ?_
    refine g_CS_file_count C hf hn d_CS_makeChunk_10 ?_
    refine x_iconst C (v := nI 3) d_CS_makeChunk_13 (by decide) ?_
    refine xn_icmp_lt C (Nat.lt_trans (hB 3 f 0) (by decide)) (by decide) 27 d_CS_makeChunk_14 (by decide) (fun h14 => ?_) (fun h14 => ?_)
    · have hm : σ 0 0 0 < 30 := by omega
      refine x_aload_n C d_CS_makeChunk_27 rfl rfl ?_
      refine g_CS_cs_made C hn d_CS_makeChunk_28 ?_
      refine x_istore_n C d_CS_makeChunk_31 rfl (by decide) rfl ?_
      refine x_aload_n C d_CS_makeChunk_32 rfl rfl ?_
      refine x_iload_n C d_CS_makeChunk_33 rfl rfl ?_
      refine x_iconst C (v := nI 3) d_CS_makeChunk_34 (by decide) ?_
      refine c_CS_CS_choose C (by omega) hn (m_CS_choose htr hn hB hm (Nat.le_refl _)) rfl rfl (Nat.le_of_ble_eq_true rfl) d_CS_makeChunk_35 (fun v E' hp => ?_) (fun X E' hp => ?_)
      · obtain ⟨rfl, hv⟩ := hp
        cases hv
        refine x_istore_n C d_CS_makeChunk_38 rfl (by decide) rfl ?_
        refine x_iload_n C d_CS_makeChunk_39 rfl rfl ?_
        refine xn_if_ne C (Nat.lt_trans (cho_lt _ _ _) (by decide)) 53 d_CS_makeChunk_40 (by decide) (fun h40 => ?_) (fun h40 => ?_)
        · refine x_aload_n C d_CS_makeChunk_53 rfl rfl ?_
          refine x_iload_n C d_CS_makeChunk_54 rfl rfl ?_
          refine c_CS_CS_startChunk C (by omega) hn (m_CS_startChunk htr hn hB hm (Nat.le_refl _)) rfl rfl (Nat.le_of_ble_eq_true rfl) d_CS_makeChunk_55 (fun v E' hp => ?_) (fun X E' hp => ?_)
          · obtain ⟨rfl, hv⟩ := hp
            cases hv
            refine x_iconst C (v := nI 0) d_CS_makeChunk_58 (by decide) ?_
            refine x_istore C d_CS_makeChunk_59 (by decide) rfl ?_
            refine x_loop 5 (fun i => EL a g (addE (scS σ (cho σ (σ 0 0 0) 3)) (cho σ (σ 0 0 0) 3) (σ 0 0 0) i) w Y) (fun i => [(0, .ref (g (0))), (1, .ref (g (2 + 2 * f))), (2, .int (nI (σ 0 0 0))), (3, .int (nI (cho σ (σ 0 0 0) 3))), (4, .int (nI i))]) (fun i => True) rfl ⟨rfl, rfl, rfl, rfl, rfl, trivial⟩ trivial ?_
            intro i hi hIi ihi
            refine x_iload C d_CS_makeChunk_61 rfl ?_
            refine x_iconst C (v := nI 5) d_CS_makeChunk_63 (by decide) ?_
            refine xn_icmp_ge C (by omega) (by decide) 93 d_CS_makeChunk_64 (by decide) (fun h64 => ?_) (fun h64 => ?_)
            · refine x_aload_n C d_CS_makeChunk_93 rfl rfl ?_
              refine x_iload_n C d_CS_makeChunk_94 rfl rfl ?_
              refine c_CS_FE_addAtEnd C (by omega) hf hn (m_FE_addAtEnd htr hn (addE_B (scS_B hB hm (cho_lt _ _ _)) (fun i => by rw [scS_o (by decide)]; exact hS i)) hf (Nat.lt_trans (hB 0 0 0) (by decide)) (Nat.le_refl _)) rfl rfl (Nat.le_of_ble_eq_true rfl) d_CS_makeChunk_95 (fun v E' hp => ?_) (fun X E' hp => ?_)
              · obtain ⟨rfl, hv⟩ := hp
                cases hv
                refine x_iload_n C d_CS_makeChunk_98 rfl rfl ?_
                exact x_iret C hret d_CS_makeChunk_99 ⟨by rw [show mkC σ f = 0 by rw [mkC, if_neg (by omega), if_neg h40], if_pos rfl, show i = 5 by omega, mkS, addE_o (by decide), scS_o (by decide), if_pos (by omega)], by rw [show mkC σ f = 0 by rw [mkC, if_neg (by omega), if_neg h40], if_pos rfl]⟩
              · cases hp.2
            · refine x_iload_n C d_CS_makeChunk_67 rfl rfl ?_
              refine x_iload C d_CS_makeChunk_68 rfl ?_
              refine c_CS_CS_isIn C (by omega) (m_CS_isIn htr (cho_lt _ _ _) (by omega) (Nat.le_refl _)) rfl rfl (Nat.le_of_ble_eq_true rfl) d_CS_makeChunk_70 (fun v E' hp => ?_) (fun X E' hp => ?_)
              · obtain ⟨rfl, hv⟩ := hp
                cases hv
                refine xn_if_eq C (b01_lt _) 87 d_CS_makeChunk_73 (by decide) (fun h73 => ?_) (fun h73 => ?_)
                · rw [b01_0] at h73
                  refine x_lv [(0, .ref (g (0))), (1, .ref (g (2 + 2 * f))), (2, .int (nI (σ 0 0 0))), (3, .int (nI (cho σ (σ 0 0 0) 3))), (4, .int (nI i))] ⟨rfl, rfl, rfl, rfl, rfl, trivial⟩ ?_
                  refine xn_iinc C d_CS_makeChunk_87 4 rfl (by decide) rfl ?_
                  refine x_goto C 61 d_CS_makeChunk_90 (by decide) ?_
                  refine x_E (E' := EL a g (addE (scS σ (cho σ (σ 0 0 0) 3)) (cho σ (σ 0 0 0) 3) (σ 0 0 0) (i + 1)) w Y) (by rw [addE, if_neg (by simp [h73])]) ?_
                  exact x_lv [(0, .ref (g (0))), (1, .ref (g (2 + 2 * f))), (2, .int (nI (σ 0 0 0))), (3, .int (nI (cho σ (σ 0 0 0) 3))), (4, .int (nI (i + 1)))] ⟨rfl, rfl, rfl, rfl, rfl, trivial⟩ (ihi (by omega) trivial)
                · rw [b01_n0] at h73
                  refine x_aload_n C d_CS_makeChunk_76 rfl rfl ?_
                  refine g_CS_cs_servers C hn d_CS_makeChunk_77 ?_
                  refine x_iload C d_CS_makeChunk_80 rfl ?_
                  refine e_arrS C (by omega) hn d_CS_makeChunk_82 ?_
                  refine x_iload_n C d_CS_makeChunk_83 rfl rfl ?_
                  refine c_CS_SV_addEmpty C (by omega) (by omega) hn (m_SV_addEmpty htr hn (addE_B (scS_B hB hm (cho_lt _ _ _)) (fun i => by rw [scS_o (by decide)]; exact hS i)) (by omega) hm (Nat.le_refl _)) rfl rfl (Nat.le_of_ble_eq_true rfl) d_CS_makeChunk_84 (fun v E' hp => ?_) (fun X E' hp => ?_)
                  · obtain ⟨rfl, hv⟩ := hp
                    cases hv
                    refine x_lv [(0, .ref (g (0))), (1, .ref (g (2 + 2 * f))), (2, .int (nI (σ 0 0 0))), (3, .int (nI (cho σ (σ 0 0 0) 3))), (4, .int (nI i))] ⟨rfl, rfl, rfl, rfl, rfl, trivial⟩ ?_
                    refine xn_iinc C d_CS_makeChunk_87 4 rfl (by decide) rfl ?_
                    refine x_goto C 61 d_CS_makeChunk_90 (by decide) ?_
                    refine x_E (E' := EL a g (addE (scS σ (cho σ (σ 0 0 0) 3)) (cho σ (σ 0 0 0) 3) (σ 0 0 0) (i + 1)) w Y) (by rw [addE, if_pos h73]) ?_
                    exact x_lv [(0, .ref (g (0))), (1, .ref (g (2 + 2 * f))), (2, .int (nI (σ 0 0 0))), (3, .int (nI (cho σ (σ 0 0 0) 3))), (4, .int (nI (i + 1)))] ⟨rfl, rfl, rfl, rfl, rfl, trivial⟩ (ihi (by omega) trivial)
                  · cases hp.2
              · cases hp.2
          · cases hp.2
        · exact th_IS C hne (Nat.le_of_ble_eq_true rfl) d_CS_makeChunk_43 d_CS_makeChunk_46 d_CS_makeChunk_47 d_CS_makeChunk_49 d_CS_makeChunk_52 (tx := "no server can be chosen") (by decide) ⟨by rw [show mkC σ f = 2 by rw [mkC, if_neg (by omega), if_pos h40], if_neg (by decide)], by rw [show mkC σ f = 2 by rw [mkC, if_neg (by omega), if_pos h40]]; rfl⟩
      · cases hp.2
    · exact th_IO C hne (Nat.le_of_ble_eq_true rfl) d_CS_makeChunk_17 d_CS_makeChunk_20 d_CS_makeChunk_21 d_CS_makeChunk_23 d_CS_makeChunk_26 (tx := "no chunk can be made for the row") (by decide) ⟨by rw [show mkC σ f = 1 by rw [mkC, if_pos (by omega)], if_neg (by decide)], by rw [show mkC σ f = 1 by rw [mkC, if_pos (by omega)]]; rfl⟩
theorem m_CS_splitOff {l : Launch} (htr : xTr l) {D : va_G} {a : Nat → ClassId} {base : Nat} {g : Nat → Nat} {n : Nat} {σ : Nat → Nat → Nat → Nat} {w : Nat → Nat → Int32} {Y : Nat → va_E} (hn : 143 ≤ n) (hB : ∀ t i j, σ t i j < 2 ^ 30) (hH : ∀ c, σ 8 c 0 < 32) (hS : ∀ i, σ 11 i 0 < 2 ^ 29) {f q h : Nat} (hf : f < 8) (hq : q < 3) (hh : h < 32) (hc : σ 4 f q < σ 0 0 0) (hg : 1 ≤ σ 7 (σ 4 f q) 0) (hb : σ 0 0 0 ≤ 30) {k : Nat} (hk : 2 ≤ k) : xM l y_CS_splitOff b_CS_splitOff 7 (some FieldType.int) k D a base g n (EL a g σ w Y) [.ref (g 0), .ref (g (2 + 2 * f)), .int (nI q), .int (nI h)] (fun r E' => E' = EL a g (if spC σ h = 0 then spS σ f q h else σ) (if spC σ h = 0 then spW w h (σ 0 0 0) (σ 4 f q) 5 else w) Y ∧ r = if spC σ h = 0 then .inl (some (.int (nI (σ 0 0 0)))) else .inr (xcW (spC σ h))) := by
  refine x_method (by decide) htr (Nat.le_of_ble_eq_true rfl) ?_
  intro p e s m args below meth c C hne hret hnm
  have C : xC p l e s m meth c b_CS_splitOff 7 "ChunkStore" args D xcl (xty a) base := C
  refine x_aload_n C d_CS_splitOff_0 rfl rfl ?_
  refine g_CS_cs_made C hn d_CS_splitOff_1 ?_
  refine x_bipush C (v := nI 30) d_CS_splitOff_4 (by decide) ?_
  refine xn_icmp_lt C (Nat.lt_trans (hB 0 0 0) (by decide)) (by decide) 20 d_CS_splitOff_6 (by decide) (fun h6 => ?_) (fun h6 => ?_)
  · have hm : σ 0 0 0 < 30 := by omega
    refine x_aload_n C d_CS_splitOff_20 rfl rfl ?_
    refine x_iload_n C d_CS_splitOff_21 rfl rfl ?_
    refine c_CS_CS_anyFull C (by omega) hn (m_CS_anyFull htr hn hB hh (Nat.le_refl _)) rfl rfl (Nat.le_of_ble_eq_true rfl) d_CS_splitOff_22 (fun v E' hp => ?_) (fun X E' hp => ?_)
    · obtain ⟨rfl, hv⟩ := hp
      cases hv
      refine xn_if_eq C (b01_lt _) 39 d_CS_splitOff_25 (by decide) (fun h25 => ?_) (fun h25 => ?_)
      · rw [b01_0] at h25
        refine x_aload_n C d_CS_splitOff_39 rfl rfl ?_
        refine g_CS_file_row C hf hn d_CS_splitOff_40 ?_
        refine x_iload_n C d_CS_splitOff_43 rfl rfl ?_
        refine e_row C hf hq hn d_CS_splitOff_44 ?_
        refine x_istore C d_CS_splitOff_45 (by decide) rfl ?_
        refine x_aload_n C d_CS_splitOff_47 rfl rfl ?_
        refine g_CS_cs_made C hn d_CS_splitOff_48 ?_
        refine x_istore C d_CS_splitOff_51 (by decide) rfl ?_
        refine x_aload_n C d_CS_splitOff_53 rfl rfl ?_
        refine x_iload_n C d_CS_splitOff_54 rfl rfl ?_
        refine c_CS_CS_startChunk C (by omega) hn (m_CS_startChunk htr hn hB hm (Nat.le_refl _)) rfl rfl (Nat.le_of_ble_eq_true rfl) d_CS_splitOff_55 (fun v E' hp => ?_) (fun X E' hp => ?_)
        · obtain ⟨rfl, hv⟩ := hp
          cases hv
          refine x_iconst C (v := nI 0) d_CS_splitOff_58 (by decide) ?_
          refine x_istore C d_CS_splitOff_59 (by decide) rfl ?_
          refine x_loop 5 (fun i => EL a g (spL (scS σ h) h (σ 0 0 0) (σ 4 f q) i) (spW w h (σ 0 0 0) (σ 4 f q) i) Y) (fun i => [(0, .ref (g (0))), (1, .ref (g (2 + 2 * f))), (2, .int (nI q)), (3, .int (nI h)), (4, .int (nI (σ 4 f q))), (5, .int (nI (σ 0 0 0))), (6, .int (nI i))]) (fun i => True) rfl ⟨rfl, rfl, rfl, rfl, rfl, rfl, rfl, trivial⟩ trivial ?_
          intro i hi hIi ihi
          refine x_iload C d_CS_splitOff_61 rfl ?_
          refine x_iconst C (v := nI 5) d_CS_splitOff_63 (by decide) ?_
          refine xn_icmp_ge C (by omega) (by decide) 104 d_CS_splitOff_64 (by decide) (fun h64 => ?_) (fun h64 => ?_)
          · refine x_aload_n C d_CS_splitOff_104 rfl rfl ?_
            refine g_CS_cs_chunks C hn d_CS_splitOff_105 ?_
            refine x_iload C d_CS_splitOff_108 rfl ?_
            refine e_arrC C (by omega) hn d_CS_splitOff_110 ?_
            refine x_dup C d_CS_splitOff_111 rfl ?_
            refine g_CS_chunk_refs C (by omega) hn d_CS_splitOff_112 ?_
            refine x_iconst C (v := nI 1) d_CS_splitOff_115 (by decide) ?_
            refine xn_isub C (by rw [spL_o _ (by decide), scS_7 (show ¬ σ 4 f q = σ 0 0 0 by omega)]; exact hg) d_CS_splitOff_116 ?_
            refine p_CS_chunk_refs C (by omega) hn d_CS_splitOff_117 ?_
            refine x_aload_n C d_CS_splitOff_120 rfl rfl ?_
            refine g_CS_file_row C hf hn d_CS_splitOff_121 ?_
            refine x_iload_n C d_CS_splitOff_124 rfl rfl ?_
            refine x_iload C d_CS_splitOff_125 rfl ?_
            refine a_row C hf hq hn d_CS_splitOff_127 ?_
            refine x_iload C d_CS_splitOff_128 rfl ?_
            exact x_iret C hret d_CS_splitOff_130 ⟨by rw [show spC σ h = 0 by rw [spC, if_neg (by omega), if_neg (by simp [h25])], if_pos rfl, if_pos rfl, show i = 5 by omega, spS, spL_o _ (by decide), scS_7 (show ¬ σ 4 f q = σ 0 0 0 by omega)], by rw [show spC σ h = 0 by rw [spC, if_neg (by omega), if_neg (by simp [h25])], if_pos rfl]⟩
          · refine x_iload_n C d_CS_splitOff_67 rfl rfl ?_
            refine x_iload C d_CS_splitOff_68 rfl ?_
            refine c_CS_CS_isIn C (by omega) (m_CS_isIn htr hh (by omega) (Nat.le_refl _)) rfl rfl (Nat.le_of_ble_eq_true rfl) d_CS_splitOff_70 (fun v E' hp => ?_) (fun X E' hp => ?_)
            · obtain ⟨rfl, hv⟩ := hp
              cases hv
              refine xn_if_eq C (b01_lt _) 98 d_CS_splitOff_73 (by decide) (fun h73 => ?_) (fun h73 => ?_)
              · rw [b01_0] at h73
                refine x_lv [(0, .ref (g (0))), (1, .ref (g (2 + 2 * f))), (2, .int (nI q)), (3, .int (nI h)), (4, .int (nI (σ 4 f q))), (5, .int (nI (σ 0 0 0))), (6, .int (nI i))] ⟨rfl, rfl, rfl, rfl, rfl, rfl, rfl, trivial⟩ ?_
                refine xn_iinc C d_CS_splitOff_98 6 rfl (by decide) rfl ?_
                refine x_goto C 61 d_CS_splitOff_101 (by decide) ?_
                refine x_E (E' := EL a g (spL (scS σ h) h (σ 0 0 0) (σ 4 f q) (i + 1)) (spW w h (σ 0 0 0) (σ 4 f q) (i + 1)) Y) (by rw [spL, spW, if_neg (by simp [h73]), if_neg (by simp [h73])]) ?_
                exact x_lv [(0, .ref (g (0))), (1, .ref (g (2 + 2 * f))), (2, .int (nI q)), (3, .int (nI h)), (4, .int (nI (σ 4 f q))), (5, .int (nI (σ 0 0 0))), (6, .int (nI (i + 1)))] ⟨rfl, rfl, rfl, rfl, rfl, rfl, rfl, trivial⟩ (ihi (by omega) trivial)
              · rw [b01_n0] at h73
                refine x_aload_n C d_CS_splitOff_76 rfl rfl ?_
                refine g_CS_cs_servers C hn d_CS_splitOff_77 ?_
                refine x_iload C d_CS_splitOff_80 rfl ?_
                refine e_arrS C (by omega) hn d_CS_splitOff_82 ?_
                refine x_iload C d_CS_splitOff_83 rfl ?_
                refine x_aload_n C d_CS_splitOff_85 rfl rfl ?_
                refine g_CS_cs_servers C hn d_CS_splitOff_86 ?_
                refine x_iload C d_CS_splitOff_89 rfl ?_
                refine e_arrS C (by omega) hn d_CS_splitOff_91 ?_
                refine x_iload C d_CS_splitOff_92 rfl ?_
                refine x_iconst C (v := nI 1) d_CS_splitOff_94 (by decide) ?_
                refine c_CS_SV_addLike C (by omega) (by omega) hn (m_SV_addLike htr hn (spL_B i (by omega) (scS_B hB hm hh) (fun i => by rw [scS_o (by decide)]; exact hS i)) (by omega) hm (by omega) (by omega) (by decide) (Nat.le_refl _)) rfl rfl (Nat.le_of_ble_eq_true rfl) d_CS_splitOff_95 (fun v E' hp => ?_) (fun X E' hp => ?_)
                · obtain ⟨rfl, hv⟩ := hp
                  cases hv
                  refine x_lv [(0, .ref (g (0))), (1, .ref (g (2 + 2 * f))), (2, .int (nI q)), (3, .int (nI h)), (4, .int (nI (σ 4 f q))), (5, .int (nI (σ 0 0 0))), (6, .int (nI i))] ⟨rfl, rfl, rfl, rfl, rfl, rfl, rfl, trivial⟩ ?_
                  refine xn_iinc C d_CS_splitOff_98 6 rfl (by decide) rfl ?_
                  refine x_goto C 61 d_CS_splitOff_101 (by decide) ?_
                  refine x_E (E' := EL a g (spL (scS σ h) h (σ 0 0 0) (σ 4 f q) (i + 1)) (spW w h (σ 0 0 0) (σ 4 f q) (i + 1)) Y) (by rw [spL, spW, if_pos h73, if_pos h73]) ?_
                  exact x_lv [(0, .ref (g (0))), (1, .ref (g (2 + 2 * f))), (2, .int (nI q)), (3, .int (nI h)), (4, .int (nI (σ 4 f q))), (5, .int (nI (σ 0 0 0))), (6, .int (nI (i + 1)))] ⟨rfl, rfl, rfl, rfl, rfl, rfl, rfl, trivial⟩ (ihi (by omega) trivial)
                · cases hp.2
            · cases hp.2
        · cases hp.2
      · rw [b01_n0] at h25
        exact th_UOw C hne (Nat.le_of_ble_eq_true rfl) d_CS_splitOff_28 d_CS_splitOff_31 d_CS_splitOff_32 d_CS_splitOff_35 d_CS_splitOff_38 (tx := "a holder has no room for its copy") (by decide) ⟨by rw [show spC σ h = 4 by rw [spC, if_neg (by omega), if_pos h25], if_neg (by decide), if_neg (by decide)], by rw [show spC σ h = 4 by rw [spC, if_neg (by omega), if_pos h25]]; rfl⟩
    · cases hp.2
  · exact th_IOw C hne (Nat.le_of_ble_eq_true rfl) d_CS_splitOff_9 d_CS_splitOff_12 d_CS_splitOff_13 d_CS_splitOff_16 d_CS_splitOff_19 (tx := "no more chunks can be made") (by decide) ⟨by rw [show spC σ h = 5 by rw [spC, if_pos h6], if_neg (by decide), if_neg (by decide)], by rw [show spC σ h = 5 by rw [spC, if_pos h6]]; rfl⟩
theorem spS_1 {σ : xSig} {f q h : Nat} : spS σ f q h 1 0 0 = σ 1 0 0 := by unfold spS; rw [up3_n (by decide), up3_n (by decide), spL_o _ (by decide), scS_o (by decide)]
theorem spS_B {σ : xSig} {f q h : Nat} (hB : ∀ t i j, σ t i j < 2 ^ 30) (hS : ∀ i, σ 11 i 0 < 2 ^ 29) (hm : σ 0 0 0 < 30) (hh : h < 32) (hc : ¬ σ 0 0 0 = σ 4 f q) : ∀ t i j, spS σ f q h t i j < 2 ^ 30 := up3_B (up3_B (spL_B 5 hc (scS_B hB hm hh) (fun i => by rw [scS_o (by decide)]; exact hS i)) (by have := hB 7 (σ 4 f q) 0; omega)) (hB 0 0 0)
theorem rvS_1 {σ : xSig} {c h t i j : Nat} (ht : ¬ t = 12 ∧ ¬ t = 6 ∧ ¬ t = 8) : rvS σ c h t i j = σ t i j := by unfold rvS; rw [rvL_at, if_neg (fun q => ht.1 q.2.2.1), up3_n ht.2.2, up3_n ht.2.1]
theorem rvS_B {σ : xSig} {c h : Nat} (hB : ∀ t i j, σ t i j < 2 ^ 30) (hv : σ 6 c 0 < 2 ^ 29) (hh : h < 32) : ∀ t i j, rvS σ c h t i j < 2 ^ 30 := rvL_B (up3_B (up3_B hB (by omega)) (by omega)) (by omega)
theorem m_CS_lease {l : Launch} (htr : xTr l) {D : va_G} {a : Nat → ClassId} {base : Nat} {g : Nat → Nat} {n : Nat} {σ : Nat → Nat → Nat → Nat} {w : Nat → Nat → Int32} {Y : Nat → va_E} (hn : 143 ≤ n) (hB : ∀ t i j, σ t i j < 2 ^ 30) (hH : ∀ c, σ 8 c 0 < 32) (hS : ∀ i, σ 11 i 0 < 2 ^ 29) {f q : Nat} (hf : f < 8) (hq : q < 3) (hc : σ 4 f q < σ 0 0 0) (hb : σ 0 0 0 ≤ 30) (hv : σ 6 (σ 4 f q) 0 < 2 ^ 29) {k : Nat} (hk : 3 ≤ k) : xM l y_CS_lease b_CS_lease 5 (some FieldType.int) k D a base g n (EL a g σ w Y) [.ref (g 0), .ref (g (2 + 2 * f)), .int (nI q)] (fun r E' => E' = EL a g (if lsC σ (σ 4 f q) = 0 then lsS σ f q else σ) (if lsC σ (σ 4 f q) = 0 then lsW σ w (σ 4 f q) else w) Y ∧ r = if lsC σ (σ 4 f q) = 0 then .inl (some (.int (nI (lsN σ (σ 4 f q))))) else .inr (xcW (lsC σ (σ 4 f q)))) := by
  refine x_method (by decide) htr (Nat.le_of_ble_eq_true rfl) ?_
  intro p e s m args below meth c C hne hret hnm
  have C : xC p l e s m meth c b_CS_lease 5 "ChunkStore" args D xcl (xty a) base := C
  refine x_aload_n C d_CS_lease_0 rfl rfl ?_
  refine g_CS_file_row C hf hn d_CS_lease_1 ?_
  refine x_iload_n C d_CS_lease_4 rfl rfl ?_
  refine e_row C hf hq hn d_CS_lease_5 ?_
  refine x_istore_n C d_CS_lease_6 rfl (by decide) rfl ?_
  refine x_aload_n C d_CS_lease_7 rfl rfl ?_
  refine x_iload_n C d_CS_lease_8 rfl rfl ?_
  refine c_CS_CS_liveHolders C (by omega) hn (m_CS_liveHolders htr hn hB hH (show σ 4 f q < 30 by omega) (Nat.le_refl _)) rfl rfl (Nat.le_of_ble_eq_true rfl) d_CS_lease_9 (fun v E' hp => ?_) (fun X E' hp => ?_)
  · obtain ⟨rfl, hv⟩ := hp
    cases hv
    refine x_istore C d_CS_lease_12 (by decide) rfl ?_
    refine x_aload_n C d_CS_lease_14 rfl rfl ?_
    refine x_aload_n C d_CS_lease_15 rfl rfl ?_
    refine g_CS_cs_chunks C hn d_CS_lease_16 ?_
    refine x_iload_n C d_CS_lease_19 rfl rfl ?_
    refine e_arrC C (show σ 4 f q < 30 by omega) hn d_CS_lease_20 ?_
    refine c_CS_CS_isLeased C (by omega) hn (m_CS_isLeased htr hn hB (show σ 4 f q < 30 by omega) (Nat.le_refl _)) rfl rfl (Nat.le_of_ble_eq_true rfl) d_CS_lease_21 (fun v E' hp => ?_) (fun X E' hp => ?_)
    · obtain ⟨rfl, hv⟩ := hp
      cases hv
      refine xn_if_eq C (b01_lt _) 43 d_CS_lease_24 (by decide) (fun h24 => ?_) (fun h24 => ?_)
      · rw [b01_0] at h24
        have h24 := of_decide_eq_false h24
        refine x_iload C d_CS_lease_43 rfl ?_
        refine xn_if_ne C (Nat.lt_trans (lvh_lt _ _) (by decide)) 58 d_CS_lease_45 (by decide) (fun h45 => ?_) (fun h45 => ?_)
        · refine x_aload_n C d_CS_lease_58 rfl rfl ?_
          refine g_CS_cs_chunks C hn d_CS_lease_59 ?_
          refine x_iload_n C d_CS_lease_62 rfl rfl ?_
          refine e_arrC C (show σ 4 f q < 30 by omega) hn d_CS_lease_63 ?_
          refine g_CS_chunk_refs C (show σ 4 f q < 30 by omega) hn d_CS_lease_64 ?_
          refine x_iconst C (v := nI 2) d_CS_lease_67 (by decide) ?_
          refine xn_icmp_lt C (Nat.lt_trans (hB 7 (σ 4 f q) 0) (by decide)) (by decide) 83 d_CS_lease_68 (by decide) (fun h68 => ?_) (fun h68 => ?_)
          · refine x_aload_n C d_CS_lease_83 rfl rfl ?_
            refine x_iload_n C d_CS_lease_84 rfl rfl ?_
            refine x_iload C d_CS_lease_85 rfl ?_
            refine c_CS_CS_raiseVersion C (by omega) hn (m_CS_raiseVersion htr hn hB (show σ 4 f q < 30 by omega) (lvh_lt _ _) (Nat.le_refl _)) rfl rfl (Nat.le_of_ble_eq_true rfl) d_CS_lease_87 (fun v E' hp => ?_) (fun X E' hp => ?_)
            · obtain ⟨rfl, hv⟩ := hp
              cases hv
              rw [← rvS]
              refine x_aload_n C d_CS_lease_90 rfl rfl ?_
              refine g_CS_cs_chunks C hn d_CS_lease_91 ?_
              refine x_iload_n C d_CS_lease_94 rfl rfl ?_
              refine e_arrC C (show σ 4 f q < 30 by omega) hn d_CS_lease_95 ?_
              refine x_aload_n C d_CS_lease_96 rfl rfl ?_
              refine g_CS_cs_time C hn d_CS_lease_97 ?_
              refine x_ldc2d C kw424 d_CS_lease_100 ?_
              refine x_topd (show _ = dT 80 from dT_80i.symm) ?_
              refine xn_dadd C (by (first | rw [spS_1] | rw [rvS_1 (by decide)]); have := hB 1 0 0; omega) d_CS_lease_103 ?_
              refine p_CS_chunk_leaseEnd C (show σ 4 f q < 30 by omega) hn d_CS_lease_104 ?_
              refine x_iload_n C d_CS_lease_107 rfl rfl ?_
              exact x_iret C hret d_CS_lease_108 ⟨by rw [show lsC σ (σ 4 f q) = 0 by rw [lsC, if_neg (show ¬ lsK σ (σ 4 f q) = true by simp only [lsK, decide_eq_true_eq]; exact fun q => h24 q.1), if_neg h45, if_neg (by omega)], if_pos rfl, if_pos rfl, lsS, if_neg (show ¬ lsK σ (σ 4 f q) = true by simp only [lsK, decide_eq_true_eq]; exact fun q => h24 q.1), if_neg (show ¬ 2 ≤ σ 7 (σ 4 f q) 0 by omega), lsW, if_neg (show ¬ lsK σ (σ 4 f q) = true by simp only [lsK, decide_eq_true_eq]; exact fun q => h24 q.1), if_neg (show ¬ 2 ≤ σ 7 (σ 4 f q) 0 by omega), rvS_1 (show ¬ 1 = 12 ∧ ¬ 1 = 6 ∧ ¬ 1 = 8 by decide)], by rw [show lsC σ (σ 4 f q) = 0 by rw [lsC, if_neg (show ¬ lsK σ (σ 4 f q) = true by simp only [lsK, decide_eq_true_eq]; exact fun q => h24 q.1), if_neg h45, if_neg (by omega)], if_pos rfl, lsN, if_neg (show ¬ lsK σ (σ 4 f q) = true by simp only [lsK, decide_eq_true_eq]; exact fun q => h24 q.1), if_neg (show ¬ 2 ≤ σ 7 (σ 4 f q) 0 by omega)]⟩
            · cases hp.2
          · refine x_aload_n C d_CS_lease_71 rfl rfl ?_
            refine x_aload_n C d_CS_lease_72 rfl rfl ?_
            refine x_iload_n C d_CS_lease_73 rfl rfl ?_
            refine x_iload C d_CS_lease_74 rfl ?_
            refine c_CS_CS_splitOff C (by omega) hn (m_CS_splitOff htr hn hB hH hS hf hq (lvh_lt _ _) hc (by omega) hb (Nat.le_refl _)) rfl rfl (Nat.le_of_ble_eq_true rfl) d_CS_lease_76 (fun v E' hp => ?_) (fun X E' hp => ?_)
            · obtain ⟨rfl, hv⟩ := hp
              obtain ⟨h76, rfl⟩ := rif_l hv
              rw [if_pos h76, if_pos h76]
              refine x_istore_n C d_CS_lease_79 rfl (by decide) rfl ?_
              refine x_goto C 90 d_CS_lease_80 (by decide) ?_
              refine x_aload_n C d_CS_lease_90 rfl rfl ?_
              refine g_CS_cs_chunks C hn d_CS_lease_91 ?_
              refine x_iload_n C d_CS_lease_94 rfl rfl ?_
              refine e_arrC C (show σ 0 0 0 < 30 by unfold spC at h76; split at h76 <;> omega) hn d_CS_lease_95 ?_
              refine x_aload_n C d_CS_lease_96 rfl rfl ?_
              refine g_CS_cs_time C hn d_CS_lease_97 ?_
              refine x_ldc2d C kw424 d_CS_lease_100 ?_
              refine x_topd (show _ = dT 80 from dT_80i.symm) ?_
              refine xn_dadd C (by (first | rw [spS_1] | rw [rvS_1 (by decide)]); have := hB 1 0 0; omega) d_CS_lease_103 ?_
              refine p_CS_chunk_leaseEnd C (show σ 0 0 0 < 30 by unfold spC at h76; split at h76 <;> omega) hn d_CS_lease_104 ?_
              refine x_iload_n C d_CS_lease_107 rfl rfl ?_
              exact x_iret C hret d_CS_lease_108 ⟨by rw [show lsC σ (σ 4 f q) = 0 by rw [lsC, if_neg (show ¬ lsK σ (σ 4 f q) = true by simp only [lsK, decide_eq_true_eq]; exact fun q => h24 q.1), if_neg h45, if_pos h68, h76], if_pos rfl, if_pos rfl, lsS, if_neg (show ¬ lsK σ (σ 4 f q) = true by simp only [lsK, decide_eq_true_eq]; exact fun q => h24 q.1), if_pos h68, lsW, if_neg (show ¬ lsK σ (σ 4 f q) = true by simp only [lsK, decide_eq_true_eq]; exact fun q => h24 q.1), if_pos h68, spS_1], by rw [show lsC σ (σ 4 f q) = 0 by rw [lsC, if_neg (show ¬ lsK σ (σ 4 f q) = true by simp only [lsK, decide_eq_true_eq]; exact fun q => h24 q.1), if_neg h45, if_pos h68, h76], if_pos rfl, lsN, if_neg (show ¬ lsK σ (σ 4 f q) = true by simp only [lsK, decide_eq_true_eq]; exact fun q => h24 q.1), if_pos h68]⟩
            · obtain ⟨rfl, hv⟩ := hp
              obtain ⟨h76, rfl⟩ := rif_r hv
              rw [if_neg h76, if_neg h76]
              exact x_prop C hne (Nat.le_refl _) (Nat.le_refl _) ⟨by rw [show lsC σ (σ 4 f q) = spC σ (lvh σ (σ 4 f q)) by rw [lsC, if_neg (show ¬ lsK σ (σ 4 f q) = true by simp only [lsK, decide_eq_true_eq]; exact fun q => h24 q.1), if_neg h45, if_pos h68], if_neg h76, if_neg h76], by rw [show lsC σ (σ 4 f q) = spC σ (lvh σ (σ 4 f q)) by rw [lsC, if_neg (show ¬ lsK σ (σ 4 f q) = true by simp only [lsK, decide_eq_true_eq]; exact fun q => h24 q.1), if_neg h45, if_pos h68], if_neg h76]⟩
        · exact th_IS C hne (Nat.le_of_ble_eq_true rfl) d_CS_lease_48 d_CS_lease_51 d_CS_lease_52 d_CS_lease_54 d_CS_lease_57 (tx := "no holder is up") (by decide) ⟨by rw [show lsC σ (σ 4 f q) = 3 by rw [lsC, if_neg (show ¬ lsK σ (σ 4 f q) = true by simp only [lsK, decide_eq_true_eq]; exact fun q => h24 q.1), if_pos h45], if_neg (by decide), if_neg (by decide)], by rw [show lsC σ (σ 4 f q) = 3 by rw [lsC, if_neg (show ¬ lsK σ (σ 4 f q) = true by simp only [lsK, decide_eq_true_eq]; exact fun q => h24 q.1), if_pos h45]]; rfl⟩
      · rw [b01_n0] at h24
        have h24 := of_decide_eq_true h24
        refine x_iload C d_CS_lease_27 rfl ?_
        refine x_aload_n C d_CS_lease_29 rfl rfl ?_
        refine g_CS_cs_chunks C hn d_CS_lease_30 ?_
        refine x_iload_n C d_CS_lease_33 rfl rfl ?_
        refine e_arrC C (show σ 4 f q < 30 by omega) hn d_CS_lease_34 ?_
        refine g_CS_chunk_holders C (show σ 4 f q < 30 by omega) hn d_CS_lease_35 ?_
        refine xn_icmp_ne C (Nat.lt_trans (lvh_lt _ _) (by decide)) (Nat.lt_trans (hB 8 (σ 4 f q) 0) (by decide)) 43 d_CS_lease_38 (by decide) (fun h38 => ?_) (fun h38 => ?_)
        · refine x_iload C d_CS_lease_43 rfl ?_
          refine xn_if_ne C (Nat.lt_trans (lvh_lt _ _) (by decide)) 58 d_CS_lease_45 (by decide) (fun h45 => ?_) (fun h45 => ?_)
          · refine x_aload_n C d_CS_lease_58 rfl rfl ?_
            refine g_CS_cs_chunks C hn d_CS_lease_59 ?_
            refine x_iload_n C d_CS_lease_62 rfl rfl ?_
            refine e_arrC C (show σ 4 f q < 30 by omega) hn d_CS_lease_63 ?_
            refine g_CS_chunk_refs C (show σ 4 f q < 30 by omega) hn d_CS_lease_64 ?_
            refine x_iconst C (v := nI 2) d_CS_lease_67 (by decide) ?_
            refine xn_icmp_lt C (Nat.lt_trans (hB 7 (σ 4 f q) 0) (by decide)) (by decide) 83 d_CS_lease_68 (by decide) (fun h68 => ?_) (fun h68 => ?_)
            · refine x_aload_n C d_CS_lease_83 rfl rfl ?_
              refine x_iload_n C d_CS_lease_84 rfl rfl ?_
              refine x_iload C d_CS_lease_85 rfl ?_
              refine c_CS_CS_raiseVersion C (by omega) hn (m_CS_raiseVersion htr hn hB (show σ 4 f q < 30 by omega) (lvh_lt _ _) (Nat.le_refl _)) rfl rfl (Nat.le_of_ble_eq_true rfl) d_CS_lease_87 (fun v E' hp => ?_) (fun X E' hp => ?_)
              · obtain ⟨rfl, hv⟩ := hp
                cases hv
                rw [← rvS]
                refine x_aload_n C d_CS_lease_90 rfl rfl ?_
                refine g_CS_cs_chunks C hn d_CS_lease_91 ?_
                refine x_iload_n C d_CS_lease_94 rfl rfl ?_
                refine e_arrC C (show σ 4 f q < 30 by omega) hn d_CS_lease_95 ?_
                refine x_aload_n C d_CS_lease_96 rfl rfl ?_
                refine g_CS_cs_time C hn d_CS_lease_97 ?_
                refine x_ldc2d C kw424 d_CS_lease_100 ?_
                refine x_topd (show _ = dT 80 from dT_80i.symm) ?_
                refine xn_dadd C (by (first | rw [spS_1] | rw [rvS_1 (by decide)]); have := hB 1 0 0; omega) d_CS_lease_103 ?_
                refine p_CS_chunk_leaseEnd C (show σ 4 f q < 30 by omega) hn d_CS_lease_104 ?_
                refine x_iload_n C d_CS_lease_107 rfl rfl ?_
                exact x_iret C hret d_CS_lease_108 ⟨by rw [show lsC σ (σ 4 f q) = 0 by rw [lsC, if_neg (show ¬ lsK σ (σ 4 f q) = true by simp only [lsK, decide_eq_true_eq]; exact fun q => h38 q.2), if_neg h45, if_neg (by omega)], if_pos rfl, if_pos rfl, lsS, if_neg (show ¬ lsK σ (σ 4 f q) = true by simp only [lsK, decide_eq_true_eq]; exact fun q => h38 q.2), if_neg (show ¬ 2 ≤ σ 7 (σ 4 f q) 0 by omega), lsW, if_neg (show ¬ lsK σ (σ 4 f q) = true by simp only [lsK, decide_eq_true_eq]; exact fun q => h38 q.2), if_neg (show ¬ 2 ≤ σ 7 (σ 4 f q) 0 by omega), rvS_1 (show ¬ 1 = 12 ∧ ¬ 1 = 6 ∧ ¬ 1 = 8 by decide)], by rw [show lsC σ (σ 4 f q) = 0 by rw [lsC, if_neg (show ¬ lsK σ (σ 4 f q) = true by simp only [lsK, decide_eq_true_eq]; exact fun q => h38 q.2), if_neg h45, if_neg (by omega)], if_pos rfl, lsN, if_neg (show ¬ lsK σ (σ 4 f q) = true by simp only [lsK, decide_eq_true_eq]; exact fun q => h38 q.2), if_neg (show ¬ 2 ≤ σ 7 (σ 4 f q) 0 by omega)]⟩
              · cases hp.2
            · refine x_aload_n C d_CS_lease_71 rfl rfl ?_
              refine x_aload_n C d_CS_lease_72 rfl rfl ?_
              refine x_iload_n C d_CS_lease_73 rfl rfl ?_
              refine x_iload C d_CS_lease_74 rfl ?_
              refine c_CS_CS_splitOff C (by omega) hn (m_CS_splitOff htr hn hB hH hS hf hq (lvh_lt _ _) hc (by omega) hb (Nat.le_refl _)) rfl rfl (Nat.le_of_ble_eq_true rfl) d_CS_lease_76 (fun v E' hp => ?_) (fun X E' hp => ?_)
              · obtain ⟨rfl, hv⟩ := hp
                obtain ⟨h76, rfl⟩ := rif_l hv
                rw [if_pos h76, if_pos h76]
                refine x_istore_n C d_CS_lease_79 rfl (by decide) rfl ?_
                refine x_goto C 90 d_CS_lease_80 (by decide) ?_
                refine x_aload_n C d_CS_lease_90 rfl rfl ?_
                refine g_CS_cs_chunks C hn d_CS_lease_91 ?_
                refine x_iload_n C d_CS_lease_94 rfl rfl ?_
                refine e_arrC C (show σ 0 0 0 < 30 by unfold spC at h76; split at h76 <;> omega) hn d_CS_lease_95 ?_
                refine x_aload_n C d_CS_lease_96 rfl rfl ?_
                refine g_CS_cs_time C hn d_CS_lease_97 ?_
                refine x_ldc2d C kw424 d_CS_lease_100 ?_
                refine x_topd (show _ = dT 80 from dT_80i.symm) ?_
                refine xn_dadd C (by (first | rw [spS_1] | rw [rvS_1 (by decide)]); have := hB 1 0 0; omega) d_CS_lease_103 ?_
                refine p_CS_chunk_leaseEnd C (show σ 0 0 0 < 30 by unfold spC at h76; split at h76 <;> omega) hn d_CS_lease_104 ?_
                refine x_iload_n C d_CS_lease_107 rfl rfl ?_
                exact x_iret C hret d_CS_lease_108 ⟨by rw [show lsC σ (σ 4 f q) = 0 by rw [lsC, if_neg (show ¬ lsK σ (σ 4 f q) = true by simp only [lsK, decide_eq_true_eq]; exact fun q => h38 q.2), if_neg h45, if_pos h68, h76], if_pos rfl, if_pos rfl, lsS, if_neg (show ¬ lsK σ (σ 4 f q) = true by simp only [lsK, decide_eq_true_eq]; exact fun q => h38 q.2), if_pos h68, lsW, if_neg (show ¬ lsK σ (σ 4 f q) = true by simp only [lsK, decide_eq_true_eq]; exact fun q => h38 q.2), if_pos h68, spS_1], by rw [show lsC σ (σ 4 f q) = 0 by rw [lsC, if_neg (show ¬ lsK σ (σ 4 f q) = true by simp only [lsK, decide_eq_true_eq]; exact fun q => h38 q.2), if_neg h45, if_pos h68, h76], if_pos rfl, lsN, if_neg (show ¬ lsK σ (σ 4 f q) = true by simp only [lsK, decide_eq_true_eq]; exact fun q => h38 q.2), if_pos h68]⟩
              · obtain ⟨rfl, hv⟩ := hp
                obtain ⟨h76, rfl⟩ := rif_r hv
                rw [if_neg h76, if_neg h76]
                exact x_prop C hne (Nat.le_refl _) (Nat.le_refl _) ⟨by rw [show lsC σ (σ 4 f q) = spC σ (lvh σ (σ 4 f q)) by rw [lsC, if_neg (show ¬ lsK σ (σ 4 f q) = true by simp only [lsK, decide_eq_true_eq]; exact fun q => h38 q.2), if_neg h45, if_pos h68], if_neg h76, if_neg h76], by rw [show lsC σ (σ 4 f q) = spC σ (lvh σ (σ 4 f q)) by rw [lsC, if_neg (show ¬ lsK σ (σ 4 f q) = true by simp only [lsK, decide_eq_true_eq]; exact fun q => h38 q.2), if_neg h45, if_pos h68], if_neg h76]⟩
          · exact th_IS C hne (Nat.le_of_ble_eq_true rfl) d_CS_lease_48 d_CS_lease_51 d_CS_lease_52 d_CS_lease_54 d_CS_lease_57 (tx := "no holder is up") (by decide) ⟨by rw [show lsC σ (σ 4 f q) = 3 by rw [lsC, if_neg (show ¬ lsK σ (σ 4 f q) = true by simp only [lsK, decide_eq_true_eq]; exact fun q => h38 q.2), if_pos h45], if_neg (by decide), if_neg (by decide)], by rw [show lsC σ (σ 4 f q) = 3 by rw [lsC, if_neg (show ¬ lsK σ (σ 4 f q) = true by simp only [lsK, decide_eq_true_eq]; exact fun q => h38 q.2), if_pos h45]]; rfl⟩
        · refine x_iload_n C d_CS_lease_41 rfl rfl ?_
          exact x_iret C hret d_CS_lease_42 ⟨by rw [show lsC σ (σ 4 f q) = 0 by rw [lsC, if_pos (show lsK σ (σ 4 f q) = true by simp only [lsK, decide_eq_true_eq]; exact ⟨h24, h38⟩)], if_pos rfl, if_pos rfl, lsS, if_pos (show lsK σ (σ 4 f q) = true by simp only [lsK, decide_eq_true_eq]; exact ⟨h24, h38⟩), lsW, if_pos (show lsK σ (σ 4 f q) = true by simp only [lsK, decide_eq_true_eq]; exact ⟨h24, h38⟩)], by rw [show lsC σ (σ 4 f q) = 0 by rw [lsC, if_pos (show lsK σ (σ 4 f q) = true by simp only [lsK, decide_eq_true_eq]; exact ⟨h24, h38⟩)], if_pos rfl, lsN, if_pos (show lsK σ (σ 4 f q) = true by simp only [lsK, decide_eq_true_eq]; exact ⟨h24, h38⟩)]⟩
    · cases hp.2
  · cases hp.2
end XM5
