section XM2
theorem all_succ {P : Nat → Prop} {i : Nat} (h : ∀ j, j < i → P j) (h2 : P i) : ∀ j, j < i + 1 → P j := by
  intro j hj
  by_cases q : j = i
  · rw [q]; exact h2
  · exact h j (by omega)
theorem m_CS_first {l : Launch} (htr : xTr l) {D : va_G} {a : Nat → ClassId} {base : Nat} {g : Nat → Nat} {n : Nat} {E : Nat → va_E} {h : Nat} (hh : h < 32) {k : Nat} (hk : 1 ≤ k) : xM l y_CS_first b_CS_first 2 (some FieldType.int) k D a base g n E [.int (nI h)] (fun r E' => E' = E ∧ r = .inl (some (.int (iv 5 (fst5 h))))) := by
  refine x_method (by decide) htr (Nat.le_of_ble_eq_true rfl) ?_
  intro p e s m args below meth c C hne hret hnm
  have C : xC p l e s m meth c b_CS_first 2 "ChunkStore" args D xcl (xty a) base := C
  refine x_iconst C (v := nI 0) d_CS_first_0 (by decide) ?_
  refine x_istore_n C d_CS_first_1 rfl (by decide) rfl ?_
  refine x_loop 5 (fun i => E) (fun i => [(0, .int (nI h)), (1, .int (nI i))]) (fun i => ∀ j, j < i → h.testBit j = false) rfl ⟨rfl, rfl, trivial⟩ (fun j hj => absurd hj (Nat.not_lt_zero j)) ?_
  intro i hi hIi ihi
  refine x_iload_n C d_CS_first_2 rfl rfl ?_
  refine x_iconst C (v := nI 5) d_CS_first_3 (by decide) ?_
  refine xn_icmp_ge C (by omega) (by decide) 23 d_CS_first_4 (by decide) (fun h4 => ?_) (fun h4 => ?_)
  · refine x_iconst C (v := -1) d_CS_first_23 (by decide) ?_
    exact x_iret C hret d_CS_first_24 ⟨rfl, by rw [fst5_no (fun j hj => hIi j (by omega))]; rfl⟩
  · refine x_iload_n C d_CS_first_7 rfl rfl ?_
    refine x_iload_n C d_CS_first_8 rfl rfl ?_
    refine c_CS_CS_isIn C (by omega) (m_CS_isIn htr hh (by omega) (Nat.le_refl _)) rfl rfl (Nat.le_of_ble_eq_true rfl) d_CS_first_9 (fun v E' hp => ?_) (fun X E' hp => ?_)
    · obtain ⟨rfl, hv⟩ := hp
      cases hv
      refine xn_if_eq C (b01_lt _) 17 d_CS_first_12 (by decide) (fun h12 => ?_) (fun h12 => ?_)
      · rw [b01_0] at h12
        refine x_lv [(0, .int (nI h)), (1, .int (nI i))] ⟨rfl, rfl, trivial⟩ ?_
        refine xn_iinc C d_CS_first_17 1 rfl (by decide) rfl ?_
        refine x_goto C 2 d_CS_first_20 (by decide) ?_
        exact x_lv [(0, .int (nI h)), (1, .int (nI (i + 1)))] ⟨rfl, rfl, trivial⟩ (ihi (by omega) (all_succ hIi h12))
      · rw [b01_n0] at h12
        refine x_iload_n C d_CS_first_15 rfl rfl ?_
        exact x_iret C hret d_CS_first_16 ⟨rfl, by rw [fst5_at (by omega) h12 hIi, iv_lt (by omega)]⟩
    · cases hp.2
theorem m_CS_liveHolders {l : Launch} (htr : xTr l) {D : va_G} {a : Nat → ClassId} {base : Nat} {g : Nat → Nat} {n : Nat} {σ : Nat → Nat → Nat → Nat} {w : Nat → Nat → Int32} {Y : Nat → va_E} (hn : 143 ≤ n) (hB : ∀ t i j, σ t i j < 2 ^ 30) (hH : ∀ c, σ 8 c 0 < 32) {q : Nat} (hq : q < 30) {k : Nat} (hk : 1 ≤ k) : xM l y_CS_liveHolders b_CS_liveHolders 4 (some FieldType.int) k D a base g n (EL a g σ w Y) [.ref (g 0), .int (nI q)] (fun r E' => E' = EL a g σ w Y ∧ r = .inl (some (.int (nI (lvh σ q))))) := by
  refine x_method (by decide) htr (Nat.le_of_ble_eq_true rfl) ?_
  intro p e s m args below meth c C hne hret hnm
  have C : xC p l e s m meth c b_CS_liveHolders 4 "ChunkStore" args D xcl (xty a) base := C
  refine x_iconst C (v := nI 0) d_CS_liveHolders_0 (by decide) ?_
  refine x_istore_n C d_CS_liveHolders_1 rfl (by decide) rfl ?_
  refine x_iconst C (v := nI 0) d_CS_liveHolders_2 (by decide) ?_
  refine x_istore_n C d_CS_liveHolders_3 rfl (by decide) rfl ?_
  refine x_loop 5 (fun i => EL a g σ w Y) (fun i => [(0, .ref (g (0))), (1, .int (nI q)), (2, .int (nI (liv (fun i => σ 10 i 0) (σ 8 q 0) i))), (3, .int (nI i))]) (fun i => True) rfl ⟨rfl, rfl, rfl, rfl, trivial⟩ trivial ?_
  intro i hi hIi ihi
  refine x_iload_n C d_CS_liveHolders_4 rfl rfl ?_
  refine x_iconst C (v := nI 5) d_CS_liveHolders_5 (by decide) ?_
  refine xn_icmp_ge C (by omega) (by decide) 49 d_CS_liveHolders_6 (by decide) (fun h6 => ?_) (fun h6 => ?_)
  · refine x_iload_n C d_CS_liveHolders_49 rfl rfl ?_
    exact x_iret C hret d_CS_liveHolders_50 ⟨rfl, by rw [show i = 5 by omega]; rfl⟩
  · refine x_aload_n C d_CS_liveHolders_9 rfl rfl ?_
    refine g_CS_cs_servers C hn d_CS_liveHolders_10 ?_
    refine x_iload_n C d_CS_liveHolders_13 rfl rfl ?_
    refine e_arrS C (by omega) hn d_CS_liveHolders_14 ?_
    refine g_CS_server_isUp C (by omega) hn d_CS_liveHolders_15 ?_
    refine xn_if_eq C (Nat.lt_trans (hB 10 i 0) (by decide)) 43 d_CS_liveHolders_18 (by decide) (fun h18 => ?_) (fun h18 => ?_)
    · refine x_lv [(0, .ref (g (0))), (1, .int (nI q)), (2, .int (nI (liv (fun i => σ 10 i 0) (σ 8 q 0) i))), (3, .int (nI i))] ⟨rfl, rfl, rfl, rfl, trivial⟩ ?_
      refine xn_iinc C d_CS_liveHolders_43 3 rfl (by decide) rfl ?_
      refine x_goto C 4 d_CS_liveHolders_46 (by decide) ?_
      exact x_lv [(0, .ref (g (0))), (1, .int (nI q)), (2, .int (nI (liv (fun i => σ 10 i 0) (σ 8 q 0) (i + 1)))), (3, .int (nI (i + 1)))] ⟨rfl, rfl, by rw [show liv (fun i => σ 10 i 0) (σ 8 q 0) (i + 1) = liv (fun i => σ 10 i 0) (σ 8 q 0) i from (by rw [liv]; simp [h6, h18])]; rfl, rfl, trivial⟩ (ihi (by omega) trivial)
    · refine x_aload_n C d_CS_liveHolders_21 rfl rfl ?_
      refine g_CS_cs_chunks C hn d_CS_liveHolders_22 ?_
      refine x_iload_n C d_CS_liveHolders_25 rfl rfl ?_
      refine e_arrC C hq hn d_CS_liveHolders_26 ?_
      refine g_CS_chunk_holders C hq hn d_CS_liveHolders_27 ?_
      refine x_iload_n C d_CS_liveHolders_30 rfl rfl ?_
      refine c_CS_CS_isIn C (by omega) (m_CS_isIn htr (hH q) (by omega) (Nat.le_refl _)) rfl rfl (Nat.le_of_ble_eq_true rfl) d_CS_liveHolders_31 (fun v E' hp => ?_) (fun X E' hp => ?_)
      · obtain ⟨rfl, hv⟩ := hp
        cases hv
        refine xn_if_eq C (b01_lt _) 43 d_CS_liveHolders_34 (by decide) (fun h34 => ?_) (fun h34 => ?_)
        · rw [b01_0] at h34
          refine x_lv [(0, .ref (g (0))), (1, .int (nI q)), (2, .int (nI (liv (fun i => σ 10 i 0) (σ 8 q 0) i))), (3, .int (nI i))] ⟨rfl, rfl, rfl, rfl, trivial⟩ ?_
          refine xn_iinc C d_CS_liveHolders_43 3 rfl (by decide) rfl ?_
          refine x_goto C 4 d_CS_liveHolders_46 (by decide) ?_
          exact x_lv [(0, .ref (g (0))), (1, .int (nI q)), (2, .int (nI (liv (fun i => σ 10 i 0) (σ 8 q 0) (i + 1)))), (3, .int (nI (i + 1)))] ⟨rfl, rfl, by rw [show liv (fun i => σ 10 i 0) (σ 8 q 0) (i + 1) = liv (fun i => σ 10 i 0) (σ 8 q 0) i from (by rw [liv]; simp [h6, h18, h34])]; rfl, rfl, trivial⟩ (ihi (by omega) trivial)
        · rw [b01_n0] at h34
          refine x_iload_n C d_CS_liveHolders_37 rfl rfl ?_
          refine x_iconst C (v := nI 1) d_CS_liveHolders_38 (by decide) ?_
          refine x_iload_n C d_CS_liveHolders_39 rfl rfl ?_
          refine xn_bit C (by omega) d_CS_liveHolders_40 ?_
          refine xn_ior C (liv_lt i (by omega)) (bt_p _ (by omega)) d_CS_liveHolders_41 ?_
          refine x_istore_n C d_CS_liveHolders_42 rfl (by decide) rfl ?_
          refine x_lv [(0, .ref (g (0))), (1, .int (nI q)), (2, .int (nI ((liv (fun i => σ 10 i 0) (σ 8 q 0) i) ||| (2 ^ i)))), (3, .int (nI i))] ⟨rfl, rfl, rfl, rfl, trivial⟩ ?_
          refine xn_iinc C d_CS_liveHolders_43 3 rfl (by decide) rfl ?_
          refine x_goto C 4 d_CS_liveHolders_46 (by decide) ?_
          exact x_lv [(0, .ref (g (0))), (1, .int (nI q)), (2, .int (nI (liv (fun i => σ 10 i 0) (σ 8 q 0) (i + 1)))), (3, .int (nI (i + 1)))] ⟨rfl, rfl, by rw [show liv (fun i => σ 10 i 0) (σ 8 q 0) (i + 1) = (liv (fun i => σ 10 i 0) (σ 8 q 0) i) ||| (2 ^ i) from (by rw [liv]; simp [h6, h18, h34])]; rfl, rfl, trivial⟩ (ihi (by omega) trivial)
      · cases hp.2
theorem m_CS_lightest {l : Launch} (htr : xTr l) {D : va_G} {a : Nat → ClassId} {base : Nat} {g : Nat → Nat} {n : Nat} {σ : Nat → Nat → Nat → Nat} {w : Nat → Nat → Int32} {Y : Nat → va_E} (hn : 143 ≤ n) (hB : ∀ t i j, σ t i j < 2 ^ 30) {q ch : Nat} (hq : q < 30) (hc : ch < 32) {k : Nat} (hk : 1 ≤ k) : xM l y_CS_lightest b_CS_lightest 7 (some FieldType.int) k D a base g n (EL a g σ w Y) [.ref (g 0), .int (nI q), .int (nI ch)] (fun r E' => E' = EL a g σ w Y ∧ r = .inl (some (.int (iv 5 (bst σ q ch))))) := by
  refine x_method (by decide) htr (Nat.le_of_ble_eq_true rfl) ?_
  intro p e s m args below meth c C hne hret hnm
  have C : xC p l e s m meth c b_CS_lightest 7 "ChunkStore" args D xcl (xty a) base := C
  refine x_iconst C (v := -1) d_CS_lightest_0 (by decide) ?_
  refine x_istore_n C d_CS_lightest_1 rfl (by decide) rfl ?_
  refine x_iconst C (v := nI 0) d_CS_lightest_2 (by decide) ?_
  refine x_istore C d_CS_lightest_3 (by decide) rfl ?_
  refine x_loop 5 (fun i => EL a g σ w Y) (fun i => [(0, .ref (g (0))), (1, .int (nI q)), (2, .int (nI ch)), (3, .int (iv 5 (best (frC σ q ch) (fun i => σ 11 i 0) i))), (4, .int (nI i))]) (fun i => True) rfl ⟨rfl, rfl, rfl, rfl, rfl, trivial⟩ trivial ?_
  intro i hi hIi ihi
  refine x_iload C d_CS_lightest_5 rfl ?_
  refine x_iconst C (v := nI 5) d_CS_lightest_7 (by decide) ?_
  refine xn_icmp_ge C (by omega) (by decide) 97 d_CS_lightest_8 (by decide) (fun h8 => ?_) (fun h8 => ?_)
  · refine x_iload_n C d_CS_lightest_97 rfl rfl ?_
    exact x_iret C hret d_CS_lightest_98 ⟨rfl, by rw [show i = 5 by omega]; rfl⟩
  · refine x_aload_n C d_CS_lightest_11 rfl rfl ?_
    refine g_CS_cs_servers C hn d_CS_lightest_12 ?_
    refine x_iload C d_CS_lightest_15 rfl ?_
    refine e_arrS C (by omega) hn d_CS_lightest_17 ?_
    refine x_astore C d_CS_lightest_18 (by decide) rfl ?_
    refine x_aload C d_CS_lightest_20 rfl ?_
    refine g_CS_server_isUp C (by omega) hn d_CS_lightest_22 ?_
    refine xn_if_eq C (Nat.lt_trans (hB 10 i 0) (by decide)) 58 d_CS_lightest_25 (by decide) (fun h25 => ?_) (fun h25 => ?_)
    · refine x_iconst C (v := nI 0) d_CS_lightest_58 (by decide) ?_
      refine x_istore C d_CS_lightest_59 (by decide) rfl ?_
      refine x_iload C d_CS_lightest_61 rfl ?_
      refine xn_if_eq C (by decide) 91 d_CS_lightest_63 (by decide) (fun h63 => ?_) (fun h63 => ?_)
      · refine x_lv [(0, .ref (g (0))), (1, .int (nI q)), (2, .int (nI ch)), (3, .int (iv 5 (best (frC σ q ch) (fun i => σ 11 i 0) i))), (4, .int (nI i)), (5, .ref (g (50 + 4 * i))), (6, .int (nI 0))] ⟨rfl, rfl, rfl, rfl, rfl, rfl, rfl, trivial⟩ ?_
        refine xn_iinc C d_CS_lightest_91 4 rfl (by decide) rfl ?_
        refine x_goto C 5 d_CS_lightest_94 (by decide) ?_
        exact x_lv [(0, .ref (g (0))), (1, .int (nI q)), (2, .int (nI ch)), (3, .int (iv 5 (best (frC σ q ch) (fun i => σ 11 i 0) (i + 1)))), (4, .int (nI (i + 1)))] ⟨rfl, rfl, rfl, by rw [show best (frC σ q ch) (fun i => σ 11 i 0) (i + 1) = best (frC σ q ch) (fun i => σ 11 i 0) i from (by rw [best]; simp only [frC]; grind)]; rfl, rfl, trivial⟩ (ihi (by omega) trivial)
      · exact absurd h63 (by decide)
    · refine x_aload C d_CS_lightest_28 rfl ?_
      refine c_CS_SV_isFull C (by omega) (by omega) hn (m_SV_isFull htr hn hB (by omega) (Nat.le_refl _)) rfl rfl (Nat.le_of_ble_eq_true rfl) d_CS_lightest_30 (fun v E' hp => ?_) (fun X E' hp => ?_)
      · obtain ⟨rfl, hv⟩ := hp
        cases hv
        refine xn_if_ne C (b01_lt _) 58 d_CS_lightest_33 (by decide) (fun h33 => ?_) (fun h33 => ?_)
        · rw [b01_n0] at h33
          have h33 := of_decide_eq_true h33
          refine x_iconst C (v := nI 0) d_CS_lightest_58 (by decide) ?_
          refine x_istore C d_CS_lightest_59 (by decide) rfl ?_
          refine x_iload C d_CS_lightest_61 rfl ?_
          refine xn_if_eq C (by decide) 91 d_CS_lightest_63 (by decide) (fun h63 => ?_) (fun h63 => ?_)
          · refine x_lv [(0, .ref (g (0))), (1, .int (nI q)), (2, .int (nI ch)), (3, .int (iv 5 (best (frC σ q ch) (fun i => σ 11 i 0) i))), (4, .int (nI i)), (5, .ref (g (50 + 4 * i))), (6, .int (nI 0))] ⟨rfl, rfl, rfl, rfl, rfl, rfl, rfl, trivial⟩ ?_
            refine xn_iinc C d_CS_lightest_91 4 rfl (by decide) rfl ?_
            refine x_goto C 5 d_CS_lightest_94 (by decide) ?_
            exact x_lv [(0, .ref (g (0))), (1, .int (nI q)), (2, .int (nI ch)), (3, .int (iv 5 (best (frC σ q ch) (fun i => σ 11 i 0) (i + 1)))), (4, .int (nI (i + 1)))] ⟨rfl, rfl, rfl, by rw [show best (frC σ q ch) (fun i => σ 11 i 0) (i + 1) = best (frC σ q ch) (fun i => σ 11 i 0) i from (by rw [best]; simp only [frC]; grind)]; rfl, rfl, trivial⟩ (ihi (by omega) trivial)
          · exact absurd h63 (by decide)
        · rw [b01_0] at h33
          have h33 := of_decide_eq_false h33
          refine x_aload C d_CS_lightest_36 rfl ?_
          refine x_iload_n C d_CS_lightest_38 rfl rfl ?_
          refine c_CS_SV_has C (by omega) (by omega) hn (m_SV_has htr hn hB (by omega) hq (Nat.le_refl _)) rfl rfl (Nat.le_of_ble_eq_true rfl) d_CS_lightest_39 (fun v E' hp => ?_) (fun X E' hp => ?_)
          · obtain ⟨rfl, hv⟩ := hp
            cases hv
            refine xn_if_ne C (b01_lt _) 58 d_CS_lightest_42 (by decide) (fun h42 => ?_) (fun h42 => ?_)
            · rw [b01_n0] at h42
              have h42 := of_decide_eq_true h42
              refine x_iconst C (v := nI 0) d_CS_lightest_58 (by decide) ?_
              refine x_istore C d_CS_lightest_59 (by decide) rfl ?_
              refine x_iload C d_CS_lightest_61 rfl ?_
              refine xn_if_eq C (by decide) 91 d_CS_lightest_63 (by decide) (fun h63 => ?_) (fun h63 => ?_)
              · refine x_lv [(0, .ref (g (0))), (1, .int (nI q)), (2, .int (nI ch)), (3, .int (iv 5 (best (frC σ q ch) (fun i => σ 11 i 0) i))), (4, .int (nI i)), (5, .ref (g (50 + 4 * i))), (6, .int (nI 0))] ⟨rfl, rfl, rfl, rfl, rfl, rfl, rfl, trivial⟩ ?_
                refine xn_iinc C d_CS_lightest_91 4 rfl (by decide) rfl ?_
                refine x_goto C 5 d_CS_lightest_94 (by decide) ?_
                exact x_lv [(0, .ref (g (0))), (1, .int (nI q)), (2, .int (nI ch)), (3, .int (iv 5 (best (frC σ q ch) (fun i => σ 11 i 0) (i + 1)))), (4, .int (nI (i + 1)))] ⟨rfl, rfl, rfl, by rw [show best (frC σ q ch) (fun i => σ 11 i 0) (i + 1) = best (frC σ q ch) (fun i => σ 11 i 0) i from (by rw [best]; simp only [frC]; grind)]; rfl, rfl, trivial⟩ (ihi (by omega) trivial)
              · exact absurd h63 (by decide)
            · rw [b01_0] at h42
              have h42 := of_decide_eq_false h42
              refine x_iload_n C d_CS_lightest_45 rfl rfl ?_
              refine x_iload C d_CS_lightest_46 rfl ?_
              refine c_CS_CS_isIn C (by omega) (m_CS_isIn htr hc (by omega) (Nat.le_refl _)) rfl rfl (Nat.le_of_ble_eq_true rfl) d_CS_lightest_48 (fun v E' hp => ?_) (fun X E' hp => ?_)
              · obtain ⟨rfl, hv⟩ := hp
                cases hv
                refine xn_if_ne C (b01_lt _) 58 d_CS_lightest_51 (by decide) (fun h51 => ?_) (fun h51 => ?_)
                · rw [b01_n0] at h51
                  refine x_iconst C (v := nI 0) d_CS_lightest_58 (by decide) ?_
                  refine x_istore C d_CS_lightest_59 (by decide) rfl ?_
                  refine x_iload C d_CS_lightest_61 rfl ?_
                  refine xn_if_eq C (by decide) 91 d_CS_lightest_63 (by decide) (fun h63 => ?_) (fun h63 => ?_)
                  · refine x_lv [(0, .ref (g (0))), (1, .int (nI q)), (2, .int (nI ch)), (3, .int (iv 5 (best (frC σ q ch) (fun i => σ 11 i 0) i))), (4, .int (nI i)), (5, .ref (g (50 + 4 * i))), (6, .int (nI 0))] ⟨rfl, rfl, rfl, rfl, rfl, rfl, rfl, trivial⟩ ?_
                    refine xn_iinc C d_CS_lightest_91 4 rfl (by decide) rfl ?_
                    refine x_goto C 5 d_CS_lightest_94 (by decide) ?_
                    exact x_lv [(0, .ref (g (0))), (1, .int (nI q)), (2, .int (nI ch)), (3, .int (iv 5 (best (frC σ q ch) (fun i => σ 11 i 0) (i + 1)))), (4, .int (nI (i + 1)))] ⟨rfl, rfl, rfl, by rw [show best (frC σ q ch) (fun i => σ 11 i 0) (i + 1) = best (frC σ q ch) (fun i => σ 11 i 0) i from (by rw [best]; simp only [frC]; grind)]; rfl, rfl, trivial⟩ (ihi (by omega) trivial)
                  · exact absurd h63 (by decide)
                · rw [b01_0] at h51
                  refine x_iconst C (v := nI 1) d_CS_lightest_54 (by decide) ?_
                  refine x_goto C 59 d_CS_lightest_55 (by decide) ?_
                  refine x_istore C d_CS_lightest_59 (by decide) rfl ?_
                  refine x_iload C d_CS_lightest_61 rfl ?_
                  refine xn_if_eq C (by decide) 91 d_CS_lightest_63 (by decide) (fun h63 => ?_) (fun h63 => ?_)
                  · exact absurd h63 (by decide)
                  · refine x_iload_n C d_CS_lightest_66 rfl rfl ?_
                    refine x_iconst C (v := -1) d_CS_lightest_67 (by decide) ?_
                    refine x_icmp_eq C 88 d_CS_lightest_68 (by decide) (fun h68 => ?_) (fun h68 => ?_)
                    · have h68 := (iv_m1 ⟨best_le i (by omega), by decide⟩).mp h68
                      refine x_iload C d_CS_lightest_88 rfl ?_
                      refine x_istore_n C d_CS_lightest_90 rfl (by decide) rfl ?_
                      refine x_lv [(0, .ref (g (0))), (1, .int (nI q)), (2, .int (nI ch)), (3, .int (nI i)), (4, .int (nI i)), (5, .ref (g (50 + 4 * i))), (6, .int (nI 1))] ⟨rfl, rfl, rfl, rfl, rfl, rfl, rfl, trivial⟩ ?_
                      refine xn_iinc C d_CS_lightest_91 4 rfl (by decide) rfl ?_
                      refine x_goto C 5 d_CS_lightest_94 (by decide) ?_
                      exact x_lv [(0, .ref (g (0))), (1, .int (nI q)), (2, .int (nI ch)), (3, .int (iv 5 (best (frC σ q ch) (fun i => σ 11 i 0) (i + 1)))), (4, .int (nI (i + 1)))] ⟨rfl, rfl, rfl, by rw [show best (frC σ q ch) (fun i => σ 11 i 0) (i + 1) = i from (by rw [best]; simp only [frC]; grind)]; rw [iv_lt (by omega)]; rfl, rfl, trivial⟩ (ihi (by omega) trivial)
                    · have h68 := iv_n1 ⟨best_le i (by omega), by decide⟩ h68
                      refine x_aload C d_CS_lightest_71 rfl ?_
                      refine g_CS_server_replicas C (by omega) hn d_CS_lightest_73 ?_
                      refine x_aload_n C d_CS_lightest_76 rfl rfl ?_
                      refine g_CS_cs_servers C hn d_CS_lightest_77 ?_
                      refine x_iload_n C d_CS_lightest_80 rfl rfl ?_
                      refine x_topi (iv_lt h68) ?_
                      refine e_arrS C h68 hn d_CS_lightest_81 ?_
                      refine g_CS_server_replicas C h68 hn d_CS_lightest_82 ?_
                      refine xn_icmp_ge C (Nat.lt_trans (hB 11 i 0) (by decide)) (Nat.lt_trans (hB 11 (best (frC σ q ch) (fun i => σ 11 i 0) i) 0) (by decide)) 91 d_CS_lightest_85 (by decide) (fun h85 => ?_) (fun h85 => ?_)
                      · refine x_lv [(0, .ref (g (0))), (1, .int (nI q)), (2, .int (nI ch)), (3, .int (iv 5 (best (frC σ q ch) (fun i => σ 11 i 0) i))), (4, .int (nI i)), (5, .ref (g (50 + 4 * i))), (6, .int (nI 1))] ⟨rfl, rfl, rfl, rfl, rfl, rfl, rfl, trivial⟩ ?_
                        refine xn_iinc C d_CS_lightest_91 4 rfl (by decide) rfl ?_
                        refine x_goto C 5 d_CS_lightest_94 (by decide) ?_
                        exact x_lv [(0, .ref (g (0))), (1, .int (nI q)), (2, .int (nI ch)), (3, .int (iv 5 (best (frC σ q ch) (fun i => σ 11 i 0) (i + 1)))), (4, .int (nI (i + 1)))] ⟨rfl, rfl, rfl, by rw [show best (frC σ q ch) (fun i => σ 11 i 0) (i + 1) = best (frC σ q ch) (fun i => σ 11 i 0) i from (by rw [best]; simp only [frC]; grind)]; rfl, rfl, trivial⟩ (ihi (by omega) trivial)
                      · refine x_iload C d_CS_lightest_88 rfl ?_
                        refine x_istore_n C d_CS_lightest_90 rfl (by decide) rfl ?_
                        refine x_lv [(0, .ref (g (0))), (1, .int (nI q)), (2, .int (nI ch)), (3, .int (nI i)), (4, .int (nI i)), (5, .ref (g (50 + 4 * i))), (6, .int (nI 1))] ⟨rfl, rfl, rfl, rfl, rfl, rfl, rfl, trivial⟩ ?_
                        refine xn_iinc C d_CS_lightest_91 4 rfl (by decide) rfl ?_
                        refine x_goto C 5 d_CS_lightest_94 (by decide) ?_
                        exact x_lv [(0, .ref (g (0))), (1, .int (nI q)), (2, .int (nI ch)), (3, .int (iv 5 (best (frC σ q ch) (fun i => σ 11 i 0) (i + 1)))), (4, .int (nI (i + 1)))] ⟨rfl, rfl, rfl, by rw [show best (frC σ q ch) (fun i => σ 11 i 0) (i + 1) = i from (by rw [best]; simp only [frC]; grind)]; rw [iv_lt (by omega)]; rfl, rfl, trivial⟩ (ihi (by omega) trivial)
              · cases hp.2
          · cases hp.2
      · cases hp.2
end XM2
