section XN6
def mrd (k : Nat) (x : UInt64) : xR := .inl (some (.double (if k = 0 then x else FP.i2d (nI 0))))
theorem m_MD_up {l : Launch} (htr : xTr l) {D : va_G} {a : Nat → ClassId} {base : Nat} {g : Nat → Nat} {n : Nat} {τ : xSig} {v : xWrd} {fc M : Nat} {X : Nat → va_E} (hn : 159 ≤ n) (hI : Inv τ v M) (hM : M ≤ 2 ^ 28) {x : Int32} {b : Nat} (hb : b = 0 ∨ b = 1) {k : Nat} (hk : 1 ≤ k) : xM l y_MD_up b_MD_up 3 (some FieldType.int) k D a base g n (EM a g τ v fc X) [.ref (g 143), .int x, .int (nI b)] (fun r E' => E' = EM a g (if (qc_up τ x) = 0 then up3 τ 10 (ix x) 0 b else τ) v (qc_up τ x) X ∧ r = mr (qc_up τ x) (nI (τ 11 (ix x) 0))) := by
  refine x_method (by decide) htr (Nat.le_of_ble_eq_true rfl) ?_
  intro p e s m args below meth c C hne hret hnm
  have C : xC p l e s m meth c b_MD_up 3 "ChunkStoreModel" args D xcl (xty a) base := C
  have hO := hI.ok hM
  have hB : ∀ t i j, τ t i j < 2 ^ 30 := fun t i j => Nat.lt_trans (hO.1 t i j) (by decide)
  have hH := hO.2.2.2.1
  have hcv : ∀ s, s < 5 → τ 11 s 0 = cntV (τ 12 s) 30 := fun s hs => (hI.cnt s hs).1
  refine x_aload_n C d_MD_up_0 rfl rfl ?_
  refine x_iconst C (v := nI 0) d_MD_up_1 (by decide) ?_
  refine p_MD_failed C hn d_MD_up_2 ?_
  refine x_aload_n C d_MD_up_5 rfl rfl ?_
  refine x_iload_n C d_MD_up_6 rfl rfl ?_
  refine x_iconst C (v := nI 5) d_MD_up_7 (by decide) ?_
  refine c_MD_MD_out C (by omega) hn (m_MD_out htr hn hB (by decide) (Nat.le_refl _)) rfl rfl (Nat.le_of_ble_eq_true rfl) d_MD_up_8 (fun v E' hp => ?_) (fun X E' hp => ?_)
  · obtain ⟨rfl, hv⟩ := hp
    cases hv
    refine xn_if_eq C (b01_lt _) 20 d_MD_up_11 (by decide) (fun h11 => ?_) (fun h11 => ?_)
    · rw [b01_0] at h11
      obtain ⟨i, hi, rfl⟩ := inR_of (nb_f h11)
      refine x_aload_n C d_MD_up_20 rfl rfl ?_
      refine g_MD_down C hn d_MD_up_21 ?_
      refine x_iload_n C d_MD_up_24 rfl rfl ?_
      refine x_iload_n C d_MD_up_25 rfl rfl ?_
      refine xn_if_ne C (by omega) 33 d_MD_up_26 (by decide) (fun h26 => ?_) (fun h26 => ?_)
      · refine x_iconst C (v := nI 0) d_MD_up_33 (by decide) ?_
        refine a_mdown0 C hi hn d_MD_up_34 ?_
        refine x_aload_n C d_MD_up_35 rfl rfl ?_
        refine x_iload_n C d_MD_up_36 rfl rfl ?_
        refine c_MD_MD_loadOf C (by omega) hn (m_MD_loadOf htr hn (up3_B hB (by decide)) hi (Nat.le_refl _)) rfl rfl (Nat.le_of_ble_eq_true rfl) d_MD_up_37 (fun v E' hp => ?_) (fun X E' hp => ?_)
        · obtain ⟨rfl, hv⟩ := hp
          cases hv
          rw [show (up3 τ 10 i 0 1 12 i) = τ 12 i from funext fun z => up3_n (by decide), ← hcv i hi]
          exact x_iret C hret d_MD_up_40 ⟨by rw [show qc_up τ (nI i) = 0 by rw [qc_up, if_pos (inR_nI hi (by decide))], if_pos rfl, ix_nI (by omega), show b = 1 by omega], by rw [show qc_up τ (nI i) = 0 by rw [qc_up, if_pos (inR_nI hi (by decide))], ix_nI (by omega)]; rfl⟩
        · cases hp.2
      · refine x_iconst C (v := nI 1) d_MD_up_29 (by decide) ?_
        refine x_goto C 34 d_MD_up_30 (by decide) ?_
        refine a_mdown1 C hi hn d_MD_up_34 ?_
        refine x_aload_n C d_MD_up_35 rfl rfl ?_
        refine x_iload_n C d_MD_up_36 rfl rfl ?_
        refine c_MD_MD_loadOf C (by omega) hn (m_MD_loadOf htr hn (up3_B hB (by decide)) hi (Nat.le_refl _)) rfl rfl (Nat.le_of_ble_eq_true rfl) d_MD_up_37 (fun v E' hp => ?_) (fun X E' hp => ?_)
        · obtain ⟨rfl, hv⟩ := hp
          cases hv
          rw [show (up3 τ 10 i 0 0 12 i) = τ 12 i from funext fun z => up3_n (by decide), ← hcv i hi]
          exact x_iret C hret d_MD_up_40 ⟨by rw [show qc_up τ (nI i) = 0 by rw [qc_up, if_pos (inR_nI hi (by decide))], if_pos rfl, ix_nI (by omega), show b = 0 by omega], by rw [show qc_up τ (nI i) = 0 by rw [qc_up, if_pos (inR_nI hi (by decide))], ix_nI (by omega)]; rfl⟩
        · cases hp.2
    · rw [b01_n0] at h11
      have h11 := nb_t h11
      refine x_aload_n C d_MD_up_14 rfl rfl ?_
      refine x_iconst C (v := nI 1) d_MD_up_15 (by decide) ?_
      refine c_MD_MD_fail C (by omega) hn (m_MD_fail htr hn hB (Nat.le_refl _)) rfl rfl (Nat.le_of_ble_eq_true rfl) d_MD_up_16 (fun v E' hp => ?_) (fun X E' hp => ?_)
      · obtain ⟨rfl, hv⟩ := hp
        cases hv
        exact x_iret C hret d_MD_up_19 ⟨by rw [show qc_up τ  x = 1 by rw [qc_up, if_neg h11], if_neg (by decide)], by rw [show qc_up τ  x = 1 by rw [qc_up, if_neg h11]]; rfl⟩
      · cases hp.2
  · cases hp.2
theorem m_MD_tick {l : Launch} (htr : xTr l) {D : va_G} {a : Nat → ClassId} {base : Nat} {g : Nat → Nat} {n : Nat} {τ : xSig} {v : xWrd} {fc M : Nat} {X : Nat → va_E} (hn : 159 ≤ n) (hI : Inv τ v M) (hM : M ≤ 2 ^ 28) {d : Nat} (hd : d < 2 ^ 31) {k : Nat} (hk : 1 ≤ k) : xM l y_MD_tick b_MD_tick 3 (some FieldType.double) k D a base g n (EM a g τ v fc X) [.ref (g 143), .double (dT d)] (fun r E' => E' = EM a g (if qc_tick d = 0 then up3 τ 1 0 0 (τ 1 0 0 + d) else τ) v (qc_tick d) X ∧ r = mrd (qc_tick d) (dT (τ 1 0 0 + d))) := by
  refine x_method (by decide) htr (Nat.le_of_ble_eq_true rfl) ?_
  intro p e s m args below meth c C hne hret hnm
  have C : xC p l e s m meth c b_MD_tick 3 "ChunkStoreModel" args D xcl (xty a) base := C
  have hO := hI.ok hM
  have hB : ∀ t i j, τ t i j < 2 ^ 30 := fun t i j => Nat.lt_trans (hO.1 t i j) (by decide)
  have hH := hO.2.2.2.1
  have hcv : ∀ s, s < 5 → τ 11 s 0 = cntV (τ 12 s) 30 := fun s hs => (hI.cnt s hs).1
  refine x_aload_n C d_MD_tick_0 rfl rfl ?_
  refine x_iconst C (v := nI 0) d_MD_tick_1 (by decide) ?_
  refine p_MD_failed C hn d_MD_tick_2 ?_
  refine x_dload_n C d_MD_tick_5 rfl rfl ?_
  refine x_dconst0 C d_MD_tick_6 ?_
  refine x_topd (show FP.dconst0 = dT 0 from dT_0.symm) ?_
  refine xn_dcmp C (by omega) (by decide) d_MD_tick_7 ?_
  refine x_if_lt C 19 d_MD_tick_8 (by decide) (fun h8 => ?_) (fun h8 => ?_)
  · have h8 := cmpI_lt h8
    refine x_aload_n C d_MD_tick_19 rfl rfl ?_
    refine x_iconst C (v := nI 1) d_MD_tick_20 (by decide) ?_
    refine c_MD_MD_fail C (by omega) hn (m_MD_fail htr hn hB (Nat.le_refl _)) rfl rfl (Nat.le_of_ble_eq_true rfl) d_MD_tick_21 (fun v E' hp => ?_) (fun X E' hp => ?_)
    · obtain ⟨rfl, hv⟩ := hp
      cases hv
      refine x_i2d C d_MD_tick_24 ?_
      exact x_dret C hret d_MD_tick_25 (by first | exact absurd h8 (by omega) | exact ⟨by rw [show qc_tick d = 1 by rw [qc_tick, if_neg (by omega)], if_neg (by decide)], by rw [show qc_tick d = 1 by rw [qc_tick, if_neg (by omega)]]; rfl⟩)
    · cases hp.2
  · have h8 := cmpI_nlt h8
    refine x_dload_n C d_MD_tick_11 rfl rfl ?_
    refine x_ldc2d C kw743 d_MD_tick_12 ?_
    refine x_topd (show _ = dT 800 from dT_800.symm) ?_
    refine xn_dcmp C (by omega) (by decide) d_MD_tick_15 ?_
    refine x_if_le C 26 d_MD_tick_16 (by decide) (fun h16 => ?_) (fun h16 => ?_)
    · have h16 := cmpI_le h16
      refine x_aload_n C d_MD_tick_26 rfl rfl ?_
      refine x_dup C d_MD_tick_27 rfl ?_
      refine g_MD_time C hn d_MD_tick_28 ?_
      refine x_dload_n C d_MD_tick_31 rfl rfl ?_
      refine xn_dadd C (by have := hB 1 0 0; omega) d_MD_tick_32 ?_
      refine p_MD_time C hn d_MD_tick_33 ?_
      refine x_aload_n C d_MD_tick_36 rfl rfl ?_
      refine g_MD_time C hn d_MD_tick_37 ?_
      exact x_dret C hret d_MD_tick_40 ⟨by rw [show qc_tick d = 0 by rw [qc_tick, if_pos h16], if_pos rfl], by rw [show qc_tick d = 0 by rw [qc_tick, if_pos h16], up3_s]; rfl⟩
    · have h16 := cmpI_nle h16
      refine x_aload_n C d_MD_tick_19 rfl rfl ?_
      refine x_iconst C (v := nI 1) d_MD_tick_20 (by decide) ?_
      refine c_MD_MD_fail C (by omega) hn (m_MD_fail htr hn hB (Nat.le_refl _)) rfl rfl (Nat.le_of_ble_eq_true rfl) d_MD_tick_21 (fun v E' hp => ?_) (fun X E' hp => ?_)
      · obtain ⟨rfl, hv⟩ := hp
        cases hv
        refine x_i2d C d_MD_tick_24 ?_
        exact x_dret C hret d_MD_tick_25 (by first | exact absurd h8 (by omega) | exact ⟨by rw [show qc_tick d = 1 by rw [qc_tick, if_neg (by omega)], if_neg (by decide)], by rw [show qc_tick d = 1 by rw [qc_tick, if_neg (by omega)]]; rfl⟩)
      · cases hp.2
theorem m_MD_tickN {l : Launch} (htr : xTr l) {D : va_G} {a : Nat → ClassId} {base : Nat} {g : Nat → Nat} {n : Nat} {τ : xSig} {v : xWrd} {fc M : Nat} {X : Nat → va_E} (hn : 159 ≤ n) (hI : Inv τ v M) (hM : M ≤ 2 ^ 28) {d : UInt64} (hd : FP.dcmp d (dT 0) = some .lt) {k : Nat} (hk : 1 ≤ k) : xM l y_MD_tick b_MD_tick 3 (some FieldType.double) k D a base g n (EM a g τ v fc X) [.ref (g 143), .double d] (fun r E' => E' = EM a g τ v 1 X ∧ r = .inl (some (.double (FP.i2d (nI 0))))) := by
  refine x_method (by decide) htr (Nat.le_of_ble_eq_true rfl) ?_
  intro p e s m args below meth c C hne hret hnm
  have C : xC p l e s m meth c b_MD_tick 3 "ChunkStoreModel" args D xcl (xty a) base := C
  have hO := hI.ok hM
  have hB : ∀ t i j, τ t i j < 2 ^ 30 := fun t i j => Nat.lt_trans (hO.1 t i j) (by decide)
  have hH := hO.2.2.2.1
  have hcv : ∀ s, s < 5 → τ 11 s 0 = cntV (τ 12 s) 30 := fun s hs => (hI.cnt s hs).1
  refine x_aload_n C d_MD_tick_0 rfl rfl ?_
  refine x_iconst C (v := nI 0) d_MD_tick_1 (by decide) ?_
  refine p_MD_failed C hn d_MD_tick_2 ?_
  refine x_dload_n C d_MD_tick_5 rfl rfl ?_
  refine x_dconst0 C d_MD_tick_6 ?_
  refine x_topd (show FP.dconst0 = dT 0 from dT_0.symm) ?_
  refine x_dcmp C d_MD_tick_7 ?_
  refine x_topi (show _ = -1 by rw [hd]; rfl) ?_
  refine x_if_lt C 19 d_MD_tick_8 (by decide) (fun _ => ?_) (fun h3 => absurd (by decide) h3)
  refine x_aload_n C d_MD_tick_19 rfl rfl ?_
  refine x_iconst C (v := nI 1) d_MD_tick_20 (by decide) ?_
  refine c_MD_MD_fail C (by omega) hn (m_MD_fail htr hn hB (Nat.le_refl _)) rfl rfl (Nat.le_of_ble_eq_true rfl) d_MD_tick_21 (fun v E' hp => ?_) (fun X E' hp => ?_)
  · obtain ⟨rfl, hv⟩ := hp
    cases hv
    refine x_i2d C d_MD_tick_24 ?_
    exact x_dret C hret d_MD_tick_25 ⟨rfl, rfl⟩
  · cases hp.2
theorem m_MD_load {l : Launch} (htr : xTr l) {D : va_G} {a : Nat → ClassId} {base : Nat} {g : Nat → Nat} {n : Nat} {τ : xSig} {v : xWrd} {fc M : Nat} {X : Nat → va_E} (hn : 159 ≤ n) (hI : Inv τ v M) (hM : M ≤ 2 ^ 28)  {k : Nat} (hk : 1 ≤ k) : xM l y_MD_load b_MD_load 4 (some FieldType.double) k D a base g n (EM a g τ v fc X) [.ref (g 143)] (fun r E' => E' = EM a g τ v (qc_load τ) X ∧ r = mrd (qc_load τ) (qa_load τ)) := by
  refine x_method (by decide) htr (Nat.le_of_ble_eq_true rfl) ?_
  intro p e s m args below meth c C hne hret hnm
  have C : xC p l e s m meth c b_MD_load 4 "ChunkStoreModel" args D xcl (xty a) base := C
  have hO := hI.ok hM
  have hB : ∀ t i j, τ t i j < 2 ^ 30 := fun t i j => Nat.lt_trans (hO.1 t i j) (by decide)
  have hH := hO.2.2.2.1
  have hcv : ∀ s, s < 5 → τ 11 s 0 = cntV (τ 12 s) 30 := fun s hs => (hI.cnt s hs).1
  have hR : ∀ i, i < 5 → τ 11 i 0 ≤ 30 := fun i hi => by have := (hI.cnt i hi).2; omega
  refine x_aload_n C d_MD_load_0 rfl rfl ?_
  refine x_iconst C (v := nI 0) d_MD_load_1 (by decide) ?_
  refine p_MD_failed C hn d_MD_load_2 ?_
  refine x_iconst C (v := nI 0) d_MD_load_5 (by decide) ?_
  refine x_istore_n C d_MD_load_6 rfl (by decide) rfl ?_
  refine x_iconst C (v := nI 0) d_MD_load_7 (by decide) ?_
  refine x_istore_n C d_MD_load_8 rfl (by decide) rfl ?_
  refine x_iconst C (v := nI 0) d_MD_load_9 (by decide) ?_
  refine x_istore_n C d_MD_load_10 rfl (by decide) rfl ?_
  refine x_loop 5 (fun i => EM a g τ v 0 X) (fun i => [(0, .ref (g 143)), (1, .int (nI (upN τ i))), (2, .int (nI (upR τ i))), (3, .int (nI i))]) (fun i => True) rfl ⟨rfl, rfl, rfl, rfl, trivial⟩ trivial ?_
  intro i hi hIi ihi
  refine x_iload_n C d_MD_load_11 rfl rfl ?_
  refine x_iconst C (v := nI 5) d_MD_load_12 (by decide) ?_
  refine xn_icmp_ge C (by omega) (by decide) 60 d_MD_load_13 (by decide) (fun h13 => ?_) (fun h13 => ?_)
  · refine x_iload_n C d_MD_load_60 rfl rfl ?_
    refine xn_if_ne C (by have := upN_le τ i; omega) 71 d_MD_load_61 (by decide) (fun h61 => ?_) (fun h61 => ?_)
    · refine x_iload_n C d_MD_load_71 rfl rfl ?_
      refine x_i2d C d_MD_load_72 ?_
      refine x_iload_n C d_MD_load_73 rfl rfl ?_
      refine x_i2d C d_MD_load_74 ?_
      refine x_ddiv (v := 0) C d_MD_load_75 (ld_n _ (by have := upR_le hR i (by omega); omega) _ (by have := upN_le τ i; omega) h61) ?_
      exact x_dret C hret d_MD_load_76 (by have e : i = 5 := (by omega); subst e; exact ⟨by rw [show qc_load τ = 0 by rw [qc_load, if_neg h61]], by rw [show qc_load τ = 0 by rw [qc_load, if_neg h61]]; rfl⟩)
    · refine x_aload_n C d_MD_load_64 rfl rfl ?_
      refine x_iconst C (v := nI 1) d_MD_load_65 (by decide) ?_
      refine c_MD_MD_fail C (by omega) hn (m_MD_fail htr hn hB (Nat.le_refl _)) rfl rfl (Nat.le_of_ble_eq_true rfl) d_MD_load_66 (fun v E' hp => ?_) (fun X E' hp => ?_)
      · obtain ⟨rfl, hv⟩ := hp
        cases hv
        refine x_i2d C d_MD_load_69 ?_
        exact x_dret C hret d_MD_load_70 ⟨by rw [show qc_load τ = 1 by rw [qc_load, ← show i = 5 by omega, if_pos h61]], by rw [show qc_load τ = 1 by rw [qc_load, ← show i = 5 by omega, if_pos h61]]; rfl⟩
      · cases hp.2
  · refine x_iload_n C d_MD_load_16 rfl rfl ?_
    refine x_aload_n C d_MD_load_17 rfl rfl ?_
    refine g_MD_down C hn d_MD_load_18 ?_
    refine x_iload_n C d_MD_load_21 rfl rfl ?_
    refine e_mdown C (by omega) hn d_MD_load_22 ?_
    refine xn_if_eq C (b01_lt _) 30 d_MD_load_23 (by decide) (fun h23 => ?_) (fun h23 => ?_)
    · rw [b01_0] at h23
      have h23 := of_decide_eq_false h23
      refine x_iconst C (v := nI 1) d_MD_load_30 (by decide) ?_
      refine xn_iadd C d_MD_load_31 ?_
      refine x_istore_n C d_MD_load_32 rfl (by decide) rfl ?_
      refine x_iload_n C d_MD_load_33 rfl rfl ?_
      refine x_aload_n C d_MD_load_34 rfl rfl ?_
      refine g_MD_down C hn d_MD_load_35 ?_
      refine x_iload_n C d_MD_load_38 rfl rfl ?_
      refine e_mdown C (by omega) hn d_MD_load_39 ?_
      refine xn_if_eq C (b01_lt _) 47 d_MD_load_40 (by decide) (fun h40 => ?_) (fun h40 => ?_)
      · rw [b01_0] at h40
        have h40 := of_decide_eq_false h40
        refine x_aload_n C d_MD_load_47 rfl rfl ?_
        refine x_iload_n C d_MD_load_48 rfl rfl ?_
        refine c_MD_MD_loadOf C (by omega) hn (m_MD_loadOf htr hn hB (by omega) (Nat.le_refl _)) rfl rfl (Nat.le_of_ble_eq_true rfl) d_MD_load_49 (fun v E' hp => ?_) (fun X E' hp => ?_)
        · obtain ⟨rfl, hv⟩ := hp
          cases hv
          rw [← hcv _ (by omega)]
          refine xn_iadd C d_MD_load_52 ?_
          refine x_istore_n C d_MD_load_53 rfl (by decide) rfl ?_
          refine x_lv [(0, .ref (g 143)), (1, .int (nI ((upN τ i) + 1))), (2, .int (nI ((upR τ i) + (τ 11 i 0)))), (3, .int (nI i))] ⟨rfl, rfl, rfl, rfl, trivial⟩ ?_
          refine xn_iinc C d_MD_load_54 3 rfl (by decide) rfl ?_
          refine x_goto C 11 d_MD_load_57 (by decide) ?_
          exact x_lv [(0, .ref (g 143)), (1, .int (nI (upN τ (i + 1)))), (2, .int (nI (upR τ (i + 1)))), (3, .int (nI (i + 1)))] ⟨rfl, by rw [upN, if_neg h23]; rfl, by rw [upR, if_neg h23]; rfl, rfl, trivial⟩ (ihi (by omega) trivial)
        · cases hp.2
      · rw [b01_n0] at h40
        have h40 := of_decide_eq_true h40
        refine x_iconst C (v := nI 0) d_MD_load_43 (by decide) ?_
        refine x_goto C 52 d_MD_load_44 (by decide) ?_
        refine xn_iadd C d_MD_load_52 ?_
        refine x_istore_n C d_MD_load_53 rfl (by decide) rfl ?_
        refine x_lv [(0, .ref (g 143)), (1, .int (nI ((upN τ i) + 1))), (2, .int (nI ((upR τ i) + 0))), (3, .int (nI i))] ⟨rfl, rfl, rfl, rfl, trivial⟩ ?_
        refine xn_iinc C d_MD_load_54 3 rfl (by decide) rfl ?_
        refine x_goto C 11 d_MD_load_57 (by decide) ?_
        exact absurd h40 (by omega)
    · rw [b01_n0] at h23
      have h23 := of_decide_eq_true h23
      refine x_iconst C (v := nI 0) d_MD_load_26 (by decide) ?_
      refine x_goto C 31 d_MD_load_27 (by decide) ?_
      refine xn_iadd C d_MD_load_31 ?_
      refine x_istore_n C d_MD_load_32 rfl (by decide) rfl ?_
      refine x_iload_n C d_MD_load_33 rfl rfl ?_
      refine x_aload_n C d_MD_load_34 rfl rfl ?_
      refine g_MD_down C hn d_MD_load_35 ?_
      refine x_iload_n C d_MD_load_38 rfl rfl ?_
      refine e_mdown C (by omega) hn d_MD_load_39 ?_
      refine xn_if_eq C (b01_lt _) 47 d_MD_load_40 (by decide) (fun h40 => ?_) (fun h40 => ?_)
      · rw [b01_0] at h40
        have h40 := of_decide_eq_false h40
        refine x_aload_n C d_MD_load_47 rfl rfl ?_
        refine x_iload_n C d_MD_load_48 rfl rfl ?_
        refine c_MD_MD_loadOf C (by omega) hn (m_MD_loadOf htr hn hB (by omega) (Nat.le_refl _)) rfl rfl (Nat.le_of_ble_eq_true rfl) d_MD_load_49 (fun v E' hp => ?_) (fun X E' hp => ?_)
        · obtain ⟨rfl, hv⟩ := hp
          cases hv
          rw [← hcv _ (by omega)]
          refine xn_iadd C d_MD_load_52 ?_
          refine x_istore_n C d_MD_load_53 rfl (by decide) rfl ?_
          refine x_lv [(0, .ref (g 143)), (1, .int (nI ((upN τ i) + 0))), (2, .int (nI ((upR τ i) + (τ 11 i 0)))), (3, .int (nI i))] ⟨rfl, rfl, rfl, rfl, trivial⟩ ?_
          refine xn_iinc C d_MD_load_54 3 rfl (by decide) rfl ?_
          refine x_goto C 11 d_MD_load_57 (by decide) ?_
          exact absurd h40 (by omega)
        · cases hp.2
      · rw [b01_n0] at h40
        have h40 := of_decide_eq_true h40
        refine x_iconst C (v := nI 0) d_MD_load_43 (by decide) ?_
        refine x_goto C 52 d_MD_load_44 (by decide) ?_
        refine xn_iadd C d_MD_load_52 ?_
        refine x_istore_n C d_MD_load_53 rfl (by decide) rfl ?_
        refine x_lv [(0, .ref (g 143)), (1, .int (nI ((upN τ i) + 0))), (2, .int (nI ((upR τ i) + 0))), (3, .int (nI i))] ⟨rfl, rfl, rfl, rfl, trivial⟩ ?_
        refine xn_iinc C d_MD_load_54 3 rfl (by decide) rfl ?_
        refine x_goto C 11 d_MD_load_57 (by decide) ?_
        exact x_lv [(0, .ref (g 143)), (1, .int (nI (upN τ (i + 1)))), (2, .int (nI (upR τ (i + 1)))), (3, .int (nI (i + 1)))] ⟨rfl, by rw [upN, if_pos h23]; rfl, by rw [upR, if_pos h23]; rfl, rfl, trivial⟩ (ihi (by omega) trivial)
theorem sw_st {τ : xSig} {f : Nat} : ∀ t x y, ¬ t = 7 → ¬ t = 11 → up3 (up3 τ 2 f 0 0) 3 f 0 0 t x y = fgF τ f t x y := by
  intro t x y h7 h11
  unfold fgF
  simp only [up3, fgL_o _ h7]
  grind
theorem m_MD_sweep {l : Launch} (htr : xTr l) {D : va_G} {a : Nat → ClassId} {base : Nat} {g : Nat → Nat} {n : Nat} {τ : xSig} {v : xWrd} {fc M : Nat} {X : Nat → va_E} (hn : 159 ≤ n) (hI : Inv τ v M) (hM : M ≤ 2 ^ 28)  {k : Nat} (hk : 0 ≤ k) : xM l y_MD_sweep b_MD_sweep 3 (some FieldType.int) k D a base g n (EM a g τ v fc X) [.ref (g 143)] (fun r E' => E' = EM a g (sS τ 8) v 0 X ∧ r = .inl (some (.int (nI (sN τ 8))))) := by
  refine x_method (by decide) htr (Nat.le_of_ble_eq_true rfl) ?_
  intro p e s m args below meth c C hne hret hnm
  have C : xC p l e s m meth c b_MD_sweep 3 "ChunkStoreModel" args D xcl (xty a) base := C
  have hO := hI.ok hM
  have hB : ∀ t i j, τ t i j < 2 ^ 30 := fun t i j => Nat.lt_trans (hO.1 t i j) (by decide)
  have hH := hO.2.2.2.1
  have hcv : ∀ s, s < 5 → τ 11 s 0 = cntV (τ 12 s) 30 := fun s hs => (hI.cnt s hs).1
  refine x_aload_n C d_MD_sweep_0 rfl rfl ?_
  refine x_iconst C (v := nI 0) d_MD_sweep_1 (by decide) ?_
  refine p_MD_failed C hn d_MD_sweep_2 ?_
  refine x_iconst C (v := nI 0) d_MD_sweep_5 (by decide) ?_
  refine x_istore_n C d_MD_sweep_6 rfl (by decide) rfl ?_
  refine x_iconst C (v := nI 0) d_MD_sweep_7 (by decide) ?_
  refine x_istore_n C d_MD_sweep_8 rfl (by decide) rfl ?_
  refine x_loop 8 (fun i => EM a g (sS τ i) v 0 X) (fun i => [(0, .ref (g 143)), (1, .int (nI (sN τ i))), (2, .int (nI i))]) (fun i => True) rfl ⟨rfl, rfl, rfl, trivial⟩ trivial ?_
  intro i hi hIi ihi
  refine x_iload_n C d_MD_sweep_9 rfl rfl ?_
  refine x_bipush C (v := nI 8) d_MD_sweep_10 (by decide) ?_
  refine xn_icmp_ge C (by omega) (by decide) 66 d_MD_sweep_12 (by decide) (fun h12 => ?_) (fun h12 => ?_)
  · refine x_iload_n C d_MD_sweep_66 rfl rfl ?_
    exact x_iret C hret d_MD_sweep_67 ⟨by rw [show i = 8 by omega], by rw [show i = 8 by omega]⟩
  · refine x_aload_n C d_MD_sweep_15 rfl rfl ?_
    refine g_MD_state C hn d_MD_sweep_16 ?_
    refine x_iload_n C d_MD_sweep_19 rfl rfl ?_
    refine e_mstate C (by omega) hn d_MD_sweep_20 ?_
    refine x_iconst C (v := nI 2) d_MD_sweep_21 (by decide) ?_
    refine xn_icmp_ne C (Nat.lt_trans ((sS_M (by decide) hB i) 2 i 0) (by decide)) (by decide) 60 d_MD_sweep_22 (by decide) (fun h22 => ?_) (fun h22 => ?_)
    · refine x_lv [(0, .ref (g 143)), (1, .int (nI (sN τ i))), (2, .int (nI i))] ⟨rfl, rfl, rfl, trivial⟩ ?_
      refine xn_iinc C d_MD_sweep_60 2 rfl (by decide) rfl ?_
      refine x_goto C 9 d_MD_sweep_63 (by decide) ?_
      have hc : ¬ swC (sS τ i) i = true := by simp only [swC, decide_eq_true_eq]; omega
      refine x_E (E' := EM a g (sS τ (i + 1)) v 0 X) (by rw [sS, if_neg hc]) ?_
      exact x_lv [(0, .ref (g 143)), (1, .int (nI (sN τ (i + 1)))), (2, .int (nI (i + 1)))] ⟨rfl, by rw [sN, if_neg hc]; rfl, rfl, trivial⟩ (ihi (by omega) trivial)
    · refine x_aload_n C d_MD_sweep_25 rfl rfl ?_
      refine g_MD_time C hn d_MD_sweep_26 ?_
      refine x_aload_n C d_MD_sweep_29 rfl rfl ?_
      refine g_MD_hidden C hn d_MD_sweep_30 ?_
      refine x_iload_n C d_MD_sweep_33 rfl rfl ?_
      refine e_mhidden C (by omega) hn d_MD_sweep_34 ?_
      refine xn_dsub C (by rw [sS_o _ (by omega), sS_o _ (by omega)]; exact hO.2.2.2.2.2 i (by omega)) (Nat.lt_trans ((sS_M (by decide) hB i) 1 0 0) (by decide)) d_MD_sweep_35 ?_
      refine x_ldc2d C kw738 d_MD_sweep_36 ?_
      refine x_topd (show _ = dT 240 from dT_240i.symm) ?_
      refine xn_dcmp C (Nat.lt_of_le_of_lt (Nat.sub_le _ _) (Nat.lt_trans ((sS_M (by decide) hB i) 1 0 0) (by decide))) (by decide) d_MD_sweep_39 ?_
      refine x_if_lt C 60 d_MD_sweep_40 (by decide) (fun h40 => ?_) (fun h40 => ?_)
      · have h40 := cmpI_lt h40
        refine x_lv [(0, .ref (g 143)), (1, .int (nI (sN τ i))), (2, .int (nI i))] ⟨rfl, rfl, rfl, trivial⟩ ?_
        refine xn_iinc C d_MD_sweep_60 2 rfl (by decide) rfl ?_
        refine x_goto C 9 d_MD_sweep_63 (by decide) ?_
        have hc : ¬ swC (sS τ i) i = true := by simp only [swC, decide_eq_true_eq]; omega
        refine x_E (E' := EM a g (sS τ (i + 1)) v 0 X) (by rw [sS, if_neg hc]) ?_
        exact x_lv [(0, .ref (g 143)), (1, .int (nI (sN τ (i + 1)))), (2, .int (nI (i + 1)))] ⟨rfl, by rw [sN, if_neg hc]; rfl, rfl, trivial⟩ (ihi (by omega) trivial)
      · have h40 := cmpI_nlt h40
        refine x_aload_n C d_MD_sweep_43 rfl rfl ?_
        refine g_MD_state C hn d_MD_sweep_44 ?_
        refine x_iload_n C d_MD_sweep_47 rfl rfl ?_
        refine x_iconst C (v := nI 0) d_MD_sweep_48 (by decide) ?_
        refine a_mstate C (by omega) hn d_MD_sweep_49 ?_
        refine x_aload_n C d_MD_sweep_50 rfl rfl ?_
        refine g_MD_length C hn d_MD_sweep_51 ?_
        refine x_iload_n C d_MD_sweep_54 rfl rfl ?_
        refine x_iconst C (v := nI 0) d_MD_sweep_55 (by decide) ?_
        refine a_mlength C (by omega) hn d_MD_sweep_56 ?_
        refine x_lv [(0, .ref (g 143)), (1, .int (nI (sN τ i))), (2, .int (nI i))] ⟨rfl, rfl, rfl, trivial⟩ ?_
        refine xn_iinc C d_MD_sweep_57 1 rfl (by decide) rfl ?_
        refine x_lv [(0, .ref (g 143)), (1, .int (nI ((sN τ i) + 1))), (2, .int (nI i))] ⟨rfl, rfl, rfl, trivial⟩ ?_
        refine xn_iinc C d_MD_sweep_60 2 rfl (by decide) rfl ?_
        refine x_goto C 9 d_MD_sweep_63 (by decide) ?_
        have hc : swC (sS τ i) i = true := by simp only [swC, decide_eq_true_eq]; omega
        refine x_E (E' := EM a g (sS τ (i + 1)) v 0 X) (by rw [sS, if_pos hc]; exact EM_cg (sw_st) rfl) ?_
        exact x_lv [(0, .ref (g 143)), (1, .int (nI (sN τ (i + 1)))), (2, .int (nI (i + 1)))] ⟨rfl, by rw [sN, if_pos hc]; rfl, rfl, trivial⟩ (ihi (by omega) trivial)
def cpM (τ : xSig) (f t : Nat) : Nat → xSig
  | 0 => up3 (up3 τ 2 t 0 1) 3 t 0 (τ 3 f 0)
  | n + 1 => up3 (up3 (cpM τ f t n) 4 t n (τ 4 f n)) 9 (τ 4 f n) 0 0
theorem cpM_f {τ : xSig} {f t : Nat} (hft : ¬ f = t) (n : Nat) {x z : Nat} (hx : x = 3 ∨ x = 4) : cpM τ f t n x f z = τ x f z := by
  induction n with
  | zero => unfold cpM; unfold up3; rw [if_neg (by omega), if_neg (by omega)]
  | succ n ih => unfold cpM; rw [up3_n (by omega)]; unfold up3; rw [if_neg (by omega), ih]
theorem cpM_B {τ : xSig} {f t : Nat} (hB : ∀ t i j, τ t i j < 2 ^ 30) (n : Nat) : ∀ x y z, cpM τ f t n x y z < 2 ^ 30 := by
  induction n with
  | zero => exact up3_B (up3_B hB (by decide)) (hB _ _ _)
  | succ n ih => exact up3_B (up3_B ih (hB _ _ _)) (by decide)
theorem cp_rel {τ : xSig} {f t : Nat} (h0 : τ 3 t 0 = 0) : ∀ n, n ≤ 3 → cpL τ f t n 3 t 0 = n ∧ ∀ t' x y, ¬ t' = 7 → ¬ (t' = 3 ∧ x = t ∧ y = 0) → cpL τ f t n t' x y = cpM τ f t n t' x y := by
  intro n
  induction n with
  | zero => intro _; exact ⟨by unfold cpL; rw [up3_n (by decide)]; exact h0, fun t' x y h7 h3 => by unfold cpL cpM; rw [show up3 (up3 τ 2 t 0 1) 3 t 0 (τ 3 f 0) t' x y = up3 τ 2 t 0 1 t' x y from if_neg h3]⟩
  | succ n ih =>
    intro hn
    obtain ⟨i1, i2⟩ := ih (by omega)
    have e3 : ∀ c1 c2 c3 v, up3 (up3 (cpL τ f t n) 9 c1 0 c2) 7 c3 0 v 3 t 0 = n := fun c1 c2 c3 v => by rw [up3_n (by decide), up3_n (by decide)]; exact i1
    constructor
    · unfold cpL aeS
      rw [e3, if_pos (by omega), up3_s]
    · intro t' x y h7 h3
      unfold cpL cpM aeS
      rw [e3, if_pos (by omega)]
      rw [show ∀ A : xSig, up3 A 3 t 0 (n + 1) t' x y = A t' x y from fun A => if_neg h3]
      have := i2 t' x y h7 h3
      simp only [up3]
      grind
theorem cp_fin {τ : xSig} {f t : Nat} (hft : ¬ f = t) (h0 : τ 3 t 0 = 0) (h3 : τ 3 f 0 ≤ 3) : ∀ t' x y, ¬ t' = 7 → ¬ t' = 11 → cpM τ f t (τ 3 f 0) t' x y = cpL τ f t (τ 3 f 0) t' x y := by
  intro t' x y h7 h11
  by_cases q : t' = 3 ∧ x = t ∧ y = 0
  · obtain ⟨rfl, rfl, rfl⟩ := q
    rw [(cp_rel h0 _ h3).1]
    have : ∀ n, cpM τ f x n 3 x 0 = τ 3 f 0 := by
      intro n
      induction n with
      | zero => unfold cpM; rw [up3_s]
      | succ n ih => unfold cpM; rw [up3_n (by decide), up3_n (by decide), ih]
    exact this _
  · exact ((cp_rel h0 _ h3).2 t' x y h7 q).symm
theorem m_MD_copy {l : Launch} (htr : xTr l) {D : va_G} {a : Nat → ClassId} {base : Nat} {g : Nat → Nat} {n : Nat} {τ : xSig} {v : xWrd} {fc M : Nat} {X : Nat → va_E} (hn : 159 ≤ n) (hI : Inv τ v M) (hM : M ≤ 2 ^ 28) {x y : Int32}  {k : Nat} (hk : 1 ≤ k) : xM l y_MD_copy b_MD_copy 4 (some FieldType.int) k D a base g n (EM a g τ v fc X) [.ref (g 143), .int x, .int y] (fun r E' => E' = EM a g (if (qc_copy τ x y) = 0 then cpL τ (ix x) (ix y) (τ 3 (ix x) 0) else τ) v (qc_copy τ x y) X ∧ r = mr (qc_copy τ x y) (nI (cpL τ (ix x) (ix y) (τ 3 (ix x) 0) 3 (ix y) 0))) := by
  refine x_method (by decide) htr (Nat.le_of_ble_eq_true rfl) ?_
  intro p e s m args below meth c C hne hret hnm
  have C : xC p l e s m meth c b_MD_copy 4 "ChunkStoreModel" args D xcl (xty a) base := C
  have hO := hI.ok hM
  have hB : ∀ t i j, τ t i j < 2 ^ 30 := fun t i j => Nat.lt_trans (hO.1 t i j) (by decide)
  have hH := hO.2.2.2.1
  have hcv : ∀ s, s < 5 → τ 11 s 0 = cntV (τ 12 s) 30 := fun s hs => (hI.cnt s hs).1
  refine x_aload_n C d_MD_copy_0 rfl rfl ?_
  refine x_iconst C (v := nI 0) d_MD_copy_1 (by decide) ?_
  refine p_MD_failed C hn d_MD_copy_2 ?_
  refine x_aload_n C d_MD_copy_5 rfl rfl ?_
  refine x_iload_n C d_MD_copy_6 rfl rfl ?_
  refine x_bipush C (v := nI 8) d_MD_copy_7 (by decide) ?_
  refine c_MD_MD_out C (by omega) hn (m_MD_out htr hn hB (by decide) (Nat.le_refl _)) rfl rfl (Nat.le_of_ble_eq_true rfl) d_MD_copy_9 (fun v E' hp => ?_) (fun X E' hp => ?_)
  · obtain ⟨rfl, hv⟩ := hp
    cases hv
    refine xn_if_ne C (b01_lt _) 25 d_MD_copy_12 (by decide) (fun h12 => ?_) (fun h12 => ?_)
    · rw [b01_n0] at h12
      have h12 := nb_t h12
      refine x_aload_n C d_MD_copy_25 rfl rfl ?_
      refine x_iconst C (v := nI 1) d_MD_copy_26 (by decide) ?_
      refine c_MD_MD_fail C (by omega) hn (m_MD_fail htr hn hB (Nat.le_refl _)) rfl rfl (Nat.le_of_ble_eq_true rfl) d_MD_copy_27 (fun v E' hp => ?_) (fun X E' hp => ?_)
      · obtain ⟨rfl, hv⟩ := hp
        cases hv
        exact x_iret C hret d_MD_copy_30 ⟨by rw [show qc_copy τ  x y = 1 by rw [qc_copy, if_neg (fun q => h12 q.1)], if_neg (by decide)], by rw [show qc_copy τ  x y = 1 by rw [qc_copy, if_neg (fun q => h12 q.1)]]; rfl⟩
      · cases hp.2
    · rw [b01_0] at h12
      obtain ⟨f, hf, rfl⟩ := inR_of (nb_f h12)
      refine x_aload_n C d_MD_copy_15 rfl rfl ?_
      refine x_iload_n C d_MD_copy_16 rfl rfl ?_
      refine x_bipush C (v := nI 8) d_MD_copy_17 (by decide) ?_
      refine c_MD_MD_out C (by omega) hn (m_MD_out htr hn hB (by decide) (Nat.le_refl _)) rfl rfl (Nat.le_of_ble_eq_true rfl) d_MD_copy_19 (fun v E' hp => ?_) (fun X E' hp => ?_)
      · obtain ⟨rfl, hv⟩ := hp
        cases hv
        refine xn_if_eq C (b01_lt _) 31 d_MD_copy_22 (by decide) (fun h22 => ?_) (fun h22 => ?_)
        · rw [b01_0] at h22
          obtain ⟨t, ht, rfl⟩ := inR_of (nb_f h22)
          refine x_aload_n C d_MD_copy_31 rfl rfl ?_
          refine g_MD_state C hn d_MD_copy_32 ?_
          refine x_iload_n C d_MD_copy_35 rfl rfl ?_
          refine e_mstate C hf hn d_MD_copy_36 ?_
          refine x_iconst C (v := nI 1) d_MD_copy_37 (by decide) ?_
          refine xn_icmp_eq C (Nat.lt_trans (hB 2 f 0) (by decide)) (by decide) 47 d_MD_copy_38 (by decide) (fun h38 => ?_) (fun h38 => ?_)
          · refine x_aload_n C d_MD_copy_47 rfl rfl ?_
            refine g_MD_state C hn d_MD_copy_48 ?_
            refine x_iload_n C d_MD_copy_51 rfl rfl ?_
            refine e_mstate C ht hn d_MD_copy_52 ?_
            refine xn_if_eq C (Nat.lt_trans (hB 2 t 0) (by decide)) 62 d_MD_copy_53 (by decide) (fun h53 => ?_) (fun h53 => ?_)
            · have hft : ¬ f = t := fun q => by rw [q] at h38; omega
              have h0 : τ 3 t 0 = 0 := (hI.file t ht).2.2.1 h53
              refine x_aload_n C d_MD_copy_62 rfl rfl ?_
              refine g_MD_state C hn d_MD_copy_63 ?_
              refine x_iload_n C d_MD_copy_66 rfl rfl ?_
              refine x_iconst C (v := nI 1) d_MD_copy_67 (by decide) ?_
              refine a_mstate C ht hn d_MD_copy_68 ?_
              refine x_aload_n C d_MD_copy_69 rfl rfl ?_
              refine g_MD_length C hn d_MD_copy_70 ?_
              refine x_iload_n C d_MD_copy_73 rfl rfl ?_
              refine x_aload_n C d_MD_copy_74 rfl rfl ?_
              refine g_MD_length C hn d_MD_copy_75 ?_
              refine x_iload_n C d_MD_copy_78 rfl rfl ?_
              refine e_mlength C hf hn d_MD_copy_79 ?_
              refine a_mlength C ht hn d_MD_copy_80 ?_
              refine x_iconst C (v := nI 0) d_MD_copy_81 (by decide) ?_
              refine x_istore_n C d_MD_copy_82 rfl (by decide) rfl ?_
              refine x_loop (τ 3 f 0) (fun i => EM a g (cpM τ f t i) v 0 X) (fun i => [(0, .ref (g 143)), (1, .int (nI f)), (2, .int (nI t)), (3, .int (nI i))]) (fun i => True) (by rw [cpM, up3_n (show ¬ 3 = 2 by decide)]) ⟨rfl, rfl, rfl, rfl, trivial⟩ trivial ?_
              intro i hi hIi ihi
              have h3 := (hI.file f hf).2.1
              refine x_iload_n C d_MD_copy_83 rfl rfl ?_
              refine x_aload_n C d_MD_copy_84 rfl rfl ?_
              refine g_MD_length C hn d_MD_copy_85 ?_
              refine x_iload_n C d_MD_copy_88 rfl rfl ?_
              refine e_mlength C hf hn d_MD_copy_89 ?_
              refine xn_icmp_ge C (by omega) (Nat.lt_trans ((cpM_B hB i) 3 f 0) (by decide)) 137 d_MD_copy_90 (by decide) (fun h90 => ?_) (fun h90 => ?_)
              · rw [cpM_f hft _ (Or.inl rfl)] at h90
                refine x_aload_n C d_MD_copy_137 rfl rfl ?_
                refine g_MD_length C hn d_MD_copy_138 ?_
                refine x_iload_n C d_MD_copy_141 rfl rfl ?_
                refine e_mlength C ht hn d_MD_copy_142 ?_
                exact x_iret C hret d_MD_copy_143 ⟨by rw [show qc_copy τ (nI f) (nI t) = 0 by rw [qc_copy, if_pos ⟨inR_nI hf (by decide), inR_nI ht (by decide)⟩]; simp only [ix_nI (show f < 2 ^ 31 by omega), ix_nI (show t < 2 ^ 31 by omega)]; rw [if_pos h38, if_pos h53], if_pos rfl, ix_nI (show f < 2 ^ 31 by omega), ix_nI (show t < 2 ^ 31 by omega), show i = τ 3 f 0 by omega]; exact EM_cg (cp_fin hft h0 (hI.file f hf).2.1) rfl, by rw [show qc_copy τ (nI f) (nI t) = 0 by rw [qc_copy, if_pos ⟨inR_nI hf (by decide), inR_nI ht (by decide)⟩]; simp only [ix_nI (show f < 2 ^ 31 by omega), ix_nI (show t < 2 ^ 31 by omega)]; rw [if_pos h38, if_pos h53], ix_nI (show f < 2 ^ 31 by omega), ix_nI (show t < 2 ^ 31 by omega), show i = τ 3 f 0 by omega, cp_fin hft h0 (hI.file f hf).2.1 3 t 0 (by decide) (by decide)]; rfl⟩
              · rw [cpM_f hft _ (Or.inl rfl)] at h90
                refine x_aload_n C d_MD_copy_93 rfl rfl ?_
                refine g_MD_row C hn d_MD_copy_94 ?_
                refine x_iconst C (v := nI 3) d_MD_copy_97 (by decide) ?_
                refine x_iload_n C d_MD_copy_98 rfl rfl ?_
                refine xn_imul C d_MD_copy_99 ?_
                refine x_iload_n C d_MD_copy_100 rfl rfl ?_
                refine xn_iadd C d_MD_copy_101 ?_
                refine x_aload_n C d_MD_copy_102 rfl rfl ?_
                refine g_MD_row C hn d_MD_copy_103 ?_
                refine x_iconst C (v := nI 3) d_MD_copy_106 (by decide) ?_
                refine x_iload_n C d_MD_copy_107 rfl rfl ?_
                refine xn_imul C d_MD_copy_108 ?_
                refine x_iload_n C d_MD_copy_109 rfl rfl ?_
                refine xn_iadd C d_MD_copy_110 ?_
                refine e_mrow C hf (by omega) hn d_MD_copy_111 ?_
                refine a_mrow C ht (by omega) hn d_MD_copy_112 ?_
                refine x_aload_n C d_MD_copy_113 rfl rfl ?_
                refine g_MD_lease C hn d_MD_copy_114 ?_
                refine x_aload_n C d_MD_copy_117 rfl rfl ?_
                refine g_MD_row C hn d_MD_copy_118 ?_
                refine x_iconst C (v := nI 3) d_MD_copy_121 (by decide) ?_
                refine x_iload_n C d_MD_copy_122 rfl rfl ?_
                refine xn_imul C d_MD_copy_123 ?_
                refine x_iload_n C d_MD_copy_124 rfl rfl ?_
                refine xn_iadd C d_MD_copy_125 ?_
                refine e_mrow C hf (by omega) hn d_MD_copy_126 ?_
                refine x_ldc2d C kw566 d_MD_copy_127 ?_
                refine a_mlease0 C (by simp only [show ∀ A : xSig, ∀ z, up3 A 4 t i z 4 f i = A 4 f i from fun A z => if_neg (fun r => hft r.2.1), cpM_f hft _ (Or.inr rfl)]; exact Nat.lt_of_lt_of_le ((hO.2.2.1 f hf).2 i h90) hO.2.1) hn d_MD_copy_130 ?_
                refine x_lv [(0, .ref (g 143)), (1, .int (nI f)), (2, .int (nI t)), (3, .int (nI i))] ⟨rfl, rfl, rfl, rfl, trivial⟩ ?_
                refine xn_iinc C d_MD_copy_131 3 rfl (by decide) rfl ?_
                refine x_goto C 83 d_MD_copy_134 (by decide) ?_
                refine x_E (E' := EM a g (cpM τ f t (i + 1)) v 0 X) (by simp only [show ∀ A : xSig, ∀ z, up3 A 4 t i z 4 f i = A 4 f i from fun A z => if_neg (fun r => hft r.2.1), cpM_f hft _ (Or.inr rfl)]; rfl) ?_
                exact x_lv [(0, .ref (g 143)), (1, .int (nI f)), (2, .int (nI t)), (3, .int (nI (i + 1)))] ⟨rfl, rfl, rfl, rfl, trivial⟩ (ihi (by omega) trivial)
            · refine x_aload_n C d_MD_copy_56 rfl rfl ?_
              refine x_iconst C (v := nI 3) d_MD_copy_57 (by decide) ?_
              refine c_MD_MD_fail C (by omega) hn (m_MD_fail htr hn hB (Nat.le_refl _)) rfl rfl (Nat.le_of_ble_eq_true rfl) d_MD_copy_58 (fun v E' hp => ?_) (fun X E' hp => ?_)
              · obtain ⟨rfl, hv⟩ := hp
                cases hv
                exact x_iret C hret d_MD_copy_61 ⟨by rw [show qc_copy τ (nI f) (nI t) = 3 by rw [qc_copy, if_pos ⟨inR_nI hf (by decide), inR_nI ht (by decide)⟩]; simp only [ix_nI (show f < 2 ^ 31 by omega), ix_nI (show t < 2 ^ 31 by omega)]; rw [if_pos h38, if_neg h53], if_neg (by decide)], by rw [show qc_copy τ (nI f) (nI t) = 3 by rw [qc_copy, if_pos ⟨inR_nI hf (by decide), inR_nI ht (by decide)⟩]; simp only [ix_nI (show f < 2 ^ 31 by omega), ix_nI (show t < 2 ^ 31 by omega)]; rw [if_pos h38, if_neg h53]]; rfl⟩
              · cases hp.2
          · refine x_aload_n C d_MD_copy_41 rfl rfl ?_
            refine x_iconst C (v := nI 2) d_MD_copy_42 (by decide) ?_
            refine c_MD_MD_fail C (by omega) hn (m_MD_fail htr hn hB (Nat.le_refl _)) rfl rfl (Nat.le_of_ble_eq_true rfl) d_MD_copy_43 (fun v E' hp => ?_) (fun X E' hp => ?_)
            · obtain ⟨rfl, hv⟩ := hp
              cases hv
              exact x_iret C hret d_MD_copy_46 ⟨by rw [show qc_copy τ (nI f) (nI t) = 2 by rw [qc_copy, if_pos ⟨inR_nI hf (by decide), inR_nI ht (by decide)⟩]; simp only [ix_nI (show f < 2 ^ 31 by omega), ix_nI (show t < 2 ^ 31 by omega)]; rw [if_neg h38], if_neg (by decide)], by rw [show qc_copy τ (nI f) (nI t) = 2 by rw [qc_copy, if_pos ⟨inR_nI hf (by decide), inR_nI ht (by decide)⟩]; simp only [ix_nI (show f < 2 ^ 31 by omega), ix_nI (show t < 2 ^ 31 by omega)]; rw [if_neg h38]]; rfl⟩
            · cases hp.2
        · rw [b01_n0] at h22
          have h22 := nb_t h22
          refine x_aload_n C d_MD_copy_25 rfl rfl ?_
          refine x_iconst C (v := nI 1) d_MD_copy_26 (by decide) ?_
          refine c_MD_MD_fail C (by omega) hn (m_MD_fail htr hn hB (Nat.le_refl _)) rfl rfl (Nat.le_of_ble_eq_true rfl) d_MD_copy_27 (fun v E' hp => ?_) (fun X E' hp => ?_)
          · obtain ⟨rfl, hv⟩ := hp
            cases hv
            exact x_iret C hret d_MD_copy_30 ⟨by rw [show qc_copy τ (nI f) y = 1 by rw [qc_copy, if_neg (fun q => h22 q.2)], if_neg (by decide)], by rw [show qc_copy τ (nI f) y = 1 by rw [qc_copy, if_neg (fun q => h22 q.2)]]; rfl⟩
          · cases hp.2
      · cases hp.2
  · cases hp.2
end XN6
