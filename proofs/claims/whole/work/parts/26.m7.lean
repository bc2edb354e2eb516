section XM7
theorem m_CS_chunk {l : Launch} (htr : xTr l) {D : va_G} {a : Nat → ClassId} {base : Nat} {g : Nat → Nat} {n : Nat} {σ : xSig} {w : xWrd} {Y : Nat → va_E} (hn : 143 ≤ n) (hO : Ok σ) {x y : Int32}  {k : Nat} (hk : 2 ≤ k) : xM l y_CS_chunk b_CS_chunk 4 (some FieldType.int) k D a base g n (EL a g σ w Y) [.ref (g 0), .int x, .int y] (fun r E' => E' = EL a g σ w Y ∧ r = cr [e_IA, e_NS] (qc_chunk σ x y) (.int (qa_chunk σ (ix x) (ix y)))) := by
  refine x_method (by decide) htr (Nat.le_of_ble_eq_true rfl) ?_
  intro p e s m args below meth c C hne hret hnm
  have C : xC p l e s m meth c b_CS_chunk 4 "ChunkStore" args D xcl (xty a) base := C
  have hB : ∀ t i j, σ t i j < 2 ^ 30 := fun t i j => Nat.lt_trans (hO.1 t i j) (by decide)
  have hH := hO.2.2.2.1
  have hS : ∀ i, σ 11 i 0 < 2 ^ 29 := fun i => Nat.lt_trans (hO.1 _ _ _) (by decide)
  refine x_iload_n C d_CS_chunk_0 rfl rfl ?_
  refine x_bipush C (v := nI 30) d_CS_chunk_1 (by decide) ?_
  refine c_CS_CS_checkRange C (by omega) (m_CS_checkRange htr (by decide) (Nat.le_refl _)) rfl rfl (Nat.le_of_ble_eq_true rfl) d_CS_chunk_3 (fun v E' hp => ?_) (fun X E' hp => ?_)
  · obtain ⟨rfl, hv⟩ := hp
    obtain ⟨h3, rfl⟩ := rif_l hv
    obtain ⟨i, hi, rfl⟩ := inR_of h3
    refine x_iload_n C d_CS_chunk_6 rfl rfl ?_
    refine x_iconst C (v := nI 5) d_CS_chunk_7 (by decide) ?_
    refine c_CS_CS_checkRange C (by omega) (m_CS_checkRange htr (by decide) (Nat.le_refl _)) rfl rfl (Nat.le_of_ble_eq_true rfl) d_CS_chunk_8 (fun v E' hp => ?_) (fun X E' hp => ?_)
    · obtain ⟨rfl, hv⟩ := hp
      obtain ⟨h8, rfl⟩ := rif_l hv
      obtain ⟨u, hu, rfl⟩ := inR_of h8
      refine x_iload_n C d_CS_chunk_11 rfl rfl ?_
      refine x_aload_n C d_CS_chunk_12 rfl rfl ?_
      refine g_CS_cs_made C hn d_CS_chunk_13 ?_
      refine xn_icmp_lt C (Nat.lt_trans hi (by decide)) (Nat.lt_trans (hB 0 0 0) (by decide)) 29 d_CS_chunk_16 (by decide) (fun h16 => ?_) (fun h16 => ?_)
      · refine x_aload_n C d_CS_chunk_29 rfl rfl ?_
        refine g_CS_cs_chunks C hn d_CS_chunk_30 ?_
        refine x_iload_n C d_CS_chunk_33 rfl rfl ?_
        refine e_arrC C hi hn d_CS_chunk_34 ?_
        refine x_astore_n C d_CS_chunk_35 rfl (by decide) rfl ?_
        refine x_iload_n C d_CS_chunk_36 rfl rfl ?_
        have hsw : u = 0 ∨ u = 1 ∨ u = 2 ∨ u = 3 ∨ u = 4 := by omega
        rcases hsw with rfl | rfl | rfl | rfl | rfl
        · refine x_tableIn C 68 d_CS_chunk_37 (by decide) (by decide) rfl (by decide) ?_
          refine x_aload_n C d_CS_chunk_68 rfl rfl ?_
          refine g_CS_chunk_version C hi hn d_CS_chunk_69 ?_
          exact x_iret C hret d_CS_chunk_72 ⟨rfl, by rw [show qc_chunk σ (nI i) (nI 0) = 0 by rw [qc_chunk, if_pos ⟨inR_nI hi (by decide), inR_nI (show 0 < 5 by decide) (by decide)⟩]; simp only [ix_nI (show i < 2 ^ 31 by omega), ix_nI (show 0 < 2 ^ 31 by omega)]; rw [if_pos h16], ix_nI (show i < 2 ^ 31 by omega), ix_nI (show 0 < 2 ^ 31 by omega)]; rfl⟩
        · refine x_tableIn C 73 d_CS_chunk_37 (by decide) (by decide) rfl (by decide) ?_
          refine x_aload_n C d_CS_chunk_73 rfl rfl ?_
          refine g_CS_chunk_refs C hi hn d_CS_chunk_74 ?_
          exact x_iret C hret d_CS_chunk_77 ⟨rfl, by rw [show qc_chunk σ (nI i) (nI 1) = 0 by rw [qc_chunk, if_pos ⟨inR_nI hi (by decide), inR_nI (show 1 < 5 by decide) (by decide)⟩]; simp only [ix_nI (show i < 2 ^ 31 by omega), ix_nI (show 1 < 2 ^ 31 by omega)]; rw [if_pos h16], ix_nI (show i < 2 ^ 31 by omega), ix_nI (show 1 < 2 ^ 31 by omega)]; rfl⟩
        · refine x_tableIn C 78 d_CS_chunk_37 (by decide) (by decide) rfl (by decide) ?_
          refine x_aload_n C d_CS_chunk_78 rfl rfl ?_
          refine g_CS_chunk_holders C hi hn d_CS_chunk_79 ?_
          exact x_iret C hret d_CS_chunk_82 ⟨rfl, by rw [show qc_chunk σ (nI i) (nI 2) = 0 by rw [qc_chunk, if_pos ⟨inR_nI hi (by decide), inR_nI (show 2 < 5 by decide) (by decide)⟩]; simp only [ix_nI (show i < 2 ^ 31 by omega), ix_nI (show 2 < 2 ^ 31 by omega)]; rw [if_pos h16], ix_nI (show i < 2 ^ 31 by omega), ix_nI (show 2 < 2 ^ 31 by omega)]; rfl⟩
        · refine x_tableIn C 83 d_CS_chunk_37 (by decide) (by decide) rfl (by decide) ?_
          refine x_aload_n C d_CS_chunk_83 rfl rfl ?_
          refine x_iload_n C d_CS_chunk_84 rfl rfl ?_
          refine c_CS_CS_liveHolders C (by omega) hn (m_CS_liveHolders htr hn hB hH hi (Nat.le_refl _)) rfl rfl (Nat.le_of_ble_eq_true rfl) d_CS_chunk_85 (fun v E' hp => ?_) (fun X E' hp => ?_)
          · obtain ⟨rfl, hv⟩ := hp
            cases hv
            refine c_CS_IN_bitCount C (by omega) (m_IN_bitCount htr (lvh_lt _ _) (Nat.le_refl _)) rfl rfl (Nat.le_of_ble_eq_true rfl) d_CS_chunk_88 (fun v E' hp => ?_) (fun X E' hp => ?_)
            · obtain ⟨rfl, hv⟩ := hp
              cases hv
              exact x_iret C hret d_CS_chunk_91 ⟨rfl, by rw [show qc_chunk σ (nI i) (nI 3) = 0 by rw [qc_chunk, if_pos ⟨inR_nI hi (by decide), inR_nI (show 3 < 5 by decide) (by decide)⟩]; simp only [ix_nI (show i < 2 ^ 31 by omega), ix_nI (show 3 < 2 ^ 31 by omega)]; rw [if_pos h16], ix_nI (show i < 2 ^ 31 by omega), ix_nI (show 3 < 2 ^ 31 by omega)]; rfl⟩
            · cases hp.2
          · cases hp.2
        · refine x_tableOut C 92 d_CS_chunk_37 (by decide) (by decide) ?_
          refine x_aload_n C d_CS_chunk_92 rfl rfl ?_
          refine x_aload_n C d_CS_chunk_93 rfl rfl ?_
          refine c_CS_CS_isLeased C (by omega) hn (m_CS_isLeased htr hn hB hi (Nat.le_refl _)) rfl rfl (Nat.le_of_ble_eq_true rfl) d_CS_chunk_94 (fun v E' hp => ?_) (fun X E' hp => ?_)
          · obtain ⟨rfl, hv⟩ := hp
            cases hv
            refine xn_if_eq C (b01_lt _) 104 d_CS_chunk_97 (by decide) (fun h97 => ?_) (fun h97 => ?_)
            · rw [b01_0] at h97
              have h97 := of_decide_eq_false h97
              refine x_iconst C (v := nI 0) d_CS_chunk_104 (by decide) ?_
              exact x_iret C hret d_CS_chunk_105 ⟨rfl, by rw [show qc_chunk σ (nI i) (nI 4) = 0 by rw [qc_chunk, if_pos ⟨inR_nI hi (by decide), inR_nI (show 4 < 5 by decide) (by decide)⟩]; simp only [ix_nI (show i < 2 ^ 31 by omega), ix_nI (show 4 < 2 ^ 31 by omega)]; rw [if_pos h16], ix_nI (show i < 2 ^ 31 by omega), ix_nI (show 4 < 2 ^ 31 by omega), show qa_chunk σ i 4 = nI (b01 (decide (σ 1 0 0 < σ 9 i 0))) from rfl, b01_f (decide_eq_false h97)]; rfl⟩
            · rw [b01_n0] at h97
              have h97 := of_decide_eq_true h97
              refine x_iconst C (v := nI 1) d_CS_chunk_100 (by decide) ?_
              refine x_goto C 105 d_CS_chunk_101 (by decide) ?_
              exact x_iret C hret d_CS_chunk_105 ⟨rfl, by rw [show qc_chunk σ (nI i) (nI 4) = 0 by rw [qc_chunk, if_pos ⟨inR_nI hi (by decide), inR_nI (show 4 < 5 by decide) (by decide)⟩]; simp only [ix_nI (show i < 2 ^ 31 by omega), ix_nI (show 4 < 2 ^ 31 by omega)]; rw [if_pos h16], ix_nI (show i < 2 ^ 31 by omega), ix_nI (show 4 < 2 ^ 31 by omega), show qa_chunk σ i 4 = nI (b01 (decide (σ 1 0 0 < σ 9 i 0))) from rfl, b01_t (decide_eq_true h97)]; rfl⟩
          · cases hp.2
      · exact th_NS C hne (Nat.le_of_ble_eq_true rfl) d_CS_chunk_19 d_CS_chunk_22 d_CS_chunk_23 d_CS_chunk_25 d_CS_chunk_28 (tx := "the chunk was not made") (by decide) ⟨rfl, by rw [show qc_chunk σ (nI i) (nI u) = 2 by rw [qc_chunk, if_pos ⟨inR_nI hi (by decide), inR_nI hu (by decide)⟩]; simp only [ix_nI (show i < 2 ^ 31 by omega), ix_nI (show u < 2 ^ 31 by omega)]; rw [if_neg (by omega)]]; rfl⟩
    · obtain ⟨rfl, hv⟩ := hp
      obtain ⟨h8, rfl⟩ := rif_r hv
      exact x_prop C hne (Nat.le_refl _) (Nat.le_refl _) ⟨rfl, by rw [show qc_chunk σ (nI i) y = 1 by rw [qc_chunk, if_neg (fun q => h8 q.2)]]; rfl⟩
  · obtain ⟨rfl, hv⟩ := hp
    obtain ⟨h3, rfl⟩ := rif_r hv
    exact x_prop C hne (Nat.le_refl _) (Nat.le_refl _) ⟨rfl, by rw [show qc_chunk σ  x y = 1 by rw [qc_chunk, if_neg (fun q => h3 q.1)]]; rfl⟩
def upN (σ : xSig) : Nat → Nat
  | 0 => 0
  | n + 1 => if σ 10 n 0 = 0 then upN σ n else upN σ n + 1
def upR (σ : xSig) : Nat → Nat
  | 0 => 0
  | n + 1 => if σ 10 n 0 = 0 then upR σ n else upR σ n + σ 11 n 0
theorem upN_le (σ : xSig) : ∀ n, upN σ n ≤ n := by
  intro n
  induction n with
  | zero => exact Nat.le_refl _
  | succ n ih => unfold upN; split <;> omega
theorem upR_le {σ : xSig} (h : ∀ i, i < 5 → σ 11 i 0 ≤ 30) : ∀ n, n ≤ 5 → upR σ n ≤ 30 * n := by
  intro n
  induction n with
  | zero => intro _; exact Nat.le_refl _
  | succ n ih => intro hn; have := ih (by omega); have := h n (by omega); unfold upR; split <;> omega
theorem ld_n : ∀ a, a ≤ 150 → ∀ b, b ≤ 5 → b ≠ 0 → vf_n64 (FP.ddiv (FP.i2d (nI a)) (FP.i2d (nI b))) := by
  intro a ha b hb h0
  apply x_n64
  have h : ∀ a, a ≤ 150 → ∀ b, b ≤ 5 → b ≠ 0 → (match FP.Core.val64 (FP.ddiv (FP.i2d (nI a)) (FP.i2d (nI b))) with | .nan => false | _ => true) = true := by decide +kernel
  have := h a ha b hb h0
  intro q
  rw [q] at this
  cases this
def qc_load (σ : xSig) : Nat := if upN σ 5 = 0 then 1 else 0
def qa_load (σ : xSig) : UInt64 := FP.ddiv (FP.i2d (nI (upR σ 5))) (FP.i2d (nI (upN σ 5)))
theorem m_CS_load {l : Launch} (htr : xTr l) {D : va_G} {a : Nat → ClassId} {base : Nat} {g : Nat → Nat} {n : Nat} {σ : xSig} {w : xWrd} {Y : Nat → va_E} (hn : 143 ≤ n) (hO : Ok σ) (hR : ∀ i, i < 5 → σ 11 i 0 ≤ 30) {k : Nat} (hk : 0 ≤ k) : xM l y_CS_load b_CS_load 4 (some FieldType.double) k D a base g n (EL a g σ w Y) [.ref (g 0)] (fun r E' => E' = EL a g σ w Y ∧ r = cr [e_AR] (qc_load σ) (.double (qa_load σ))) := by
  refine x_method (by decide) htr (Nat.le_of_ble_eq_true rfl) ?_
  intro p e s m args below meth c C hne hret hnm
  have C : xC p l e s m meth c b_CS_load 4 "ChunkStore" args D xcl (xty a) base := C
  have hB : ∀ t i j, σ t i j < 2 ^ 30 := fun t i j => Nat.lt_trans (hO.1 t i j) (by decide)
  have hH := hO.2.2.2.1
  have hS : ∀ i, σ 11 i 0 < 2 ^ 29 := fun i => Nat.lt_trans (hO.1 _ _ _) (by decide)
  refine x_iconst C (v := nI 0) d_CS_load_0 (by decide) ?_
  refine x_istore_n C d_CS_load_1 rfl (by decide) rfl ?_
  refine x_iconst C (v := nI 0) d_CS_load_2 (by decide) ?_
  refine x_istore_n C d_CS_load_3 rfl (by decide) rfl ?_
  refine x_iconst C (v := nI 0) d_CS_load_4 (by decide) ?_
  refine x_istore_n C d_CS_load_5 rfl (by decide) rfl ?_
  refine x_loop 5 (fun i => EL a g σ w Y) (fun i => [(0, .ref (g (0))), (1, .int (nI (upN σ i))), (2, .int (nI (upR σ i))), (3, .int (nI i))]) (fun i => True) rfl ⟨rfl, rfl, rfl, rfl, trivial⟩ trivial ?_
  intro i hi hIi ihi
  refine x_iload_n C d_CS_load_6 rfl rfl ?_
  refine x_iconst C (v := nI 5) d_CS_load_7 (by decide) ?_
  refine xn_icmp_ge C (by omega) (by decide) 44 d_CS_load_8 (by decide) (fun h8 => ?_) (fun h8 => ?_)
  · refine x_iload_n C d_CS_load_44 rfl rfl ?_
    refine xn_if_ne C (by have := upN_le σ i; omega) 58 d_CS_load_45 (by decide) (fun h45 => ?_) (fun h45 => ?_)
    · refine x_iload_n C d_CS_load_58 rfl rfl ?_
      refine x_i2d C d_CS_load_59 ?_
      refine x_iload_n C d_CS_load_60 rfl rfl ?_
      refine x_i2d C d_CS_load_61 ?_
      refine x_ddiv (v := 0) C d_CS_load_62 (ld_n _ (by have := upR_le hR i (by omega); omega) _ (by have := upN_le σ i; omega) h45) ?_
      exact x_dret C hret d_CS_load_63 ⟨rfl, by have e : i = 5 := (by omega); subst e; rw [show qc_load σ = 0 by rw [qc_load, if_neg h45]]; rfl⟩
    · exact th_AR C hne (Nat.le_of_ble_eq_true rfl) d_CS_load_48 d_CS_load_51 d_CS_load_52 d_CS_load_54 d_CS_load_57 (tx := "no server is up") (by decide) ⟨rfl, by rw [show qc_load σ = 1 by rw [qc_load, ← show i = 5 by omega, if_pos h45]]; rfl⟩
  · refine x_aload_n C d_CS_load_11 rfl rfl ?_
    refine g_CS_cs_servers C hn d_CS_load_12 ?_
    refine x_iload_n C d_CS_load_15 rfl rfl ?_
    refine e_arrS C (by omega) hn d_CS_load_16 ?_
    refine g_CS_server_isUp C (by omega) hn d_CS_load_17 ?_
    refine xn_if_eq C (Nat.lt_trans (hB 10 i 0) (by decide)) 38 d_CS_load_20 (by decide) (fun h20 => ?_) (fun h20 => ?_)
    · refine x_lv [(0, .ref (g (0))), (1, .int (nI (upN σ i))), (2, .int (nI (upR σ i))), (3, .int (nI i))] ⟨rfl, rfl, rfl, rfl, trivial⟩ ?_
      refine xn_iinc C d_CS_load_38 3 rfl (by decide) rfl ?_
      refine x_goto C 6 d_CS_load_41 (by decide) ?_
      exact x_lv [(0, .ref (g (0))), (1, .int (nI (upN σ (i + 1)))), (2, .int (nI (upR σ (i + 1)))), (3, .int (nI (i + 1)))] ⟨rfl, by rw [upN, if_pos h20]; rfl, by rw [upR, if_pos h20]; rfl, rfl, trivial⟩ (ihi (by omega) trivial)
    · refine x_lv [(0, .ref (g (0))), (1, .int (nI (upN σ i))), (2, .int (nI (upR σ i))), (3, .int (nI i))] ⟨rfl, rfl, rfl, rfl, trivial⟩ ?_
      refine xn_iinc C d_CS_load_23 1 rfl (by decide) rfl ?_
      refine x_iload_n C d_CS_load_26 rfl rfl ?_
      refine x_aload_n C d_CS_load_27 rfl rfl ?_
      refine g_CS_cs_servers C hn d_CS_load_28 ?_
      refine x_iload_n C d_CS_load_31 rfl rfl ?_
      refine e_arrS C (by omega) hn d_CS_load_32 ?_
      refine g_CS_server_replicas C (by omega) hn d_CS_load_33 ?_
      refine xn_iadd C d_CS_load_36 ?_
      refine x_istore_n C d_CS_load_37 rfl (by decide) rfl ?_
      refine x_lv [(0, .ref (g (0))), (1, .int (nI ((upN σ i) + 1))), (2, .int (nI ((upR σ i) + (σ 11 i 0)))), (3, .int (nI i))] ⟨rfl, rfl, rfl, rfl, trivial⟩ ?_
      refine xn_iinc C d_CS_load_38 3 rfl (by decide) rfl ?_
      refine x_goto C 6 d_CS_load_41 (by decide) ?_
      exact x_lv [(0, .ref (g (0))), (1, .int (nI (upN σ (i + 1)))), (2, .int (nI (upR σ (i + 1)))), (3, .int (nI (i + 1)))] ⟨rfl, by rw [upN, if_neg h20]; rfl, by rw [upR, if_neg h20]; rfl, rfl, trivial⟩ (ihi (by omega) trivial)
def qc_tick (n : Nat) : Nat := if n ≤ 800 then 0 else 1
theorem m_CS_tick {l : Launch} (htr : xTr l) {D : va_G} {a : Nat → ClassId} {base : Nat} {g : Nat → Nat} {n : Nat} {σ : xSig} {w : xWrd} {Y : Nat → va_E} (hn : 143 ≤ n) (hO : Ok σ) {d : Nat} (hd : d < 2 ^ 31) {k : Nat} (hk : 0 ≤ k) : xM l y_CS_tick b_CS_tick 3 (some FieldType.double) k D a base g n (EL a g σ w Y) [.ref (g 0), .double (dT d)] (fun r E' => E' = EL a g (if qc_tick d = 0 then up3 σ 1 0 0 (σ 1 0 0 + d) else σ) w Y ∧ r = cr [e_IA] (qc_tick d) (.double (dT (σ 1 0 0 + d)))) := by
  refine x_method (by decide) htr (Nat.le_of_ble_eq_true rfl) ?_
  intro p e s m args below meth c C hne hret hnm
  have C : xC p l e s m meth c b_CS_tick 3 "ChunkStore" args D xcl (xty a) base := C
  have hB : ∀ t i j, σ t i j < 2 ^ 30 := fun t i j => Nat.lt_trans (hO.1 t i j) (by decide)
  have hH := hO.2.2.2.1
  have hS : ∀ i, σ 11 i 0 < 2 ^ 29 := fun i => Nat.lt_trans (hO.1 _ _ _) (by decide)
  refine x_dload_n C d_CS_tick_0 rfl rfl ?_
  refine x_dconst0 C d_CS_tick_1 ?_
  refine x_topd (show FP.dconst0 = dT 0 from dT_0.symm) ?_
  refine xn_dcmp C (by omega) (by decide) d_CS_tick_2 ?_
  refine x_if_lt C 14 d_CS_tick_3 (by decide) (fun h3 => ?_) (fun h3 => ?_)
  · have h3 := cmpI_lt h3
    exact th_IA C hne (Nat.le_of_ble_eq_true rfl) d_CS_tick_14 d_CS_tick_17 d_CS_tick_18 d_CS_tick_20 d_CS_tick_23 (tx := "a span out of range") (by decide) (by first | exact absurd h3 (by omega) | exact ⟨by rw [show qc_tick d = 1 by rw [qc_tick, if_neg (by omega)], if_neg (by decide)], by rw [show qc_tick d = 1 by rw [qc_tick, if_neg (by omega)]]; rfl⟩)
  · have h3 := cmpI_nlt h3
    refine x_dload_n C d_CS_tick_6 rfl rfl ?_
    refine x_ldc2d C kw511 d_CS_tick_7 ?_
    refine x_topd (show _ = dT 800 from dT_800.symm) ?_
    refine xn_dcmp C (by omega) (by decide) d_CS_tick_10 ?_
    refine x_if_le C 24 d_CS_tick_11 (by decide) (fun h11 => ?_) (fun h11 => ?_)
    · have h11 := cmpI_le h11
      refine x_aload_n C d_CS_tick_24 rfl rfl ?_
      refine x_dup C d_CS_tick_25 rfl ?_
      refine g_CS_cs_time C hn d_CS_tick_26 ?_
      refine x_dload_n C d_CS_tick_29 rfl rfl ?_
      refine xn_dadd C (by have := hB 1 0 0; omega) d_CS_tick_30 ?_
      refine p_CS_cs_time C hn d_CS_tick_31 ?_
      refine x_aload_n C d_CS_tick_34 rfl rfl ?_
      refine g_CS_cs_time C hn d_CS_tick_35 ?_
      exact x_dret C hret d_CS_tick_38 ⟨by rw [show qc_tick d = 0 by rw [qc_tick, if_pos h11], if_pos rfl], by rw [show qc_tick d = 0 by rw [qc_tick, if_pos h11], up3_s]; rfl⟩
    · have h11 := cmpI_nle h11
      exact th_IA C hne (Nat.le_of_ble_eq_true rfl) d_CS_tick_14 d_CS_tick_17 d_CS_tick_18 d_CS_tick_20 d_CS_tick_23 (tx := "a span out of range") (by decide) (by first | exact absurd h3 (by omega) | exact ⟨by rw [show qc_tick d = 1 by rw [qc_tick, if_neg (by omega)], if_neg (by decide)], by rw [show qc_tick d = 1 by rw [qc_tick, if_neg (by omega)]]; rfl⟩)
end XM7
