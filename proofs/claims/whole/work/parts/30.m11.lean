section XM11
def fgF (τ : xSig) (f : Nat) : xSig := up3 (up3 (fgL τ f (τ 3 f 0)) 3 f 0 0) 2 f 0 0
def swC (τ : xSig) (f : Nat) : Bool := decide (τ 2 f 0 = 2 ∧ 240 ≤ τ 1 0 0 - τ 5 f 0)
def sS (σ : xSig) : Nat → xSig
  | 0 => σ
  | n + 1 => if swC (sS σ n) n = true then fgF (sS σ n) n else sS σ n
def sN (σ : xSig) : Nat → Nat
  | 0 => 0
  | n + 1 => if swC (sS σ n) n = true then sN σ n + 1 else sN σ n
theorem fgF_o {τ : xSig} {f t i j : Nat} (h : ¬ t = 7 ∧ ¬ (t = 3 ∧ i = f) ∧ ¬ (t = 2 ∧ i = f)) : fgF τ f t i j = τ t i j := by
  unfold fgF
  rw [show up3 (up3 (fgL τ f (τ 3 f 0)) 3 f 0 0) 2 f 0 0 t i j = fgL τ f (τ 3 f 0) t i j by unfold up3; rw [if_neg (fun q => h.2.2 ⟨q.1, q.2.1⟩), if_neg (fun q => h.2.1 ⟨q.1, q.2.1⟩)], fgL_o _ h.1]
theorem sS_o {σ : xSig} (n : Nat) {t i j : Nat} (h : ¬ t = 7 ∧ ¬ ((t = 3 ∨ t = 2) ∧ i < n)) : sS σ n t i j = σ t i j := by
  induction n with
  | zero => rfl
  | succ n ih =>
    unfold sS
    split
    · rw [fgF_o (by omega), ih (by omega)]
    · exact ih (by omega)
theorem fgL_M {σ : xSig} {f M : Nat} (hB : ∀ t i j, σ t i j < M) : ∀ n t i j, fgL σ f n t i j < M := by
  intro n
  induction n with
  | zero => exact hB
  | succ n ih => exact up3_M ih (Nat.lt_of_le_of_lt (Nat.sub_le _ _) (ih _ _ _))
theorem sS_M {σ : xSig} {M : Nat} (hM : 0 < M) (hB : ∀ t i j, σ t i j < M) : ∀ n t i j, sS σ n t i j < M := by
  intro n
  induction n with
  | zero => exact hB
  | succ n ih =>
    unfold sS
    split
    · exact up3_M (up3_M (fgL_M ih _) hM) hM
    · exact ih
theorem sN_le (σ : xSig) : ∀ n, sN σ n ≤ n := by
  intro n
  induction n with
  | zero => exact Nat.le_refl _
  | succ n ih => unfold sN; split <;> omega
theorem m_CS_sweep {l : Launch} (htr : xTr l) {D : va_G} {a : Nat → ClassId} {base : Nat} {g : Nat → Nat} {n : Nat} {σ : xSig} {w : xWrd} {Y : Nat → va_E} (hn : 143 ≤ n) (hO : Ok σ) (hg : ∀ n, n < 8 → ∀ j, j < sS σ n 3 n 0 → 1 ≤ fgL (sS σ n) n j 7 (sS σ n 4 n j) 0) {k : Nat} (hk : 1 ≤ k) : xM l y_CS_sweep b_CS_sweep 3 (some FieldType.int) k D a base g n (EL a g σ w Y) [.ref (g 0)] (fun r E' => E' = EL a g (sS σ 8) w Y ∧ r = .inl (some (.int (nI (sN σ 8))))) := by
  refine x_method (by decide) htr (Nat.le_of_ble_eq_true rfl) ?_
  intro p e s m args below meth c C hne hret hnm
  have C : xC p l e s m meth c b_CS_sweep 3 "ChunkStore" args D xcl (xty a) base := C
  have hB : ∀ t i j, σ t i j < 2 ^ 30 := fun t i j => Nat.lt_trans (hO.1 t i j) (by decide)
  have hH := hO.2.2.2.1
  have hS : ∀ i, σ 11 i 0 < 2 ^ 29 := fun i => Nat.lt_trans (hO.1 _ _ _) (by decide)
  refine x_iconst C (v := nI 0) d_CS_sweep_0 (by decide) ?_
  refine x_istore_n C d_CS_sweep_1 rfl (by decide) rfl ?_
  refine x_iconst C (v := nI 0) d_CS_sweep_2 (by decide) ?_
  refine x_istore_n C d_CS_sweep_3 rfl (by decide) rfl ?_
  refine x_loop 8 (fun i => EL a g (sS σ i) w Y) (fun i => [(0, .ref (g (0))), (1, .int (nI (sN σ i))), (2, .int (nI i))]) (fun i => True) rfl ⟨rfl, rfl, rfl, trivial⟩ trivial ?_
  intro i hi hIi ihi
  refine x_iload_n C d_CS_sweep_4 rfl rfl ?_
  refine x_bipush C (v := nI 8) d_CS_sweep_5 (by decide) ?_
  refine xn_icmp_ge C (by omega) (by decide) 63 d_CS_sweep_7 (by decide) (fun h7 => ?_) (fun h7 => ?_)
  · refine x_iload_n C d_CS_sweep_63 rfl rfl ?_
    exact x_iret C hret d_CS_sweep_64 ⟨by rw [show i = 8 by omega], by rw [show i = 8 by omega]⟩
  · refine x_aload_n C d_CS_sweep_10 rfl rfl ?_
    refine g_CS_cs_files C hn d_CS_sweep_11 ?_
    refine x_iload_n C d_CS_sweep_14 rfl rfl ?_
    refine e_arrF C (by omega) hn d_CS_sweep_15 ?_
    refine g_CS_file_state C (by omega) hn d_CS_sweep_16 ?_
    refine x_iconst C (v := nI 2) d_CS_sweep_19 (by decide) ?_
    refine xn_icmp_ne C (Nat.lt_trans ((sS_M (by decide) hB i) 2 i 0) (by decide)) (by decide) 57 d_CS_sweep_20 (by decide) (fun h20 => ?_) (fun h20 => ?_)
    · refine x_lv [(0, .ref (g (0))), (1, .int (nI (sN σ i))), (2, .int (nI i))] ⟨rfl, rfl, rfl, trivial⟩ ?_
      refine xn_iinc C d_CS_sweep_57 2 rfl (by decide) rfl ?_
      refine x_goto C 4 d_CS_sweep_60 (by decide) ?_
      have hc : ¬ swC (sS σ i) i = true := by simp only [swC, decide_eq_true_eq]; omega
      refine x_E (E' := EL a g (sS σ (i + 1)) w Y) (by rw [sS, if_neg hc]) ?_
      exact x_lv [(0, .ref (g (0))), (1, .int (nI (sN σ (i + 1)))), (2, .int (nI (i + 1)))] ⟨rfl, by rw [sN, if_neg hc]; rfl, rfl, trivial⟩ (ihi (by omega) trivial)
    · refine x_aload_n C d_CS_sweep_23 rfl rfl ?_
      refine g_CS_cs_time C hn d_CS_sweep_24 ?_
      refine x_aload_n C d_CS_sweep_27 rfl rfl ?_
      refine g_CS_cs_files C hn d_CS_sweep_28 ?_
      refine x_iload_n C d_CS_sweep_31 rfl rfl ?_
      refine e_arrF C (by omega) hn d_CS_sweep_32 ?_
      refine g_CS_file_hiddenSince C (by omega) hn d_CS_sweep_33 ?_
      refine xn_dsub C (by rw [sS_o _ (by omega), sS_o _ (by omega)]; exact hO.2.2.2.2.2 i (by omega)) (Nat.lt_trans ((sS_M (by decide) hB i) 1 0 0) (by decide)) d_CS_sweep_36 ?_
      refine x_ldc2d C kw139 d_CS_sweep_37 ?_
      refine x_topd (show _ = dT 240 from dT_240i.symm) ?_
      refine xn_dcmp C (Nat.lt_of_le_of_lt (Nat.sub_le _ _) (Nat.lt_trans ((sS_M (by decide) hB i) 1 0 0) (by decide))) (by decide) d_CS_sweep_40 ?_
      refine x_if_lt C 57 d_CS_sweep_41 (by decide) (fun h41 => ?_) (fun h41 => ?_)
      · have h41 := cmpI_lt h41
        refine x_lv [(0, .ref (g (0))), (1, .int (nI (sN σ i))), (2, .int (nI i))] ⟨rfl, rfl, rfl, trivial⟩ ?_
        refine xn_iinc C d_CS_sweep_57 2 rfl (by decide) rfl ?_
        refine x_goto C 4 d_CS_sweep_60 (by decide) ?_
        have hc : ¬ swC (sS σ i) i = true := by simp only [swC, decide_eq_true_eq]; omega
        refine x_E (E' := EL a g (sS σ (i + 1)) w Y) (by rw [sS, if_neg hc]) ?_
        exact x_lv [(0, .ref (g (0))), (1, .int (nI (sN σ (i + 1)))), (2, .int (nI (i + 1)))] ⟨rfl, by rw [sN, if_neg hc]; rfl, rfl, trivial⟩ (ihi (by omega) trivial)
      · have h41 := cmpI_nlt h41
        refine x_aload_n C d_CS_sweep_44 rfl rfl ?_
        refine x_aload_n C d_CS_sweep_45 rfl rfl ?_
        refine g_CS_cs_files C hn d_CS_sweep_46 ?_
        refine x_iload_n C d_CS_sweep_49 rfl rfl ?_
        refine e_arrF C (by omega) hn d_CS_sweep_50 ?_
        refine c_CS_CS_forget C (by omega) hn (m_CS_forget htr hn (sS_M (by decide) hB i) (show i < 8 by omega) (by rw [sS_o _ (by omega)]; exact (hO.2.2.1 i (by omega)).1) (fun j hj => by rw [sS_o _ (by omega)] at hj ⊢; exact Nat.lt_of_lt_of_le ((hO.2.2.1 i (by omega)).2 j hj) hO.2.1) (hg i (by omega)) (Nat.le_refl _)) rfl rfl (Nat.le_of_ble_eq_true rfl) d_CS_sweep_51 (fun v E' hp => ?_) (fun X E' hp => ?_)
        · obtain ⟨rfl, hv⟩ := hp
          cases hv
          rw [← fgF]
          refine x_lv [(0, .ref (g (0))), (1, .int (nI (sN σ i))), (2, .int (nI i))] ⟨rfl, rfl, rfl, trivial⟩ ?_
          refine xn_iinc C d_CS_sweep_54 1 rfl (by decide) rfl ?_
          refine x_lv [(0, .ref (g (0))), (1, .int (nI ((sN σ i) + 1))), (2, .int (nI i))] ⟨rfl, rfl, rfl, trivial⟩ ?_
          refine xn_iinc C d_CS_sweep_57 2 rfl (by decide) rfl ?_
          refine x_goto C 4 d_CS_sweep_60 (by decide) ?_
          have hc : swC (sS σ i) i = true := by simp only [swC, decide_eq_true_eq]; omega
          refine x_E (E' := EL a g (sS σ (i + 1)) w Y) (by rw [sS, if_pos hc]) ?_
          exact x_lv [(0, .ref (g (0))), (1, .int (nI (sN σ (i + 1)))), (2, .int (nI (i + 1)))] ⟨rfl, by rw [sN, if_pos hc]; rfl, rfl, trivial⟩ (ihi (by omega) trivial)
        · cases hp.2
theorem mkS_M {σ : xSig} {f : Nat} (h : ∀ t i j, σ t i j < 2 ^ 28) (hm : σ 0 0 0 < 30) (h3 : σ 3 f 0 < 3) : ∀ t i j, mkS σ f t i j < 2 ^ 29 := by
  have hsc : ∀ t i j, scS σ (cho σ (σ 0 0 0) 3) t i j < 2 ^ 28 := up3_M (up3_M (up3_M (up3_M h (by decide)) (by decide)) (by have := cho_lt σ (σ 0 0 0) 3; omega)) (by omega)
  have ha : ∀ t i j, addE (scS σ (cho σ (σ 0 0 0) 3)) (cho σ (σ 0 0 0) 3) (σ 0 0 0) 5 t i j < 2 ^ 29 := by
    intro t i j
    rw [addE_at]
    have := hsc t i j
    have := hsc 11 i 0
    split
    · decide
    · split <;> omega
  exact up3_M (up3_M ha (by have := h 0 0 0; omega)) (by omega)
theorem mkS_H {σ : xSig} {f : Nat} (hH : ∀ c, σ 8 c 0 < 32) : ∀ c, mkS σ f 8 c 0 < 32 := up3_Hn (up3_Hn (fun c => by rw [addE_o (by decide)]; exact scS_H hH (cho_lt _ _ _) c) (by decide)) (by decide)
theorem mkS_0 {σ : xSig} {f : Nat} : mkS σ f 0 0 0 = σ 0 0 0 + 1 := by unfold mkS; rw [up3_n (by decide), up3_n (by decide), addE_o (by decide)]; unfold scS; rw [up3_s]
theorem mkS_3 {σ : xSig} {f : Nat} : mkS σ f 3 f 0 = σ 3 f 0 + 1 := by unfold mkS; rw [up3_s]
theorem mkS_4 {σ : xSig} {f : Nat} : mkS σ f 4 f (σ 3 f 0) = σ 0 0 0 := by unfold mkS; rw [up3_n (by decide), up3_s]
theorem mkC_0 {σ : xSig} {f : Nat} (h : mkC σ f = 0) : σ 0 0 0 < 30 ∧ σ 3 f 0 < 3 ∧ ¬ cho σ (σ 0 0 0) 3 = 0 := by
  unfold mkC at h
  split at h
  · omega
  · split at h <;> omega
/-- append needs a new chunk -/
def apM (σ : xSig) (f : Nat) : Bool := decide (σ 3 f 0 = 0 ∨ 4 ≤ uaf σ (σ 4 f (σ 3 f 0 - 1)))
def ap1 (σ : xSig) (f : Nat) : xSig := if apM σ f = true then mkS σ f else σ
theorem ap_ok {σ : xSig} {f : Nat} (hO : Ok σ) (hf : f < 8) (hm : apM σ f = true → mkC σ f = 0) : (∀ t i j, ap1 σ f t i j < 2 ^ 29) ∧ (∀ c, ap1 σ f 8 c 0 < 32) ∧ ap1 σ f 0 0 0 ≤ 30 ∧ 1 ≤ ap1 σ f 3 f 0 ∧ ap1 σ f 3 f 0 ≤ 3 ∧ ap1 σ f 4 f (ap1 σ f 3 f 0 - 1) < ap1 σ f 0 0 0 := by
  unfold ap1
  by_cases q : apM σ f = true
  · rw [if_pos q]
    obtain ⟨m1, m2, m3⟩ := mkC_0 (hm q)
    refine ⟨mkS_M hO.1 m1 m2, mkS_H hO.2.2.2.1, by rw [mkS_0]; omega, by rw [mkS_3]; omega, by rw [mkS_3]; omega, ?_⟩
    rw [mkS_3, Nat.add_sub_cancel, mkS_4, mkS_0]
    omega
  · rw [if_neg q]
    have q3 : ¬ σ 3 f 0 = 0 := fun r => q (by simp only [apM, decide_eq_true_eq]; exact Or.inl r)
    exact ⟨fun t i j => Nat.lt_trans (hO.1 t i j) (by decide), hO.2.2.2.1, hO.2.1, by omega, (hO.2.2.1 f hf).1, (hO.2.2.1 f hf).2 _ (by omega)⟩
def apP (σ : xSig) (f : Nat) : Nat := ap1 σ f 3 f 0 - 1
def apC (σ : xSig) (f : Nat) : Nat := ap1 σ f 4 f (apP σ f)
def apF (σ : xSig) (f : Nat) : Bool := apM σ f && decide (¬ mkC σ f = 0)
def apQ (σ : xSig) (f : Nat) : Nat := if σ 2 f 0 = 1 then (if apF σ f = true then (if mkC σ f = 1 then 5 else 3) else lsC (ap1 σ f) (apC σ f)) else 2
def qc_append (σ : xSig) (x : Int32) : Nat := if inR x 8 = true then apQ σ (ix x) else 1
def apU (σ : xSig) (f : Nat) : Nat := uaf (lsS (ap1 σ f) f (apP σ f)) (lsN (ap1 σ f) (apC σ f))
def apS (σ : xSig) (f : Nat) : xSig := if apQ σ f = 0 then wrS (lsS (ap1 σ f) f (apP σ f)) (lsN (ap1 σ f) (apC σ f)) (apU σ f) else if σ 2 f 0 = 1 ∧ ¬ apF σ f = true then ap1 σ f else σ
def apW (σ : xSig) (w : xWrd) (f : Nat) (v : Int32) : xWrd := if apQ σ f = 0 then wrW (lsS (ap1 σ f) f (apP σ f)) (lsW (ap1 σ f) w (apC σ f)) (lsN (ap1 σ f) (apC σ f)) (apU σ f) v else w
def qs_append (σ : xSig) (x : Int32) : xSig := if inR x 8 = true then apS σ (ix x) else σ
def qw_append (σ : xSig) (w : xWrd) (x v : Int32) : xWrd := if inR x 8 = true then apW σ w (ix x) v else w
def qa_append (σ : xSig) (f : Nat) : Int32 := nI (4 * apP σ f + apU σ f)
theorem uaf_M {σ : xSig} {c M : Nat} (hM : 0 < M) (h : ∀ t i j, σ t i j < M) : uaf σ c < M := by unfold uaf; split <;> first | exact hM | exact h _ _ _
theorem m_CS_append {l : Launch} (htr : xTr l) {D : va_G} {a : Nat → ClassId} {base : Nat} {g : Nat → Nat} {n : Nat} {σ : xSig} {w : xWrd} {Y : Nat → va_E} (hn : 143 ≤ n) (hO : Ok σ) {x : Int32} {v : Int32} {k : Nat} (hk : 4 ≤ k) : xM l y_CS_append b_CS_append 7 (some FieldType.int) k D a base g n (EL a g σ w Y) [.ref (g 0), .int x, .int v] (fun r E' => E' = EL a g (qs_append σ x) (qw_append σ w x v) Y ∧ r = cr eL5 (qc_append σ x) (.int (qa_append σ (ix x)))) := by
  refine x_method (by decide) htr (Nat.le_of_ble_eq_true rfl) ?_
  intro p e s m args below meth c C hne hret hnm
  have C : xC p l e s m meth c b_CS_append 7 "ChunkStore" args D xcl (xty a) base := C
  have hB : ∀ t i j, σ t i j < 2 ^ 30 := fun t i j => Nat.lt_trans (hO.1 t i j) (by decide)
  have hH := hO.2.2.2.1
  have hS : ∀ i, σ 11 i 0 < 2 ^ 29 := fun i => Nat.lt_trans (hO.1 _ _ _) (by decide)
  refine x_iload_n C d_CS_append_0 rfl rfl ?_
  refine x_bipush C (v := nI 8) d_CS_append_1 (by decide) ?_
  refine c_CS_CS_checkRange C (by omega) (m_CS_checkRange htr (by decide) (Nat.le_refl _)) rfl rfl (Nat.le_of_ble_eq_true rfl) d_CS_append_3 (fun v E' hp => ?_) (fun X E' hp => ?_)
  · obtain ⟨rfl, hv⟩ := hp
    obtain ⟨h3, rfl⟩ := rif_l hv
    obtain ⟨f, hf, rfl⟩ := inR_of h3
    refine x_aload_n C d_CS_append_6 rfl rfl ?_
    refine x_iload_n C d_CS_append_7 rfl rfl ?_
    refine c_CS_CS_fileThere C (by omega) hn (m_CS_fileThere htr hn hB hf (Nat.le_refl _)) rfl rfl (Nat.le_of_ble_eq_true rfl) d_CS_append_8 (fun v E' hp => ?_) (fun X E' hp => ?_)
    · obtain ⟨rfl, hv⟩ := hp
      obtain ⟨h8, rfl⟩ := rif_l hv
      refine x_astore_n C d_CS_append_11 rfl (by decide) rfl ?_
      refine x_aload_n C d_CS_append_12 rfl rfl ?_
      refine g_CS_file_count C hf hn d_CS_append_13 ?_
      refine xn_if_eq C (Nat.lt_trans (hB 3 f 0) (by decide)) 38 d_CS_append_16 (by decide) (fun h16 => ?_) (fun h16 => ?_)
      · refine x_aload_n C d_CS_append_38 rfl rfl ?_
        refine x_aload_n C d_CS_append_39 rfl rfl ?_
        refine c_CS_CS_makeChunk C (by omega) hn (m_CS_makeChunk htr hn hB hH hS hf (Nat.le_refl _)) rfl rfl (Nat.le_of_ble_eq_true rfl) d_CS_append_40 (fun v E' hp => ?_) (fun X E' hp => ?_)
        · obtain ⟨rfl, hv⟩ := hp
          obtain ⟨h40, rfl⟩ := rif_l hv
          rw [if_pos h40]
          refine x_pop C d_CS_append_43 rfl ?_
          have hM : apM σ f = true := by simp only [apM, decide_eq_true_eq]; omega
          have hF : ¬ apF σ f = true := by simp [apF, h40]
          refine x_E (E' := EL a g (ap1 σ f) w Y) (by rw [ap1, if_pos hM]) ?_
          obtain ⟨tB, tH, t0, t1, t3, tc⟩ := ap_ok hO hf (fun _ => h40)
          have tB' : ∀ t i j, ap1 σ f t i j < 2 ^ 30 := fun t i j => Nat.lt_trans (tB t i j) (by decide)
          refine x_aload_n C d_CS_append_44 rfl rfl ?_
          refine g_CS_file_count C hf hn d_CS_append_45 ?_
          refine x_iconst C (v := nI 1) d_CS_append_48 (by decide) ?_
          refine xn_isub C (by omega) d_CS_append_49 ?_
          refine x_istore C d_CS_append_50 (by decide) rfl ?_
          refine x_aload_n C d_CS_append_52 rfl rfl ?_
          refine x_aload_n C d_CS_append_53 rfl rfl ?_
          refine x_iload C d_CS_append_54 rfl ?_
          refine c_CS_CS_lease C (by omega) hn (m_CS_lease htr hn tB' tH (fun i => tB 11 i 0) hf (show ap1 σ f 3 f 0 - 1 < 3 by omega) tc t0 (tB _ _ _) (Nat.le_refl _)) rfl rfl (Nat.le_of_ble_eq_true rfl) d_CS_append_56 (fun v E' hp => ?_) (fun X E' hp => ?_)
          · obtain ⟨rfl, hv⟩ := hp
            obtain ⟨h56, rfl⟩ := rif_l hv
            rw [if_pos h56, if_pos h56]
            have hBl := lsS_B tB tc h56
            have hHl := lsS_H (f := f) (q := ap1 σ f 3 f 0 - 1) tH
            have hnl := lsN_lt (Nat.lt_of_lt_of_le tc t0) h56
            have hn31 : lsN (ap1 σ f) (ap1 σ f 4 f (ap1 σ f 3 f 0 - 1)) < 2 ^ 31 := Nat.lt_trans hnl (by decide)
            refine x_istore C d_CS_append_59 (by decide) rfl ?_
            refine x_aload_n C d_CS_append_61 rfl rfl ?_
            refine x_iload C d_CS_append_62 rfl ?_
            refine c_CS_CS_usedAtFirst C (by omega) hn (m_CS_usedAtFirst htr hn hBl hHl hnl (Nat.le_refl _)) rfl rfl (Nat.le_of_ble_eq_true rfl) d_CS_append_64 (fun v E' hp => ?_) (fun X E' hp => ?_)
            · obtain ⟨rfl, hv⟩ := hp
              cases hv
              refine x_istore C d_CS_append_67 (by decide) rfl ?_
              refine x_aload_n C d_CS_append_69 rfl rfl ?_
              refine x_iload C d_CS_append_70 rfl ?_
              refine x_iload C d_CS_append_72 rfl ?_
              refine x_iload_n C d_CS_append_74 rfl rfl ?_
              refine c_CS_CS_setWordAtHolders C (by omega) hn (m_CS_setWordAtHolders htr hn hBl hHl hnl (uaf_M (by decide) hBl) (Nat.le_refl _)) rfl rfl (Nat.le_of_ble_eq_true rfl) d_CS_append_75 (fun v E' hp => ?_) (fun X E' hp => ?_)
              · obtain ⟨rfl, hv⟩ := hp
                cases hv
                rw [← wrS, ← wrW]
                refine x_iconst C (v := nI 4) d_CS_append_78 (by decide) ?_
                refine x_iload C d_CS_append_79 rfl ?_
                refine xn_imul C d_CS_append_81 ?_
                refine x_iload C d_CS_append_82 rfl ?_
                refine xn_iadd C d_CS_append_84 ?_
                exact x_iret C hret d_CS_append_85 (by have e : apQ σ f = 0 := (by rw [apQ, if_pos h8, if_neg hF, apC, apP]; exact h56); exact ⟨by rw [qs_append, qw_append, if_pos (inR_nI hf (by decide)), if_pos (inR_nI hf (by decide)), ix_nI (show f < 2 ^ 31 by omega), apS, apW, e, if_pos rfl, if_pos rfl, apU, apC, apP], by rw [qc_append, if_pos (inR_nI hf (by decide)), ix_nI (show f < 2 ^ 31 by omega), e]; rw [qa_append, apP, apU, apC, apP]; rfl⟩)
              · cases hp.2
            · cases hp.2
          · obtain ⟨rfl, hv⟩ := hp
            obtain ⟨h56, rfl⟩ := rif_r hv
            rw [if_neg h56, if_neg h56]
            exact x_prop C hne (Nat.le_refl _) (Nat.le_refl _) (by have e : apQ σ f = lsC (ap1 σ f) (apC σ f) := (by rw [apQ, if_pos h8, if_neg hF]); exact ⟨by rw [qs_append, qw_append, if_pos (inR_nI hf (by decide)), if_pos (inR_nI hf (by decide)), ix_nI (show f < 2 ^ 31 by omega), apS, apW, e]; rw [apC, apP, if_neg h56, if_neg h56, if_pos ⟨h8, hF⟩], by rw [qc_append, if_pos (inR_nI hf (by decide)), ix_nI (show f < 2 ^ 31 by omega), e]; exact cr_ls (show ¬ lsC (ap1 σ f) (apC σ f) = 0 from h56)⟩)
        · obtain ⟨rfl, hv⟩ := hp
          obtain ⟨h40, rfl⟩ := rif_r hv
          rw [if_neg h40]
          have hM : apM σ f = true := by simp only [apM, decide_eq_true_eq]; omega
          have hF : apF σ f = true := by simp [apF, hM, h40]
          exact x_prop C hne (Nat.le_refl _) (Nat.le_refl _) (by by_cases q : mkC σ f = 1; exact (by have e : apQ σ f = 5 := (by rw [apQ, if_pos h8, if_pos hF, if_pos q]); exact ⟨by rw [qs_append, qw_append, if_pos (inR_nI hf (by decide)), if_pos (inR_nI hf (by decide)), ix_nI (show f < 2 ^ 31 by omega), apS, apW, e]; simp [hF], by rw [qc_append, if_pos (inR_nI hf (by decide)), ix_nI (show f < 2 ^ 31 by omega), e]; rw [q]; rfl⟩); exact (by have e : apQ σ f = 3 := (by rw [apQ, if_pos h8, if_pos hF, if_neg q]); exact ⟨by rw [qs_append, qw_append, if_pos (inR_nI hf (by decide)), if_pos (inR_nI hf (by decide)), ix_nI (show f < 2 ^ 31 by omega), apS, apW, e]; simp [hF], by rw [qc_append, if_pos (inR_nI hf (by decide)), ix_nI (show f < 2 ^ 31 by omega), e]; rw [show mkC σ f = 2 by have := mkC_le σ f; omega]; rfl⟩))
      · refine x_aload_n C d_CS_append_19 rfl rfl ?_
        refine x_aload_n C d_CS_append_20 rfl rfl ?_
        refine g_CS_file_row C hf hn d_CS_append_21 ?_
        refine x_aload_n C d_CS_append_24 rfl rfl ?_
        refine g_CS_file_count C hf hn d_CS_append_25 ?_
        refine x_iconst C (v := nI 1) d_CS_append_28 (by decide) ?_
        refine xn_isub C (by omega) d_CS_append_29 ?_
        refine e_row C hf (by have := (hO.2.2.1 f hf).1; omega) hn d_CS_append_30 ?_
        refine c_CS_CS_usedAtFirst C (by omega) hn (m_CS_usedAtFirst htr hn hB hH (Nat.lt_of_lt_of_le ((hO.2.2.1 f hf).2 (σ 3 f 0 - 1) (by omega)) hO.2.1) (Nat.le_refl _)) rfl rfl (Nat.le_of_ble_eq_true rfl) d_CS_append_31 (fun v E' hp => ?_) (fun X E' hp => ?_)
        · obtain ⟨rfl, hv⟩ := hp
          cases hv
          refine x_iconst C (v := nI 4) d_CS_append_34 (by decide) ?_
          refine xn_icmp_lt C (Nat.lt_trans (uaf_M (by decide) hB) (by decide)) (by decide) 44 d_CS_append_35 (by decide) (fun h35 => ?_) (fun h35 => ?_)
          · have hM : ¬ apM σ f = true := by simp only [apM, decide_eq_true_eq]; omega
            have hF : ¬ apF σ f = true := by simp [apF, hM]
            refine x_E (E' := EL a g (ap1 σ f) w Y) (by rw [ap1, if_neg hM]) ?_
            obtain ⟨tB, tH, t0, t1, t3, tc⟩ := ap_ok hO hf (fun q => absurd q hM)
            have tB' : ∀ t i j, ap1 σ f t i j < 2 ^ 30 := fun t i j => Nat.lt_trans (tB t i j) (by decide)
            refine x_aload_n C d_CS_append_44 rfl rfl ?_
            refine g_CS_file_count C hf hn d_CS_append_45 ?_
            refine x_iconst C (v := nI 1) d_CS_append_48 (by decide) ?_
            refine xn_isub C (by omega) d_CS_append_49 ?_
            refine x_istore C d_CS_append_50 (by decide) rfl ?_
            refine x_aload_n C d_CS_append_52 rfl rfl ?_
            refine x_aload_n C d_CS_append_53 rfl rfl ?_
            refine x_iload C d_CS_append_54 rfl ?_
            refine c_CS_CS_lease C (by omega) hn (m_CS_lease htr hn tB' tH (fun i => tB 11 i 0) hf (show ap1 σ f 3 f 0 - 1 < 3 by omega) tc t0 (tB _ _ _) (Nat.le_refl _)) rfl rfl (Nat.le_of_ble_eq_true rfl) d_CS_append_56 (fun v E' hp => ?_) (fun X E' hp => ?_)
            · obtain ⟨rfl, hv⟩ := hp
              obtain ⟨h56, rfl⟩ := rif_l hv
              rw [if_pos h56, if_pos h56]
              have hBl := lsS_B tB tc h56
              have hHl := lsS_H (f := f) (q := ap1 σ f 3 f 0 - 1) tH
              have hnl := lsN_lt (Nat.lt_of_lt_of_le tc t0) h56
              have hn31 : lsN (ap1 σ f) (ap1 σ f 4 f (ap1 σ f 3 f 0 - 1)) < 2 ^ 31 := Nat.lt_trans hnl (by decide)
              refine x_istore C d_CS_append_59 (by decide) rfl ?_
              refine x_aload_n C d_CS_append_61 rfl rfl ?_
              refine x_iload C d_CS_append_62 rfl ?_
              refine c_CS_CS_usedAtFirst C (by omega) hn (m_CS_usedAtFirst htr hn hBl hHl hnl (Nat.le_refl _)) rfl rfl (Nat.le_of_ble_eq_true rfl) d_CS_append_64 (fun v E' hp => ?_) (fun X E' hp => ?_)
              · obtain ⟨rfl, hv⟩ := hp
                cases hv
                refine x_istore C d_CS_append_67 (by decide) rfl ?_
                refine x_aload_n C d_CS_append_69 rfl rfl ?_
                refine x_iload C d_CS_append_70 rfl ?_
                refine x_iload C d_CS_append_72 rfl ?_
                refine x_iload_n C d_CS_append_74 rfl rfl ?_
                refine c_CS_CS_setWordAtHolders C (by omega) hn (m_CS_setWordAtHolders htr hn hBl hHl hnl (uaf_M (by decide) hBl) (Nat.le_refl _)) rfl rfl (Nat.le_of_ble_eq_true rfl) d_CS_append_75 (fun v E' hp => ?_) (fun X E' hp => ?_)
                · obtain ⟨rfl, hv⟩ := hp
                  cases hv
                  rw [← wrS, ← wrW]
                  refine x_iconst C (v := nI 4) d_CS_append_78 (by decide) ?_
                  refine x_iload C d_CS_append_79 rfl ?_
                  refine xn_imul C d_CS_append_81 ?_
                  refine x_iload C d_CS_append_82 rfl ?_
                  refine xn_iadd C d_CS_append_84 ?_
                  exact x_iret C hret d_CS_append_85 (by have e : apQ σ f = 0 := (by rw [apQ, if_pos h8, if_neg hF, apC, apP]; exact h56); exact ⟨by rw [qs_append, qw_append, if_pos (inR_nI hf (by decide)), if_pos (inR_nI hf (by decide)), ix_nI (show f < 2 ^ 31 by omega), apS, apW, e, if_pos rfl, if_pos rfl, apU, apC, apP], by rw [qc_append, if_pos (inR_nI hf (by decide)), ix_nI (show f < 2 ^ 31 by omega), e]; rw [qa_append, apP, apU, apC, apP]; rfl⟩)
                · cases hp.2
              · cases hp.2
            · obtain ⟨rfl, hv⟩ := hp
              obtain ⟨h56, rfl⟩ := rif_r hv
              rw [if_neg h56, if_neg h56]
              exact x_prop C hne (Nat.le_refl _) (Nat.le_refl _) (by have e : apQ σ f = lsC (ap1 σ f) (apC σ f) := (by rw [apQ, if_pos h8, if_neg hF]); exact ⟨by rw [qs_append, qw_append, if_pos (inR_nI hf (by decide)), if_pos (inR_nI hf (by decide)), ix_nI (show f < 2 ^ 31 by omega), apS, apW, e]; rw [apC, apP, if_neg h56, if_neg h56, if_pos ⟨h8, hF⟩], by rw [qc_append, if_pos (inR_nI hf (by decide)), ix_nI (show f < 2 ^ 31 by omega), e]; exact cr_ls (show ¬ lsC (ap1 σ f) (apC σ f) = 0 from h56)⟩)
          · refine x_aload_n C d_CS_append_38 rfl rfl ?_
            refine x_aload_n C d_CS_append_39 rfl rfl ?_
            refine c_CS_CS_makeChunk C (by omega) hn (m_CS_makeChunk htr hn hB hH hS hf (Nat.le_refl _)) rfl rfl (Nat.le_of_ble_eq_true rfl) d_CS_append_40 (fun v E' hp => ?_) (fun X E' hp => ?_)
            · obtain ⟨rfl, hv⟩ := hp
              obtain ⟨h40, rfl⟩ := rif_l hv
              rw [if_pos h40]
              refine x_pop C d_CS_append_43 rfl ?_
              have hM : apM σ f = true := by simp only [apM, decide_eq_true_eq]; omega
              have hF : ¬ apF σ f = true := by simp [apF, h40]
              refine x_E (E' := EL a g (ap1 σ f) w Y) (by rw [ap1, if_pos hM]) ?_
              obtain ⟨tB, tH, t0, t1, t3, tc⟩ := ap_ok hO hf (fun _ => h40)
              have tB' : ∀ t i j, ap1 σ f t i j < 2 ^ 30 := fun t i j => Nat.lt_trans (tB t i j) (by decide)
              refine x_aload_n C d_CS_append_44 rfl rfl ?_
              refine g_CS_file_count C hf hn d_CS_append_45 ?_
              refine x_iconst C (v := nI 1) d_CS_append_48 (by decide) ?_
              refine xn_isub C (by omega) d_CS_append_49 ?_
              refine x_istore C d_CS_append_50 (by decide) rfl ?_
              refine x_aload_n C d_CS_append_52 rfl rfl ?_
              refine x_aload_n C d_CS_append_53 rfl rfl ?_
              refine x_iload C d_CS_append_54 rfl ?_
              refine c_CS_CS_lease C (by omega) hn (m_CS_lease htr hn tB' tH (fun i => tB 11 i 0) hf (show ap1 σ f 3 f 0 - 1 < 3 by omega) tc t0 (tB _ _ _) (Nat.le_refl _)) rfl rfl (Nat.le_of_ble_eq_true rfl) d_CS_append_56 (fun v E' hp => ?_) (fun X E' hp => ?_)
              · obtain ⟨rfl, hv⟩ := hp
                obtain ⟨h56, rfl⟩ := rif_l hv
                rw [if_pos h56, if_pos h56]
                have hBl := lsS_B tB tc h56
                have hHl := lsS_H (f := f) (q := ap1 σ f 3 f 0 - 1) tH
                have hnl := lsN_lt (Nat.lt_of_lt_of_le tc t0) h56
                have hn31 : lsN (ap1 σ f) (ap1 σ f 4 f (ap1 σ f 3 f 0 - 1)) < 2 ^ 31 := Nat.lt_trans hnl (by decide)
                refine x_istore C d_CS_append_59 (by decide) rfl ?_
                refine x_aload_n C d_CS_append_61 rfl rfl ?_
                refine x_iload C d_CS_append_62 rfl ?_
                refine c_CS_CS_usedAtFirst C (by omega) hn (m_CS_usedAtFirst htr hn hBl hHl hnl (Nat.le_refl _)) rfl rfl (Nat.le_of_ble_eq_true rfl) d_CS_append_64 (fun v E' hp => ?_) (fun X E' hp => ?_)
                · obtain ⟨rfl, hv⟩ := hp
                  cases hv
                  refine x_istore C d_CS_append_67 (by decide) rfl ?_
                  refine x_aload_n C d_CS_append_69 rfl rfl ?_
                  refine x_iload C d_CS_append_70 rfl ?_
                  refine x_iload C d_CS_append_72 rfl ?_
                  refine x_iload_n C d_CS_append_74 rfl rfl ?_
                  refine c_CS_CS_setWordAtHolders C (by omega) hn (m_CS_setWordAtHolders htr hn hBl hHl hnl (uaf_M (by decide) hBl) (Nat.le_refl _)) rfl rfl (Nat.le_of_ble_eq_true rfl) d_CS_append_75 (fun v E' hp => ?_) (fun X E' hp => ?_)
                  · obtain ⟨rfl, hv⟩ := hp
                    cases hv
                    rw [← wrS, ← wrW]
                    refine x_iconst C (v := nI 4) d_CS_append_78 (by decide) ?_
                    refine x_iload C d_CS_append_79 rfl ?_
                    refine xn_imul C d_CS_append_81 ?_
                    refine x_iload C d_CS_append_82 rfl ?_
                    refine xn_iadd C d_CS_append_84 ?_
                    exact x_iret C hret d_CS_append_85 (by have e : apQ σ f = 0 := (by rw [apQ, if_pos h8, if_neg hF, apC, apP]; exact h56); exact ⟨by rw [qs_append, qw_append, if_pos (inR_nI hf (by decide)), if_pos (inR_nI hf (by decide)), ix_nI (show f < 2 ^ 31 by omega), apS, apW, e, if_pos rfl, if_pos rfl, apU, apC, apP], by rw [qc_append, if_pos (inR_nI hf (by decide)), ix_nI (show f < 2 ^ 31 by omega), e]; rw [qa_append, apP, apU, apC, apP]; rfl⟩)
                  · cases hp.2
                · cases hp.2
              · obtain ⟨rfl, hv⟩ := hp
                obtain ⟨h56, rfl⟩ := rif_r hv
                rw [if_neg h56, if_neg h56]
                exact x_prop C hne (Nat.le_refl _) (Nat.le_refl _) (by have e : apQ σ f = lsC (ap1 σ f) (apC σ f) := (by rw [apQ, if_pos h8, if_neg hF]); exact ⟨by rw [qs_append, qw_append, if_pos (inR_nI hf (by decide)), if_pos (inR_nI hf (by decide)), ix_nI (show f < 2 ^ 31 by omega), apS, apW, e]; rw [apC, apP, if_neg h56, if_neg h56, if_pos ⟨h8, hF⟩], by rw [qc_append, if_pos (inR_nI hf (by decide)), ix_nI (show f < 2 ^ 31 by omega), e]; exact cr_ls (show ¬ lsC (ap1 σ f) (apC σ f) = 0 from h56)⟩)
            · obtain ⟨rfl, hv⟩ := hp
              obtain ⟨h40, rfl⟩ := rif_r hv
              rw [if_neg h40]
              have hM : apM σ f = true := by simp only [apM, decide_eq_true_eq]; omega
              have hF : apF σ f = true := by simp [apF, hM, h40]
              exact x_prop C hne (Nat.le_refl _) (Nat.le_refl _) (by by_cases q : mkC σ f = 1; exact (by have e : apQ σ f = 5 := (by rw [apQ, if_pos h8, if_pos hF, if_pos q]); exact ⟨by rw [qs_append, qw_append, if_pos (inR_nI hf (by decide)), if_pos (inR_nI hf (by decide)), ix_nI (show f < 2 ^ 31 by omega), apS, apW, e]; simp [hF], by rw [qc_append, if_pos (inR_nI hf (by decide)), ix_nI (show f < 2 ^ 31 by omega), e]; rw [q]; rfl⟩); exact (by have e : apQ σ f = 3 := (by rw [apQ, if_pos h8, if_pos hF, if_neg q]); exact ⟨by rw [qs_append, qw_append, if_pos (inR_nI hf (by decide)), if_pos (inR_nI hf (by decide)), ix_nI (show f < 2 ^ 31 by omega), apS, apW, e]; simp [hF], by rw [qc_append, if_pos (inR_nI hf (by decide)), ix_nI (show f < 2 ^ 31 by omega), e]; rw [show mkC σ f = 2 by have := mkC_le σ f; omega]; rfl⟩))
        · cases hp.2
    · obtain ⟨rfl, hv⟩ := hp
      obtain ⟨h8, rfl⟩ := rif_r hv
      exact x_prop C hne (Nat.le_refl _) (Nat.le_refl _) (by have e : apQ σ f = 2 := (by rw [apQ, if_neg h8]); exact ⟨by rw [qs_append, qw_append, if_pos (inR_nI hf (by decide)), if_pos (inR_nI hf (by decide)), ix_nI (show f < 2 ^ 31 by omega), apS, apW, e]; simp [h8], by rw [qc_append, if_pos (inR_nI hf (by decide)), ix_nI (show f < 2 ^ 31 by omega), e]; rfl⟩)
  · obtain ⟨rfl, hv⟩ := hp
    obtain ⟨h3, rfl⟩ := rif_r hv
    exact x_prop C hne (Nat.le_refl _) (Nat.le_refl _) ⟨by rw [qs_append, qw_append, if_neg h3, if_neg h3], by rw [qc_append, if_neg h3]; rfl⟩
theorem m_CS_tickN {l : Launch} (htr : xTr l) {D : va_G} {a : Nat → ClassId} {base : Nat} {g : Nat → Nat} {n : Nat} {σ : xSig} {w : xWrd} {Y : Nat → va_E} (hn : 143 ≤ n) (hO : Ok σ) {d : UInt64} (hd : FP.dcmp d (dT 0) = some .lt) {k : Nat} (hk : 0 ≤ k) : xM l y_CS_tick b_CS_tick 3 (some FieldType.double) k D a base g n (EL a g σ w Y) [.ref (g 0), .double d] (fun r E' => E' = EL a g σ w Y ∧ r = .inr e_IA) := by
  refine x_method (by decide) htr (Nat.le_of_ble_eq_true rfl) ?_
  intro p e s m args below meth c C hne hret hnm
  have C : xC p l e s m meth c b_CS_tick 3 "ChunkStore" args D xcl (xty a) base := C
  refine x_dload_n C d_CS_tick_0 rfl rfl ?_
  refine x_dconst0 C d_CS_tick_1 ?_
  refine x_topd (show FP.dconst0 = dT 0 from dT_0.symm) ?_
  refine x_dcmp C d_CS_tick_2 ?_
  refine x_topi (show _ = -1 by rw [hd]; rfl) ?_
  refine x_if_lt C 14 d_CS_tick_3 (by decide) (fun _ => ?_) (fun h3 => absurd (by decide) h3)
  exact th_IA C hne (Nat.le_of_ble_eq_true rfl) d_CS_tick_14 d_CS_tick_17 d_CS_tick_18 d_CS_tick_20 d_CS_tick_23 (tx := "a span out of range") (by decide) ⟨rfl, rfl⟩
end XM11
