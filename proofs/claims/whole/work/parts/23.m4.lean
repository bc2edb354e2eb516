section XM4
abbrev xSig : Type := Nat → Nat → Nat → Nat
abbrev xWrd : Type := Nat → Nat → Int32
/-- a new chunk at the master -/
def scS (σ : xSig) (h : Nat) : xSig := up3 (up3 (up3 (up3 σ 6 (σ 0 0 0) 0 1) 7 (σ 0 0 0) 0 1) 8 (σ 0 0 0) 0 h) 0 0 0 (σ 0 0 0 + 1)
theorem scS_B {σ : xSig} {h : Nat} (hB : ∀ t i j, σ t i j < 2 ^ 30) (hm : σ 0 0 0 < 30) (hh : h < 32) : ∀ t i j, scS σ h t i j < 2 ^ 30 := up3_B (up3_B (up3_B (up3_B hB (by decide)) (by decide)) (by omega)) (by omega)
theorem scS_H {σ : xSig} {h : Nat} (hH : ∀ c, σ 8 c 0 < 32) (hh : h < 32) : ∀ c, scS σ h 8 c 0 < 32 := up3_Hn (up3_H (up3_Hn (up3_Hn hH (by decide)) (by decide)) hh) (by decide)
def aeS (σ : xSig) (f c : Nat) : xSig := if σ 3 f 0 < 3 then up3 (up3 σ 4 f (σ 3 f 0) c) 3 f 0 (σ 3 f 0 + 1) else σ
def rvS (σ : xSig) (c h : Nat) : xSig := rvL (up3 (up3 σ 6 c 0 (σ 6 c 0 + 1)) 8 c 0 h) c h (σ 6 c 0 + 1) 5
theorem addE_B {σ : xSig} {ch c n : Nat} (hB : ∀ t i j, σ t i j < 2 ^ 30) (h11 : ∀ i, σ 11 i 0 < 2 ^ 29) : ∀ t i j, addE σ ch c n t i j < 2 ^ 30 := by
  intro t i j
  rw [addE_at]
  have := h11 i
  have := hB t i j
  split
  · decide
  · split <;> omega
theorem addE_o {σ : xSig} {ch c n t i j : Nat} (h : ¬ t = 12 ∧ ¬ t = 11) : addE σ ch c n t i j = σ t i j := by rw [addE_at, if_neg (fun q => h.1 q.2.2.1), if_neg (fun q => h.2 q.2.2.1)]
/-- replicas of m like those of c at the first n of the set -/
def spL (σ : xSig) (h m c : Nat) : Nat → xSig
  | 0 => σ
  | n + 1 => if h.testBit n then alS (spL σ h m c n) n m n c 1 else spL σ h m c n
def spW (w : xWrd) (h m c : Nat) : Nat → xWrd
  | 0 => w
  | n + 1 => if h.testBit n then cpW (spW w h m c n) n m n c 4 else spW w h m c n
theorem spL_at {σ : xSig} {h m c : Nat} (n t i j : Nat) (hmc : ¬ m = c) : spL σ h m c n t i j = if i < n ∧ h.testBit i = true ∧ t = 12 ∧ j = m then 1 else if i < n ∧ h.testBit i = true ∧ t = 13 ∧ j = m then σ 13 i c else if i < n ∧ h.testBit i = true ∧ t = 11 ∧ j = 0 then σ 11 i 0 + 1 else σ t i j := by
  induction n generalizing t i j with
  | zero => simp [spL]
  | succ n ih =>
    unfold spL
    by_cases hb : h.testBit n = true
    · rw [if_pos hb]
      simp only [alS, up3, ih]
      clear ih
      by_cases r : i = n
      · subst r
        simp only [hb, Nat.lt_irrefl, false_and, if_false, true_and, Nat.lt_succ_self]
        by_cases t1 : t = 11
        · subst t1; simp
        · by_cases t2 : t = 12
          · subst t2; simp
          · simp only [t1, t2, false_and, if_false]
      · simp only [r, false_and, and_false, if_false]
        have e : (i < n + 1) ↔ i < n := by omega
        simp only [e]
    · rw [if_neg hb, ih]
      have e : (i < n + 1 ∧ h.testBit i = true) ↔ (i < n ∧ h.testBit i = true) := by
        by_cases r : i = n
        · subst r; simp [hb]
        · constructor <;> intro q <;> exact ⟨by omega, q.2⟩
      simp only [← and_assoc, e]
theorem spL_o {σ : xSig} {h m c t i j : Nat} (n : Nat) (ht : ¬ t = 11 ∧ ¬ t = 12 ∧ ¬ t = 13) : spL σ h m c n t i j = σ t i j := by
  induction n with
  | zero => rfl
  | succ n ih =>
    unfold spL
    split
    · unfold alS; rw [up3_n ht.1, up3_n ht.2.2, up3_n ht.2.1, ih]
    · exact ih
theorem spL_B {σ : xSig} {h m c : Nat} (n : Nat) (hmc : ¬ m = c) (hB : ∀ t i j, σ t i j < 2 ^ 30) (h11 : ∀ i, σ 11 i 0 < 2 ^ 29) : ∀ t i j, spL σ h m c n t i j < 2 ^ 30 := by
  intro t i j
  rw [spL_at n t i j hmc]
  have := h11 i
  have := hB t i j
  have := hB 13 i c
  split
  · decide
  · split
    · omega
    · split <;> omega
/-- the word u of the chunk c at the first n of the set -/
def swL (σ : xSig) (c u h : Nat) : Nat → xSig
  | 0 => σ
  | n + 1 => if h.testBit n then swS (swL σ c u h n) n c u else swL σ c u h n
def swLW (w : xWrd) (c u h : Nat) (v : Int32) : Nat → xWrd
  | 0 => w
  | n + 1 => if h.testBit n then swW (swLW w c u h v n) n c u v else swLW w c u h v n
theorem swL_o {σ : xSig} {c u h t i j : Nat} (n : Nat) (ht : ¬ t = 13) : swL σ c u h n t i j = σ t i j := by
  induction n with
  | zero => rfl
  | succ n ih =>
    unfold swL
    split
    · unfold swS; split
      · rw [up3_n ht, ih]
      · exact ih
    · exact ih
theorem swL_B {σ : xSig} {c u h : Nat} (n : Nat) (hB : ∀ t i j, σ t i j < 2 ^ 30) : ∀ t i j, swL σ c u h n t i j < 2 ^ 30 := by
  induction n with
  | zero => exact hB
  | succ n ih =>
    unfold swL
    split
    · unfold swS; split
      · exact up3_B ih (by have := ih 13 n c; split <;> omega)
      · exact ih
    · exact ih
def uaf (σ : xSig) (c : Nat) : Nat := if fst5 (σ 8 c 0) = 5 then 0 else σ 13 (fst5 (σ 8 c 0)) c
/-- the chunk in need and its live holders -/
def nd (σ : xSig) : Nat → Nat × Nat
  | 0 => (30, 3)
  | n + 1 => if 0 < σ 7 n 0 ∧ 1 ≤ pop5 (lvh σ n) ∧ pop5 (lvh σ n) < (nd σ n).2 ∧ ¬ bst σ n 0 = 5 then (n, pop5 (lvh σ n)) else nd σ n
theorem nd_le {σ : xSig} : ∀ n, n ≤ 30 → (nd σ n).1 ≤ 30 ∧ (nd σ n).2 ≤ 5 := by
  intro n
  induction n with
  | zero => intro _; exact ⟨Nat.le_refl _, by show 3 ≤ 5; decide⟩
  | succ n ih =>
    intro hn
    unfold nd
    split
    · exact ⟨by show n ≤ 30; omega, pop5_le _⟩
    · exact ih (by omega)
theorem m_CS_choose {l : Launch} (htr : xTr l) {D : va_G} {a : Nat → ClassId} {base : Nat} {g : Nat → Nat} {n : Nat} {σ : Nat → Nat → Nat → Nat} {w : Nat → Nat → Int32} {Y : Nat → va_E} (hn : 143 ≤ n) (hB : ∀ t i j, σ t i j < 2 ^ 30) {q : Nat} (hq : q < 30) {k : Nat} (hk : 2 ≤ k) : xM l y_CS_choose b_CS_choose 6 (some FieldType.int) k D a base g n (EL a g σ w Y) [.ref (g 0), .int (nI q), .int (nI 3)] (fun r E' => E' = EL a g σ w Y ∧ r = .inl (some (.int (nI (cho σ q 3))))) := by
  refine x_method (by decide) htr (Nat.le_of_ble_eq_true rfl) ?_
  intro p e s m args below meth c C hne hret hnm
  have C : xC p l e s m meth c b_CS_choose 6 "ChunkStore" args D xcl (xty a) base := C
  refine x_iconst C (v := nI 0) d_CS_choose_0 (by decide) ?_
  refine x_istore_n C d_CS_choose_1 rfl (by decide) rfl ?_
  refine x_iconst C (v := nI 0) d_CS_choose_2 (by decide) ?_
  refine x_istore C d_CS_choose_3 (by decide) rfl ?_
  refine x_loop 3 (fun i => EL a g σ w Y) (fun i => [(0, .ref (g (0))), (1, .int (nI q)), (2, .int (nI 3)), (3, .int (nI (cho σ q i))), (4, .int (nI i))]) (fun i => True) rfl ⟨rfl, rfl, rfl, rfl, rfl, trivial⟩ trivial ?_
  intro i hi hIi ihi
  refine x_iload C d_CS_choose_5 rfl ?_
  refine x_iload_n C d_CS_choose_7 rfl rfl ?_
  refine xn_icmp_ge C (by omega) (by decide) 38 d_CS_choose_8 (by decide) (fun h8 => ?_) (fun h8 => ?_)
  · refine x_iload_n C d_CS_choose_38 rfl rfl ?_
    exact x_iret C hret d_CS_choose_39 ⟨rfl, by rw [show i = 3 by omega]⟩
  · refine x_aload_n C d_CS_choose_11 rfl rfl ?_
    refine x_iload_n C d_CS_choose_12 rfl rfl ?_
    refine x_iload_n C d_CS_choose_13 rfl rfl ?_
    refine c_CS_CS_lightest C (by omega) hn (m_CS_lightest htr hn hB hq (cho_lt _ _ _) (Nat.le_refl _)) rfl rfl (Nat.le_of_ble_eq_true rfl) d_CS_choose_14 (fun v E' hp => ?_) (fun X E' hp => ?_)
    · obtain ⟨rfl, hv⟩ := hp
      cases hv
      refine x_istore C d_CS_choose_17 (by decide) rfl ?_
      refine x_iload C d_CS_choose_19 rfl ?_
      refine x_iconst C (v := -1) d_CS_choose_21 (by decide) ?_
      refine x_icmp_eq C 32 d_CS_choose_22 (by decide) (fun h22 => ?_) (fun h22 => ?_)
      · have h22 := (iv_m1 ⟨bst_le _ _ _, by decide⟩).mp h22
        refine x_lv [(0, .ref (g (0))), (1, .int (nI q)), (2, .int (nI 3)), (3, .int (nI (cho σ q i))), (4, .int (nI i)), (5, .int (iv 5 (bst σ q (cho σ q i))))] ⟨rfl, rfl, rfl, rfl, rfl, rfl, trivial⟩ ?_
        refine xn_iinc C d_CS_choose_32 4 rfl (by decide) rfl ?_
        refine x_goto C 5 d_CS_choose_35 (by decide) ?_
        exact x_lv [(0, .ref (g (0))), (1, .int (nI q)), (2, .int (nI 3)), (3, .int (nI (cho σ q (i + 1)))), (4, .int (nI (i + 1)))] ⟨rfl, rfl, rfl, by rw [show cho σ q (i + 1) = cho σ q i from (by rw [cho, if_pos h22])]; rfl, rfl, trivial⟩ (ihi (by omega) trivial)
      · have h22 := iv_n1 ⟨bst_le _ _ _, by decide⟩ h22
        refine x_iload_n C d_CS_choose_25 rfl rfl ?_
        refine x_iconst C (v := nI 1) d_CS_choose_26 (by decide) ?_
        refine x_iload C d_CS_choose_27 rfl ?_
        refine x_topi (iv_lt h22) ?_
        refine xn_bit C h22 d_CS_choose_29 ?_
        refine xn_ior C (cho_lt _ _ _) (bt_p _ h22) d_CS_choose_30 ?_
        refine x_istore_n C d_CS_choose_31 rfl (by decide) rfl ?_
        refine x_lv [(0, .ref (g (0))), (1, .int (nI q)), (2, .int (nI 3)), (3, .int (nI ((cho σ q i) ||| (2 ^ (bst σ q (cho σ q i)))))), (4, .int (nI i)), (5, .int (iv 5 (bst σ q (cho σ q i))))] ⟨rfl, rfl, rfl, rfl, rfl, rfl, trivial⟩ ?_
        refine xn_iinc C d_CS_choose_32 4 rfl (by decide) rfl ?_
        refine x_goto C 5 d_CS_choose_35 (by decide) ?_
        exact x_lv [(0, .ref (g (0))), (1, .int (nI q)), (2, .int (nI 3)), (3, .int (nI (cho σ q (i + 1)))), (4, .int (nI (i + 1)))] ⟨rfl, rfl, rfl, by rw [show cho σ q (i + 1) = (cho σ q i) ||| (2 ^ (bst σ q (cho σ q i))) from (by rw [cho, if_neg (by omega)])]; rfl, rfl, trivial⟩ (ihi (by omega) trivial)
    · cases hp.2
theorem m_CS_usedAtFirst {l : Launch} (htr : xTr l) {D : va_G} {a : Nat → ClassId} {base : Nat} {g : Nat → Nat} {n : Nat} {σ : Nat → Nat → Nat → Nat} {w : Nat → Nat → Int32} {Y : Nat → va_E} (hn : 143 ≤ n) (hB : ∀ t i j, σ t i j < 2 ^ 30) (hH : ∀ c, σ 8 c 0 < 32) {q : Nat} (hq : q < 30) {k : Nat} (hk : 2 ≤ k) : xM l y_CS_usedAtFirst b_CS_usedAtFirst 3 (some FieldType.int) k D a base g n (EL a g σ w Y) [.ref (g 0), .int (nI q)] (fun r E' => E' = EL a g σ w Y ∧ r = .inl (some (.int (nI (uaf σ q))))) := by
  refine x_method (by decide) htr (Nat.le_of_ble_eq_true rfl) ?_
  intro p e s m args below meth c C hne hret hnm
  have C : xC p l e s m meth c b_CS_usedAtFirst 3 "ChunkStore" args D xcl (xty a) base := C
  refine x_aload_n C d_CS_usedAtFirst_0 rfl rfl ?_
  refine g_CS_cs_chunks C hn d_CS_usedAtFirst_1 ?_
  refine x_iload_n C d_CS_usedAtFirst_4 rfl rfl ?_
  refine e_arrC C hq hn d_CS_usedAtFirst_5 ?_
  refine g_CS_chunk_holders C hq hn d_CS_usedAtFirst_6 ?_
  refine c_CS_CS_first C (by omega) (m_CS_first htr (hH q) (Nat.le_refl _)) rfl rfl (Nat.le_of_ble_eq_true rfl) d_CS_usedAtFirst_9 (fun v E' hp => ?_) (fun X E' hp => ?_)
  · obtain ⟨rfl, hv⟩ := hp
    cases hv
    refine x_istore_n C d_CS_usedAtFirst_12 rfl (by decide) rfl ?_
    refine x_iload_n C d_CS_usedAtFirst_13 rfl rfl ?_
    refine x_iconst C (v := -1) d_CS_usedAtFirst_14 (by decide) ?_
    refine x_icmp_ne C 22 d_CS_usedAtFirst_15 (by decide) (fun h15 => ?_) (fun h15 => ?_)
    · have h15 := iv_n1 ⟨fst5_le _, by decide⟩ h15
      refine x_aload_n C d_CS_usedAtFirst_22 rfl rfl ?_
      refine g_CS_cs_servers C hn d_CS_usedAtFirst_23 ?_
      refine x_iload_n C d_CS_usedAtFirst_26 rfl rfl ?_
      refine x_topi (iv_lt h15) ?_
      refine e_arrS C h15 hn d_CS_usedAtFirst_27 ?_
      refine g_CS_server_used C h15 hn d_CS_usedAtFirst_28 ?_
      refine x_iload_n C d_CS_usedAtFirst_31 rfl rfl ?_
      refine e_used C h15 hq hn d_CS_usedAtFirst_32 ?_
      exact x_iret C hret d_CS_usedAtFirst_33 ⟨rfl, by rw [uaf, if_neg (by omega)]⟩
    · have h15 := (iv_m1 ⟨fst5_le _, by decide⟩).mp h15
      refine x_iconst C (v := nI 0) d_CS_usedAtFirst_18 (by decide) ?_
      refine x_goto C 33 d_CS_usedAtFirst_19 (by decide) ?_
      exact x_iret C hret d_CS_usedAtFirst_33 ⟨rfl, by rw [uaf, if_pos h15]⟩
  · cases hp.2
theorem m_CS_setWordAtHolders {l : Launch} (htr : xTr l) {D : va_G} {a : Nat → ClassId} {base : Nat} {g : Nat → Nat} {n : Nat} {σ : Nat → Nat → Nat → Nat} {w : Nat → Nat → Int32} {Y : Nat → va_E} (hn : 143 ≤ n) (hB : ∀ t i j, σ t i j < 2 ^ 30) (hH : ∀ c, σ 8 c 0 < 32) {q u : Nat} {v : Int32} (hq : q < 30) (hu : u < 2 ^ 30) {k : Nat} (hk : 2 ≤ k) : xM l y_CS_setWordAtHolders b_CS_setWordAtHolders 5 none k D a base g n (EL a g σ w Y) [.ref (g 0), .int (nI q), .int (nI u), .int v] (fun r E' => E' = EL a g (swL σ q u (σ 8 q 0) 5) (swLW w q u (σ 8 q 0) v 5) Y ∧ r = .inl none) := by
  refine x_method (by decide) htr (Nat.le_of_ble_eq_true rfl) ?_
  intro p e s m args below meth c C hne hret hnm
  have C : xC p l e s m meth c b_CS_setWordAtHolders 5 "ChunkStore" args D xcl (xty a) base := C
  refine x_iconst C (v := nI 0) d_CS_setWordAtHolders_0 (by decide) ?_
  refine x_istore C d_CS_setWordAtHolders_1 (by decide) rfl ?_
  refine x_loop 5 (fun i => EL a g (swL σ q u (σ 8 q 0) i) (swLW w q u (σ 8 q 0) v i) Y) (fun i => [(0, .ref (g (0))), (1, .int (nI q)), (2, .int (nI u)), (3, .int v), (4, .int (nI i))]) (fun i => True) rfl ⟨rfl, rfl, rfl, rfl, rfl, trivial⟩ trivial ?_
  intro i hi hIi ihi
  refine x_iload C d_CS_setWordAtHolders_3 rfl ?_
  refine x_iconst C (v := nI 5) d_CS_setWordAtHolders_5 (by decide) ?_
  refine xn_icmp_ge C (by omega) (by decide) 45 d_CS_setWordAtHolders_6 (by decide) (fun h6 => ?_) (fun h6 => ?_)
  · exact x_vret C hret d_CS_setWordAtHolders_45 ⟨by rw [show i = 5 by omega], rfl⟩
  · refine x_aload_n C d_CS_setWordAtHolders_9 rfl rfl ?_
    refine g_CS_cs_chunks C hn d_CS_setWordAtHolders_10 ?_
    refine x_iload_n C d_CS_setWordAtHolders_13 rfl rfl ?_
    refine e_arrC C hq hn d_CS_setWordAtHolders_14 ?_
    refine g_CS_chunk_holders C hq hn d_CS_setWordAtHolders_15 ?_
    refine x_iload C d_CS_setWordAtHolders_18 rfl ?_
    refine c_CS_CS_isIn C (by omega) (m_CS_isIn htr (by rw [swL_o _ (by decide)]; exact hH q) (by omega) (Nat.le_refl _)) rfl rfl (Nat.le_of_ble_eq_true rfl) d_CS_setWordAtHolders_20 (fun v E' hp => ?_) (fun X E' hp => ?_)
    · obtain ⟨rfl, hv⟩ := hp
      cases hv
      refine xn_if_eq C (b01_lt _) 39 d_CS_setWordAtHolders_23 (by decide) (fun h23 => ?_) (fun h23 => ?_)
      · rw [b01_0] at h23
        refine x_lv [(0, .ref (g (0))), (1, .int (nI q)), (2, .int (nI u)), (3, .int v), (4, .int (nI i))] ⟨rfl, rfl, rfl, rfl, rfl, trivial⟩ ?_
        refine xn_iinc C d_CS_setWordAtHolders_39 4 rfl (by decide) rfl ?_
        refine x_goto C 3 d_CS_setWordAtHolders_42 (by decide) ?_
        refine x_E (E' := EL a g (swL σ q u (σ 8 q 0) (i + 1)) (swLW w q u (σ 8 q 0) v (i + 1)) Y) (by rw [swL_o _ (by decide)] at h23; rw [swL, swLW, if_neg (by simp [h23]), if_neg (by simp [h23])]) ?_
        exact x_lv [(0, .ref (g (0))), (1, .int (nI q)), (2, .int (nI u)), (3, .int v), (4, .int (nI (i + 1)))] ⟨rfl, rfl, rfl, rfl, rfl, trivial⟩ (ihi (by omega) trivial)
      · rw [b01_n0] at h23
        refine x_aload_n C d_CS_setWordAtHolders_26 rfl rfl ?_
        refine g_CS_cs_servers C hn d_CS_setWordAtHolders_27 ?_
        refine x_iload C d_CS_setWordAtHolders_30 rfl ?_
        refine e_arrS C (by omega) hn d_CS_setWordAtHolders_32 ?_
        refine x_iload_n C d_CS_setWordAtHolders_33 rfl rfl ?_
        refine x_iload_n C d_CS_setWordAtHolders_34 rfl rfl ?_
        refine x_iload_n C d_CS_setWordAtHolders_35 rfl rfl ?_
        refine c_CS_SV_setWord C (by omega) (by omega) hn (m_SV_setWord htr hn (swL_B i hB) (by omega) hq hu (Nat.le_refl _)) rfl rfl (Nat.le_of_ble_eq_true rfl) d_CS_setWordAtHolders_36 (fun v E' hp => ?_) (fun X E' hp => ?_)
        · obtain ⟨rfl, hv⟩ := hp
          cases hv
          refine x_lv [(0, .ref (g (0))), (1, .int (nI q)), (2, .int (nI u)), (3, .int v), (4, .int (nI i))] ⟨rfl, rfl, rfl, rfl, rfl, trivial⟩ ?_
          refine xn_iinc C d_CS_setWordAtHolders_39 4 rfl (by decide) rfl ?_
          refine x_goto C 3 d_CS_setWordAtHolders_42 (by decide) ?_
          refine x_E (E' := EL a g (swL σ q u (σ 8 q 0) (i + 1)) (swLW w q u (σ 8 q 0) v (i + 1)) Y) (by rw [swL_o _ (by decide)] at h23; rw [swL, swLW, if_pos h23, if_pos h23]) ?_
          exact x_lv [(0, .ref (g (0))), (1, .int (nI q)), (2, .int (nI u)), (3, .int v), (4, .int (nI (i + 1)))] ⟨rfl, rfl, rfl, rfl, rfl, trivial⟩ (ihi (by omega) trivial)
        · cases hp.2
    · cases hp.2
theorem m_CS_mostInNeed {l : Launch} (htr : xTr l) {D : va_G} {a : Nat → ClassId} {base : Nat} {g : Nat → Nat} {n : Nat} {σ : Nat → Nat → Nat → Nat} {w : Nat → Nat → Int32} {Y : Nat → va_E} (hn : 143 ≤ n) (hB : ∀ t i j, σ t i j < 2 ^ 30) (hH : ∀ c, σ 8 c 0 < 32) (hm : σ 0 0 0 ≤ 30) {k : Nat} (hk : 2 ≤ k) : xM l y_CS_mostInNeed b_CS_mostInNeed 6 (some FieldType.int) k D a base g n (EL a g σ w Y) [.ref (g 0)] (fun r E' => E' = EL a g σ w Y ∧ r = .inl (some (.int (iv 30 (nd σ (σ 0 0 0)).1)))) := by
  refine x_method (by decide) htr (Nat.le_of_ble_eq_true rfl) ?_
  intro p e s m args below meth c C hne hret hnm
  have C : xC p l e s m meth c b_CS_mostInNeed 6 "ChunkStore" args D xcl (xty a) base := C
  refine x_iconst C (v := -1) d_CS_mostInNeed_0 (by decide) ?_
  refine x_istore_n C d_CS_mostInNeed_1 rfl (by decide) rfl ?_
  refine x_iconst C (v := nI 3) d_CS_mostInNeed_2 (by decide) ?_
  refine x_istore_n C d_CS_mostInNeed_3 rfl (by decide) rfl ?_
  refine x_iconst C (v := nI 0) d_CS_mostInNeed_4 (by decide) ?_
  refine x_istore_n C d_CS_mostInNeed_5 rfl (by decide) rfl ?_
  refine x_loop (σ 0 0 0) (fun i => EL a g σ w Y) (fun i => [(0, .ref (g (0))), (1, .int (iv 30 ((nd σ i).1))), (2, .int (nI ((nd σ i).2))), (3, .int (nI i))]) (fun i => True) rfl ⟨rfl, rfl, rfl, rfl, trivial⟩ trivial ?_
  intro i hi hIi ihi
  refine x_iload_n C d_CS_mostInNeed_6 rfl rfl ?_
  refine x_aload_n C d_CS_mostInNeed_7 rfl rfl ?_
  refine g_CS_cs_made C hn d_CS_mostInNeed_8 ?_
  refine xn_icmp_ge C (by omega) (Nat.lt_trans (hB 0 0 0) (by decide)) 81 d_CS_mostInNeed_11 (by decide) (fun h11 => ?_) (fun h11 => ?_)
  · refine x_iload_n C d_CS_mostInNeed_81 rfl rfl ?_
    exact x_iret C hret d_CS_mostInNeed_82 ⟨rfl, by rw [show i = σ 0 0 0 by omega]⟩
  · refine x_aload_n C d_CS_mostInNeed_14 rfl rfl ?_
    refine x_iload_n C d_CS_mostInNeed_15 rfl rfl ?_
    refine c_CS_CS_liveHolders C (by omega) hn (m_CS_liveHolders htr hn hB hH (by omega) (Nat.le_refl _)) rfl rfl (Nat.le_of_ble_eq_true rfl) d_CS_mostInNeed_16 (fun v E' hp => ?_) (fun X E' hp => ?_)
    · obtain ⟨rfl, hv⟩ := hp
      cases hv
      refine c_CS_IN_bitCount C (by omega) (m_IN_bitCount htr (lvh_lt _ _) (Nat.le_refl _)) rfl rfl (Nat.le_of_ble_eq_true rfl) d_CS_mostInNeed_19 (fun v E' hp => ?_) (fun X E' hp => ?_)
      · obtain ⟨rfl, hv⟩ := hp
        cases hv
        refine x_istore C d_CS_mostInNeed_22 (by decide) rfl ?_
        refine x_aload_n C d_CS_mostInNeed_24 rfl rfl ?_
        refine g_CS_cs_chunks C hn d_CS_mostInNeed_25 ?_
        refine x_iload_n C d_CS_mostInNeed_28 rfl rfl ?_
        refine e_arrC C (by omega) hn d_CS_mostInNeed_29 ?_
        refine g_CS_chunk_refs C (by omega) hn d_CS_mostInNeed_30 ?_
        refine xn_if_le C (Nat.lt_trans (hB 7 i 0) (by decide)) 52 d_CS_mostInNeed_33 (by decide) (fun h33 => ?_) (fun h33 => ?_)
        · refine x_iconst C (v := nI 0) d_CS_mostInNeed_52 (by decide) ?_
          refine x_istore C d_CS_mostInNeed_53 (by decide) rfl ?_
          refine x_iload C d_CS_mostInNeed_55 rfl ?_
          refine xn_if_eq C (by decide) 75 d_CS_mostInNeed_57 (by decide) (fun h57 => ?_) (fun h57 => ?_)
          · refine x_lv [(0, .ref (g (0))), (1, .int (iv 30 ((nd σ i).1))), (2, .int (nI ((nd σ i).2))), (3, .int (nI i)), (4, .int (nI (pop5 (lvh σ i)))), (5, .int (nI 0))] ⟨rfl, rfl, rfl, rfl, rfl, rfl, trivial⟩ ?_
            refine xn_iinc C d_CS_mostInNeed_75 3 rfl (by decide) rfl ?_
            refine x_goto C 6 d_CS_mostInNeed_78 (by decide) ?_
            have e : nd σ (i + 1) = nd σ i := by rw [nd]; rw [if_neg (by omega)]
            exact x_lv [(0, .ref (g (0))), (1, .int (iv 30 ((nd σ (i + 1)).1))), (2, .int (nI ((nd σ (i + 1)).2))), (3, .int (nI (i + 1)))] ⟨rfl, by rw [e]; rfl, by rw [e]; rfl, rfl, trivial⟩ (ihi (by omega) trivial)
          · exact absurd h57 (by decide)
        · refine x_iload C d_CS_mostInNeed_36 rfl ?_
          refine x_iconst C (v := nI 1) d_CS_mostInNeed_38 (by decide) ?_
          refine xn_icmp_lt C (Nat.lt_of_le_of_lt (pop5_le _) (by decide)) (by decide) 52 d_CS_mostInNeed_39 (by decide) (fun h39 => ?_) (fun h39 => ?_)
          · refine x_iconst C (v := nI 0) d_CS_mostInNeed_52 (by decide) ?_
            refine x_istore C d_CS_mostInNeed_53 (by decide) rfl ?_
            refine x_iload C d_CS_mostInNeed_55 rfl ?_
            refine xn_if_eq C (by decide) 75 d_CS_mostInNeed_57 (by decide) (fun h57 => ?_) (fun h57 => ?_)
            · refine x_lv [(0, .ref (g (0))), (1, .int (iv 30 ((nd σ i).1))), (2, .int (nI ((nd σ i).2))), (3, .int (nI i)), (4, .int (nI (pop5 (lvh σ i)))), (5, .int (nI 0))] ⟨rfl, rfl, rfl, rfl, rfl, rfl, trivial⟩ ?_
              refine xn_iinc C d_CS_mostInNeed_75 3 rfl (by decide) rfl ?_
              refine x_goto C 6 d_CS_mostInNeed_78 (by decide) ?_
              have e : nd σ (i + 1) = nd σ i := by rw [nd]; rw [if_neg (by omega)]
              exact x_lv [(0, .ref (g (0))), (1, .int (iv 30 ((nd σ (i + 1)).1))), (2, .int (nI ((nd σ (i + 1)).2))), (3, .int (nI (i + 1)))] ⟨rfl, by rw [e]; rfl, by rw [e]; rfl, rfl, trivial⟩ (ihi (by omega) trivial)
            · exact absurd h57 (by decide)
          · refine x_iload C d_CS_mostInNeed_42 rfl ?_
            refine x_iload_n C d_CS_mostInNeed_44 rfl rfl ?_
            refine xn_icmp_ge C (Nat.lt_of_le_of_lt (pop5_le _) (by decide)) (by have := (nd_le (σ := σ) i (by omega)).2; omega) 52 d_CS_mostInNeed_45 (by decide) (fun h45 => ?_) (fun h45 => ?_)
            · refine x_iconst C (v := nI 0) d_CS_mostInNeed_52 (by decide) ?_
              refine x_istore C d_CS_mostInNeed_53 (by decide) rfl ?_
              refine x_iload C d_CS_mostInNeed_55 rfl ?_
              refine xn_if_eq C (by decide) 75 d_CS_mostInNeed_57 (by decide) (fun h57 => ?_) (fun h57 => ?_)
              · refine x_lv [(0, .ref (g (0))), (1, .int (iv 30 ((nd σ i).1))), (2, .int (nI ((nd σ i).2))), (3, .int (nI i)), (4, .int (nI (pop5 (lvh σ i)))), (5, .int (nI 0))] ⟨rfl, rfl, rfl, rfl, rfl, rfl, trivial⟩ ?_
                refine xn_iinc C d_CS_mostInNeed_75 3 rfl (by decide) rfl ?_
                refine x_goto C 6 d_CS_mostInNeed_78 (by decide) ?_
                have e : nd σ (i + 1) = nd σ i := by rw [nd]; rw [if_neg (by omega)]
                exact x_lv [(0, .ref (g (0))), (1, .int (iv 30 ((nd σ (i + 1)).1))), (2, .int (nI ((nd σ (i + 1)).2))), (3, .int (nI (i + 1)))] ⟨rfl, by rw [e]; rfl, by rw [e]; rfl, rfl, trivial⟩ (ihi (by omega) trivial)
              · exact absurd h57 (by decide)
            · refine x_iconst C (v := nI 1) d_CS_mostInNeed_48 (by decide) ?_
              refine x_goto C 53 d_CS_mostInNeed_49 (by decide) ?_
              refine x_istore C d_CS_mostInNeed_53 (by decide) rfl ?_
              refine x_iload C d_CS_mostInNeed_55 rfl ?_
              refine xn_if_eq C (by decide) 75 d_CS_mostInNeed_57 (by decide) (fun h57 => ?_) (fun h57 => ?_)
              · exact absurd h57 (by decide)
              · refine x_aload_n C d_CS_mostInNeed_60 rfl rfl ?_
                refine x_iload_n C d_CS_mostInNeed_61 rfl rfl ?_
                refine x_iconst C (v := nI 0) d_CS_mostInNeed_62 (by decide) ?_
                refine c_CS_CS_lightest C (by omega) hn (m_CS_lightest htr hn hB (by omega) (by decide) (Nat.le_refl _)) rfl rfl (Nat.le_of_ble_eq_true rfl) d_CS_mostInNeed_63 (fun v E' hp => ?_) (fun X E' hp => ?_)
                · obtain ⟨rfl, hv⟩ := hp
                  cases hv
                  refine x_iconst C (v := -1) d_CS_mostInNeed_66 (by decide) ?_
                  refine x_icmp_eq C 75 d_CS_mostInNeed_67 (by decide) (fun h67 => ?_) (fun h67 => ?_)
                  · have h67 := (iv_m1 ⟨bst_le _ _ _, by decide⟩).mp h67
                    refine x_lv [(0, .ref (g (0))), (1, .int (iv 30 ((nd σ i).1))), (2, .int (nI ((nd σ i).2))), (3, .int (nI i)), (4, .int (nI (pop5 (lvh σ i)))), (5, .int (nI 1))] ⟨rfl, rfl, rfl, rfl, rfl, rfl, trivial⟩ ?_
                    refine xn_iinc C d_CS_mostInNeed_75 3 rfl (by decide) rfl ?_
                    refine x_goto C 6 d_CS_mostInNeed_78 (by decide) ?_
                    have e : nd σ (i + 1) = nd σ i := by rw [nd]; rw [if_neg (by omega)]
                    exact x_lv [(0, .ref (g (0))), (1, .int (iv 30 ((nd σ (i + 1)).1))), (2, .int (nI ((nd σ (i + 1)).2))), (3, .int (nI (i + 1)))] ⟨rfl, by rw [e]; rfl, by rw [e]; rfl, rfl, trivial⟩ (ihi (by omega) trivial)
                  · have h67 := iv_n1 ⟨bst_le _ _ _, by decide⟩ h67
                    refine x_iload_n C d_CS_mostInNeed_70 rfl rfl ?_
                    refine x_istore_n C d_CS_mostInNeed_71 rfl (by decide) rfl ?_
                    refine x_iload C d_CS_mostInNeed_72 rfl ?_
                    refine x_istore_n C d_CS_mostInNeed_74 rfl (by decide) rfl ?_
                    refine x_lv [(0, .ref (g (0))), (1, .int (nI i)), (2, .int (nI (pop5 (lvh σ i)))), (3, .int (nI i)), (4, .int (nI (pop5 (lvh σ i)))), (5, .int (nI 1))] ⟨rfl, rfl, rfl, rfl, rfl, rfl, trivial⟩ ?_
                    refine xn_iinc C d_CS_mostInNeed_75 3 rfl (by decide) rfl ?_
                    refine x_goto C 6 d_CS_mostInNeed_78 (by decide) ?_
                    have e : nd σ (i + 1) = (i, pop5 (lvh σ i)) := by rw [nd]; rw [if_pos (by omega)]
                    exact x_lv [(0, .ref (g (0))), (1, .int (iv 30 ((nd σ (i + 1)).1))), (2, .int (nI ((nd σ (i + 1)).2))), (3, .int (nI (i + 1)))] ⟨rfl, by rw [e]; rw [iv_lt (show i < 30 by omega)]; rfl, by rw [e]; rfl, rfl, trivial⟩ (ihi (by omega) trivial)
                · cases hp.2
      · cases hp.2
    · cases hp.2
end XM4
