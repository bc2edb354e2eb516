section XM3
/-- one of the set is full -/
def anyF (σ : Nat → Nat → Nat → Nat) (h : Nat) : Bool := (List.range 5).any (fun i => h.testBit i && decide (12 ≤ σ 11 i 0))
theorem anyF_t {σ : Nat → Nat → Nat → Nat} {h : Nat} : anyF σ h = true ↔ ∃ i, i < 5 ∧ h.testBit i = true ∧ 12 ≤ σ 11 i 0 := by simp [anyF]
/-- the version v of the chunk c at the first n of the set -/
def rvL (σ : Nat → Nat → Nat → Nat) (c h v : Nat) : Nat → (Nat → Nat → Nat → Nat)
  | 0 => σ
  | n + 1 => if h.testBit n then up3 (rvL σ c h v n) 12 n c v else rvL σ c h v n
theorem rvL_at {σ : Nat → Nat → Nat → Nat} {c h v : Nat} (n t i j : Nat) : rvL σ c h v n t i j = if i < n ∧ h.testBit i = true ∧ t = 12 ∧ j = c then v else σ t i j := by
  induction n generalizing t i j with
  | zero => simp [rvL]
  | succ n ih => unfold rvL; split <;> simp only [up3, ih] <;> grind
theorem rvL_B {σ : Nat → Nat → Nat → Nat} {c h v n : Nat} (hB : ∀ t i j, σ t i j < 2 ^ 30) (hv : v < 2 ^ 30) : ∀ t i j, rvL σ c h v n t i j < 2 ^ 30 := by
  intro t i j; rw [rvL_at]; split <;> first | exact hv | exact hB t i j
/-- the chunk's refs at the first n places of the file f taken back -/
def fgL (σ : Nat → Nat → Nat → Nat) (f : Nat) : Nat → (Nat → Nat → Nat → Nat)
  | 0 => σ
  | n + 1 => up3 (fgL σ f n) 7 (σ 4 f n) 0 (fgL σ f n 7 (σ 4 f n) 0 - 1)
theorem fgL_o {σ : Nat → Nat → Nat → Nat} {f : Nat} (n : Nat) {t i j : Nat} (h : ¬ t = 7) : fgL σ f n t i j = σ t i j := by
  induction n with
  | zero => rfl
  | succ n ih => unfold fgL; rw [up3_n h, ih]
theorem fgL_B {σ : Nat → Nat → Nat → Nat} {f : Nat} (hB : ∀ t i j, σ t i j < 2 ^ 30) : ∀ n t i j, fgL σ f n t i j < 2 ^ 30 := by
  intro n
  induction n with
  | zero => exact hB
  | succ n ih => exact up3_B ih (Nat.lt_of_le_of_lt (Nat.sub_le _ _) (ih _ _ _))
theorem m_CS_anyFull {l : Launch} (htr : xTr l) {D : va_G} {a : Nat → ClassId} {base : Nat} {g : Nat → Nat} {n : Nat} {σ : Nat → Nat → Nat → Nat} {w : Nat → Nat → Int32} {Y : Nat → va_E} (hn : 143 ≤ n) (hB : ∀ t i j, σ t i j < 2 ^ 30) {h : Nat} (hh : h < 32) {k : Nat} (hk : 1 ≤ k) : xM l y_CS_anyFull b_CS_anyFull 3 (some FieldType.boolean) k D a base g n (EL a g σ w Y) [.ref (g 0), .int (nI h)] (fun r E' => E' = EL a g σ w Y ∧ r = .inl (some (.int (nI (b01 (anyF σ h)))))) := by
  refine x_method (by decide) htr (Nat.le_of_ble_eq_true rfl) ?_
  intro p e s m args below meth c C hne hret hnm
  have C : xC p l e s m meth c b_CS_anyFull 3 "ChunkStore" args D xcl (xty a) base := C
  refine x_iconst C (v := nI 0) d_CS_anyFull_0 (by decide) ?_
  refine x_istore_n C d_CS_anyFull_1 rfl (by decide) rfl ?_
  refine x_loop 5 (fun i => EL a g σ w Y) (fun i => [(0, .ref (g (0))), (1, .int (nI h)), (2, .int (nI i))]) (fun i => ∀ j, j < i → ¬ (h.testBit j = true ∧ 12 ≤ σ 11 j 0)) rfl ⟨rfl, rfl, rfl, trivial⟩ (fun j hj => absurd hj (Nat.not_lt_zero j)) ?_
  intro i hi hIi ihi
  refine x_iload_n C d_CS_anyFull_2 rfl rfl ?_
  refine x_iconst C (v := nI 5) d_CS_anyFull_3 (by decide) ?_
  refine xn_icmp_ge C (by omega) (by decide) 35 d_CS_anyFull_4 (by decide) (fun h4 => ?_) (fun h4 => ?_)
  · refine x_iconst C (v := nI 0) d_CS_anyFull_35 (by decide) ?_
    exact x_zret C hret rfl d_CS_anyFull_36 ⟨rfl, by rw [b01_f (by rw [Bool.eq_false_iff]; intro q; obtain ⟨j, h1, h2⟩ := anyF_t.mp q; exact hIi j (by omega) h2)]⟩
  · refine x_iload_n C d_CS_anyFull_7 rfl rfl ?_
    refine x_iload_n C d_CS_anyFull_8 rfl rfl ?_
    refine c_CS_CS_isIn C (by omega) (m_CS_isIn htr hh (by omega) (Nat.le_refl _)) rfl rfl (Nat.le_of_ble_eq_true rfl) d_CS_anyFull_9 (fun v E' hp => ?_) (fun X E' hp => ?_)
    · obtain ⟨rfl, hv⟩ := hp
      cases hv
      refine xn_if_eq C (b01_lt _) 29 d_CS_anyFull_12 (by decide) (fun h12 => ?_) (fun h12 => ?_)
      · rw [b01_0] at h12
        refine x_lv [(0, .ref (g (0))), (1, .int (nI h)), (2, .int (nI i))] ⟨rfl, rfl, rfl, trivial⟩ ?_
        refine xn_iinc C d_CS_anyFull_29 2 rfl (by decide) rfl ?_
        refine x_goto C 2 d_CS_anyFull_32 (by decide) ?_
        exact x_lv [(0, .ref (g (0))), (1, .int (nI h)), (2, .int (nI (i + 1)))] ⟨rfl, rfl, rfl, trivial⟩ (ihi (by omega) (all_succ hIi (by grind)))
      · rw [b01_n0] at h12
        refine x_aload_n C d_CS_anyFull_15 rfl rfl ?_
        refine g_CS_cs_servers C hn d_CS_anyFull_16 ?_
        refine x_iload_n C d_CS_anyFull_19 rfl rfl ?_
        refine e_arrS C (by omega) hn d_CS_anyFull_20 ?_
        refine c_CS_SV_isFull C (by omega) (by omega) hn (m_SV_isFull htr hn hB (by omega) (Nat.le_refl _)) rfl rfl (Nat.le_of_ble_eq_true rfl) d_CS_anyFull_21 (fun v E' hp => ?_) (fun X E' hp => ?_)
        · obtain ⟨rfl, hv⟩ := hp
          cases hv
          refine xn_if_eq C (b01_lt _) 29 d_CS_anyFull_24 (by decide) (fun h24 => ?_) (fun h24 => ?_)
          · rw [b01_0] at h24
            have h24 := of_decide_eq_false h24
            refine x_lv [(0, .ref (g (0))), (1, .int (nI h)), (2, .int (nI i))] ⟨rfl, rfl, rfl, trivial⟩ ?_
            refine xn_iinc C d_CS_anyFull_29 2 rfl (by decide) rfl ?_
            refine x_goto C 2 d_CS_anyFull_32 (by decide) ?_
            exact x_lv [(0, .ref (g (0))), (1, .int (nI h)), (2, .int (nI (i + 1)))] ⟨rfl, rfl, rfl, trivial⟩ (ihi (by omega) (all_succ hIi (by grind)))
          · rw [b01_n0] at h24
            have h24 := of_decide_eq_true h24
            refine x_iconst C (v := nI 1) d_CS_anyFull_27 (by decide) ?_
            exact x_zret C hret rfl d_CS_anyFull_28 ⟨rfl, by rw [b01_t (by rw [anyF_t]; exact ⟨i, by omega, h12, h24⟩)]⟩
        · cases hp.2
    · cases hp.2
theorem m_CS_raiseVersion {l : Launch} (htr : xTr l) {D : va_G} {a : Nat → ClassId} {base : Nat} {g : Nat → Nat} {n : Nat} {σ : Nat → Nat → Nat → Nat} {w : Nat → Nat → Int32} {Y : Nat → va_E} (hn : 143 ≤ n) (hB : ∀ t i j, σ t i j < 2 ^ 30) {q h : Nat} (hq : q < 30) (hh : h < 32) {k : Nat} (hk : 1 ≤ k) : xM l y_CS_raiseVersion b_CS_raiseVersion 5 none k D a base g n (EL a g σ w Y) [.ref (g 0), .int (nI q), .int (nI h)] (fun r E' => E' = EL a g (rvL (up3 (up3 σ 6 q 0 (σ 6 q 0 + 1)) 8 q 0 h) q h (σ 6 q 0 + 1) 5) w Y ∧ r = .inl none) := by
  refine x_method (by decide) htr (Nat.le_of_ble_eq_true rfl) ?_
  intro p e s m args below meth c C hne hret hnm
  have C : xC p l e s m meth c b_CS_raiseVersion 5 "ChunkStore" args D xcl (xty a) base := C
  refine x_aload_n C d_CS_raiseVersion_0 rfl rfl ?_
  refine g_CS_cs_chunks C hn d_CS_raiseVersion_1 ?_
  refine x_iload_n C d_CS_raiseVersion_4 rfl rfl ?_
  refine e_arrC C hq hn d_CS_raiseVersion_5 ?_
  refine x_astore_n C d_CS_raiseVersion_6 rfl (by decide) rfl ?_
  refine x_aload_n C d_CS_raiseVersion_7 rfl rfl ?_
  refine x_dup C d_CS_raiseVersion_8 rfl ?_
  refine g_CS_chunk_version C hq hn d_CS_raiseVersion_9 ?_
  refine x_iconst C (v := nI 1) d_CS_raiseVersion_12 (by decide) ?_
  refine xn_iadd C d_CS_raiseVersion_13 ?_
  refine p_CS_chunk_version C hq hn d_CS_raiseVersion_14 ?_
  refine x_aload_n C d_CS_raiseVersion_17 rfl rfl ?_
  refine x_iload_n C d_CS_raiseVersion_18 rfl rfl ?_
  refine p_CS_chunk_holders C hq hn d_CS_raiseVersion_19 ?_
  refine x_iconst C (v := nI 0) d_CS_raiseVersion_22 (by decide) ?_
  refine x_istore C d_CS_raiseVersion_23 (by decide) rfl ?_
  refine x_loop 5 (fun i => EL a g (rvL (up3 (up3 σ 6 q 0 (σ 6 q 0 + 1)) 8 q 0 h) q h (σ 6 q 0 + 1) i) w Y) (fun i => [(0, .ref (g (0))), (1, .int (nI q)), (2, .int (nI h)), (3, .ref (g (19 + q))), (4, .int (nI i))]) (fun i => True) rfl ⟨rfl, rfl, rfl, rfl, rfl, trivial⟩ trivial ?_
  intro i hi hIi ihi
  refine x_iload C d_CS_raiseVersion_25 rfl ?_
  refine x_iconst C (v := nI 5) d_CS_raiseVersion_27 (by decide) ?_
  refine xn_icmp_ge C (by omega) (by decide) 62 d_CS_raiseVersion_28 (by decide) (fun h28 => ?_) (fun h28 => ?_)
  · exact x_vret C hret d_CS_raiseVersion_62 ⟨by rw [show i = 5 by omega], rfl⟩
  · refine x_iload_n C d_CS_raiseVersion_31 rfl rfl ?_
    refine x_iload C d_CS_raiseVersion_32 rfl ?_
    refine c_CS_CS_isIn C (by omega) (m_CS_isIn htr hh (by omega) (Nat.le_refl _)) rfl rfl (Nat.le_of_ble_eq_true rfl) d_CS_raiseVersion_34 (fun v E' hp => ?_) (fun X E' hp => ?_)
    · obtain ⟨rfl, hv⟩ := hp
      cases hv
      refine xn_if_eq C (b01_lt _) 56 d_CS_raiseVersion_37 (by decide) (fun h37 => ?_) (fun h37 => ?_)
      · rw [b01_0] at h37
        refine x_lv [(0, .ref (g (0))), (1, .int (nI q)), (2, .int (nI h)), (3, .ref (g (19 + q))), (4, .int (nI i))] ⟨rfl, rfl, rfl, rfl, rfl, trivial⟩ ?_
        refine xn_iinc C d_CS_raiseVersion_56 4 rfl (by decide) rfl ?_
        refine x_goto C 25 d_CS_raiseVersion_59 (by decide) ?_
        refine x_E (E' := EL a g (rvL (up3 (up3 σ 6 q 0 (σ 6 q 0 + 1)) 8 q 0 h) q h (σ 6 q 0 + 1) (i + 1)) w Y) (by rw [rvL, if_neg (by simp [h37])]) ?_
        exact x_lv [(0, .ref (g (0))), (1, .int (nI q)), (2, .int (nI h)), (3, .ref (g (19 + q))), (4, .int (nI (i + 1)))] ⟨rfl, rfl, rfl, rfl, rfl, trivial⟩ (ihi (by omega) trivial)
      · rw [b01_n0] at h37
        refine x_aload_n C d_CS_raiseVersion_40 rfl rfl ?_
        refine g_CS_cs_servers C hn d_CS_raiseVersion_41 ?_
        refine x_iload C d_CS_raiseVersion_44 rfl ?_
        refine e_arrS C (by omega) hn d_CS_raiseVersion_46 ?_
        refine g_CS_server_versions C (by omega) hn d_CS_raiseVersion_47 ?_
        refine x_iload_n C d_CS_raiseVersion_50 rfl rfl ?_
        refine x_aload_n C d_CS_raiseVersion_51 rfl rfl ?_
        refine g_CS_chunk_version C hq hn d_CS_raiseVersion_52 ?_
        refine a_vers C (by omega) hq hn d_CS_raiseVersion_55 ?_
        refine x_lv [(0, .ref (g (0))), (1, .int (nI q)), (2, .int (nI h)), (3, .ref (g (19 + q))), (4, .int (nI i))] ⟨rfl, rfl, rfl, rfl, rfl, trivial⟩ ?_
        refine xn_iinc C d_CS_raiseVersion_56 4 rfl (by decide) rfl ?_
        refine x_goto C 25 d_CS_raiseVersion_59 (by decide) ?_
        refine x_E (E' := EL a g (rvL (up3 (up3 σ 6 q 0 (σ 6 q 0 + 1)) 8 q 0 h) q h (σ 6 q 0 + 1) (i + 1)) w Y) (by rw [rvL, if_pos h37]; rw [rvL_at, if_neg (by omega), up3_n (by decide), up3_s]) ?_
        exact x_lv [(0, .ref (g (0))), (1, .int (nI q)), (2, .int (nI h)), (3, .ref (g (19 + q))), (4, .int (nI (i + 1)))] ⟨rfl, rfl, rfl, rfl, rfl, trivial⟩ (ihi (by omega) trivial)
    · cases hp.2
/-- the holders without s -/
def clr (a i : Nat) : Nat := if a.testBit i then a - 2 ^ i else a
theorem m_CS_forget {l : Launch} (htr : xTr l) {D : va_G} {a : Nat → ClassId} {base : Nat} {g : Nat → Nat} {n : Nat} {σ : Nat → Nat → Nat → Nat} {w : Nat → Nat → Int32} {Y : Nat → va_E} (hn : 143 ≤ n) (hB : ∀ t i j, σ t i j < 2 ^ 30) {f : Nat} (hf : f < 8) (hc : σ 3 f 0 ≤ 3) (hr : ∀ j, j < σ 3 f 0 → σ 4 f j < 30) (hg : ∀ j, j < σ 3 f 0 → 1 ≤ fgL σ f j 7 (σ 4 f j) 0) {k : Nat} (hk : 0 ≤ k) : xM l y_CS_forget b_CS_forget 3 none k D a base g n (EL a g σ w Y) [.ref (g 0), .ref (g (2 + 2 * f))] (fun r E' => E' = EL a g (up3 (up3 (fgL σ f (σ 3 f 0)) 3 f 0 0) 2 f 0 0) w Y ∧ r = .inl none) := by
  refine x_method (by decide) htr (Nat.le_of_ble_eq_true rfl) ?_
  intro p e s m args below meth c C hne hret hnm
  have C : xC p l e s m meth c b_CS_forget 3 "ChunkStore" args D xcl (xty a) base := C
  refine x_iconst C (v := nI 0) d_CS_forget_0 (by decide) ?_
  refine x_istore_n C d_CS_forget_1 rfl (by decide) rfl ?_
  refine x_loop (σ 3 f 0) (fun i => EL a g (fgL σ f i) w Y) (fun i => [(0, .ref (g (0))), (1, .ref (g (2 + 2 * f))), (2, .int (nI i))]) (fun i => True) rfl ⟨rfl, rfl, rfl, trivial⟩ trivial ?_
  intro i hi hIi ihi
  refine x_iload_n C d_CS_forget_2 rfl rfl ?_
  refine x_aload_n C d_CS_forget_3 rfl rfl ?_
  refine g_CS_file_count C hf hn d_CS_forget_4 ?_
  refine xn_icmp_ge C (by omega) (Nat.lt_trans ((fgL_B hB i) 3 f 0) (by decide)) 36 d_CS_forget_7 (by decide) (fun h7 => ?_) (fun h7 => ?_)
  · rw [fgL_o _ (by decide)] at h7
    refine x_aload_n C d_CS_forget_36 rfl rfl ?_
    refine x_iconst C (v := nI 0) d_CS_forget_37 (by decide) ?_
    refine p_CS_file_count C hf hn d_CS_forget_38 ?_
    refine x_aload_n C d_CS_forget_41 rfl rfl ?_
    refine x_iconst C (v := nI 0) d_CS_forget_42 (by decide) ?_
    refine p_CS_file_state C hf hn d_CS_forget_43 ?_
    exact x_vret C hret d_CS_forget_46 ⟨by rw [show i = σ 3 f 0 by omega], rfl⟩
  · rw [fgL_o _ (by decide)] at h7
    refine x_aload_n C d_CS_forget_10 rfl rfl ?_
    refine g_CS_cs_chunks C hn d_CS_forget_11 ?_
    refine x_aload_n C d_CS_forget_14 rfl rfl ?_
    refine g_CS_file_row C hf hn d_CS_forget_15 ?_
    refine x_iload_n C d_CS_forget_18 rfl rfl ?_
    refine e_row C hf (by omega) hn d_CS_forget_19 ?_
    refine e_arrC C (by rw [fgL_o _ (by decide)]; exact hr i h7) hn d_CS_forget_20 ?_
    refine x_dup C d_CS_forget_21 rfl ?_
    refine g_CS_chunk_refs C (by rw [fgL_o _ (by decide)]; exact hr i h7) hn d_CS_forget_22 ?_
    refine x_iconst C (v := nI 1) d_CS_forget_25 (by decide) ?_
    refine xn_isub C (by rw [fgL_o _ (show ¬ 4 = 7 by decide)]; exact hg i h7) d_CS_forget_26 ?_
    refine p_CS_chunk_refs C (by rw [fgL_o _ (by decide)]; exact hr i h7) hn d_CS_forget_27 ?_
    refine x_lv [(0, .ref (g (0))), (1, .ref (g (2 + 2 * f))), (2, .int (nI i))] ⟨rfl, rfl, rfl, trivial⟩ ?_
    refine xn_iinc C d_CS_forget_30 2 rfl (by decide) rfl ?_
    refine x_goto C 2 d_CS_forget_33 (by decide) ?_
    refine x_E (E' := EL a g (fgL σ f (i + 1)) w Y) (by rw [fgL]; simp only [fgL_o _ (show ¬ 4 = 7 by decide)]) ?_
    exact x_lv [(0, .ref (g (0))), (1, .ref (g (2 + 2 * f))), (2, .int (nI (i + 1)))] ⟨rfl, rfl, rfl, trivial⟩ (ihi h7 trivial)
def cfD (σ : Nat → Nat → Nat → Nat) (s c : Nat) : Bool := decide (σ 7 c 0 = 0 ∨ σ 12 s c < σ 6 c 0)
def cfS (σ : Nat → Nat → Nat → Nat) (s c : Nat) : Nat → Nat → Nat → Nat := if cfD σ s c then up3 (up3 (up3 σ 12 s c 0) 11 s 0 (σ 11 s 0 - 1)) 8 c 0 (clr (σ 8 c 0) s) else up3 σ 8 c 0 (σ 8 c 0 ||| 2 ^ s)
theorem m_CS_confirmReplica {l : Launch} (htr : xTr l) {D : va_G} {a : Nat → ClassId} {base : Nat} {g : Nat → Nat} {n : Nat} {σ : Nat → Nat → Nat → Nat} {w : Nat → Nat → Int32} {Y : Nat → va_E} (hn : 143 ≤ n) (hB : ∀ t i j, σ t i j < 2 ^ 30) (hH : ∀ c, σ 8 c 0 < 32) {i q : Nat} (hi : i < 5) (hq : q < 30) (h1 : 1 ≤ σ 11 i 0) {k : Nat} (hk : 1 ≤ k) : xM l y_CS_confirmReplica b_CS_confirmReplica 4 (some FieldType.boolean) k D a base g n (EL a g σ w Y) [.ref (g 0), .int (nI i), .int (nI q)] (fun r E' => E' = EL a g (cfS σ i q) w Y ∧ r = .inl (some (.int (nI (b01 (!cfD σ i q)))))) := by
  refine x_method (by decide) htr (Nat.le_of_ble_eq_true rfl) ?_
  intro p e s m args below meth c C hne hret hnm
  have C : xC p l e s m meth c b_CS_confirmReplica 4 "ChunkStore" args D xcl (xty a) base := C
  refine x_aload_n C d_CS_confirmReplica_0 rfl rfl ?_
  refine g_CS_cs_chunks C hn d_CS_confirmReplica_1 ?_
  refine x_iload_n C d_CS_confirmReplica_4 rfl rfl ?_
  refine e_arrC C hq hn d_CS_confirmReplica_5 ?_
  refine x_astore_n C d_CS_confirmReplica_6 rfl (by decide) rfl ?_
  refine x_aload_n C d_CS_confirmReplica_7 rfl rfl ?_
  refine g_CS_chunk_refs C hq hn d_CS_confirmReplica_8 ?_
  refine xn_if_eq C (Nat.lt_trans (hB 7 q 0) (by decide)) 32 d_CS_confirmReplica_11 (by decide) (fun h11 => ?_) (fun h11 => ?_)
  · refine x_aload_n C d_CS_confirmReplica_32 rfl rfl ?_
    refine g_CS_cs_servers C hn d_CS_confirmReplica_33 ?_
    refine x_iload_n C d_CS_confirmReplica_36 rfl rfl ?_
    refine e_arrS C hi hn d_CS_confirmReplica_37 ?_
    refine x_iload_n C d_CS_confirmReplica_38 rfl rfl ?_
    refine c_CS_SV_drop C (by omega) hi hn (m_SV_drop htr hn hB hi hq h1 (Nat.le_refl _)) rfl rfl (Nat.le_of_ble_eq_true rfl) d_CS_confirmReplica_39 (fun v E' hp => ?_) (fun X E' hp => ?_)
    · obtain ⟨rfl, hv⟩ := hp
      cases hv
      refine x_aload_n C d_CS_confirmReplica_42 rfl rfl ?_
      refine x_dup C d_CS_confirmReplica_43 rfl ?_
      refine g_CS_chunk_holders C hq hn d_CS_confirmReplica_44 ?_
      refine x_iconst C (v := nI 1) d_CS_confirmReplica_47 (by decide) ?_
      refine x_iload_n C d_CS_confirmReplica_48 rfl rfl ?_
      refine xn_bit C hi d_CS_confirmReplica_49 ?_
      refine x_iconst C (v := -1) d_CS_confirmReplica_50 (by decide) ?_
      refine x_ixor C d_CS_confirmReplica_51 ?_
      refine xn_iandnot C (by rw [up3_n (by decide), up3_n (by decide)]; exact hH q) hi d_CS_confirmReplica_52 ?_
      refine p_CS_chunk_holders C hq hn d_CS_confirmReplica_53 ?_
      refine x_iconst C (v := nI 0) d_CS_confirmReplica_56 (by decide) ?_
      exact x_zret C hret rfl d_CS_confirmReplica_57 ⟨by rw [cfS, if_pos (show cfD σ i q = true by simp [cfD]; omega)]; simp only [clr, up3_n (show ¬ 8 = 12 by decide), up3_n (show ¬ 8 = 11 by decide)], by rw [b01_f (by simp [cfD]; omega)]⟩
    · cases hp.2
  · refine x_aload_n C d_CS_confirmReplica_14 rfl rfl ?_
    refine g_CS_chunk_version C hq hn d_CS_confirmReplica_15 ?_
    refine x_aload_n C d_CS_confirmReplica_18 rfl rfl ?_
    refine g_CS_cs_servers C hn d_CS_confirmReplica_19 ?_
    refine x_iload_n C d_CS_confirmReplica_22 rfl rfl ?_
    refine e_arrS C hi hn d_CS_confirmReplica_23 ?_
    refine g_CS_server_versions C hi hn d_CS_confirmReplica_24 ?_
    refine x_iload_n C d_CS_confirmReplica_27 rfl rfl ?_
    refine e_vers C hi hq hn d_CS_confirmReplica_28 ?_
    refine xn_icmp_le C (Nat.lt_trans (hB 6 q 0) (by decide)) (Nat.lt_trans (hB 12 i q) (by decide)) 58 d_CS_confirmReplica_29 (by decide) (fun h29 => ?_) (fun h29 => ?_)
    · refine x_aload_n C d_CS_confirmReplica_58 rfl rfl ?_
      refine x_dup C d_CS_confirmReplica_59 rfl ?_
      refine g_CS_chunk_holders C hq hn d_CS_confirmReplica_60 ?_
      refine x_iconst C (v := nI 1) d_CS_confirmReplica_63 (by decide) ?_
      refine x_iload_n C d_CS_confirmReplica_64 rfl rfl ?_
      refine xn_bit C hi d_CS_confirmReplica_65 ?_
      refine xn_ior C (hH q) (bt_p _ hi) d_CS_confirmReplica_66 ?_
      refine p_CS_chunk_holders C hq hn d_CS_confirmReplica_67 ?_
      refine x_iconst C (v := nI 1) d_CS_confirmReplica_70 (by decide) ?_
      exact x_zret C hret rfl d_CS_confirmReplica_71 ⟨by rw [cfS, if_neg (show ¬ cfD σ i q = true by simp [cfD]; omega)], by rw [b01_t (by simp [cfD]; omega)]⟩
    · refine x_aload_n C d_CS_confirmReplica_32 rfl rfl ?_
      refine g_CS_cs_servers C hn d_CS_confirmReplica_33 ?_
      refine x_iload_n C d_CS_confirmReplica_36 rfl rfl ?_
      refine e_arrS C hi hn d_CS_confirmReplica_37 ?_
      refine x_iload_n C d_CS_confirmReplica_38 rfl rfl ?_
      refine c_CS_SV_drop C (by omega) hi hn (m_SV_drop htr hn hB hi hq h1 (Nat.le_refl _)) rfl rfl (Nat.le_of_ble_eq_true rfl) d_CS_confirmReplica_39 (fun v E' hp => ?_) (fun X E' hp => ?_)
      · obtain ⟨rfl, hv⟩ := hp
        cases hv
        refine x_aload_n C d_CS_confirmReplica_42 rfl rfl ?_
        refine x_dup C d_CS_confirmReplica_43 rfl ?_
        refine g_CS_chunk_holders C hq hn d_CS_confirmReplica_44 ?_
        refine x_iconst C (v := nI 1) d_CS_confirmReplica_47 (by decide) ?_
        refine x_iload_n C d_CS_confirmReplica_48 rfl rfl ?_
        refine xn_bit C hi d_CS_confirmReplica_49 ?_
        refine x_iconst C (v := -1) d_CS_confirmReplica_50 (by decide) ?_
        refine x_ixor C d_CS_confirmReplica_51 ?_
        refine xn_iandnot C (by rw [up3_n (by decide), up3_n (by decide)]; exact hH q) hi d_CS_confirmReplica_52 ?_
        refine p_CS_chunk_holders C hq hn d_CS_confirmReplica_53 ?_
        refine x_iconst C (v := nI 0) d_CS_confirmReplica_56 (by decide) ?_
        exact x_zret C hret rfl d_CS_confirmReplica_57 ⟨by rw [cfS, if_pos (show cfD σ i q = true by simp [cfD]; omega)]; simp only [clr, up3_n (show ¬ 8 = 12 by decide), up3_n (show ¬ 8 = 11 by decide)], by rw [b01_f (by simp [cfD]; omega)]⟩
      · cases hp.2
def swS (σ : Nat → Nat → Nat → Nat) (s c u : Nat) : Nat → Nat → Nat → Nat := if u < 4 then up3 σ 13 s c (if u + 1 ≤ σ 13 s c then σ 13 s c else u + 1) else σ
def swW (w : Nat → Nat → Int32) (s c u : Nat) (v : Int32) : Nat → Nat → Int32 := if u < 4 then up2 w s (c * 4 + u) v else w
theorem m_SV_setWord {l : Launch} (htr : xTr l) {D : va_G} {a : Nat → ClassId} {base : Nat} {g : Nat → Nat} {n : Nat} {σ : Nat → Nat → Nat → Nat} {w : Nat → Nat → Int32} {Y : Nat → va_E} (hn : 143 ≤ n) (hB : ∀ t i j, σ t i j < 2 ^ 30) {i q u : Nat} {v : Int32} (hi : i < 5) (hq : q < 30) (hu : u < 2 ^ 30) {k : Nat} (hk : 1 ≤ k) : xM l y_SV_setWord b_SV_setWord 4 none k D a base g n (EL a g σ w Y) [.ref (g (50 + 4 * i)), .int (nI q), .int (nI u), .int v] (fun r E' => E' = EL a g (swS σ i q u) (swW w i q u v) Y ∧ r = .inl none) := by
  refine x_method (by decide) htr (Nat.le_of_ble_eq_true rfl) ?_
  intro p e s m args below meth c C hne hret hnm
  have C : xC p l e s m meth c b_SV_setWord 4 "ChunkStore$Server" args D xcl (xty a) base := C
  refine x_iload_n C d_SV_setWord_0 rfl rfl ?_
  refine x_iconst C (v := nI 4) d_SV_setWord_1 (by decide) ?_
  refine xn_icmp_ge C (by omega) (by decide) 34 d_SV_setWord_2 (by decide) (fun h2 => ?_) (fun h2 => ?_)
  · exact x_vret C hret d_SV_setWord_34 ⟨by rw [swS, swW, if_neg (by omega), if_neg (by omega)], rfl⟩
  · refine x_aload_n C d_SV_setWord_5 rfl rfl ?_
    refine g_SV_server_words C hi hn d_SV_setWord_6 ?_
    refine x_iload_n C d_SV_setWord_9 rfl rfl ?_
    refine x_iconst C (v := nI 4) d_SV_setWord_10 (by decide) ?_
    refine xn_imul C d_SV_setWord_11 ?_
    refine x_iload_n C d_SV_setWord_12 rfl rfl ?_
    refine xn_iadd C d_SV_setWord_13 ?_
    refine x_iload_n C d_SV_setWord_14 rfl rfl ?_
    refine a_wrds C hi (by omega) hn d_SV_setWord_15 ?_
    refine x_aload_n C d_SV_setWord_16 rfl rfl ?_
    refine g_SV_server_used C hi hn d_SV_setWord_17 ?_
    refine x_iload_n C d_SV_setWord_20 rfl rfl ?_
    refine x_aload_n C d_SV_setWord_21 rfl rfl ?_
    refine g_SV_server_used C hi hn d_SV_setWord_22 ?_
    refine x_iload_n C d_SV_setWord_25 rfl rfl ?_
    refine e_used C hi hq hn d_SV_setWord_26 ?_
    refine x_iload_n C d_SV_setWord_27 rfl rfl ?_
    refine x_iconst C (v := nI 1) d_SV_setWord_28 (by decide) ?_
    refine xn_iadd C d_SV_setWord_29 ?_
    refine c_SV_MA_max C (by omega) (m_MA_max htr (Nat.lt_trans (hB 13 i q) (by decide)) (by omega) (Nat.le_refl _)) rfl rfl (Nat.le_of_ble_eq_true rfl) d_SV_setWord_30 (fun v E' hp => ?_) (fun X E' hp => ?_)
    · obtain ⟨rfl, hv⟩ := hp
      cases hv
      refine a_used C hi hq hn d_SV_setWord_33 ?_
      exact x_vret C hret d_SV_setWord_34 ⟨by rw [swS, swW, if_pos h2, if_pos h2], rfl⟩
    · cases hp.2
def alS (σ : Nat → Nat → Nat → Nat) (i q i2 q2 v : Nat) : Nat → Nat → Nat → Nat := up3 (up3 (up3 σ 12 i q v) 13 i q (σ 13 i2 q2)) 11 i 0 (σ 11 i 0 + 1)
theorem m_SV_addLike {l : Launch} (htr : xTr l) {D : va_G} {a : Nat → ClassId} {base : Nat} {g : Nat → Nat} {n : Nat} {σ : Nat → Nat → Nat → Nat} {w : Nat → Nat → Int32} {Y : Nat → va_E} (hn : 143 ≤ n) (hB : ∀ t i j, σ t i j < 2 ^ 30) {i q i2 q2 v : Nat} (hi : i < 5) (hq : q < 30) (hi2 : i2 < 5) (hq2 : q2 < 30) (hv : v < 2 ^ 30) {k : Nat} (hk : 0 ≤ k) : xM l y_SV_addLike b_SV_addLike 6 none k D a base g n (EL a g σ w Y) [.ref (g (50 + 4 * i)), .int (nI q), .ref (g (50 + 4 * i2)), .int (nI q2), .int (nI v)] (fun r E' => E' = EL a g (alS σ i q i2 q2 v) (cpW w i q i2 q2 4) Y ∧ r = .inl none) := by
  refine x_method (by decide) htr (Nat.le_of_ble_eq_true rfl) ?_
  intro p e s m args below meth c C hne hret hnm
  have C : xC p l e s m meth c b_SV_addLike 6 "ChunkStore$Server" args D xcl (xty a) base := C
  refine x_aload_n C d_SV_addLike_0 rfl rfl ?_
  refine g_SV_server_versions C hi hn d_SV_addLike_1 ?_
  refine x_iload_n C d_SV_addLike_4 rfl rfl ?_
  refine x_iload C d_SV_addLike_5 rfl ?_
  refine a_vers C hi hq hn d_SV_addLike_7 ?_
  refine x_aload_n C d_SV_addLike_8 rfl rfl ?_
  refine g_SV_server_used C hi hn d_SV_addLike_9 ?_
  refine x_iload_n C d_SV_addLike_12 rfl rfl ?_
  refine x_aload_n C d_SV_addLike_13 rfl rfl ?_
  refine g_SV_server_used C hi2 hn d_SV_addLike_14 ?_
  refine x_iload_n C d_SV_addLike_17 rfl rfl ?_
  refine e_used C hi2 hq2 hn d_SV_addLike_18 ?_
  refine a_used C hi hq hn d_SV_addLike_19 ?_
  refine x_iconst C (v := nI 0) d_SV_addLike_20 (by decide) ?_
  refine x_istore C d_SV_addLike_21 (by decide) rfl ?_
  refine x_loop 4 (fun j => EL a g (up3 (up3 σ 12 i q v) 13 i q ((up3 σ 12 i q v) 13 i2 q2)) (cpW w i q i2 q2 j) Y) (fun j => [(0, .ref (g (50 + 4 * i))), (1, .int (nI q)), (2, .ref (g (50 + 4 * i2))), (3, .int (nI q2)), (4, .int (nI v)), (5, .int (nI j))]) (fun j => True) rfl ⟨rfl, rfl, rfl, rfl, rfl, rfl, trivial⟩ trivial ?_
  intro j hj hIj ihj
  refine x_iload C d_SV_addLike_23 rfl ?_
  refine x_iconst C (v := nI 4) d_SV_addLike_25 (by decide) ?_
  refine xn_icmp_ge C (by omega) (by decide) 57 d_SV_addLike_26 (by decide) (fun h26 => ?_) (fun h26 => ?_)
  · refine x_aload_n C d_SV_addLike_57 rfl rfl ?_
    refine x_dup C d_SV_addLike_58 rfl ?_
    refine g_SV_server_replicas C hi hn d_SV_addLike_59 ?_
    refine x_iconst C (v := nI 1) d_SV_addLike_62 (by decide) ?_
    refine xn_iadd C d_SV_addLike_63 ?_
    refine p_SV_server_replicas C hi hn d_SV_addLike_64 ?_
    exact x_vret C hret d_SV_addLike_67 ⟨by rw [show j = 4 by omega, alS]; simp only [up3_n (show ¬ 13 = 12 by decide), up3_n (show ¬ 11 = 13 by decide), up3_n (show ¬ 11 = 12 by decide)], rfl⟩
  · refine x_aload_n C d_SV_addLike_29 rfl rfl ?_
    refine g_SV_server_words C hi hn d_SV_addLike_30 ?_
    refine x_iload_n C d_SV_addLike_33 rfl rfl ?_
    refine x_iconst C (v := nI 4) d_SV_addLike_34 (by decide) ?_
    refine xn_imul C d_SV_addLike_35 ?_
    refine x_iload C d_SV_addLike_36 rfl ?_
    refine xn_iadd C d_SV_addLike_38 ?_
    refine x_aload_n C d_SV_addLike_39 rfl rfl ?_
    refine g_SV_server_words C hi2 hn d_SV_addLike_40 ?_
    refine x_iload_n C d_SV_addLike_43 rfl rfl ?_
    refine x_iconst C (v := nI 4) d_SV_addLike_44 (by decide) ?_
    refine xn_imul C d_SV_addLike_45 ?_
    refine x_iload C d_SV_addLike_46 rfl ?_
    refine xn_iadd C d_SV_addLike_48 ?_
    refine e_wrds C hi2 (by omega) hn d_SV_addLike_49 ?_
    refine a_wrds C hi (by omega) hn d_SV_addLike_50 ?_
    refine x_lv [(0, .ref (g (50 + 4 * i))), (1, .int (nI q)), (2, .ref (g (50 + 4 * i2))), (3, .int (nI q2)), (4, .int (nI v)), (5, .int (nI j))] ⟨rfl, rfl, rfl, rfl, rfl, rfl, trivial⟩ ?_
    refine xn_iinc C d_SV_addLike_51 5 rfl (by decide) rfl ?_
    refine x_goto C 23 d_SV_addLike_54 (by decide) ?_
    exact x_lv [(0, .ref (g (50 + 4 * i))), (1, .int (nI q)), (2, .ref (g (50 + 4 * i2))), (3, .int (nI q2)), (4, .int (nI v)), (5, .int (nI (j + 1)))] ⟨rfl, rfl, rfl, rfl, rfl, rfl, trivial⟩ (ihj (by omega) trivial)
theorem m_IN_bitCount {l : Launch} (htr : xTr l) {D : va_G} {a : Nat → ClassId} {base : Nat} {g : Nat → Nat} {n : Nat} {E : Nat → va_E} {h : Nat} (hh : h < 32) {k : Nat} (hk : 0 ≤ k) : xM l y_IN_bitCount b_IN_bitCount 1 (some FieldType.int) k D a base g n E [.int (nI h)] (fun r E' => E' = E ∧ r = .inl (some (.int (nI (pop5 h))))) := by
  refine x_methodF (by decide +kernel) htr (Nat.le_of_ble_eq_true rfl) ?_
  intro p e s m args below meth c C hne hret hnm
  have C : xC p l e s m meth c b_IN_bitCount 1 "java/lang/Integer" args D xcl (xty a) base := C
  refine x_iload_n C d_IN_bitCount_0 rfl rfl ?_
  refine x_iload_n C d_IN_bitCount_1 rfl rfl ?_
  refine x_iconst C (v := nI 1) d_IN_bitCount_2 (by decide) ?_
  refine x_iushr C d_IN_bitCount_3 ?_
  refine x_ldcw C kw500 d_IN_bitCount_4 ?_
  refine x_iand C d_IN_bitCount_7 ?_
  refine x_isub C d_IN_bitCount_8 ?_
  refine x_istore_n C d_IN_bitCount_9 rfl (by decide) rfl ?_
  refine x_iload_n C d_IN_bitCount_10 rfl rfl ?_
  refine x_ldcw C kw501 d_IN_bitCount_11 ?_
  refine x_iand C d_IN_bitCount_14 ?_
  refine x_iload_n C d_IN_bitCount_15 rfl rfl ?_
  refine x_iconst C (v := nI 2) d_IN_bitCount_16 (by decide) ?_
  refine x_iushr C d_IN_bitCount_17 ?_
  refine x_ldcw C kw501 d_IN_bitCount_18 ?_
  refine x_iand C d_IN_bitCount_21 ?_
  refine x_iadd C d_IN_bitCount_22 ?_
  refine x_istore_n C d_IN_bitCount_23 rfl (by decide) rfl ?_
  refine x_iload_n C d_IN_bitCount_24 rfl rfl ?_
  refine x_iload_n C d_IN_bitCount_25 rfl rfl ?_
  refine x_iconst C (v := nI 4) d_IN_bitCount_26 (by decide) ?_
  refine x_iushr C d_IN_bitCount_27 ?_
  refine x_iadd C d_IN_bitCount_28 ?_
  refine x_ldcw C kw502 d_IN_bitCount_29 ?_
  refine x_iand C d_IN_bitCount_32 ?_
  refine x_istore_n C d_IN_bitCount_33 rfl (by decide) rfl ?_
  refine x_iload_n C d_IN_bitCount_34 rfl rfl ?_
  refine x_iload_n C d_IN_bitCount_35 rfl rfl ?_
  refine x_bipush C (v := nI 8) d_IN_bitCount_36 (by decide) ?_
  refine x_iushr C d_IN_bitCount_38 ?_
  refine x_iadd C d_IN_bitCount_39 ?_
  refine x_istore_n C d_IN_bitCount_40 rfl (by decide) rfl ?_
  refine x_iload_n C d_IN_bitCount_41 rfl rfl ?_
  refine x_iload_n C d_IN_bitCount_42 rfl rfl ?_
  refine x_bipush C (v := nI 16) d_IN_bitCount_43 (by decide) ?_
  refine x_iushr C d_IN_bitCount_45 ?_
  refine x_iadd C d_IN_bitCount_46 ?_
  refine x_istore_n C d_IN_bitCount_47 rfl (by decide) rfl ?_
  refine x_iload_n C d_IN_bitCount_48 rfl rfl ?_
  refine x_bipush C (v := nI 63) d_IN_bitCount_49 (by decide) ?_
  refine x_iand C d_IN_bitCount_51 ?_
  exact x_iret C hret d_IN_bitCount_52 ⟨rfl, congrArg (fun v => Sum.inl (some (Value.int v))) ((by decide +kernel : ∀ h, h < 32 → ((((((((nI h) - ((((nI h).toUInt32 >>> ((nI 1).toUInt32 &&& Int32.toUInt32 31)).toInt32) &&& 1431655765)) &&& 858993459) + (((((nI h) - ((((nI h).toUInt32 >>> ((nI 1).toUInt32 &&& Int32.toUInt32 31)).toInt32) &&& 1431655765)).toUInt32 >>> ((nI 2).toUInt32 &&& Int32.toUInt32 31)).toInt32) &&& 858993459)) + ((((((nI h) - ((((nI h).toUInt32 >>> ((nI 1).toUInt32 &&& Int32.toUInt32 31)).toInt32) &&& 1431655765)) &&& 858993459) + (((((nI h) - ((((nI h).toUInt32 >>> ((nI 1).toUInt32 &&& Int32.toUInt32 31)).toInt32) &&& 1431655765)).toUInt32 >>> ((nI 2).toUInt32 &&& Int32.toUInt32 31)).toInt32) &&& 858993459)).toUInt32 >>> ((nI 4).toUInt32 &&& Int32.toUInt32 31)).toInt32)) &&& 252645135) + ((((((((nI h) - ((((nI h).toUInt32 >>> ((nI 1).toUInt32 &&& Int32.toUInt32 31)).toInt32) &&& 1431655765)) &&& 858993459) + (((((nI h) - ((((nI h).toUInt32 >>> ((nI 1).toUInt32 &&& Int32.toUInt32 31)).toInt32) &&& 1431655765)).toUInt32 >>> ((nI 2).toUInt32 &&& Int32.toUInt32 31)).toInt32) &&& 858993459)) + ((((((nI h) - ((((nI h).toUInt32 >>> ((nI 1).toUInt32 &&& Int32.toUInt32 31)).toInt32) &&& 1431655765)) &&& 858993459) + (((((nI h) - ((((nI h).toUInt32 >>> ((nI 1).toUInt32 &&& Int32.toUInt32 31)).toInt32) &&& 1431655765)).toUInt32 >>> ((nI 2).toUInt32 &&& Int32.toUInt32 31)).toInt32) &&& 858993459)).toUInt32 >>> ((nI 4).toUInt32 &&& Int32.toUInt32 31)).toInt32)) &&& 252645135).toUInt32 >>> ((nI 8).toUInt32 &&& Int32.toUInt32 31)).toInt32)) + (((((((((nI h) - ((((nI h).toUInt32 >>> ((nI 1).toUInt32 &&& Int32.toUInt32 31)).toInt32) &&& 1431655765)) &&& 858993459) + (((((nI h) - ((((nI h).toUInt32 >>> ((nI 1).toUInt32 &&& Int32.toUInt32 31)).toInt32) &&& 1431655765)).toUInt32 >>> ((nI 2).toUInt32 &&& Int32.toUInt32 31)).toInt32) &&& 858993459)) + ((((((nI h) - ((((nI h).toUInt32 >>> ((nI 1).toUInt32 &&& Int32.toUInt32 31)).toInt32) &&& 1431655765)) &&& 858993459) + (((((nI h) - ((((nI h).toUInt32 >>> ((nI 1).toUInt32 &&& Int32.toUInt32 31)).toInt32) &&& 1431655765)).toUInt32 >>> ((nI 2).toUInt32 &&& Int32.toUInt32 31)).toInt32) &&& 858993459)).toUInt32 >>> ((nI 4).toUInt32 &&& Int32.toUInt32 31)).toInt32)) &&& 252645135) + ((((((((nI h) - ((((nI h).toUInt32 >>> ((nI 1).toUInt32 &&& Int32.toUInt32 31)).toInt32) &&& 1431655765)) &&& 858993459) + (((((nI h) - ((((nI h).toUInt32 >>> ((nI 1).toUInt32 &&& Int32.toUInt32 31)).toInt32) &&& 1431655765)).toUInt32 >>> ((nI 2).toUInt32 &&& Int32.toUInt32 31)).toInt32) &&& 858993459)) + ((((((nI h) - ((((nI h).toUInt32 >>> ((nI 1).toUInt32 &&& Int32.toUInt32 31)).toInt32) &&& 1431655765)) &&& 858993459) + (((((nI h) - ((((nI h).toUInt32 >>> ((nI 1).toUInt32 &&& Int32.toUInt32 31)).toInt32) &&& 1431655765)).toUInt32 >>> ((nI 2).toUInt32 &&& Int32.toUInt32 31)).toInt32) &&& 858993459)).toUInt32 >>> ((nI 4).toUInt32 &&& Int32.toUInt32 31)).toInt32)) &&& 252645135).toUInt32 >>> ((nI 8).toUInt32 &&& Int32.toUInt32 31)).toInt32)).toUInt32 >>> ((nI 16).toUInt32 &&& Int32.toUInt32 31)).toInt32)) &&& (nI 63) = nI (pop5 h)) h hh)⟩
end XM3
