section XM8
theorem up3_M {σ : xSig} {t i j v M : Nat} (h : ∀ t i j, σ t i j < M) (hv : v < M) : ∀ x y z, up3 σ t i j v x y z < M := by
  intro x y z
  unfold up3
  by_cases q : x = t ∧ y = i ∧ z = j
  · rw [if_pos q]; exact hv
  · rw [if_neg q]; exact h x y z
/-- copy: the first n places -/
def cpL (σ : xSig) (f t : Nat) : Nat → xSig
  | 0 => up3 σ 2 t 0 1
  | n + 1 => aeS (up3 (up3 (cpL σ f t n) 9 (σ 4 f n) 0 0) 7 (σ 4 f n) 0 (cpL σ f t n 7 (σ 4 f n) 0 + 1)) t (σ 4 f n)
theorem aeS_n {σ : xSig} {f c t i j : Nat} (h : ¬ (t = 4 ∧ i = f) ∧ ¬ (t = 3 ∧ i = f)) : aeS σ f c t i j = σ t i j := by
  unfold aeS
  split
  · unfold up3; rw [if_neg (fun q => h.2 ⟨q.1, q.2.1⟩), if_neg (fun q => h.1 ⟨q.1, q.2.1⟩)]
  · rfl
theorem cpL_f {σ : xSig} {f t : Nat} (hft : ¬ f = t) (n : Nat) {x z : Nat} (hx : x = 3 ∨ x = 4) : cpL σ f t n x f z = σ x f z := by
  induction n with
  | zero => unfold cpL; exact up3_n (by omega)
  | succ n ih =>
    unfold cpL
    rw [aeS_n (by omega), up3_n (by omega), up3_n (by omega), ih]
theorem aeS_M {σ : xSig} {f c M : Nat} (h : ∀ t i j, σ t i j < M) (hc : c < M) (hM : 3 < M) : ∀ t i j, aeS σ f c t i j < M := by
  unfold aeS
  split
  · exact up3_M (up3_M h hc) (by omega)
  · exact h
theorem cpL_M {σ : xSig} {f t : Nat} (h : ∀ t i j, σ t i j < 2 ^ 28) : ∀ n x y z, cpL σ f t n x y z < 2 ^ 28 + n := by
  intro n
  induction n with
  | zero => exact up3_M h (by decide)
  | succ n ih =>
    have ih' : ∀ x y z, cpL σ f t n x y z < 2 ^ 28 + (n + 1) := fun x y z => Nat.lt_succ_of_lt (ih x y z)
    exact aeS_M (up3_M (up3_M ih' (by omega)) (by have := ih 7 (σ 4 f n) 0; omega)) (by have := h 4 f n; omega) (by omega)
theorem cpL_B {σ : xSig} {f t : Nat} (h : ∀ t i j, σ t i j < 2 ^ 28) (n : Nat) (hn : n ≤ 3) : ∀ x y z, cpL σ f t n x y z < 2 ^ 30 := fun x y z => by have := cpL_M (f := f) (t := t) h n x y z; omega
def qc_copy (σ : xSig) (x y : Int32) : Nat := if inR x 8 = true ∧ inR y 8 = true then (if σ 2 (ix x) 0 = 1 then (if σ 2 (ix y) 0 = 0 then 0 else 3) else 2) else 1
theorem m_CS_copy {l : Launch} (htr : xTr l) {D : va_G} {a : Nat → ClassId} {base : Nat} {g : Nat → Nat} {n : Nat} {σ : xSig} {w : xWrd} {Y : Nat → va_E} (hn : 143 ≤ n) (hO : Ok σ) {x y : Int32}  {k : Nat} (hk : 1 ≤ k) : xM l y_CS_copy b_CS_copy 7 (some FieldType.int) k D a base g n (EL a g σ w Y) [.ref (g 0), .int x, .int y] (fun r E' => E' = EL a g (if qc_copy σ x y = 0 then cpL σ (ix x) (ix y) (σ 3 (ix x) 0) else σ) w Y ∧ r = cr [e_IA, e_NS, e_IS] (qc_copy σ x y) (.int (nI (cpL σ (ix x) (ix y) (σ 3 (ix x) 0) 3 (ix y) 0)))) := by
  refine x_method (by decide) htr (Nat.le_of_ble_eq_true rfl) ?_
  intro p e s m args below meth c C hne hret hnm
  have C : xC p l e s m meth c b_CS_copy 7 "ChunkStore" args D xcl (xty a) base := C
  have hB : ∀ t i j, σ t i j < 2 ^ 30 := fun t i j => Nat.lt_trans (hO.1 t i j) (by decide)
  have hH := hO.2.2.2.1
  have hS : ∀ i, σ 11 i 0 < 2 ^ 29 := fun i => Nat.lt_trans (hO.1 _ _ _) (by decide)
  refine x_iload_n C d_CS_copy_0 rfl rfl ?_
  refine x_bipush C (v := nI 8) d_CS_copy_1 (by decide) ?_
  refine c_CS_CS_checkRange C (by omega) (m_CS_checkRange htr (by decide) (Nat.le_refl _)) rfl rfl (Nat.le_of_ble_eq_true rfl) d_CS_copy_3 (fun v E' hp => ?_) (fun X E' hp => ?_)
  · obtain ⟨rfl, hv⟩ := hp
    obtain ⟨h3, rfl⟩ := rif_l hv
    obtain ⟨f, hf, rfl⟩ := inR_of h3
    refine x_iload_n C d_CS_copy_6 rfl rfl ?_
    refine x_bipush C (v := nI 8) d_CS_copy_7 (by decide) ?_
    refine c_CS_CS_checkRange C (by omega) (m_CS_checkRange htr (by decide) (Nat.le_refl _)) rfl rfl (Nat.le_of_ble_eq_true rfl) d_CS_copy_9 (fun v E' hp => ?_) (fun X E' hp => ?_)
    · obtain ⟨rfl, hv⟩ := hp
      obtain ⟨h9, rfl⟩ := rif_l hv
      obtain ⟨t, ht, rfl⟩ := inR_of h9
      refine x_aload_n C d_CS_copy_12 rfl rfl ?_
      refine x_iload_n C d_CS_copy_13 rfl rfl ?_
      refine c_CS_CS_fileThere C (by omega) hn (m_CS_fileThere htr hn hB hf (Nat.le_refl _)) rfl rfl (Nat.le_of_ble_eq_true rfl) d_CS_copy_14 (fun v E' hp => ?_) (fun X E' hp => ?_)
      · obtain ⟨rfl, hv⟩ := hp
        obtain ⟨h14, rfl⟩ := rif_l hv
        refine x_astore_n C d_CS_copy_17 rfl (by decide) rfl ?_
        refine x_aload_n C d_CS_copy_18 rfl rfl ?_
        refine x_iload_n C d_CS_copy_19 rfl rfl ?_
        refine c_CS_CS_fileNotYet C (by omega) hn (m_CS_fileNotYet htr hn hB ht (Nat.le_refl _)) rfl rfl (Nat.le_of_ble_eq_true rfl) d_CS_copy_20 (fun v E' hp => ?_) (fun X E' hp => ?_)
        · obtain ⟨rfl, hv⟩ := hp
          obtain ⟨h20, rfl⟩ := rif_l hv
          refine x_astore C d_CS_copy_23 (by decide) rfl ?_
          have hft : ¬ f = t := fun q => by rw [q] at h14; omega
          refine x_aload C d_CS_copy_25 rfl ?_
          refine x_iconst C (v := nI 1) d_CS_copy_27 (by decide) ?_
          refine p_CS_file_state C ht hn d_CS_copy_28 ?_
          refine x_iconst C (v := nI 0) d_CS_copy_31 (by decide) ?_
          refine x_istore C d_CS_copy_32 (by decide) rfl ?_
          refine x_loop (σ 3 f 0) (fun i => EL a g (cpL σ f t i) w Y) (fun i => [(0, .ref (g (0))), (1, .int (nI f)), (2, .int (nI t)), (3, .ref (g (2 + 2 * f))), (4, .ref (g (2 + 2 * t))), (5, .int (nI i))]) (fun i => True) rfl ⟨rfl, rfl, rfl, rfl, rfl, rfl, trivial⟩ trivial ?_
          intro i hi hIi ihi
          have h3 := (hO.2.2.1 f hf).1
          refine x_iload C d_CS_copy_34 rfl ?_
          refine x_aload_n C d_CS_copy_36 rfl rfl ?_
          refine g_CS_file_count C hf hn d_CS_copy_37 ?_
          refine xn_icmp_ge C (by omega) (Nat.lt_trans ((cpL_B hO.1 i (by have := (hO.2.2.1 f hf).1; omega)) 3 f 0) (by decide)) 92 d_CS_copy_40 (by decide) (fun h40 => ?_) (fun h40 => ?_)
          · rw [cpL_f hft _ (Or.inl rfl)] at h40
            refine x_aload C d_CS_copy_92 rfl ?_
            refine g_CS_file_count C ht hn d_CS_copy_94 ?_
            exact x_iret C hret d_CS_copy_97 ⟨by rw [show qc_copy σ (nI f) (nI t) = 0 by rw [qc_copy, if_pos ⟨inR_nI hf (by decide), inR_nI ht (by decide)⟩]; simp only [ix_nI (show f < 2 ^ 31 by omega), ix_nI (show t < 2 ^ 31 by omega)]; rw [if_pos h14, if_pos h20], if_pos rfl, ix_nI (show f < 2 ^ 31 by omega), ix_nI (show t < 2 ^ 31 by omega), show i = σ 3 f 0 by omega], by rw [show qc_copy σ (nI f) (nI t) = 0 by rw [qc_copy, if_pos ⟨inR_nI hf (by decide), inR_nI ht (by decide)⟩]; simp only [ix_nI (show f < 2 ^ 31 by omega), ix_nI (show t < 2 ^ 31 by omega)]; rw [if_pos h14, if_pos h20], ix_nI (show f < 2 ^ 31 by omega), ix_nI (show t < 2 ^ 31 by omega), show i = σ 3 f 0 by omega]; rfl⟩
          · rw [cpL_f hft _ (Or.inl rfl)] at h40
            refine x_aload_n C d_CS_copy_43 rfl rfl ?_
            refine g_CS_cs_chunks C hn d_CS_copy_44 ?_
            refine x_aload_n C d_CS_copy_47 rfl rfl ?_
            refine g_CS_file_row C hf hn d_CS_copy_48 ?_
            refine x_iload C d_CS_copy_51 rfl ?_
            refine e_row C hf (by omega) hn d_CS_copy_53 ?_
            refine e_arrC C (by simp only [up3_n (show ¬ 4 = 7 by decide), up3_n (show ¬ 4 = 9 by decide), cpL_f hft _ (Or.inr rfl)]; exact Nat.lt_of_lt_of_le ((hO.2.2.1 f hf).2 i h40) hO.2.1) hn d_CS_copy_54 ?_
            refine x_astore C d_CS_copy_55 (by decide) rfl ?_
            refine x_aload C d_CS_copy_57 rfl ?_
            refine x_dconst0 C d_CS_copy_59 ?_
            refine x_topd (show FP.dconst0 = dT 0 from dT_0.symm) ?_
            refine p_CS_chunk_leaseEnd C (by simp only [up3_n (show ¬ 4 = 7 by decide), up3_n (show ¬ 4 = 9 by decide), cpL_f hft _ (Or.inr rfl)]; exact Nat.lt_of_lt_of_le ((hO.2.2.1 f hf).2 i h40) hO.2.1) hn d_CS_copy_60 ?_
            refine x_aload C d_CS_copy_63 rfl ?_
            refine x_dup C d_CS_copy_65 rfl ?_
            refine g_CS_chunk_refs C (by simp only [up3_n (show ¬ 4 = 7 by decide), up3_n (show ¬ 4 = 9 by decide), cpL_f hft _ (Or.inr rfl)]; exact Nat.lt_of_lt_of_le ((hO.2.2.1 f hf).2 i h40) hO.2.1) hn d_CS_copy_66 ?_
            refine x_iconst C (v := nI 1) d_CS_copy_69 (by decide) ?_
            refine xn_iadd C d_CS_copy_70 ?_
            refine p_CS_chunk_refs C (by simp only [up3_n (show ¬ 4 = 7 by decide), up3_n (show ¬ 4 = 9 by decide), cpL_f hft _ (Or.inr rfl)]; exact Nat.lt_of_lt_of_le ((hO.2.2.1 f hf).2 i h40) hO.2.1) hn d_CS_copy_71 ?_
            refine x_aload C d_CS_copy_74 rfl ?_
            refine x_aload_n C d_CS_copy_76 rfl rfl ?_
            refine g_CS_file_row C hf hn d_CS_copy_77 ?_
            refine x_iload C d_CS_copy_80 rfl ?_
            refine e_row C hf (by omega) hn d_CS_copy_82 ?_
            refine c_CS_FE_addAtEnd C (by omega) ht hn (m_FE_addAtEnd htr hn (up3_B (up3_B (cpL_B hO.1 i (by have := (hO.2.2.1 f hf).1; omega)) (by decide)) (by rw [up3_n (by decide)]; have := cpL_M (f := f) (t := t) hO.1 i 7 (cpL σ f t i 4 f i) 0; omega)) ht (Nat.lt_trans ((up3_B (up3_B (cpL_B hO.1 i (by have := (hO.2.2.1 f hf).1; omega)) (by decide)) (by rw [up3_n (by decide)]; have := cpL_M (f := f) (t := t) hO.1 i 7 (cpL σ f t i 4 f i) 0; omega)) 4 f i) (by decide)) (Nat.le_refl _)) rfl rfl (Nat.le_of_ble_eq_true rfl) d_CS_copy_83 (fun v E' hp => ?_) (fun X E' hp => ?_)
            · obtain ⟨rfl, hv⟩ := hp
              cases hv
              refine x_lv [(0, .ref (g (0))), (1, .int (nI f)), (2, .int (nI t)), (3, .ref (g (2 + 2 * f))), (4, .ref (g (2 + 2 * t))), (5, .int (nI i)), (6, .ref (g (19 + ((cpL σ f t i) 4 f i))))] ⟨rfl, rfl, rfl, rfl, rfl, rfl, rfl, trivial⟩ ?_
              refine xn_iinc C d_CS_copy_86 5 rfl (by decide) rfl ?_
              refine x_goto C 34 d_CS_copy_89 (by decide) ?_
              refine x_E (E' := EL a g (cpL σ f t (i + 1)) w Y) (by rw [cpL, aeS]; simp only [up3_n (show ¬ 4 = 7 by decide), up3_n (show ¬ 4 = 9 by decide), up3_n (show ¬ 7 = 9 by decide), cpL_f hft _ (Or.inr rfl)]) ?_
              exact x_lv [(0, .ref (g (0))), (1, .int (nI f)), (2, .int (nI t)), (3, .ref (g (2 + 2 * f))), (4, .ref (g (2 + 2 * t))), (5, .int (nI (i + 1)))] ⟨rfl, rfl, rfl, rfl, rfl, rfl, trivial⟩ (ihi (by omega) trivial)
            · cases hp.2
        · obtain ⟨rfl, hv⟩ := hp
          obtain ⟨h20, rfl⟩ := rif_r hv
          exact x_prop C hne (Nat.le_refl _) (Nat.le_refl _) ⟨by rw [show qc_copy σ (nI f) (nI t) = 3 by rw [qc_copy, if_pos ⟨inR_nI hf (by decide), inR_nI ht (by decide)⟩]; simp only [ix_nI (show f < 2 ^ 31 by omega), ix_nI (show t < 2 ^ 31 by omega)]; rw [if_pos h14, if_neg h20], if_neg (by decide)], by rw [show qc_copy σ (nI f) (nI t) = 3 by rw [qc_copy, if_pos ⟨inR_nI hf (by decide), inR_nI ht (by decide)⟩]; simp only [ix_nI (show f < 2 ^ 31 by omega), ix_nI (show t < 2 ^ 31 by omega)]; rw [if_pos h14, if_neg h20]]; rfl⟩
      · obtain ⟨rfl, hv⟩ := hp
        obtain ⟨h14, rfl⟩ := rif_r hv
        exact x_prop C hne (Nat.le_refl _) (Nat.le_refl _) ⟨by rw [show qc_copy σ (nI f) (nI t) = 2 by rw [qc_copy, if_pos ⟨inR_nI hf (by decide), inR_nI ht (by decide)⟩]; simp only [ix_nI (show f < 2 ^ 31 by omega), ix_nI (show t < 2 ^ 31 by omega)]; rw [if_neg h14], if_neg (by decide)], by rw [show qc_copy σ (nI f) (nI t) = 2 by rw [qc_copy, if_pos ⟨inR_nI hf (by decide), inR_nI ht (by decide)⟩]; simp only [ix_nI (show f < 2 ^ 31 by omega), ix_nI (show t < 2 ^ 31 by omega)]; rw [if_neg h14]]; rfl⟩
    · obtain ⟨rfl, hv⟩ := hp
      obtain ⟨h9, rfl⟩ := rif_r hv
      exact x_prop C hne (Nat.le_refl _) (Nat.le_refl _) ⟨by rw [show qc_copy σ (nI f) y = 1 by rw [qc_copy, if_neg (fun q => h9 q.2)], if_neg (by decide)], by rw [show qc_copy σ (nI f) y = 1 by rw [qc_copy, if_neg (fun q => h9 q.2)]]; rfl⟩
  · obtain ⟨rfl, hv⟩ := hp
    obtain ⟨h3, rfl⟩ := rif_r hv
    exact x_prop C hne (Nat.le_refl _) (Nat.le_refl _) ⟨by rw [show qc_copy σ  x y = 1 by rw [qc_copy, if_neg (fun q => h3 q.1)], if_neg (by decide)], by rw [show qc_copy σ  x y = 1 by rw [qc_copy, if_neg (fun q => h3 q.1)]]; rfl⟩
def rpL (σ : xSig) (s : Nat) : Nat → xSig
  | 0 => σ
  | n + 1 => if 0 < rpL σ s n 12 s n then cfS (rpL σ s n) s n else rpL σ s n
def rpN (σ : xSig) (s : Nat) : Nat → Nat
  | 0 => 0
  | n + 1 => if 0 < rpL σ s n 12 s n ∧ cfD (rpL σ s n) s n = true then rpN σ s n + 1 else rpN σ s n
theorem cfS_o {σ : xSig} {s c t i j : Nat} (h : ¬ t = 12 ∧ ¬ t = 11 ∧ ¬ t = 8) : cfS σ s c t i j = σ t i j := by
  unfold cfS
  split
  · rw [up3_n h.2.2, up3_n h.2.1, up3_n h.1]
  · rw [up3_n h.2.2]
theorem rpL_o {σ : xSig} {s t i j : Nat} (n : Nat) (h : ¬ t = 12 ∧ ¬ t = 11 ∧ ¬ t = 8) : rpL σ s n t i j = σ t i j := by
  induction n with
  | zero => rfl
  | succ n ih => unfold rpL; split <;> first | (rw [cfS_o h, ih]) | exact ih
theorem clr_lt {a i : Nat} (ha : a < 32) : clr a i < 32 := by unfold clr; split <;> first | exact ha | exact Nat.lt_of_le_of_lt (Nat.sub_le _ _) ha
theorem cfS_H {σ : xSig} {s c : Nat} (hs : s < 5) (hH : ∀ c, σ 8 c 0 < 32) : ∀ q, cfS σ s c 8 q 0 < 32 := by
  unfold cfS
  split
  · exact up3_H (up3_Hn (up3_Hn hH (by decide)) (by decide)) (clr_lt (hH c))
  · exact up3_H hH (bt_orlt _ (hH c) s hs)
theorem rpL_H {σ : xSig} {s : Nat} (hs : s < 5) (hH : ∀ c, σ 8 c 0 < 32) (n : Nat) : ∀ q, rpL σ s n 8 q 0 < 32 := by
  induction n with
  | zero => exact hH
  | succ n ih => unfold rpL; split <;> first | exact cfS_H hs ih | exact ih
theorem cfS_M {σ : xSig} {s c M : Nat} (hs : s < 5) (hH : ∀ c, σ 8 c 0 < 32) (h : ∀ t i j, σ t i j < M) (hM : 32 ≤ M) : ∀ t i j, cfS σ s c t i j < M := by
  unfold cfS
  have := hH c
  split
  · exact up3_M (up3_M (up3_M h (by omega)) (by have := h 11 s 0; omega)) (by have := clr_lt (i := s) (hH c); omega)
  · exact up3_M h (by have := bt_orlt _ (hH c) s hs; omega)
theorem rpL_M {σ : xSig} {s M : Nat} (hs : s < 5) (hH : ∀ c, σ 8 c 0 < 32) (h : ∀ t i j, σ t i j < M) (hM : 32 ≤ M) (n : Nat) : ∀ t i j, rpL σ s n t i j < M := by
  induction n with
  | zero => exact h
  | succ n ih => unfold rpL; split <;> first | exact cfS_M hs (rpL_H hs hH n) ih hM | exact ih
theorem rpN_le (σ : xSig) (s : Nat) : ∀ n, rpN σ s n ≤ n := by
  intro n
  induction n with
  | zero => exact Nat.le_refl _
  | succ n ih => unfold rpN; split <;> omega
def qc_report (σ : xSig) (x : Int32) : Nat := if inR x 5 = true then (if σ 10 (ix x) 0 = 0 then 2 else 0) else 1
theorem m_CS_report {l : Launch} (htr : xTr l) {D : va_G} {a : Nat → ClassId} {base : Nat} {g : Nat → Nat} {n : Nat} {σ : xSig} {w : xWrd} {Y : Nat → va_E} (hn : 143 ≤ n) (hO : Ok σ) {x : Int32} (hg : inR x 5 = true → ∀ n, n < σ 0 0 0 → 0 < rpL σ (ix x) n 12 (ix x) n → 1 ≤ rpL σ (ix x) n 11 (ix x) 0) {k : Nat} (hk : 2 ≤ k) : xM l y_CS_report b_CS_report 4 (some FieldType.int) k D a base g n (EL a g σ w Y) [.ref (g 0), .int x] (fun r E' => E' = EL a g (if qc_report σ x = 0 then rpL σ (ix x) (σ 0 0 0) else σ) w Y ∧ r = cr [e_IA, e_IS] (qc_report σ x) (.int (nI (rpN σ (ix x) (σ 0 0 0))))) := by
  refine x_method (by decide) htr (Nat.le_of_ble_eq_true rfl) ?_
  intro p e s m args below meth c C hne hret hnm
  have C : xC p l e s m meth c b_CS_report 4 "ChunkStore" args D xcl (xty a) base := C
  have hB : ∀ t i j, σ t i j < 2 ^ 30 := fun t i j => Nat.lt_trans (hO.1 t i j) (by decide)
  have hH := hO.2.2.2.1
  have hS : ∀ i, σ 11 i 0 < 2 ^ 29 := fun i => Nat.lt_trans (hO.1 _ _ _) (by decide)
  refine x_iload_n C d_CS_report_0 rfl rfl ?_
  refine x_iconst C (v := nI 5) d_CS_report_1 (by decide) ?_
  refine c_CS_CS_checkRange C (by omega) (m_CS_checkRange htr (by decide) (Nat.le_refl _)) rfl rfl (Nat.le_of_ble_eq_true rfl) d_CS_report_2 (fun v E' hp => ?_) (fun X E' hp => ?_)
  · obtain ⟨rfl, hv⟩ := hp
    obtain ⟨h2, rfl⟩ := rif_l hv
    obtain ⟨j, hj, rfl⟩ := inR_of h2
    have hg := hg (inR_nI hj (by decide))
    rw [ix_nI (by omega)] at hg
    refine x_aload_n C d_CS_report_5 rfl rfl ?_
    refine g_CS_cs_servers C hn d_CS_report_6 ?_
    refine x_iload_n C d_CS_report_9 rfl rfl ?_
    refine e_arrS C hj hn d_CS_report_10 ?_
    refine g_CS_server_isUp C hj hn d_CS_report_11 ?_
    refine xn_if_ne C (Nat.lt_trans (hB 10 j 0) (by decide)) 27 d_CS_report_14 (by decide) (fun h14 => ?_) (fun h14 => ?_)
    · refine x_iconst C (v := nI 0) d_CS_report_27 (by decide) ?_
      refine x_istore_n C d_CS_report_28 rfl (by decide) rfl ?_
      refine x_iconst C (v := nI 0) d_CS_report_29 (by decide) ?_
      refine x_istore_n C d_CS_report_30 rfl (by decide) rfl ?_
      refine x_loop (σ 0 0 0) (fun i => EL a g (rpL σ j i) w Y) (fun i => [(0, .ref (g (0))), (1, .int (nI j)), (2, .int (nI (rpN σ j i))), (3, .int (nI i))]) (fun i => True) rfl ⟨rfl, rfl, rfl, rfl, trivial⟩ trivial ?_
      intro i hi hIi ihi
      have h30 := hO.2.1
      refine x_iload_n C d_CS_report_31 rfl rfl ?_
      refine x_aload_n C d_CS_report_32 rfl rfl ?_
      refine g_CS_cs_made C hn d_CS_report_33 ?_
      refine xn_icmp_ge C (by have := hO.2.1; omega) (Nat.lt_trans ((rpL_M hj hH hB (by decide) i) 0 0 0) (by decide)) 70 d_CS_report_36 (by decide) (fun h36 => ?_) (fun h36 => ?_)
      · rw [rpL_o _ (by decide)] at h36
        refine x_iload_n C d_CS_report_70 rfl rfl ?_
        exact x_iret C hret d_CS_report_71 ⟨by rw [show qc_report σ (nI j) = 0 by rw [qc_report, if_pos (inR_nI hj (by decide))]; simp only [ix_nI (show j < 2 ^ 31 by omega)]; rw [if_neg h14], if_pos rfl, ix_nI (show j < 2 ^ 31 by omega), show i = σ 0 0 0 by omega], by rw [show qc_report σ (nI j) = 0 by rw [qc_report, if_pos (inR_nI hj (by decide))]; simp only [ix_nI (show j < 2 ^ 31 by omega)]; rw [if_neg h14], ix_nI (show j < 2 ^ 31 by omega), show i = σ 0 0 0 by omega]; rfl⟩
      · rw [rpL_o _ (by decide)] at h36
        refine x_aload_n C d_CS_report_39 rfl rfl ?_
        refine g_CS_cs_servers C hn d_CS_report_40 ?_
        refine x_iload_n C d_CS_report_43 rfl rfl ?_
        refine e_arrS C hj hn d_CS_report_44 ?_
        refine x_iload_n C d_CS_report_45 rfl rfl ?_
        refine c_CS_SV_has C (by omega) hj hn (m_SV_has htr hn (rpL_M hj hH hB (by decide) i) hj (by omega) (Nat.le_refl _)) rfl rfl (Nat.le_of_ble_eq_true rfl) d_CS_report_46 (fun v E' hp => ?_) (fun X E' hp => ?_)
        · obtain ⟨rfl, hv⟩ := hp
          cases hv
          refine xn_if_eq C (b01_lt _) 64 d_CS_report_49 (by decide) (fun h49 => ?_) (fun h49 => ?_)
          · rw [b01_0] at h49
            have h49 := of_decide_eq_false h49
            refine x_lv [(0, .ref (g (0))), (1, .int (nI j)), (2, .int (nI (rpN σ j i))), (3, .int (nI i))] ⟨rfl, rfl, rfl, rfl, trivial⟩ ?_
            refine xn_iinc C d_CS_report_64 3 rfl (by decide) rfl ?_
            refine x_goto C 31 d_CS_report_67 (by decide) ?_
            refine x_E (E' := EL a g (rpL σ j (i + 1)) w Y) (by rw [rpL, if_neg h49]) ?_
            exact x_lv [(0, .ref (g (0))), (1, .int (nI j)), (2, .int (nI (rpN σ j (i + 1)))), (3, .int (nI (i + 1)))] ⟨rfl, rfl, by rw [show rpN σ j (i + 1) = rpN σ j i by rw [rpN, if_neg (fun q => h49 q.1)]]; rfl, rfl, trivial⟩ (ihi h36 trivial)
          · rw [b01_n0] at h49
            have h49 := of_decide_eq_true h49
            refine x_aload_n C d_CS_report_52 rfl rfl ?_
            refine x_iload_n C d_CS_report_53 rfl rfl ?_
            refine x_iload_n C d_CS_report_54 rfl rfl ?_
            refine c_CS_CS_confirmReplica C (by omega) hn (m_CS_confirmReplica htr hn (rpL_M hj hH hB (by decide) i) (rpL_H hj hH i) hj (by omega) (hg i h36 h49) (Nat.le_refl _)) rfl rfl (Nat.le_of_ble_eq_true rfl) d_CS_report_55 (fun v E' hp => ?_) (fun X E' hp => ?_)
            · obtain ⟨rfl, hv⟩ := hp
              cases hv
              refine xn_if_ne C (b01_lt _) 64 d_CS_report_58 (by decide) (fun h58 => ?_) (fun h58 => ?_)
              · rw [b01_n0] at h58
                refine x_lv [(0, .ref (g (0))), (1, .int (nI j)), (2, .int (nI (rpN σ j i))), (3, .int (nI i))] ⟨rfl, rfl, rfl, rfl, trivial⟩ ?_
                refine xn_iinc C d_CS_report_64 3 rfl (by decide) rfl ?_
                refine x_goto C 31 d_CS_report_67 (by decide) ?_
                refine x_E (E' := EL a g (rpL σ j (i + 1)) w Y) (by rw [rpL, if_pos h49]) ?_
                exact x_lv [(0, .ref (g (0))), (1, .int (nI j)), (2, .int (nI (rpN σ j (i + 1)))), (3, .int (nI (i + 1)))] ⟨rfl, rfl, by rw [show rpN σ j (i + 1) = rpN σ j i by rw [rpN, if_neg (fun q => by simp [q.2] at h58)]]; rfl, rfl, trivial⟩ (ihi h36 trivial)
              · rw [b01_0] at h58
                refine x_lv [(0, .ref (g (0))), (1, .int (nI j)), (2, .int (nI (rpN σ j i))), (3, .int (nI i))] ⟨rfl, rfl, rfl, rfl, trivial⟩ ?_
                refine xn_iinc C d_CS_report_61 2 rfl (by decide) rfl ?_
                refine x_lv [(0, .ref (g (0))), (1, .int (nI j)), (2, .int (nI ((rpN σ j i) + 1))), (3, .int (nI i))] ⟨rfl, rfl, rfl, rfl, trivial⟩ ?_
                refine xn_iinc C d_CS_report_64 3 rfl (by decide) rfl ?_
                refine x_goto C 31 d_CS_report_67 (by decide) ?_
                refine x_E (E' := EL a g (rpL σ j (i + 1)) w Y) (by rw [rpL, if_pos h49]) ?_
                exact x_lv [(0, .ref (g (0))), (1, .int (nI j)), (2, .int (nI (rpN σ j (i + 1)))), (3, .int (nI (i + 1)))] ⟨rfl, rfl, by rw [show rpN σ j (i + 1) = (rpN σ j i) + 1 by rw [rpN, if_pos ⟨h49, by simpa using h58⟩]]; rfl, rfl, trivial⟩ (ihi h36 trivial)
            · cases hp.2
        · cases hp.2
    · exact th_IS C hne (Nat.le_of_ble_eq_true rfl) d_CS_report_17 d_CS_report_20 d_CS_report_21 d_CS_report_23 d_CS_report_26 (tx := "the server is not up") (by decide) ⟨by rw [show qc_report σ (nI j) = 2 by rw [qc_report, if_pos (inR_nI hj (by decide))]; simp only [ix_nI (show j < 2 ^ 31 by omega)]; rw [if_pos h14], if_neg (by decide)], by rw [show qc_report σ (nI j) = 2 by rw [qc_report, if_pos (inR_nI hj (by decide))]; simp only [ix_nI (show j < 2 ^ 31 by omega)]; rw [if_pos h14]]; rfl⟩
  · obtain ⟨rfl, hv⟩ := hp
    obtain ⟨h2, rfl⟩ := rif_r hv
    exact x_prop C hne (Nat.le_refl _) (Nat.le_refl _) ⟨by rw [show qc_report σ  x = 1 by rw [qc_report, if_neg h2], if_neg (by decide)], by rw [show qc_report σ  x = 1 by rw [qc_report, if_neg h2]]; rfl⟩
end XM8
