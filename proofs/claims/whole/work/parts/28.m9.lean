section XM9
theorem spS_H {σ : xSig} {f q h : Nat} (hH : ∀ c, σ 8 c 0 < 32) (hh : h < 32) : ∀ c, spS σ f q h 8 c 0 < 32 := up3_Hn (up3_Hn (fun c => by rw [spL_o _ (by decide)]; exact scS_H hH hh c) (by decide)) (by decide)
theorem rvS_H {σ : xSig} {c h : Nat} (hH : ∀ c, σ 8 c 0 < 32) (hh : h < 32) : ∀ q, rvS σ c h 8 q 0 < 32 := fun q => by unfold rvS; rw [rvL_at, if_neg (fun r => absurd r.2.2.1 (by decide))]; exact up3_H (up3_Hn hH (by decide)) hh q
theorem lsS_H {σ : xSig} {f q : Nat} (hH : ∀ c, σ 8 c 0 < 32) : ∀ c, lsS σ f q 8 c 0 < 32 := by
  unfold lsS
  split
  · exact hH
  · split
    · exact up3_Hn (spS_H hH (lvh_lt _ _)) (by decide)
    · exact up3_Hn (rvS_H hH (lvh_lt _ _)) (by decide)
theorem lsC_m {σ : xSig} {c : Nat} (h : lsC σ c = 0) (hk : ¬ lsK σ c = true) (h2 : 2 ≤ σ 7 c 0) : σ 0 0 0 < 30 := by
  unfold lsC at h
  rw [if_neg hk] at h
  split at h
  · omega
  · first | (rw [if_pos h2] at h; unfold spC at h; split at h <;> omega) | (unfold spC at h; split at h <;> omega)
theorem lsS_B {σ : xSig} {f q : Nat} (hB : ∀ t i j, σ t i j < 2 ^ 29) (hc : σ 4 f q < σ 0 0 0) (h0 : lsC σ (σ 4 f q) = 0) : ∀ t i j, lsS σ f q t i j < 2 ^ 30 := by
  have hB' : ∀ t i j, σ t i j < 2 ^ 30 := fun t i j => Nat.lt_trans (hB t i j) (by decide)
  unfold lsS
  split
  · exact hB'
  · rename_i hk
    split
    · rename_i h2
      exact up3_B (spS_B hB' (fun i => hB 11 i 0) (lsC_m h0 hk h2) (lvh_lt _ _) (by omega)) (by have := hB 1 0 0; omega)
    · exact up3_B (rvS_B hB' (hB _ _ _) (lvh_lt _ _)) (by have := hB 1 0 0; omega)
theorem lsN_lt {σ : xSig} {c : Nat} (hc : c < 30) (h0 : lsC σ c = 0) : lsN σ c < 30 := by
  unfold lsN
  split
  · exact hc
  · rename_i hk
    split
    · rename_i h2; exact lsC_m h0 hk h2
    · exact hc
theorem lsC_c (σ : xSig) (c : Nat) : lsC σ c = 0 ∨ lsC σ c = 3 ∨ lsC σ c = 4 ∨ lsC σ c = 5 := by
  unfold lsC spC
  split
  · exact Or.inl rfl
  · split
    · exact Or.inr (Or.inl rfl)
    · split
      · split
        · exact Or.inr (Or.inr (Or.inr rfl))
        · split
          · exact Or.inr (Or.inr (Or.inl rfl))
          · exact Or.inl rfl
      · exact Or.inl rfl
abbrev eL5 : List String := [e_IA, e_NS, e_IS, e_UO, e_IO]
theorem cr_ls {σ : xSig} {c : Nat} {v : Value} (h : ¬ lsC σ c = 0) : (Sum.inr (xcW (lsC σ c)) : xR) = cr eL5 (lsC σ c) v := by
  rcases lsC_c σ c with e | e | e | e
  · exact absurd e h
  · rw [e]; rfl
  · rw [e]; rfl
  · rw [e]; rfl
def qc_write (σ : xSig) (x y z : Int32) : Nat := if inR x 8 = true ∧ inR y 3 = true ∧ inR z 4 = true then (if σ 2 (ix x) 0 = 1 then (if ix y < σ 3 (ix x) 0 then lsC σ (σ 4 (ix x) (ix y)) else 5) else 2) else 1
def wrS (τ : xSig) (c u : Nat) : xSig := swL τ c u (τ 8 c 0) 5
def wrW (τ : xSig) (w : xWrd) (c u : Nat) (v : Int32) : xWrd := swLW w c u (τ 8 c 0) v 5
def qs_write (σ : xSig) (f q u : Nat) : xSig := wrS (lsS σ f q) (lsN σ (σ 4 f q)) u
def qw_write (σ : xSig) (w : xWrd) (f q u : Nat) (v : Int32) : xWrd := wrW (lsS σ f q) (lsW σ w (σ 4 f q)) (lsN σ (σ 4 f q)) u v
def qa_write (σ : xSig) (f q : Nat) : Int32 := nI (lsS σ f q 6 (lsN σ (σ 4 f q)) 0)
theorem m_CS_write {l : Launch} (htr : xTr l) {D : va_G} {a : Nat → ClassId} {base : Nat} {g : Nat → Nat} {n : Nat} {σ : xSig} {w : xWrd} {Y : Nat → va_E} (hn : 143 ≤ n) (hO : Ok σ) {x y z : Int32} {v : Int32} {k : Nat} (hk : 4 ≤ k) : xM l y_CS_write b_CS_write 7 (some FieldType.int) k D a base g n (EL a g σ w Y) [.ref (g 0), .int x, .int y, .int z, .int v] (fun r E' => E' = EL a g (if qc_write σ x y z = 0 then qs_write σ (ix x) (ix y) (ix z) else σ) (if qc_write σ x y z = 0 then qw_write σ w (ix x) (ix y) (ix z) v else w) Y ∧ r = cr eL5 (qc_write σ x y z) (.int (qa_write σ (ix x) (ix y)))) := by
  refine x_method (by decide) htr (Nat.le_of_ble_eq_true rfl) ?_
  intro p e s m args below meth c C hne hret hnm
  have C : xC p l e s m meth c b_CS_write 7 "ChunkStore" args D xcl (xty a) base := C
  have hB : ∀ t i j, σ t i j < 2 ^ 30 := fun t i j => Nat.lt_trans (hO.1 t i j) (by decide)
  have hH := hO.2.2.2.1
  have hS : ∀ i, σ 11 i 0 < 2 ^ 29 := fun i => Nat.lt_trans (hO.1 _ _ _) (by decide)
  refine x_iload_n C d_CS_write_0 rfl rfl ?_
  refine x_bipush C (v := nI 8) d_CS_write_1 (by decide) ?_
  refine c_CS_CS_checkRange C (by omega) (m_CS_checkRange htr (by decide) (Nat.le_refl _)) rfl rfl (Nat.le_of_ble_eq_true rfl) d_CS_write_3 (fun v E' hp => ?_) (fun X E' hp => ?_)
  · obtain ⟨rfl, hv⟩ := hp
    obtain ⟨h3, rfl⟩ := rif_l hv
    obtain ⟨f, hf, rfl⟩ := inR_of h3
    refine x_iload_n C d_CS_write_6 rfl rfl ?_
    refine x_iconst C (v := nI 3) d_CS_write_7 (by decide) ?_
    refine c_CS_CS_checkRange C (by omega) (m_CS_checkRange htr (by decide) (Nat.le_refl _)) rfl rfl (Nat.le_of_ble_eq_true rfl) d_CS_write_8 (fun v E' hp => ?_) (fun X E' hp => ?_)
    · obtain ⟨rfl, hv⟩ := hp
      obtain ⟨h8, rfl⟩ := rif_l hv
      obtain ⟨q, hq, rfl⟩ := inR_of h8
      refine x_iload_n C d_CS_write_11 rfl rfl ?_
      refine x_iconst C (v := nI 4) d_CS_write_12 (by decide) ?_
      refine c_CS_CS_checkRange C (by omega) (m_CS_checkRange htr (by decide) (Nat.le_refl _)) rfl rfl (Nat.le_of_ble_eq_true rfl) d_CS_write_13 (fun v E' hp => ?_) (fun X E' hp => ?_)
      · obtain ⟨rfl, hv⟩ := hp
        obtain ⟨h13, rfl⟩ := rif_l hv
        obtain ⟨u, hu, rfl⟩ := inR_of h13
        refine x_aload_n C d_CS_write_16 rfl rfl ?_
        refine x_iload_n C d_CS_write_17 rfl rfl ?_
        refine c_CS_CS_fileThere C (by omega) hn (m_CS_fileThere htr hn hB hf (Nat.le_refl _)) rfl rfl (Nat.le_of_ble_eq_true rfl) d_CS_write_18 (fun v E' hp => ?_) (fun X E' hp => ?_)
        · obtain ⟨rfl, hv⟩ := hp
          obtain ⟨h18, rfl⟩ := rif_l hv
          refine x_astore C d_CS_write_21 (by decide) rfl ?_
          refine x_aload C d_CS_write_23 rfl ?_
          refine x_iload_n C d_CS_write_25 rfl rfl ?_
          refine c_CS_CS_checkPlace C (by omega) (m_CS_checkPlace htr hn hB hf (Nat.lt_trans hq (by decide)) (Nat.le_refl _)) rfl rfl (Nat.le_of_ble_eq_true rfl) d_CS_write_26 (fun v E' hp => ?_) (fun X E' hp => ?_)
          · obtain ⟨rfl, hv⟩ := hp
            obtain ⟨h26, rfl⟩ := rif_l hv
            refine x_aload_n C d_CS_write_29 rfl rfl ?_
            refine x_aload C d_CS_write_30 rfl ?_
            refine x_iload_n C d_CS_write_32 rfl rfl ?_
            refine c_CS_CS_lease C (by omega) hn (m_CS_lease htr hn hB hH hS hf hq ((hO.2.2.1 f hf).2 q h26) hO.2.1 (Nat.lt_trans (hO.1 _ _ _) (by decide)) (Nat.le_refl _)) rfl rfl (Nat.le_of_ble_eq_true rfl) d_CS_write_33 (fun v E' hp => ?_) (fun X E' hp => ?_)
            · obtain ⟨rfl, hv⟩ := hp
              obtain ⟨h33, rfl⟩ := rif_l hv
              rw [if_pos h33, if_pos h33]
              have h29 : ∀ t i j, σ t i j < 2 ^ 29 := fun t i j => Nat.lt_trans (hO.1 t i j) (by decide)
              have hcc := ((hO.2.2.1 f hf).2 q h26)
              have hBl := lsS_B h29 hcc h33
              have hHl := lsS_H (f := f) (q := q) hH
              have hnl := lsN_lt (Nat.lt_of_lt_of_le hcc hO.2.1) h33
              have hn31 : lsN σ (σ 4 f q) < 2 ^ 31 := Nat.lt_trans hnl (by decide)
              refine x_istore C d_CS_write_36 (by decide) rfl ?_
              refine x_aload_n C d_CS_write_38 rfl rfl ?_
              refine x_iload C d_CS_write_39 rfl ?_
              refine x_iload_n C d_CS_write_41 rfl rfl ?_
              refine x_iload C d_CS_write_42 rfl ?_
              refine c_CS_CS_setWordAtHolders C (by omega) hn (m_CS_setWordAtHolders htr hn hBl hHl hnl (by omega) (Nat.le_refl _)) rfl rfl (Nat.le_of_ble_eq_true rfl) d_CS_write_44 (fun v E' hp => ?_) (fun X E' hp => ?_)
              · obtain ⟨rfl, hv⟩ := hp
                cases hv
                rw [← wrS, ← wrW]
                refine x_aload_n C d_CS_write_47 rfl rfl ?_
                refine g_CS_cs_chunks C hn d_CS_write_48 ?_
                refine x_iload C d_CS_write_51 rfl ?_
                refine e_arrC C hnl hn d_CS_write_53 ?_
                refine g_CS_chunk_version C hnl hn d_CS_write_54 ?_
                exact x_iret C hret d_CS_write_57 ⟨by rw [show qc_write σ (nI f) (nI q) (nI u) = lsC σ (σ 4 f q) by rw [qc_write, if_pos ⟨inR_nI hf (by decide), inR_nI hq (by decide), inR_nI hu (by decide)⟩]; simp only [ix_nI (show f < 2 ^ 31 by omega), ix_nI (show q < 2 ^ 31 by omega), ix_nI (show u < 2 ^ 31 by omega)]; rw [if_pos h18, if_pos h26], if_pos h33, if_pos h33, ix_nI (show f < 2 ^ 31 by omega), ix_nI (show q < 2 ^ 31 by omega), ix_nI (show u < 2 ^ 31 by omega), qs_write, qw_write], by rw [show qc_write σ (nI f) (nI q) (nI u) = lsC σ (σ 4 f q) by rw [qc_write, if_pos ⟨inR_nI hf (by decide), inR_nI hq (by decide), inR_nI hu (by decide)⟩]; simp only [ix_nI (show f < 2 ^ 31 by omega), ix_nI (show q < 2 ^ 31 by omega), ix_nI (show u < 2 ^ 31 by omega)]; rw [if_pos h18, if_pos h26], h33, ix_nI (show f < 2 ^ 31 by omega), ix_nI (show q < 2 ^ 31 by omega), qa_write, wrS, swL_o _ (by decide)]; rfl⟩
              · cases hp.2
            · obtain ⟨rfl, hv⟩ := hp
              obtain ⟨h33, rfl⟩ := rif_r hv
              rw [if_neg h33, if_neg h33]
              exact x_prop C hne (Nat.le_refl _) (Nat.le_refl _) ⟨by rw [show qc_write σ (nI f) (nI q) (nI u) = lsC σ (σ 4 f q) by rw [qc_write, if_pos ⟨inR_nI hf (by decide), inR_nI hq (by decide), inR_nI hu (by decide)⟩]; simp only [ix_nI (show f < 2 ^ 31 by omega), ix_nI (show q < 2 ^ 31 by omega), ix_nI (show u < 2 ^ 31 by omega)]; rw [if_pos h18, if_pos h26], if_neg h33, if_neg h33], by rw [show qc_write σ (nI f) (nI q) (nI u) = lsC σ (σ 4 f q) by rw [qc_write, if_pos ⟨inR_nI hf (by decide), inR_nI hq (by decide), inR_nI hu (by decide)⟩]; simp only [ix_nI (show f < 2 ^ 31 by omega), ix_nI (show q < 2 ^ 31 by omega), ix_nI (show u < 2 ^ 31 by omega)]; rw [if_pos h18, if_pos h26]]; exact cr_ls h33⟩
          · obtain ⟨rfl, hv⟩ := hp
            obtain ⟨h26, rfl⟩ := rif_r hv
            exact x_prop C hne (Nat.le_refl _) (Nat.le_refl _) ⟨by rw [show qc_write σ (nI f) (nI q) (nI u) = 5 by rw [qc_write, if_pos ⟨inR_nI hf (by decide), inR_nI hq (by decide), inR_nI hu (by decide)⟩]; simp only [ix_nI (show f < 2 ^ 31 by omega), ix_nI (show q < 2 ^ 31 by omega), ix_nI (show u < 2 ^ 31 by omega)]; rw [if_pos h18, if_neg h26], if_neg (by decide), if_neg (by decide)], by rw [show qc_write σ (nI f) (nI q) (nI u) = 5 by rw [qc_write, if_pos ⟨inR_nI hf (by decide), inR_nI hq (by decide), inR_nI hu (by decide)⟩]; simp only [ix_nI (show f < 2 ^ 31 by omega), ix_nI (show q < 2 ^ 31 by omega), ix_nI (show u < 2 ^ 31 by omega)]; rw [if_pos h18, if_neg h26]]; rfl⟩
        · obtain ⟨rfl, hv⟩ := hp
          obtain ⟨h18, rfl⟩ := rif_r hv
          exact x_prop C hne (Nat.le_refl _) (Nat.le_refl _) ⟨by rw [show qc_write σ (nI f) (nI q) (nI u) = 2 by rw [qc_write, if_pos ⟨inR_nI hf (by decide), inR_nI hq (by decide), inR_nI hu (by decide)⟩]; simp only [ix_nI (show f < 2 ^ 31 by omega), ix_nI (show q < 2 ^ 31 by omega), ix_nI (show u < 2 ^ 31 by omega)]; rw [if_neg h18], if_neg (by decide), if_neg (by decide)], by rw [show qc_write σ (nI f) (nI q) (nI u) = 2 by rw [qc_write, if_pos ⟨inR_nI hf (by decide), inR_nI hq (by decide), inR_nI hu (by decide)⟩]; simp only [ix_nI (show f < 2 ^ 31 by omega), ix_nI (show q < 2 ^ 31 by omega), ix_nI (show u < 2 ^ 31 by omega)]; rw [if_neg h18]]; rfl⟩
      · obtain ⟨rfl, hv⟩ := hp
        obtain ⟨h13, rfl⟩ := rif_r hv
        exact x_prop C hne (Nat.le_refl _) (Nat.le_refl _) ⟨by rw [show qc_write σ (nI f) (nI q) z = 1 by rw [qc_write, if_neg (fun q => h13 q.2.2)], if_neg (by decide), if_neg (by decide)], by rw [show qc_write σ (nI f) (nI q) z = 1 by rw [qc_write, if_neg (fun q => h13 q.2.2)]]; rfl⟩
    · obtain ⟨rfl, hv⟩ := hp
      obtain ⟨h8, rfl⟩ := rif_r hv
      exact x_prop C hne (Nat.le_refl _) (Nat.le_refl _) ⟨by rw [show qc_write σ (nI f) y z = 1 by rw [qc_write, if_neg (fun q => h8 q.2.1)], if_neg (by decide), if_neg (by decide)], by rw [show qc_write σ (nI f) y z = 1 by rw [qc_write, if_neg (fun q => h8 q.2.1)]]; rfl⟩
  · obtain ⟨rfl, hv⟩ := hp
    obtain ⟨h3, rfl⟩ := rif_r hv
    exact x_prop C hne (Nat.le_refl _) (Nat.le_refl _) ⟨by rw [show qc_write σ  x y z = 1 by rw [qc_write, if_neg (fun q => h3 q.1)], if_neg (by decide), if_neg (by decide)], by rw [show qc_write σ  x y z = 1 by rw [qc_write, if_neg (fun q => h3 q.1)]]; rfl⟩
theorem fdS_16 {σ : xSig} {K f q : Nat} (hO : Ok σ) (hK : K < 72) : fdS σ K f q 16 K 0 < 32 := by
  unfold fdS
  split
  · exact (hO.2.2.2.2.1 K hK).2
  · rw [up3_n (by decide), up3_s]; exact hO.2.2.2.1 _
theorem fdS_14 {σ : xSig} {K f q : Nat} (hO : Ok σ) (hK : K < 72) (hr : σ 4 f q < 30) : fdS σ K f q 14 K 0 < 30 := by
  unfold fdS
  split
  · exact (hO.2.2.2.2.1 K hK).1
  · rw [up3_n (by decide), up3_n (by decide), up3_n (by decide), up3_s]; exact hr
/-- read, in the state τ where the place was found -/
def rdC (τ : xSig) (K s : Nat) : Nat := if (τ 16 K 0).testBit s = true then (if τ 10 s 0 = 0 ∨ τ 12 s (τ 14 K 0) < τ 15 K 0 then 3 else 0) else 4
def rdQ (σ : xSig) (i f q s : Nat) : Nat := if fdC σ f q = 0 then rdC (fdS σ (kix i f q) f q) (kix i f q) s else if fdC σ f q = 2 then 2 else 5
def qc_read (σ : xSig) (x y z u s : Int32) : Nat := if inR x 3 = true ∧ inR y 8 = true ∧ inR z 3 = true ∧ inR u 4 = true ∧ inR s 5 = true then rdQ σ (ix x) (ix y) (ix z) (ix s) else 1
def qs_read (σ : xSig) (x y z u s : Int32) : xSig := if (inR x 3 = true ∧ inR y 8 = true ∧ inR z 3 = true ∧ inR u 4 = true ∧ inR s 5 = true) ∧ fdC σ (ix y) (ix z) = 0 then fdS σ (kix (ix x) (ix y) (ix z)) (ix y) (ix z) else σ
def qa_read (τ : xSig) (w : xWrd) (K u s : Nat) : Int32 := w s (τ 14 K 0 * 4 + u)
theorem m_CS_read {l : Launch} (htr : xTr l) {D : va_G} {a : Nat → ClassId} {base : Nat} {g : Nat → Nat} {n : Nat} {σ : xSig} {w : xWrd} {Y : Nat → va_E} (hn : 143 ≤ n) (hO : Ok σ) {x y z u s' : Int32}  {k : Nat} (hk : 2 ≤ k) : xM l y_CS_read b_CS_read 8 (some FieldType.int) k D a base g n (EL a g σ w Y) [.ref (g 0), .int x, .int y, .int z, .int u, .int s'] (fun r E' => E' = EL a g (qs_read σ x y z u s') w Y ∧ r = cr eL5 (qc_read σ x y z u s') (.int (qa_read (qs_read σ x y z u s') w (kix (ix x) (ix y) (ix z)) (ix u) (ix s')))) := by
  refine x_method (by decide) htr (Nat.le_of_ble_eq_true rfl) ?_
  intro p e s m args below meth c C hne hret hnm
  have C : xC p l e s m meth c b_CS_read 8 "ChunkStore" args D xcl (xty a) base := C
  have hB : ∀ t i j, σ t i j < 2 ^ 30 := fun t i j => Nat.lt_trans (hO.1 t i j) (by decide)
  have hH := hO.2.2.2.1
  have hS : ∀ i, σ 11 i 0 < 2 ^ 29 := fun i => Nat.lt_trans (hO.1 _ _ _) (by decide)
  refine x_iload_n C d_CS_read_0 rfl rfl ?_
  refine x_iconst C (v := nI 3) d_CS_read_1 (by decide) ?_
  refine c_CS_CS_checkRange C (by omega) (m_CS_checkRange htr (by decide) (Nat.le_refl _)) rfl rfl (Nat.le_of_ble_eq_true rfl) d_CS_read_2 (fun v E' hp => ?_) (fun X E' hp => ?_)
  · obtain ⟨rfl, hv⟩ := hp
    obtain ⟨h2, rfl⟩ := rif_l hv
    obtain ⟨i, hi, rfl⟩ := inR_of h2
    refine x_iload_n C d_CS_read_5 rfl rfl ?_
    refine x_bipush C (v := nI 8) d_CS_read_6 (by decide) ?_
    refine c_CS_CS_checkRange C (by omega) (m_CS_checkRange htr (by decide) (Nat.le_refl _)) rfl rfl (Nat.le_of_ble_eq_true rfl) d_CS_read_8 (fun v E' hp => ?_) (fun X E' hp => ?_)
    · obtain ⟨rfl, hv⟩ := hp
      obtain ⟨h8, rfl⟩ := rif_l hv
      obtain ⟨f, hf, rfl⟩ := inR_of h8
      refine x_iload_n C d_CS_read_11 rfl rfl ?_
      refine x_iconst C (v := nI 3) d_CS_read_12 (by decide) ?_
      refine c_CS_CS_checkRange C (by omega) (m_CS_checkRange htr (by decide) (Nat.le_refl _)) rfl rfl (Nat.le_of_ble_eq_true rfl) d_CS_read_13 (fun v E' hp => ?_) (fun X E' hp => ?_)
      · obtain ⟨rfl, hv⟩ := hp
        obtain ⟨h13, rfl⟩ := rif_l hv
        obtain ⟨q, hq, rfl⟩ := inR_of h13
        refine x_iload C d_CS_read_16 rfl ?_
        refine x_iconst C (v := nI 4) d_CS_read_18 (by decide) ?_
        refine c_CS_CS_checkRange C (by omega) (m_CS_checkRange htr (by decide) (Nat.le_refl _)) rfl rfl (Nat.le_of_ble_eq_true rfl) d_CS_read_19 (fun v E' hp => ?_) (fun X E' hp => ?_)
        · obtain ⟨rfl, hv⟩ := hp
          obtain ⟨h19, rfl⟩ := rif_l hv
          obtain ⟨j, hj, rfl⟩ := inR_of h19
          refine x_iload C d_CS_read_22 rfl ?_
          refine x_iconst C (v := nI 5) d_CS_read_24 (by decide) ?_
          refine c_CS_CS_checkRange C (by omega) (m_CS_checkRange htr (by decide) (Nat.le_refl _)) rfl rfl (Nat.le_of_ble_eq_true rfl) d_CS_read_25 (fun v E' hp => ?_) (fun X E' hp => ?_)
          · obtain ⟨rfl, hv⟩ := hp
            obtain ⟨h25, rfl⟩ := rif_l hv
            obtain ⟨t, ht, rfl⟩ := inR_of h25
            refine x_aload_n C d_CS_read_28 rfl rfl ?_
            refine x_iload_n C d_CS_read_29 rfl rfl ?_
            refine x_iload_n C d_CS_read_30 rfl rfl ?_
            refine x_iload_n C d_CS_read_31 rfl rfl ?_
            refine c_CS_CS_find C (by omega) hn (m_CS_find htr hn hB hi hf hq (fun h => Nat.lt_of_lt_of_le ((hO.2.2.1 f hf).2 q h) hO.2.1) (Nat.le_refl _)) rfl rfl (Nat.le_of_ble_eq_true rfl) d_CS_read_32 (fun v E' hp => ?_) (fun X E' hp => ?_)
            · obtain ⟨rfl, hv⟩ := hp
              obtain ⟨h32, rfl⟩ := rif_l hv
              rw [if_pos h32]
              have hr4 : σ 4 f q < 30 := by unfold fdC at h32; split at h32 <;> (try split at h32) <;> first | omega | exact Nat.lt_of_lt_of_le ((hO.2.2.1 f hf).2 q (by assumption)) hO.2.1
              refine x_astore C d_CS_read_35 (by decide) rfl ?_
              refine x_aload C d_CS_read_37 rfl ?_
              refine g_CS_kept_holders C (show (i * 8 + f) * 3 + q < 72 by omega) hn d_CS_read_39 ?_
              refine x_iload C d_CS_read_42 rfl ?_
              refine c_CS_CS_isIn C (by omega) (m_CS_isIn htr (fdS_16 hO (show ((i * 8 + f) * 3 + q) < 72 by omega)) ht (Nat.le_refl _)) rfl rfl (Nat.le_of_ble_eq_true rfl) d_CS_read_44 (fun v E' hp => ?_) (fun X E' hp => ?_)
              · obtain ⟨rfl, hv⟩ := hp
                cases hv
                refine xn_if_ne C (b01_lt _) 60 d_CS_read_47 (by decide) (fun h47 => ?_) (fun h47 => ?_)
                · rw [b01_n0] at h47
                  refine x_aload_n C d_CS_read_60 rfl rfl ?_
                  refine g_CS_cs_servers C hn d_CS_read_61 ?_
                  refine x_iload C d_CS_read_64 rfl ?_
                  refine e_arrS C ht hn d_CS_read_66 ?_
                  refine x_astore C d_CS_read_67 (by decide) rfl ?_
                  refine x_aload C d_CS_read_69 rfl ?_
                  refine g_CS_server_isUp C ht hn d_CS_read_71 ?_
                  refine xn_if_eq C (Nat.lt_trans ((fdS_B hO) 10 t 0) (by decide)) 96 d_CS_read_74 (by decide) (fun h74 => ?_) (fun h74 => ?_)
                  · exact th_IS C hne (Nat.le_of_ble_eq_true rfl) d_CS_read_96 d_CS_read_99 d_CS_read_100 d_CS_read_102 d_CS_read_105 (tx := "the server can't answer for what was found") (by decide) ⟨by rw [show qs_read σ (nI i) (nI f) (nI q) (nI j) (nI t) = fdS σ (kix i f q) f q by rw [qs_read]; simp only [ix_nI (show i < 2 ^ 31 by omega), ix_nI (show f < 2 ^ 31 by omega), ix_nI (show q < 2 ^ 31 by omega), ix_nI (show j < 2 ^ 31 by omega), ix_nI (show t < 2 ^ 31 by omega)]; rw [if_pos ⟨⟨inR_nI hi (by decide), inR_nI hf (by decide), inR_nI hq (by decide), inR_nI hj (by decide), inR_nI ht (by decide)⟩, h32⟩], kix], by rw [show qc_read σ (nI i) (nI f) (nI q) (nI j) (nI t) = 3 by rw [qc_read, if_pos ⟨inR_nI hi (by decide), inR_nI hf (by decide), inR_nI hq (by decide), inR_nI hj (by decide), inR_nI ht (by decide)⟩]; simp only [ix_nI (show i < 2 ^ 31 by omega), ix_nI (show f < 2 ^ 31 by omega), ix_nI (show q < 2 ^ 31 by omega), ix_nI (show j < 2 ^ 31 by omega), ix_nI (show t < 2 ^ 31 by omega)]; rw [rdQ, if_pos h32, rdC, kix, if_pos h47, if_pos (by omega)]]; rfl⟩
                  · refine x_aload C d_CS_read_77 rfl ?_
                    refine g_CS_server_versions C ht hn d_CS_read_79 ?_
                    refine x_aload C d_CS_read_82 rfl ?_
                    refine g_CS_kept_number C (show (i * 8 + f) * 3 + q < 72 by omega) hn d_CS_read_84 ?_
                    refine e_vers C ht (fdS_14 hO (show ((i * 8 + f) * 3 + q) < 72 by omega) hr4) hn d_CS_read_87 ?_
                    refine x_aload C d_CS_read_88 rfl ?_
                    refine g_CS_kept_version C (show (i * 8 + f) * 3 + q < 72 by omega) hn d_CS_read_90 ?_
                    refine xn_icmp_ge C (Nat.lt_trans ((fdS_B hO) 12 t ((fdS σ ((i * 8 + f) * 3 + q) f q) 14 ((i * 8 + f) * 3 + q) 0)) (by decide)) (Nat.lt_trans ((fdS_B hO) 15 ((i * 8 + f) * 3 + q) 0) (by decide)) 106 d_CS_read_93 (by decide) (fun h93 => ?_) (fun h93 => ?_)
                    · refine x_aload C d_CS_read_106 rfl ?_
                      refine x_aload C d_CS_read_108 rfl ?_
                      refine g_CS_kept_number C (show (i * 8 + f) * 3 + q < 72 by omega) hn d_CS_read_110 ?_
                      refine x_iload C d_CS_read_113 rfl ?_
                      refine c_CS_SV_word C (by omega) ht hn (m_SV_word htr hn (fdS_B hO) ht (fdS_14 hO (show ((i * 8 + f) * 3 + q) < 72 by omega) hr4) hj (Nat.le_refl _)) rfl rfl (Nat.le_of_ble_eq_true rfl) d_CS_read_115 (fun v E' hp => ?_) (fun X E' hp => ?_)
                      · obtain ⟨rfl, hv⟩ := hp
                        cases hv
                        exact x_iret C hret d_CS_read_118 ⟨by rw [show qs_read σ (nI i) (nI f) (nI q) (nI j) (nI t) = fdS σ (kix i f q) f q by rw [qs_read]; simp only [ix_nI (show i < 2 ^ 31 by omega), ix_nI (show f < 2 ^ 31 by omega), ix_nI (show q < 2 ^ 31 by omega), ix_nI (show j < 2 ^ 31 by omega), ix_nI (show t < 2 ^ 31 by omega)]; rw [if_pos ⟨⟨inR_nI hi (by decide), inR_nI hf (by decide), inR_nI hq (by decide), inR_nI hj (by decide), inR_nI ht (by decide)⟩, h32⟩], kix], by rw [show qc_read σ (nI i) (nI f) (nI q) (nI j) (nI t) = 0 by rw [qc_read, if_pos ⟨inR_nI hi (by decide), inR_nI hf (by decide), inR_nI hq (by decide), inR_nI hj (by decide), inR_nI ht (by decide)⟩]; simp only [ix_nI (show i < 2 ^ 31 by omega), ix_nI (show f < 2 ^ 31 by omega), ix_nI (show q < 2 ^ 31 by omega), ix_nI (show j < 2 ^ 31 by omega), ix_nI (show t < 2 ^ 31 by omega)]; rw [rdQ, if_pos h32, rdC, kix, if_pos h47, if_neg (by omega)], ix_nI (show i < 2 ^ 31 by omega), ix_nI (show f < 2 ^ 31 by omega), ix_nI (show q < 2 ^ 31 by omega), ix_nI (show j < 2 ^ 31 by omega), ix_nI (show t < 2 ^ 31 by omega), show qs_read σ (nI i) (nI f) (nI q) (nI j) (nI t) = fdS σ (kix i f q) f q by rw [qs_read]; simp only [ix_nI (show i < 2 ^ 31 by omega), ix_nI (show f < 2 ^ 31 by omega), ix_nI (show q < 2 ^ 31 by omega), ix_nI (show j < 2 ^ 31 by omega), ix_nI (show t < 2 ^ 31 by omega)]; rw [if_pos ⟨⟨inR_nI hi (by decide), inR_nI hf (by decide), inR_nI hq (by decide), inR_nI hj (by decide), inR_nI ht (by decide)⟩, h32⟩], qa_read, kix]; rfl⟩
                      · cases hp.2
                    · exact th_IS C hne (Nat.le_of_ble_eq_true rfl) d_CS_read_96 d_CS_read_99 d_CS_read_100 d_CS_read_102 d_CS_read_105 (tx := "the server can't answer for what was found") (by decide) ⟨by rw [show qs_read σ (nI i) (nI f) (nI q) (nI j) (nI t) = fdS σ (kix i f q) f q by rw [qs_read]; simp only [ix_nI (show i < 2 ^ 31 by omega), ix_nI (show f < 2 ^ 31 by omega), ix_nI (show q < 2 ^ 31 by omega), ix_nI (show j < 2 ^ 31 by omega), ix_nI (show t < 2 ^ 31 by omega)]; rw [if_pos ⟨⟨inR_nI hi (by decide), inR_nI hf (by decide), inR_nI hq (by decide), inR_nI hj (by decide), inR_nI ht (by decide)⟩, h32⟩], kix], by rw [show qc_read σ (nI i) (nI f) (nI q) (nI j) (nI t) = 3 by rw [qc_read, if_pos ⟨inR_nI hi (by decide), inR_nI hf (by decide), inR_nI hq (by decide), inR_nI hj (by decide), inR_nI ht (by decide)⟩]; simp only [ix_nI (show i < 2 ^ 31 by omega), ix_nI (show f < 2 ^ 31 by omega), ix_nI (show q < 2 ^ 31 by omega), ix_nI (show j < 2 ^ 31 by omega), ix_nI (show t < 2 ^ 31 by omega)]; rw [rdQ, if_pos h32, rdC, kix, if_pos h47, if_pos (by omega)]]; rfl⟩
                · rw [b01_0] at h47
                  exact th_UO C hne (Nat.le_of_ble_eq_true rfl) d_CS_read_50 d_CS_read_53 d_CS_read_54 d_CS_read_56 d_CS_read_59 (tx := "the server was not found as a holder") (by decide) ⟨by rw [show qs_read σ (nI i) (nI f) (nI q) (nI j) (nI t) = fdS σ (kix i f q) f q by rw [qs_read]; simp only [ix_nI (show i < 2 ^ 31 by omega), ix_nI (show f < 2 ^ 31 by omega), ix_nI (show q < 2 ^ 31 by omega), ix_nI (show j < 2 ^ 31 by omega), ix_nI (show t < 2 ^ 31 by omega)]; rw [if_pos ⟨⟨inR_nI hi (by decide), inR_nI hf (by decide), inR_nI hq (by decide), inR_nI hj (by decide), inR_nI ht (by decide)⟩, h32⟩], kix], by rw [show qc_read σ (nI i) (nI f) (nI q) (nI j) (nI t) = 4 by rw [qc_read, if_pos ⟨inR_nI hi (by decide), inR_nI hf (by decide), inR_nI hq (by decide), inR_nI hj (by decide), inR_nI ht (by decide)⟩]; simp only [ix_nI (show i < 2 ^ 31 by omega), ix_nI (show f < 2 ^ 31 by omega), ix_nI (show q < 2 ^ 31 by omega), ix_nI (show j < 2 ^ 31 by omega), ix_nI (show t < 2 ^ 31 by omega)]; rw [rdQ, if_pos h32, rdC, kix, if_neg (by rw [h47]; decide)]]; rfl⟩
              · cases hp.2
            · obtain ⟨rfl, hv⟩ := hp
              obtain ⟨h32, rfl⟩ := rif_r hv
              rw [if_neg h32]
              exact x_prop C hne (Nat.le_refl _) (Nat.le_refl _) (by rcases fdC_c σ f q with e | e | e; exact absurd e h32; exact ⟨by rw [show qs_read σ (nI i) (nI f) (nI q) (nI j) (nI t) = σ by rw [qs_read]; simp only [ix_nI (show i < 2 ^ 31 by omega), ix_nI (show f < 2 ^ 31 by omega), ix_nI (show q < 2 ^ 31 by omega), ix_nI (show j < 2 ^ 31 by omega), ix_nI (show t < 2 ^ 31 by omega)]; rw [if_neg (fun r => h32 r.2)]], by rw [show qc_read σ (nI i) (nI f) (nI q) (nI j) (nI t) = 2 by rw [qc_read, if_pos ⟨inR_nI hi (by decide), inR_nI hf (by decide), inR_nI hq (by decide), inR_nI hj (by decide), inR_nI ht (by decide)⟩]; simp only [ix_nI (show i < 2 ^ 31 by omega), ix_nI (show f < 2 ^ 31 by omega), ix_nI (show q < 2 ^ 31 by omega), ix_nI (show j < 2 ^ 31 by omega), ix_nI (show t < 2 ^ 31 by omega)]; rw [rdQ, if_neg h32, e]; rfl, e]; rfl⟩; exact ⟨by rw [show qs_read σ (nI i) (nI f) (nI q) (nI j) (nI t) = σ by rw [qs_read]; simp only [ix_nI (show i < 2 ^ 31 by omega), ix_nI (show f < 2 ^ 31 by omega), ix_nI (show q < 2 ^ 31 by omega), ix_nI (show j < 2 ^ 31 by omega), ix_nI (show t < 2 ^ 31 by omega)]; rw [if_neg (fun r => h32 r.2)]], by rw [show qc_read σ (nI i) (nI f) (nI q) (nI j) (nI t) = 5 by rw [qc_read, if_pos ⟨inR_nI hi (by decide), inR_nI hf (by decide), inR_nI hq (by decide), inR_nI hj (by decide), inR_nI ht (by decide)⟩]; simp only [ix_nI (show i < 2 ^ 31 by omega), ix_nI (show f < 2 ^ 31 by omega), ix_nI (show q < 2 ^ 31 by omega), ix_nI (show j < 2 ^ 31 by omega), ix_nI (show t < 2 ^ 31 by omega)]; rw [rdQ, if_neg h32, e]; rfl, e]; rfl⟩)
          · obtain ⟨rfl, hv⟩ := hp
            obtain ⟨h25, rfl⟩ := rif_r hv
            exact x_prop C hne (Nat.le_refl _) (Nat.le_refl _) ⟨by rw [show qs_read σ (nI i) (nI f) (nI q) (nI j) s' = σ by rw [qs_read, if_neg (fun r => h25 r.1.2.2.2.2)]], by rw [show qc_read σ (nI i) (nI f) (nI q) (nI j) s' = 1 by rw [qc_read, if_neg (fun q => h25 q.2.2.2.2)]]; rfl⟩
        · obtain ⟨rfl, hv⟩ := hp
          obtain ⟨h19, rfl⟩ := rif_r hv
          exact x_prop C hne (Nat.le_refl _) (Nat.le_refl _) ⟨by rw [show qs_read σ (nI i) (nI f) (nI q) u s' = σ by rw [qs_read, if_neg (fun r => h19 r.1.2.2.2.1)]], by rw [show qc_read σ (nI i) (nI f) (nI q) u s' = 1 by rw [qc_read, if_neg (fun q => h19 q.2.2.2.1)]]; rfl⟩
      · obtain ⟨rfl, hv⟩ := hp
        obtain ⟨h13, rfl⟩ := rif_r hv
        exact x_prop C hne (Nat.le_refl _) (Nat.le_refl _) ⟨by rw [show qs_read σ (nI i) (nI f) z u s' = σ by rw [qs_read, if_neg (fun r => h13 r.1.2.2.1)]], by rw [show qc_read σ (nI i) (nI f) z u s' = 1 by rw [qc_read, if_neg (fun q => h13 q.2.2.1)]]; rfl⟩
    · obtain ⟨rfl, hv⟩ := hp
      obtain ⟨h8, rfl⟩ := rif_r hv
      exact x_prop C hne (Nat.le_refl _) (Nat.le_refl _) ⟨by rw [show qs_read σ (nI i) y z u s' = σ by rw [qs_read, if_neg (fun r => h8 r.1.2.1)]], by rw [show qc_read σ (nI i) y z u s' = 1 by rw [qc_read, if_neg (fun q => h8 q.2.1)]]; rfl⟩
  · obtain ⟨rfl, hv⟩ := hp
    obtain ⟨h2, rfl⟩ := rif_r hv
    exact x_prop C hne (Nat.le_refl _) (Nat.le_refl _) ⟨by rw [show qs_read σ  x y z u s' = σ by rw [qs_read, if_neg (fun r => h2 r.1.1)]], by rw [show qc_read σ  x y z u s' = 1 by rw [qc_read, if_neg (fun q => h2 q.1)]]; rfl⟩
end XM9
