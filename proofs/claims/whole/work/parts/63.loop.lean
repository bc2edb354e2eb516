section XLL
theorem and31 (x : Int32) : ∃ t : Nat, t < 32 ∧ x &&& nI 31 = nI t := by
  have h : ∀ y : BitVec 32, (y &&& 31#32).toNat < 32 := by
    intro y
    rw [BitVec.toNat_and]
    exact Nat.lt_of_le_of_lt Nat.and_le_right (by decide)
  refine ⟨(x.toBitVec &&& 31#32).toNat, h _, ?_⟩
  apply Int32.toBitVec_inj.mp
  rw [Int32.toBitVec_and]
  show x.toBitVec &&& 31#32 = BitVec.ofNat 32 _
  rw [BitVec.ofNat_toNat]
  simp
theorem lw_more {L i : Nat} (hL : L ≤ 3072) (hi : 6 ∣ i ∧ i ≤ 3078) (h : ¬ nI L - nI 6 < nI i) : i + 6 ≤ L := by
  by_cases q : 6 ≤ L
  · rw [pk_sub q] at h
    have h2 : ¬ (L - 6 < i) := fun r => h ((nI_ltI (by omega) (by omega)).mpr r)
    omega
  · exfalso
    have e : L = 0 ∨ L = 1 ∨ L = 2 ∨ L = 3 ∨ L = 4 ∨ L = 5 := by omega
    by_cases r : i = 0
    · subst r
      rcases e with rfl | rfl | rfl | rfl | rfl | rfl <;> exact h (by decide)
    · apply h
      have h2 : nI L - nI 6 < nI 0 := by rcases e with rfl | rfl | rfl | rfl | rfl | rfl <;> decide
      exact Int32.lt_trans h2 ((nI_ltI (by decide) (by omega)).mpr (by omega))
theorem law_step {p : Program} {l : Launch} (htr : xTr l) {e : Env} {R : Room} {s : State} {m : MethodId} {args : Array Value} {below : List Frame} {meth : Method} {c : Code} {Q : State → Prop} {D : va_G} {a : Nat → ClassId} {base : Nat} {g : Nat → Nat} {b L j : Nat} {xs : Nat → Int32} (C : xC p l e s m meth c b_LW_law 9 "ChunkStoreLaw" args D xcl (xty a) base) (hX : va_X b L xs s s.heap) (hb : b < s.heap.size) (hbb : b < base) (hL : L ≤ 3072) (hj : j ≤ 513) (hRf : 12 ≤ R.frames) (hRl : 454 ≤ R.locals) (hk : 700 ≤ R.cells) (hz : 2861 + 3090 ≤ R.slots) {σ : xSig} {w : xWrd} {fc : Nat} {o : Nat → Int64} {d : Nat → UInt64} (hI : Inv σ w (1000 * (j + 1)))
    (hend : xG p l e R s m args below meth c Q 9 D xcl base g 161 (LWE a g σ w fc o d) (161 + j) (2861 + 6 * j) 1339 [(0, .ref b), (1, .ref (g 0)), (2, .ref (g 143)), (3, .ref (g 159)), (4, .ref (g 160)), (5, .int (nI (6 * j)))] [])
    (ih : 6 * j + 6 ≤ L → ∀ (σ' : xSig) (w' : xWrd) (fc' : Nat) (o' : Nat → Int64) (d' : Nat → UInt64), Inv σ' w' (1000 * (j + 1) + 1000) → xG p l e R s m args below meth c Q 9 D xcl base g 161 (LWE a g σ' w' fc' o' d') (161 + (j + 1)) (2861 + 6 * (j + 1)) 28 [(0, .ref b), (1, .ref (g 0)), (2, .ref (g 143)), (3, .ref (g 159)), (4, .ref (g 160)), (5, .int (nI (6 * (j + 1))))] []) : xG p l e R s m args below meth c Q 9 D xcl base g 161 (LWE a g σ w fc o d) (161 + j) (2861 + 6 * j) 28 [(0, .ref b), (1, .ref (g 0)), (2, .ref (g 143)), (3, .ref (g 159)), (4, .ref (g 160)), (5, .int (nI (6 * j)))] [] := by
  refine x_iload C d_LW_law_28 rfl ?_
  refine x_aload_n C d_LW_law_30 rfl rfl ?_
  refine x_slen C hX hb hbb d_LW_law_31 ?_
  refine x_bipush C (v := nI 6) d_LW_law_32 (by decide) ?_
  refine x_isub C d_LW_law_34 ?_
  refine x_icmp_gt C 1339 d_LW_law_35 (by decide) (fun _ => hend) (fun h => ?_)
  have hi : 6 * j + 6 ≤ L := lw_more hL ⟨⟨j, rfl⟩, by omega⟩ h
  have kk : ∀ (σ' : xSig) (w' : xWrd) (fc' : Nat) (o' : Nat → Int64) (d' : Nat → UInt64), Inv σ' w' (1000 * (j + 1) + 1000) → xG p l e R s m args below meth c Q 9 D xcl base g 161 (LWE a g σ' w' fc' o' d') (161 + j + 1) (2861 + 6 * j + 6) 1333 [(0, .ref b), (1, .ref (g 0)), (2, .ref (g 143)), (3, .ref (g 159)), (4, .ref (g 160)), (5, .int (nI (6 * j)))] [] := by
    intro σ' w' fc' o' d' h'
    refine x_lv [(5, .int (nI (6 * j))), (0, .ref b), (1, .ref (g 0)), (2, .ref (g 143)), (3, .ref (g 159)), (4, .ref (g 160))] ⟨rfl, rfl, rfl, rfl, rfl, rfl, trivial⟩ ?_
    refine x_iinc C (v := nI (6 * (j + 1))) d_LW_law_1333 0 rfl (by rw [show Int32.ofInt 6 = nI 6 by decide, nI_add, Nat.mul_succ]) (by decide) rfl ?_
    refine x_goto C 28 d_LW_law_1336 (by decide) ?_
    refine x_lv [(0, .ref b), (1, .ref (g 0)), (2, .ref (g 143)), (3, .ref (g 159)), (4, .ref (g 160)), (5, .int (nI (6 * (j + 1))))] ⟨rfl, rfl, rfl, rfl, rfl, rfl, trivial⟩ ?_
    exact x_wide (by omega) (by omega) (ih hi σ' w' fc' o' d' h')
  refine x_aload_n C d_LW_law_38 rfl rfl ?_
  refine x_iload C d_LW_law_39 rfl ?_
  refine x_sldn C hX hb hbb (show 6 * j < L by omega) (by omega) d_LW_law_41 ?_
  refine x_bipush C (v := nI 31) d_LW_law_42 (by decide) ?_
  refine x_iand C d_LW_law_44 ?_
  obtain ⟨t, ht, hv⟩ := and31 (xs (6 * j))
  refine x_topi hv ?_
  have hO : Ok σ := hI.ok (by omega)
  have h1000 : 1000 ≤ 1000 * (j + 1) := by omega
  have hM : 1000 * (j + 1) ≤ 2 ^ 28 := by omega
  have hM2 : 1000 * (j + 1) + 1000 ≤ 2 ^ 28 := by omega
  have hM3 : 1000 * (j + 1) + 1000 ≤ 2 ^ 30 := by omega
  have hk2 : 161 + j + 2 ≤ R.cells := by omega
  have hz2 : 2861 + 6 * j + 12 ≤ R.slots := by omega
  have hL2 : L < 2 ^ 30 := by omega
  by_cases hd : 18 ≤ t
  · refine x_tableOut C 1333 d_LW_law_45 (Or.inr (by rw [nI_toInt (by omega)]; omega)) (by decide) ?_
    exact x_wide (by omega) (by omega) (kk σ w fc o d (hI.mono (by omega)))
  have hc : t = 0 ∨ t = 1 ∨ t = 2 ∨ t = 3 ∨ t = 4 ∨ t = 5 ∨ t = 6 ∨ t = 7 ∨ t = 8 ∨ t = 9 ∨ t = 10 ∨ t = 11 ∨ t = 12 ∨ t = 13 ∨ t = 14 ∨ t = 15 ∨ t = 16 ∨ t = 17 := by omega
  rcases hc with rfl | rfl | rfl | rfl | rfl | rfl | rfl | rfl | rfl | rfl | rfl | rfl | rfl | rfl | rfl | rfl | rfl | rfl
  · refine x_tableIn C (off := 87) 132 d_LW_law_45 (by decide) (by decide) (by decide) (by decide) ?_
    exact w_LW_create htr C hX hb hbb hi hL2 hRf hRl hk2 hz2 (fun Y => m_CS_create htr (by decide) hO (by decide)) (fun X => m_MD_create htr (by decide) hI hM (by decide)) ((I_create hI h1000).B30 hM3) Q_create (fun o' d' => kk _ _ _ o' d' (I_create hI h1000))
  · refine x_tableIn C (off := 143) 188 d_LW_law_45 (by decide) (by decide) (by decide) (by decide) ?_
    exact w_LW_remove htr C hX hb hbb hi hL2 hRf hRl hk2 hz2 (fun Y => m_CS_remove htr (by decide) hO (by decide)) (fun X => m_MD_remove htr (by decide) hI hM (by decide)) ((I_remove hI h1000).B30 hM3) Q_remove (fun o' d' => kk _ _ _ o' d' (I_remove hI h1000))
  · refine x_tableIn C (off := 199) 244 d_LW_law_45 (by decide) (by decide) (by decide) (by decide) ?_
    exact w_LW_restore htr C hX hb hbb hi hL2 hRf hRl hk2 hz2 (fun Y => m_CS_restore htr (by decide) hO (by decide)) (fun X => m_MD_restore htr (by decide) hI hM (by decide)) ((I_restore hI h1000).B30 hM3) Q_restore (fun o' d' => kk _ _ _ o' d' (I_restore hI h1000))
  · refine x_tableIn C (off := 255) 300 d_LW_law_45 (by decide) (by decide) (by decide) (by decide) ?_
    exact w_LW_copy htr C hX hb hbb hi hL2 hRf hRl hk2 hz2 (fun Y => m_CS_copy htr (by decide) hO (by decide)) (fun X => m_MD_copy htr (by decide) hI hM (by decide)) ((I_copy hI h1000).B30 hM3) Q_copy (fun o' d' => kk _ _ _ o' d' (I_copy hI h1000))
  · refine x_tableIn C (off := 323) 368 d_LW_law_45 (by decide) (by decide) (by decide) (by decide) ?_
    exact w_LW_extend htr C hX hb hbb hi hL2 hRf hRl hk2 hz2 (fun Y => m_CS_extend htr (by decide) hO (by decide)) (fun X => m_MD_extend htr (by decide) hI hM (by decide)) ((I_extend hI h1000).B30 hM3) Q_extend (fun o' d' => kk _ _ _ o' d' (I_extend hI h1000))
  · refine x_tableIn C (off := 379) 424 d_LW_law_45 (by decide) (by decide) (by decide) (by decide) ?_
    exact w_LW_locate htr C hX hb hbb hi hL2 hRf hRl hk2 hz2 (fun Y => m_CS_locate htr (by decide) hO (by decide)) (fun X => m_MD_locate htr (by decide) hI hM (by decide)) ((I_locate hI h1000).B30 hM3) Q_locate (fun o' d' => kk _ _ _ o' d' (I_locate hI h1000))
  · refine x_tableIn C (off := 459) 504 d_LW_law_45 (by decide) (by decide) (by decide) (by decide) ?_
    exact w_LW_write htr C hX hb hbb hi hL2 hRf hRl hk2 hz2 (fun Y => m_CS_write htr (by decide) hO (by decide)) (fun X => m_MD_write htr (by decide) hI hM (by decide)) ((I_write (v := 0) hI h1000).B30 hM3) Q_write (fun o' d' => kk _ _ _ o' d' (I_write hI h1000))
  · refine x_tableIn C (off := 551) 596 d_LW_law_45 (by decide) (by decide) (by decide) (by decide) ?_
    exact w_LW_append htr C hX hb hbb hi hL2 hRf hRl hk2 hz2 (fun Y => m_CS_append htr (by decide) hO (by decide)) (fun X => m_MD_append htr (by decide) hI hM2 (by decide)) ((I_append (v := 0) hI h1000).B30 hM3) Q_append (fun o' d' => kk _ _ _ o' d' (I_append hI h1000))
  · refine x_tableIn C (off := 619) 664 d_LW_law_45 (by decide) (by decide) (by decide) (by decide) ?_
    exact w_LW_read htr C hX hb hbb hi hL2 hRf hRl hk2 hz2 (fun Y => m_CS_read htr (by decide) hO (by decide)) (fun X => m_MD_read htr (by decide) hI hM (by decide)) ((I_read hI h1000).B30 hM3) Q_read (fun o' d' => kk _ _ _ o' d' (I_read hI h1000))
  · refine x_tableIn C (off := 723) 768 d_LW_law_45 (by decide) (by decide) (by decide) (by decide) ?_
    by_cases hxs : xs (6 * j + 2) = 0
    · exact w_LW_up0 htr C hX hb hbb hi hL2 hRf hRl hk2 hz2 hxs (fun Y => m_CS_up htr (by decide) hO (b := 0) (by decide) (by decide)) (fun X => m_MD_up htr (by decide) hI hM (by decide) (by decide)) ((I_up (by decide) hI h1000).B30 hM3) Q_up (fun o' d' => kk _ _ _ o' d' (I_up (by decide) hI h1000))
    · exact w_LW_up1 htr C hX hb hbb hi hL2 hRf hRl hk2 hz2 hxs (fun Y => m_CS_up htr (by decide) hO (b := 1) (by decide) (by decide)) (fun X => m_MD_up htr (by decide) hI hM (by decide) (by decide)) ((I_up (by decide) hI h1000).B30 hM3) Q_up (fun o' d' => kk _ _ _ o' d' (I_up (by decide) hI h1000))
  · refine x_tableIn C (off := 807) 852 d_LW_law_45 (by decide) (by decide) (by decide) (by decide) ?_
    exact w_LW_report htr C hX hb hbb hi hL2 hRf hRl hk2 hz2 (fun Y => m_CS_report htr (by decide) hO (fun hx => rep_hg hI (by omega) (ixl hx)) (by decide)) (fun X => m_MD_report htr (by decide) hI hM (by decide)) ((I_report hI h1000).B30 hM3) Q_report (fun o' d' => kk _ _ _ o' d' (I_report hI h1000))
  · refine x_tableIn C (off := 863) 908 d_LW_law_45 (by decide) (by decide) (by decide) (by decide) ?_
    exact w_LW_repair htr C hX hb hbb hi hL2 hRf hRl hk2 hz2 (fun Y => m_CS_repair htr (by decide) hO (by decide)) (fun X => m_MD_repair htr (by decide) hI hM (by decide)) ((I_repair hI h1000).B30 hM3) Q_repair (fun o' d' => kk _ _ _ o' d' (I_repair hI h1000))
  · refine x_tableIn C (off := 907) 952 d_LW_law_45 (by decide) (by decide) (by decide) (by decide) ?_
    exact w_LW_sweep htr C hX hb hbb hi hL2 hRf hRl hk2 hz2 (fun Y => m_CS_sweep htr (by decide) hO (swp_hg hI) (by decide)) (fun X => m_MD_sweep htr (by decide) hI hM (by decide)) (fun o' d' => kk _ _ _ o' d' ((hI.swp 8 (Nat.le_refl _)).mono (by omega)))
  · refine x_tableIn C (off := 920) 965 d_LW_law_45 (by decide) (by decide) (by decide) (by decide) ?_
    by_cases hx : xs (6 * j + 1) < 0
    · exact w_LW_tick htr C hX hb hbb hi hL2 hRf hRl hk2 hz2 rfl (dX_neg hx).2 (σ' := σ) (w' := w) (q := 1) (A := FP.i2d (nI 0)) (fun Y => m_CS_tickN htr (by decide) hO (dX_neg hx).1 (by decide)) (fun X => m_MD_tickN htr (by decide) hI hM (dX_neg hx).1 (by decide)) (hI.B30 (by omega)) (by decide) (fun o' d' => kk _ _ _ o' d' (hI.mono (by omega)))
    · obtain ⟨d0, hd0, hx0⟩ := nI_of hx
      exact w_LW_tick htr C hX hb hbb hi hL2 hRf hRl hk2 hz2 (dd := dT d0) (by rw [hx0]; exact dX_pos hd0) (dT_n (by omega)) (fun Y => m_CS_tick htr (by decide) hO hd0 (by decide)) (fun X => m_MD_tick htr (by decide) hI hM hd0 (by decide)) ((I_tick hI h1000).B30 hM3) Q_tick (fun o' d' => kk _ _ _ o' d' (I_tick hI h1000))
  · refine x_tableIn C (off := 1007) 1052 d_LW_law_45 (by decide) (by decide) (by decide) (by decide) ?_
    exact w_LW_load htr C hX hb hbb hi hL2 hRf hRl hk2 hz2 (fun Y => m_CS_load htr (by decide) hO (fun i hi => by have := (hI.cnt i hi).2; omega) (by decide)) (fun X => m_MD_load htr (by decide) hI hM (by decide)) (hI.B30 (by omega)) Q_load (fun o' d' => kk _ _ _ o' d' (hI.mono (by omega)))
  · refine x_tableIn C (off := 1072) 1117 d_LW_law_45 (by decide) (by decide) (by decide) (by decide) ?_
    exact w_LW_look htr C hX hb hbb hi hL2 hRf hRl hk2 hz2 (fun Y => m_CS_look htr (by decide) hO (by decide)) (fun X => m_MD_look htr (by decide) hI hM (by decide)) (hI.B30 (by omega)) Q_look (fun o' d' => kk _ _ _ o' d' (hI.mono (by omega)))
  · refine x_tableIn C (off := 1152) 1197 d_LW_law_45 (by decide) (by decide) (by decide) (by decide) ?_
    exact w_LW_file htr C hX hb hbb hi hL2 hRf hRl hk2 hz2 (fun Y => m_CS_file htr (by decide) hO (by decide)) (fun X => m_MD_file htr (by decide) hI hM (by decide)) (hI.B30 (by omega)) Q_file (fun o' d' => kk _ _ _ o' d' (hI.mono (by omega)))
  · refine x_tableIn C (off := 1220) 1265 d_LW_law_45 (by decide) (by decide) (by decide) (by decide) ?_
    exact w_LW_chunk htr C hX hb hbb hi hL2 hRf hRl hk2 hz2 (fun Y => m_CS_chunk htr (by decide) hO (by decide)) (fun X => m_MD_chunk htr (by decide) hI hM (by decide)) (hI.B30 (by omega)) Q_chunk (fun o' d' => kk _ _ _ o' d' (hI.mono (by omega)))
theorem law_loop {p : Program} {l : Launch} (htr : xTr l) {e : Env} {R : Room} {s : State} {m : MethodId} {args : Array Value} {below : List Frame} {meth : Method} {c : Code} {Q : State → Prop} {D : va_G} {a : Nat → ClassId} {base : Nat} {g : Nat → Nat} {b L : Nat} {xs : Nat → Int32} (C : xC p l e s m meth c b_LW_law 9 "ChunkStoreLaw" args D xcl (xty a) base) (hX : va_X b L xs s s.heap) (hb : b < s.heap.size) (hbb : b < base) (hL : L ≤ 3072) (hRf : 12 ≤ R.frames) (hRl : 454 ≤ R.locals) (hk : 700 ≤ R.cells) (hz : 2861 + 3090 ≤ R.slots) (hend : ∀ (E : Nat → va_E) (j : Nat), j ≤ 513 → xG p l e R s m args below meth c Q 9 D xcl base g 161 (E) (161 + j) (2861 + 6 * j) 1339 [(0, .ref b), (1, .ref (g 0)), (2, .ref (g 143)), (3, .ref (g 159)), (4, .ref (g 160)), (5, .int (nI (6 * j)))] []) :
    ∀ (r j : Nat), r + j = 513 → ∀ {σ : xSig} {w : xWrd} {fc : Nat} {o : Nat → Int64} {d : Nat → UInt64}, Inv σ w (1000 * (j + 1)) → xG p l e R s m args below meth c Q 9 D xcl base g 161 (LWE a g σ w fc o d) (161 + j) (2861 + 6 * j) 28 [(0, .ref b), (1, .ref (g 0)), (2, .ref (g 143)), (3, .ref (g 159)), (4, .ref (g 160)), (5, .int (nI (6 * j)))] [] := by
  intro r
  induction r with
  | zero =>
    intro j hj σ w fc o d hI
    exact law_step htr C hX hb hbb hL (by omega) hRf hRl hk hz hI (hend _ j (by omega)) (fun h => absurd h (by omega))
  | succ r ih =>
    intro j hj σ w fc o d hI
    exact law_step htr C hX hb hbb hL (by omega) hRf hRl hk hz hI (hend _ j (by omega)) (fun h σ' w' fc' o' d' h' => ih (j + 1) (by omega) (h'.mono (by omega)))
end XLL
