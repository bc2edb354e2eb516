/-! What holds between two calls is kept: a new chunk. -/
section XI2
theorem cho_fr {σ : xSig} {c : Nat} : ∀ n s, s < 5 → (cho σ c n).testBit s = true → ¬ σ 10 s 0 = 0 ∧ σ 11 s 0 < 12 ∧ σ 12 s c = 0 := by
  intro n
  induction n with
  | zero => intro s _ h; exact absurd h (by simp [cho])
  | succ n ih =>
    intro s hs h
    unfold cho at h
    split at h
    · exact ih s hs h
    · rename_i q
      have hb := bst_le σ c (cho σ c n)
      rw [bt_or _ (cho_lt σ c n) _ (by omega) s hs, Bool.or_eq_true] at h
      rcases h with h | h
      · have e : s = bst σ c (cho σ c n) := of_decide_eq_true h
        have f := best_fr (fr := frC σ c (cho σ c n)) (ld := fun i => σ 11 i 0) 5 (Nat.le_refl _) (show bst σ c (cho σ c n) < 5 by omega)
        change frC σ c (cho σ c n) (bst σ c (cho σ c n)) = true at f
        rw [← e] at f
        simp only [frC, Bool.and_eq_true, decide_eq_true_eq] at f
        exact ⟨f.1, f.2.1, f.2.2.1⟩
      · exact ih s hs h
theorem mkS_o {σ : xSig} {f t i j : Nat} (h : ¬ t = 0 ∧ ¬ t = 3 ∧ ¬ t = 4 ∧ ¬ t = 6 ∧ ¬ t = 7 ∧ ¬ t = 8 ∧ ¬ t = 11 ∧ ¬ t = 12) : mkS σ f t i j = σ t i j := by
  unfold mkS
  rw [up3_n h.2.1, up3_n h.2.2.1, addE_o ⟨h.2.2.2.2.2.2.2, h.2.2.2.2.2.2.1⟩, scS_o ⟨h.1, h.2.2.2.1, h.2.2.2.2.1, h.2.2.2.2.2.1⟩]
theorem mkS_3i {σ : xSig} {f i : Nat} : mkS σ f 3 i 0 = if i = f then σ 3 f 0 + 1 else σ 3 i 0 := by
  unfold mkS
  by_cases q : i = f
  · rw [if_pos q, q, up3_s]
  · rw [if_neg q, show up3 (up3 (addE (scS σ (cho σ (σ 0 0 0) 3)) (cho σ (σ 0 0 0) 3) (σ 0 0 0) 5) 4 f (σ 3 f 0) (σ 0 0 0)) 3 f 0 (σ 3 f 0 + 1) 3 i 0 = up3 (addE (scS σ (cho σ (σ 0 0 0) 3)) (cho σ (σ 0 0 0) 3) (σ 0 0 0) 5) 4 f (σ 3 f 0) (σ 0 0 0) 3 i 0 from if_neg (fun r => q r.2.1), up3_n (by decide), addE_o (by decide), scS_o (by decide)]
theorem mkS_4i {σ : xSig} {f i j : Nat} : mkS σ f 4 i j = if i = f ∧ j = σ 3 f 0 then σ 0 0 0 else σ 4 i j := by
  unfold mkS
  rw [up3_n (by decide)]
  by_cases q : i = f ∧ j = σ 3 f 0
  · rw [if_pos q, q.1, q.2, up3_s]
  · rw [if_neg q, show up3 (addE (scS σ (cho σ (σ 0 0 0) 3)) (cho σ (σ 0 0 0) 3) (σ 0 0 0) 5) 4 f (σ 3 f 0) (σ 0 0 0) 4 i j = addE (scS σ (cho σ (σ 0 0 0) 3)) (cho σ (σ 0 0 0) 3) (σ 0 0 0) 5 4 i j from if_neg (fun r => q r.2), addE_o (by decide), scS_o (by decide)]
theorem scS_c {σ : xSig} {h t c : Nat} (ht : t = 6 ∨ t = 7 ∨ t = 8) : scS σ h t c 0 = if c = σ 0 0 0 then (if t = 8 then h else 1) else σ t c 0 := by
  unfold scS
  rcases ht with rfl | rfl | rfl <;> (unfold up3; by_cases q : c = σ 0 0 0 <;> simp [q])
theorem mkS_c {σ : xSig} {f t c : Nat} (ht : t = 6 ∨ t = 7 ∨ t = 8) : mkS σ f t c 0 = if c = σ 0 0 0 then (if t = 8 then cho σ (σ 0 0 0) 3 else 1) else σ t c 0 := by
  unfold mkS
  rw [up3_n (by omega), up3_n (by omega), addE_o (by omega), scS_c ht]
theorem mkS_11 {σ : xSig} {f s : Nat} (hs : s < 5) : mkS σ f 11 s 0 = if (cho σ (σ 0 0 0) 3).testBit s = true then σ 11 s 0 + 1 else σ 11 s 0 := by
  unfold mkS
  rw [up3_n (by decide), up3_n (by decide), addE_at, if_neg (fun r => absurd r.2.2.1 (by decide)), scS_o (by decide)]
  by_cases q : (cho σ (σ 0 0 0) 3).testBit s = true
  · rw [if_pos ⟨hs, q, rfl, rfl⟩, if_pos q]
  · rw [if_neg (fun r => q r.2.1), if_neg q]
theorem mkS_12 {σ : xSig} {f s c : Nat} (hs : s < 5) : mkS σ f 12 s c = if (cho σ (σ 0 0 0) 3).testBit s = true ∧ c = σ 0 0 0 then 1 else σ 12 s c := by
  unfold mkS
  rw [up3_n (by decide), up3_n (by decide), addE_at, scS_o (by decide)]
  by_cases q : (cho σ (σ 0 0 0) 3).testBit s = true ∧ c = σ 0 0 0
  · rw [if_pos ⟨hs, q.1, rfl, q.2⟩, if_pos q]
  · rw [if_neg (fun r => q ⟨r.2.1, r.2.2.2⟩), if_neg (fun r => absurd r.2.2.1 (by decide)), if_neg q]; exact scS_o (by decide)
theorem mkS_MM {σ : xSig} {f M : Nat} (h : ∀ t i j, σ t i j < M) : ∀ t i j, mkS σ f t i j < M + 40 := by
  have hsc : ∀ t i j, scS σ (cho σ (σ 0 0 0) 3) t i j < M + 39 := up3_M (up3_M (up3_M (up3_M (fun t i j => Nat.lt_of_lt_of_le (h t i j) (by omega)) (by omega)) (by omega)) (by have := cho_lt σ (σ 0 0 0) 3; omega)) (by have := h 0 0 0; omega)
  have ha : ∀ t i j, addE (scS σ (cho σ (σ 0 0 0) 3)) (cho σ (σ 0 0 0) 3) (σ 0 0 0) 5 t i j < M + 40 := by
    intro t i j
    rw [addE_at]
    have := hsc t i j
    have := hsc 11 i 0
    split
    · omega
    · split <;> omega
  exact up3_M (up3_M ha (by have := h 0 0 0; omega)) (by have := h 3 f 0; omega)
theorem pc4_cg {σ σ' : xSig} {f f' c : Nat} : ∀ n, (∀ p, p < n → σ 4 f p = σ' 4 f' p) → pc4 σ f c n = pc4 σ' f' c n := by
  intro n
  induction n with
  | zero => intro _; rfl
  | succ n ih => intro h; unfold pc4; rw [ih (fun p hp => h p (by omega)), h n (by omega)]
theorem Inv.mk {σ : xSig} {w : xWrd} {M f : Nat} (h : Inv σ w M) (hf : f < 8) (h2 : σ 2 f 0 = 1) (h0 : mkC σ f = 0) : Inv (mkS σ f) w (M + 40) := by
  obtain ⟨m1, m2, m3⟩ := mkC_0 h0
  have hch := cho_lt σ (σ 0 0 0) 3
  refine ⟨mkS_MM h.1, by rw [mkS_0]; omega, ?_, mkS_H h.2.2.2.1, ?_, ?_, ?_, ?_, ?_, ?_, ?_⟩
  · intro i hi
    obtain ⟨a, b, c, d, e⟩ := h.file i hi
    rw [mkS_o (by omega), mkS_o (t := 5) (by omega), mkS_o (t := 1) (by omega), mkS_3i, mkS_0]
    by_cases q : i = f
    · subst q
      rw [if_pos rfl]
      refine ⟨a, by omega, by omega, fun p hp => ?_, e⟩
      rw [mkS_4i]
      split
      · omega
      · have := d p (by omega); omega
    · rw [if_neg q]
      refine ⟨a, b, c, fun p hp => ?_, e⟩
      rw [mkS_4i, if_neg (fun r => q r.1)]
      have := d p hp; omega
  · intro k hk
    rw [mkS_o (by omega), mkS_o (by omega), mkS_o (by omega), mkS_o (t := 17) (by omega), mkS_o (by omega)]
    exact h.kept k hk
  · intro s hs
    obtain ⟨a, b⟩ := h.cnt s hs
    rw [mkS_11 hs]
    by_cases q : (cho σ (σ 0 0 0) 3).testBit s = true
    · rw [if_pos q]
      have z := cho_fr 3 s hs q
      have c := cntV_one (f := σ 12 s) (h := mkS σ f 12 s) (c := σ 0 0 0) (fun i hi => by rw [mkS_12 hs, if_neg (fun r => hi r.2)]) 30 m1
      have e12 : mkS σ f 12 s (σ 0 0 0) = 1 := by rw [mkS_12 hs, if_pos ⟨q, rfl⟩]
      rw [e12, z.2.2, if_neg (show ¬ 0 < 0 by omega), if_pos (show 0 < 1 by omega)] at c
      omega
    · rw [if_neg q]
      refine ⟨?_, b⟩
      rw [a]
      exact cntV_congr 30 (fun i hi => by rw [mkS_12 hs, if_neg (fun r => q r.1)])
  · intro c hc
    have r1 := rL_one (σ := σ) (σ' := mkS σ f) (c := c) (f := f) (fun t i j ht hi => by
      rcases ht with rfl | rfl | rfl
      · rw [mkS_o (by omega)]
      · by_cases z : j = 0
        · rw [z, mkS_3i, if_neg hi]
        · unfold mkS; rw [show ∀ A : xSig, ∀ v, up3 A 3 f 0 v 3 i j = A 3 i j from fun A v => if_neg (fun r => z r.2.2), up3_n (by decide), addE_o (by decide), scS_o (by decide)]
      · rw [mkS_4i, if_neg (fun r => hi r.1)]) 8 hf
    have p1 : pL (mkS σ f) c f 3 = pL σ c f 3 + (if c = σ 0 0 0 then 1 else 0) := by
      rw [pL_pc4 (σ := mkS σ f) (by rw [mkS_o (by omega)]; omega) (by rw [mkS_3i, if_pos rfl]; omega), pL_pc4 (σ := σ) (by omega) (by omega), mkS_3i, if_pos rfl]
      rw [show pc4 (mkS σ f) f c (σ 3 f 0 + 1) = pc4 (mkS σ f) f c (σ 3 f 0) + (if mkS σ f 4 f (σ 3 f 0) = c then 1 else 0) from rfl, pc4_cg (σ := mkS σ f) (σ' := σ) (f := f) (f' := f) (c := c) (σ 3 f 0) (fun p hp => by rw [mkS_4i, if_neg (by omega)]), mkS_4]
      by_cases z : c = σ 0 0 0
      · rw [if_pos z, if_pos z.symm]
      · rw [if_neg z, if_neg (fun r => z r.symm)]
    rw [mkS_c (Or.inr (Or.inl rfl))]
    by_cases z : c = σ 0 0 0
    · rw [if_pos z, if_neg (by decide)]
      rw [if_pos z] at p1
      have := refs_fresh (c := c) h (by omega)
      omega
    · rw [if_neg z, h.refs c hc]
      rw [if_neg z] at p1
      omega
  · intro s c hs hc hc'
    rw [mkS_0] at hc
    have := h.fresh s c hs (by omega) hc'
    rw [mkS_12 hs, if_neg (by omega), mkS_o (by omega)]
    exact this
  · intro s c hs hc
    rw [mkS_o (by omega)]
    exact h.usd s c hs hc
  · intro c hc hr
    rw [mkS_0] at hc
    rw [mkS_c (Or.inr (Or.inr rfl)), mkS_c (Or.inl rfl)]
    by_cases z : c = σ 0 0 0
    · rw [if_pos z, if_pos z, if_pos rfl, if_neg (by decide)]
      refine ⟨m3, by omega, fun s hs => ?_⟩
      rw [mkS_12 hs]
      have fr := (h.fresh s c hs (by omega) (by omega)).1
      by_cases q : (cho σ (σ 0 0 0) 3).testBit s = true
      · rw [if_pos ⟨q, z⟩]; exact ⟨by omega, fun _ => rfl, fun _ => q⟩
      · rw [if_neg (fun r => q r.1), fr]; exact ⟨by omega, fun r => absurd r q, fun r => by omega⟩
    · rw [if_neg z, if_neg z]
      rw [mkS_c (Or.inr (Or.inl rfl)), if_neg z] at hr
      obtain ⟨a, b, e⟩ := h.hold c (by omega) hr
      refine ⟨a, b, fun s hs => ?_⟩
      rw [mkS_12 hs, if_neg (fun r => z r.2)]
      exact e s hs
  · intro c hc hr s t hs ht
    rw [mkS_0] at hc
    rw [mkS_o (t := 13) (by omega), mkS_o (t := 13) (by omega), mkS_c (Or.inr (Or.inr rfl))]
    by_cases z : c = σ 0 0 0
    · intro _ _
      rw [(h.fresh s c hs (by omega) (by omega)).2.1, (h.fresh t c ht (by omega) (by omega)).2.1]
    · rw [if_neg z]
      rw [mkS_c (Or.inr (Or.inl rfl)), if_neg z] at hr
      exact h.like c (by omega) hr s t hs ht
end XI2
