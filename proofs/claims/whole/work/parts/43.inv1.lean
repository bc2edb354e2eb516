/-! What holds between two calls is kept: the small changes. -/
section XI1
theorem Inv.mono {σ : xSig} {w : xWrd} {M M' : Nat} (h : Inv σ w M) (hM : M ≤ M') : Inv σ w M' := ⟨fun t i j => Nat.lt_of_lt_of_le (h.1 t i j) hM, h.2⟩
/-- leases and servers up are free -/
theorem Inv.free {σ σ' : xSig} {w : xWrd} {M M' : Nat} (h : Inv σ w M) (he : ∀ t i j, ¬ t = 9 → ¬ t = 10 → σ' t i j = σ t i j) (hB : ∀ t i j, σ' t i j < M') : Inv σ' w M' := by
  have E : ∀ t, ¬ t = 9 → ¬ t = 10 → σ' t = σ t := fun t h1 h2 => funext fun i => funext fun j => he t i j h1 h2
  obtain ⟨h1, h2, h3, h4, h5, h6, h7, h8, h9, h10, h11⟩ := h
  refine ⟨hB, ?_, ?_, ?_, ?_, ?_, ?_, ?_, ?_, ?_, ?_⟩
  · rw [E 0 (by decide) (by decide)]; exact h2
  · rw [E 0 (by decide) (by decide), E 1 (by decide) (by decide), E 2 (by decide) (by decide), E 3 (by decide) (by decide), E 4 (by decide) (by decide), E 5 (by decide) (by decide)]; exact h3
  · rw [E 8 (by decide) (by decide)]; exact h4
  · rw [E 1 (by decide) (by decide), E 14 (by decide) (by decide), E 15 (by decide) (by decide), E 16 (by decide) (by decide), E 17 (by decide) (by decide)]; exact h5
  · rw [E 11 (by decide) (by decide), E 12 (by decide) (by decide)]; exact h6
  · intro c hc
    rw [E 7 (by decide) (by decide), h7 c hc]
    exact rL_congr (fun t i j ht => (he t i j (by omega) (by omega)).symm) 8
  · rw [E 0 (by decide) (by decide), E 12 (by decide) (by decide), E 13 (by decide) (by decide)]; exact h8
  · rw [E 13 (by decide) (by decide)]; exact h9
  · rw [E 0 (by decide) (by decide), E 6 (by decide) (by decide), E 7 (by decide) (by decide), E 8 (by decide) (by decide), E 12 (by decide) (by decide)]; exact h10
  · rw [E 0 (by decide) (by decide), E 7 (by decide) (by decide), E 8 (by decide) (by decide), E 13 (by decide) (by decide)]; exact h11
/-- the time goes on -/
theorem Inv.time {σ : xSig} {w : xWrd} {M M' d : Nat} (h : Inv σ w M) (hM : M + d ≤ M') : Inv (up3 σ 1 0 0 (σ 1 0 0 + d)) w M' := by
  obtain ⟨h1, h2, h3, h4, h5, h6, h7, h8, h9, h10, h11⟩ := h
  have N : ∀ t i j, ¬ t = 1 → up3 σ 1 0 0 (σ 1 0 0 + d) t i j = σ t i j := fun t i j ht => up3_n ht
  have N2 : ∀ t, ¬ t = 1 → up3 σ 1 0 0 (σ 1 0 0 + d) t = σ t := fun t ht => funext fun i => funext fun j => N t i j ht
  refine ⟨up3_M (fun t i j => by have := h1 t i j; omega) (by have := h1 1 0 0; omega), ?_, ?_, ?_, ?_, ?_, ?_, ?_, ?_, ?_, ?_⟩
  · rw [N _ _ _ (by decide)]; exact h2
  · intro f hf
    rw [N2 0 (by decide), N2 2 (by decide), N2 3 (by decide), N2 4 (by decide), N2 5 (by decide), up3_s]
    obtain ⟨a, b, c, d', e⟩ := h3 f hf
    exact ⟨a, b, c, d', by omega⟩
  · rw [N2 8 (by decide)]; exact h4
  · intro k hk
    rw [N2 14 (by decide), N2 15 (by decide), N2 16 (by decide), N2 17 (by decide), up3_s]
    obtain ⟨a, b, c⟩ := h5 k hk
    exact ⟨a, b, fun q => c (by omega)⟩
  · rw [N2 11 (by decide), N2 12 (by decide)]; exact h6
  · intro c hc
    rw [N2 7 (by decide), h7 c hc]
    exact rL_congr (fun t i j ht => (N t i j (by omega)).symm) 8
  · rw [N2 0 (by decide), N2 12 (by decide), N2 13 (by decide)]; exact h8
  · rw [N2 13 (by decide)]; exact h9
  · rw [N2 0 (by decide), N2 6 (by decide), N2 7 (by decide), N2 8 (by decide), N2 12 (by decide)]; exact h10
  · rw [N2 0 (by decide), N2 7 (by decide), N2 8 (by decide), N2 13 (by decide)]; exact h11
/-- states and times of hiding -/
theorem Inv.st {σ σ' : xSig} {w : xWrd} {M M' : Nat} (h : Inv σ w M) (he : ∀ t i j, ¬ t = 2 → ¬ t = 5 → σ' t i j = σ t i j) (hB : ∀ t i j, σ' t i j < M') (hs : ∀ f, f < 8 → σ' 2 f 0 ≤ 2 ∧ (σ' 2 f 0 = 0 → σ 3 f 0 = 0) ∧ σ' 5 f 0 ≤ σ 1 0 0) : Inv σ' w M' := by
  have E : ∀ t, ¬ t = 2 → ¬ t = 5 → σ' t = σ t := fun t h1 h2 => funext fun i => funext fun j => he t i j h1 h2
  obtain ⟨h1, h2, h3, h4, h5, h6, h7, h8, h9, h10, h11⟩ := h
  refine ⟨hB, ?_, ?_, ?_, ?_, ?_, ?_, ?_, ?_, ?_, ?_⟩
  · rw [E 0 (by decide) (by decide)]; exact h2
  · intro f hf
    rw [E 0 (by decide) (by decide), E 1 (by decide) (by decide), E 3 (by decide) (by decide), E 4 (by decide) (by decide)]
    obtain ⟨a, b, c, d, e⟩ := h3 f hf
    obtain ⟨a', c', e'⟩ := hs f hf
    exact ⟨a', b, c', d, e'⟩
  · rw [E 8 (by decide) (by decide)]; exact h4
  · rw [E 1 (by decide) (by decide), E 14 (by decide) (by decide), E 15 (by decide) (by decide), E 16 (by decide) (by decide), E 17 (by decide) (by decide)]; exact h5
  · rw [E 11 (by decide) (by decide), E 12 (by decide) (by decide)]; exact h6
  · intro c hc
    rw [E 7 (by decide) (by decide), h7 c hc]
    refine rL_cg 8 (fun f hf p hp => ?_)
    rw [E 3 (by decide) (by decide), E 4 (by decide) (by decide)]
    obtain ⟨a, b, c1, d, e⟩ := h3 f hf
    obtain ⟨a', c', e'⟩ := hs f hf
    constructor
    · intro q; exact ⟨fun z => by have := c' z; omega, q.2⟩
    · intro q; exact ⟨fun z => by have := c1 z; omega, q.2⟩
  · rw [E 0 (by decide) (by decide), E 12 (by decide) (by decide), E 13 (by decide) (by decide)]; exact h8
  · rw [E 13 (by decide) (by decide)]; exact h9
  · rw [E 0 (by decide) (by decide), E 6 (by decide) (by decide), E 7 (by decide) (by decide), E 8 (by decide) (by decide), E 12 (by decide) (by decide)]; exact h10
  · rw [E 0 (by decide) (by decide), E 7 (by decide) (by decide), E 8 (by decide) (by decide), E 13 (by decide) (by decide)]; exact h11
theorem Inv.create {σ : xSig} {w : xWrd} {M M' i : Nat} (h : Inv σ w M) (hM : M ≤ M') (h2 : 2 ≤ M') (hs : σ 2 i 0 = 0) : Inv (up3 σ 2 i 0 1) w M' := by
  refine h.st (fun t x y h1 _ => up3_n h1) (up3_M (fun t i j => Nat.lt_of_lt_of_le (h.1 t i j) hM) (by omega)) (fun f hf => ?_)
  obtain ⟨a, b, c, d, e⟩ := h.file f hf
  rw [up3_n (show ¬ 5 = 2 by decide)]
  unfold up3
  by_cases q : f = i
  · rw [if_pos ⟨rfl, q, rfl⟩]; exact ⟨by omega, by omega, e⟩
  · rw [if_neg (fun r => q r.2.1)]; exact ⟨a, c, e⟩
theorem Inv.remove {σ : xSig} {w : xWrd} {M M' i : Nat} (h : Inv σ w M) (hM : M ≤ M') (h2 : 3 ≤ M') : Inv (up3 (up3 σ 2 i 0 2) 5 i 0 (σ 1 0 0)) w M' := by
  refine h.st (fun t x y h1 h5 => by rw [up3_n h5, up3_n h1]) (up3_M (up3_M (fun t i j => Nat.lt_of_lt_of_le (h.1 t i j) hM) (by omega)) (Nat.lt_of_lt_of_le (h.1 _ _ _) hM)) (fun f hf => ?_)
  obtain ⟨a, b, c, d, e⟩ := h.file f hf
  rw [up3_n (show ¬ 2 = 5 by decide)]
  unfold up3
  by_cases q : f = i
  · rw [if_pos ⟨rfl, q, rfl⟩, if_pos ⟨rfl, q, rfl⟩]; exact ⟨by omega, by omega, Nat.le_refl _⟩
  · rw [if_neg (fun r => q r.2.1), if_neg (fun r => q r.2.1), if_neg (fun r => absurd r.1 (by decide))]; exact ⟨a, c, e⟩
theorem Inv.restore {σ : xSig} {w : xWrd} {M M' i : Nat} (h : Inv σ w M) (hM : M ≤ M') (h2 : 2 ≤ M') : Inv (up3 σ 2 i 0 1) w M' := by
  refine h.st (fun t x y h1 _ => up3_n h1) (up3_M (fun t i j => Nat.lt_of_lt_of_le (h.1 t i j) hM) (by omega)) (fun f hf => ?_)
  obtain ⟨a, b, c, d, e⟩ := h.file f hf
  rw [up3_n (show ¬ 5 = 2 by decide)]
  unfold up3
  by_cases q : f = i
  · rw [if_pos ⟨rfl, q, rfl⟩]; exact ⟨by omega, by omega, e⟩
  · rw [if_neg (fun r => q r.2.1)]; exact ⟨a, c, e⟩
/-- what the clients keep -/
theorem Inv.keep {σ σ' : xSig} {w : xWrd} {M M' : Nat} (h : Inv σ w M) (he : ∀ t i j, t < 14 → σ' t i j = σ t i j) (hB : ∀ t i j, σ' t i j < M') (hs : ∀ k, k < 72 → σ' 14 k 0 < 30 ∧ σ' 16 k 0 < 32 ∧ (σ 1 0 0 < σ' 17 k 0 → 1 ≤ σ' 15 k 0)) : Inv σ' w M' := by
  have E : ∀ t, t < 14 → σ' t = σ t := fun t h1 => funext fun i => funext fun j => he t i j h1
  obtain ⟨h1, h2, h3, h4, h5, h6, h7, h8, h9, h10, h11⟩ := h
  refine ⟨hB, ?_, ?_, ?_, ?_, ?_, ?_, ?_, ?_, ?_, ?_⟩
  · rw [E 0 (by decide)]; exact h2
  · rw [E 0 (by decide), E 1 (by decide), E 2 (by decide), E 3 (by decide), E 4 (by decide), E 5 (by decide)]; exact h3
  · rw [E 8 (by decide)]; exact h4
  · rw [E 1 (by decide)]; exact hs
  · rw [E 11 (by decide), E 12 (by decide)]; exact h6
  · intro c hc
    rw [E 7 (by decide), h7 c hc]
    exact rL_congr (fun t i j ht => (he t i j (by omega)).symm) 8
  · rw [E 0 (by decide), E 12 (by decide), E 13 (by decide)]; exact h8
  · rw [E 13 (by decide)]; exact h9
  · rw [E 0 (by decide), E 6 (by decide), E 7 (by decide), E 8 (by decide), E 12 (by decide)]; exact h10
  · rw [E 0 (by decide), E 7 (by decide), E 8 (by decide), E 13 (by decide)]; exact h11
theorem fdC_0 {σ : xSig} {f q : Nat} (h : fdC σ f q = 0) : σ 2 f 0 = 1 ∧ q < σ 3 f 0 := by
  unfold fdC at h
  split at h
  · split at h
    · exact ⟨by assumption, by assumption⟩
    · omega
  · omega
theorem Inv.find {σ : xSig} {w : xWrd} {M M' K f q : Nat} (h : Inv σ w M) (hM : M + 40 ≤ M') (hf : f < 8) (h0 : fdC σ f q = 0) : Inv (fdS σ K f q) w M' := by
  obtain ⟨hs, hp⟩ := fdC_0 h0
  have hr := row_refs h hf (by omega) hp
  have hc := (h.file f hf).2.2.2.1 q hp
  have h30 := h.2.1
  have hv := (h.hold _ hc hr).2.1
  unfold fdS
  split
  · exact h.mono (by omega)
  · refine h.keep (fun t i j ht => by rw [up3_n (by omega), up3_n (by omega), up3_n (by omega), up3_n (by omega)]) ?_ (fun k hk => ?_)
    · have hm : ∀ t i j, σ t i j < M' := fun t i j => by have := h.1 t i j; omega
      exact up3_M (up3_M (up3_M (up3_M hm (hm _ _ _)) (hm _ _ _)) (hm _ _ _)) (by have := h.1 1 0 0; omega)
    · obtain ⟨a, b, c⟩ := h.kept k hk
      by_cases r : k = K
      · subst r
        simp only [up3]
        refine ⟨?_, ?_, ?_⟩
        · simp; omega
        · simp; exact h.2.2.2.1 _
        · simp; exact hv
      · simp only [up3]
        simp [r]
        exact ⟨a, b, c⟩
end XI1
