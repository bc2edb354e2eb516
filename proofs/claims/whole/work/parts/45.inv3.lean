/-! What holds between two calls is kept: a lease taken, a word written. -/
section XI3
theorem lvh_sub {σ : xSig} {c s : Nat} (hs : s < 5) (h : (lvh σ c).testBit s = true) : (σ 8 c 0).testBit s = true := by
  unfold lvh at h
  rw [liv_bit 5 (Nat.le_refl _) s hs] at h
  simp only [Bool.and_eq_true, decide_eq_true_eq] at h
  exact h.2.2
theorem rvS_at {σ : xSig} {c h t i j : Nat} : rvS σ c h t i j = if i < 5 ∧ h.testBit i = true ∧ t = 12 ∧ j = c then σ 6 c 0 + 1 else if t = 8 ∧ i = c ∧ j = 0 then h else if t = 6 ∧ i = c ∧ j = 0 then σ 6 c 0 + 1 else σ t i j := by
  unfold rvS
  rw [rvL_at]
  unfold up3
  rfl
theorem rvS_6 {σ : xSig} {c h x : Nat} : rvS σ c h 6 x 0 = if x = c then σ 6 c 0 + 1 else σ 6 x 0 := by
  rw [rvS_at, if_neg (fun r => absurd r.2.2.1 (by decide)), if_neg (fun r => absurd r.1 (by decide))]
  by_cases q : x = c
  · rw [if_pos q, if_pos ⟨rfl, q, rfl⟩]
  · rw [if_neg q, if_neg (fun r => q r.2.1)]
theorem rvS_8 {σ : xSig} {c h x : Nat} : rvS σ c h 8 x 0 = if x = c then h else σ 8 x 0 := by
  rw [rvS_at, if_neg (fun r => absurd r.2.2.1 (by decide))]
  by_cases q : x = c
  · rw [if_pos q, if_pos ⟨rfl, q, rfl⟩]
  · rw [if_neg q, if_neg (fun r => q r.2.1), if_neg (fun r => absurd r.1 (by decide))]
theorem rvS_12 {σ : xSig} {c h s x : Nat} (hs : s < 5) : rvS σ c h 12 s x = if h.testBit s = true ∧ x = c then σ 6 c 0 + 1 else σ 12 s x := by
  rw [rvS_at]
  by_cases q : h.testBit s = true ∧ x = c
  · rw [if_pos q, if_pos ⟨hs, q.1, rfl, q.2⟩]
  · rw [if_neg q, if_neg (fun r => q ⟨r.2.1, r.2.2.2⟩), if_neg (fun r => absurd r.1 (by decide)), if_neg (fun r => absurd r.1 (by decide))]
theorem Inv.raise {σ : xSig} {w : xWrd} {M c : Nat} (h : Inv σ w M) (hc : c < σ 0 0 0) (hr : 0 < σ 7 c 0) (h0 : ¬ lvh σ c = 0) : Inv (rvS σ c (lvh σ c)) w (M + 40) := by
  have hl := lvh_lt σ c
  obtain ⟨v1, v2, v3⟩ := h.hold c hc hr
  have hM : ∀ t i j, σ t i j < M + 40 := fun t i j => Nat.lt_of_lt_of_le (h.1 t i j) (by omega)
  refine ⟨?_, by rw [rvS_1 (by omega)]; exact h.2.1, ?_, rvS_H h.2.2.2.1 hl, ?_, ?_, ?_, ?_, ?_, ?_, ?_⟩
  · intro t i j
    rw [rvS_at]
    have := h.1 t i j
    have := h.1 6 c 0
    split
    · omega
    · split
      · omega
      · split <;> omega
  · intro f hf
    rw [rvS_1 (by omega), rvS_1 (by omega), rvS_1 (t := 5) (by omega), rvS_1 (t := 1) (by omega), rvS_1 (t := 0) (by omega)]
    obtain ⟨a, b, c', d, e⟩ := h.file f hf
    exact ⟨a, b, c', fun p hp => by rw [rvS_1 (by omega)]; exact d p hp, e⟩
  · intro k hk
    rw [rvS_1 (by omega), rvS_1 (by omega), rvS_1 (by omega), rvS_1 (t := 17) (by omega), rvS_1 (by omega)]
    exact h.kept k hk
  · intro s hs
    rw [rvS_1 (by omega)]
    obtain ⟨a, b⟩ := h.cnt s hs
    refine ⟨?_, b⟩
    rw [a]
    refine cntV_congr 30 (fun i hi => ?_)
    rw [rvS_12 hs]
    by_cases q : (lvh σ c).testBit s = true ∧ i = c
    · rw [if_pos q, q.2]
      have := ((v3 s hs).2).mp (lvh_sub hs q.1)
      constructor <;> intro <;> omega
    · rw [if_neg q]
  · intro x hx
    rw [rvS_1 (by omega), h.refs x hx]
    exact rL_congr (fun t i j ht => (rvS_1 (by omega)).symm) 8
  · intro s x hs hx hx'
    rw [rvS_1 (by omega)] at hx
    rw [rvS_12 hs, if_neg (by omega), rvS_1 (by omega)]
    exact h.fresh s x hs hx hx'
  · intro s x hs hx
    rw [rvS_1 (by omega)]
    exact h.usd s x hs hx
  · intro x hx hxr
    rw [rvS_1 (by omega)] at hx hxr
    rw [rvS_8, rvS_6]
    by_cases z : x = c
    · subst z
      rw [if_pos rfl, if_pos rfl]
      refine ⟨h0, by omega, fun s hs => ?_⟩
      rw [rvS_12 hs]
      obtain ⟨e1, e2⟩ := v3 s hs
      by_cases q : (lvh σ x).testBit s = true
      · rw [if_pos ⟨q, rfl⟩]; exact ⟨Nat.le_refl _, fun _ => rfl, fun _ => q⟩
      · rw [if_neg (fun r => q r.1)]; exact ⟨by omega, fun r => absurd r q, fun r => by omega⟩
    · rw [if_neg z, if_neg z]
      obtain ⟨a, b, e⟩ := h.hold x hx hxr
      refine ⟨a, b, fun s hs => ?_⟩
      rw [rvS_12 hs, if_neg (fun r => z r.2)]
      exact e s hs
  · intro x hx hxr s t hs ht
    rw [rvS_1 (by omega)] at hx hxr
    rw [rvS_1 (t := 13) (by omega), rvS_1 (t := 13) (by omega), rvS_8]
    by_cases z : x = c
    · subst z
      rw [if_pos rfl]
      intro b1 b2
      exact h.like x hx hxr s t hs ht (lvh_sub hs b1) (lvh_sub ht b2)
    · rw [if_neg z]
      exact h.like x hx hxr s t hs ht
/-- the new chunk of a split -/
theorem spS_o {σ : xSig} {f q h t i j : Nat} (ht : ¬ t = 0 ∧ ¬ t = 4 ∧ ¬ t = 6 ∧ ¬ t = 7 ∧ ¬ t = 8 ∧ ¬ t = 11 ∧ ¬ t = 12 ∧ ¬ t = 13) : spS σ f q h t i j = σ t i j := by
  unfold spS
  rw [up3_n ht.2.1, up3_n ht.2.2.2.1, spL_o _ ⟨ht.2.2.2.2.2.1, ht.2.2.2.2.2.2.1, ht.2.2.2.2.2.2.2⟩, scS_o ⟨ht.1, ht.2.2.1, ht.2.2.2.1, ht.2.2.2.2.1⟩]
theorem spS_0 {σ : xSig} {f q h : Nat} : spS σ f q h 0 0 0 = σ 0 0 0 + 1 := by
  unfold spS
  rw [up3_n (by decide), up3_n (by decide), spL_o _ (by decide)]
  unfold scS
  rw [up3_s]
theorem spS_4 {σ : xSig} {f q h i j : Nat} : spS σ f q h 4 i j = if i = f ∧ j = q then σ 0 0 0 else σ 4 i j := by
  unfold spS
  by_cases r : i = f ∧ j = q
  · rw [if_pos r, r.1, r.2, up3_s]
  · rw [if_neg r, show ∀ A : xSig, ∀ v, up3 A 4 f q v 4 i j = A 4 i j from fun A v => if_neg (fun z => r z.2), up3_n (by decide), spL_o _ (by decide), scS_o (by decide)]
theorem spS_7 {σ : xSig} {f q h x : Nat} : spS σ f q h 7 x 0 = if x = σ 4 f q then σ 7 (σ 4 f q) 0 - 1 else if x = σ 0 0 0 then 1 else σ 7 x 0 := by
  unfold spS
  rw [up3_n (by decide)]
  by_cases r : x = σ 4 f q
  · rw [if_pos r, r, up3_s]
  · rw [if_neg r, show ∀ A : xSig, ∀ v, up3 A 7 (σ 4 f q) 0 v 7 x 0 = A 7 x 0 from fun A v => if_neg (fun z => r z.2.1), spL_o _ (by decide), scS_c (by omega)]
    simp
theorem spS_c {σ : xSig} {f q h t x : Nat} (ht : t = 6 ∨ t = 8) : spS σ f q h t x 0 = if x = σ 0 0 0 then (if t = 8 then h else 1) else σ t x 0 := by
  unfold spS
  rw [up3_n (by omega), up3_n (by omega), spL_o _ (by omega), scS_c (by omega)]
theorem spS_11 {σ : xSig} {f q h s : Nat} (hs : s < 5) (hmc : ¬ σ 0 0 0 = σ 4 f q) : spS σ f q h 11 s 0 = if h.testBit s = true then σ 11 s 0 + 1 else σ 11 s 0 := by
  unfold spS
  rw [up3_n (by decide), up3_n (by decide), spL_at _ _ _ _ hmc, if_neg (fun r => absurd r.2.2.1 (by decide)), if_neg (fun r => absurd r.2.2.1 (by decide)), scS_o (by decide)]
  by_cases r : h.testBit s = true
  · rw [if_pos ⟨hs, r, rfl, rfl⟩, if_pos r]
  · rw [if_neg (fun z => r z.2.1), if_neg r]
theorem spS_12 {σ : xSig} {f q h s x : Nat} (hs : s < 5) (hmc : ¬ σ 0 0 0 = σ 4 f q) : spS σ f q h 12 s x = if h.testBit s = true ∧ x = σ 0 0 0 then 1 else σ 12 s x := by
  unfold spS
  rw [up3_n (by decide), up3_n (by decide), spL_at _ _ _ _ hmc]
  by_cases r : h.testBit s = true ∧ x = σ 0 0 0
  · rw [if_pos r, if_pos ⟨hs, r.1, rfl, r.2⟩]
  · rw [if_neg r, if_neg (fun z => r ⟨z.2.1, z.2.2.2⟩), if_neg (fun z => absurd z.2.2.1 (by decide)), if_neg (fun z => absurd z.2.2.1 (by decide)), scS_o (by decide)]
theorem spS_13 {σ : xSig} {f q h s x : Nat} (hs : s < 5) (hmc : ¬ σ 0 0 0 = σ 4 f q) : spS σ f q h 13 s x = if h.testBit s = true ∧ x = σ 0 0 0 then σ 13 s (σ 4 f q) else σ 13 s x := by
  unfold spS
  rw [up3_n (by decide), up3_n (by decide), spL_at _ _ _ _ hmc, if_neg (fun z => absurd z.2.2.1 (by decide))]
  by_cases r : h.testBit s = true ∧ x = σ 0 0 0
  · rw [if_pos r, if_pos ⟨hs, r.1, rfl, r.2⟩, scS_o (by decide)]
  · rw [if_neg r, if_neg (fun z => r ⟨z.2.1, z.2.2.2⟩), if_neg (fun z => absurd z.2.2.1 (by decide)), scS_o (by decide)]
theorem spW_o {w : xWrd} {h m c : Nat} (hmc : ¬ m = c) : ∀ n s y, m * 4 + 4 ≤ y → spW w h m c n s y = w s y := by
  intro n
  induction n with
  | zero => intro s y _; rfl
  | succ n ih =>
    intro s y hy
    unfold spW
    split
    · rw [cpW_at (fun r => hmc r.2) 4 (Nat.le_refl _), if_neg (by omega), ih s y hy]
    · exact ih s y hy
theorem pc4_one {σ σ' : xSig} {f c q : Nat} (ho : ∀ p, p ≠ q → σ 4 f p = σ' 4 f p) : ∀ n, q < n → pc4 σ' f c n + (if σ 4 f q = c then 1 else 0) = pc4 σ f c n + (if σ' 4 f q = c then 1 else 0) := by
  intro n
  induction n with
  | zero => intro r; omega
  | succ n ih =>
    intro r
    unfold pc4
    by_cases z : q = n
    · subst z
      rw [pc4_cg (σ := σ) (σ' := σ') (f := f) (f' := f) (c := c) q (fun p hp => ho p (by omega))]
      omega
    · have := ih (by omega)
      rw [ho n (fun y => z y.symm)]
      omega
theorem Inv.split {σ : xSig} {w : xWrd} {M f q : Nat} (h : Inv σ w M) (hf : f < 8) (h2 : ¬ σ 2 f 0 = 0) (hq : q < σ 3 f 0) (hm : σ 0 0 0 < 30) (hF : ¬ anyF σ (lvh σ (σ 4 f q)) = true) (h0 : ¬ lvh σ (σ 4 f q) = 0) : Inv (spS σ f q (lvh σ (σ 4 f q))) (spW w (lvh σ (σ 4 f q)) (σ 0 0 0) (σ 4 f q) 5) (M + 40) := by
  have hl := lvh_lt σ (σ 4 f q)
  have hc := (h.file f hf).2.2.2.1 q hq
  have hr := row_refs h hf h2 hq
  have hmc : ¬ σ 0 0 0 = σ 4 f q := by omega
  have h3 := (h.file f hf).2.1
  generalize hh : lvh σ (σ 4 f q) = hv at hl hF h0
  have hsub : ∀ s, s < 5 → hv.testBit s = true → (σ 8 (σ 4 f q) 0).testBit s = true := fun s hs b => lvh_sub hs (by rw [hh]; exact b)
  have hB : ∀ t i j, spS σ f q hv t i j < M + 40 := by
    have hsc : ∀ t i j, scS σ hv t i j < M + 39 := up3_M (up3_M (up3_M (up3_M (fun t i j => Nat.lt_of_lt_of_le (h.1 t i j) (by omega)) (by omega)) (by omega)) (by omega)) (by have := h.1 0 0 0; omega)
    have hsp : ∀ t i j, spL (scS σ hv) hv (σ 0 0 0) (σ 4 f q) 5 t i j < M + 40 := by
      intro t i j
      rw [spL_at _ _ _ _ hmc]
      have := hsc t i j
      have := hsc 11 i 0
      have := hsc 13 i (σ 4 f q)
      split
      · omega
      · split
        · omega
        · split <;> omega
    exact up3_M (up3_M hsp (by have := h.1 7 (σ 4 f q) 0; omega)) (by have := h.1 0 0 0; omega)
  refine ⟨hB, by rw [spS_0]; omega, ?_, spS_H h.2.2.2.1 hl, ?_, ?_, ?_, ?_, ?_, ?_, ?_⟩
  · intro i hi
    obtain ⟨a, b, c, d, e⟩ := h.file i hi
    rw [spS_o (by omega), spS_o (t := 3) (by omega), spS_o (t := 5) (by omega), spS_o (t := 1) (by omega), spS_0]
    refine ⟨a, b, c, fun p hp => ?_, e⟩
    rw [spS_4]
    split
    · omega
    · have := d p hp; omega
  · intro k hk
    rw [spS_o (by omega), spS_o (by omega), spS_o (by omega), spS_o (t := 17) (by omega), spS_o (by omega)]
    exact h.kept k hk
  · intro s hs
    obtain ⟨a, b⟩ := h.cnt s hs
    rw [spS_11 hs hmc]
    by_cases r : hv.testBit s = true
    · rw [if_pos r]
      have z : σ 11 s 0 < 12 := Nat.not_le.mp fun z => hF (anyF_t.mpr ⟨s, hs, r, z⟩)
      have c := cntV_one (f := σ 12 s) (h := spS σ f q hv 12 s) (c := σ 0 0 0) (fun i hi => by rw [spS_12 hs hmc, if_neg (fun y => hi y.2)]) 30 hm
      have e12 : spS σ f q hv 12 s (σ 0 0 0) = 1 := by rw [spS_12 hs hmc, if_pos ⟨r, rfl⟩]
      rw [e12, (h.fresh s _ hs (Nat.le_refl _) hm).1, if_neg (show ¬ 0 < 0 by omega), if_pos (show 0 < 1 by omega)] at c
      omega
    · rw [if_neg r]
      refine ⟨?_, b⟩
      rw [a]
      exact cntV_congr 30 (fun i hi => by rw [spS_12 hs hmc, if_neg (fun y => r y.1)])
  · intro x hx
    have r1 := rL_one (σ := σ) (σ' := spS σ f q hv) (c := x) (f := f) (fun t i j ht hi => by
      rcases ht with rfl | rfl | rfl
      · rw [spS_o (by omega)]
      · rw [spS_o (by omega)]
      · rw [spS_4, if_neg (fun r => hi r.1)]) 8 hf
    rw [pL_pc4 (σ := spS σ f q hv) (by rw [spS_o (by omega)]; exact h2) (by rw [spS_o (by omega)]; exact h3), pL_pc4 (σ := σ) h2 h3, spS_o (t := 3) (by omega)] at r1
    have r2 := pc4_one (σ := σ) (σ' := spS σ f q hv) (f := f) (c := x) (q := q) (fun p hp => by rw [spS_4, if_neg (fun r => hp r.2)]) (σ 3 f 0) hq
    have e4 : spS σ f q hv 4 f q = σ 0 0 0 := by rw [spS_4, if_pos ⟨rfl, rfl⟩]
    rw [e4] at r2
    rw [spS_7]
    have fr := refs_fresh (c := σ 0 0 0) h (Nat.le_refl _)
    by_cases z : x = σ 4 f q
    · rw [if_pos z, h.refs _ (by omega)]
      rw [h.refs _ (by omega)] at hr
      rw [if_pos z.symm, if_neg (by omega)] at r2
      rw [z] at r1 r2 ⊢
      omega
    · rw [if_neg z]
      rw [if_neg (fun y => z y.symm)] at r2
      by_cases y : x = σ 0 0 0
      · rw [if_pos y]
        rw [if_pos y.symm] at r2
        rw [y] at r1 r2 ⊢
        omega
      · rw [if_neg y, h.refs x hx]
        rw [if_neg (fun u => y u.symm)] at r2
        omega
  · intro s x hs hx hx'
    rw [spS_0] at hx
    obtain ⟨a, b, c⟩ := h.fresh s x hs (by omega) hx'
    rw [spS_12 hs hmc, spS_13 hs hmc, if_neg (by omega), if_neg (by omega)]
    exact ⟨a, b, fun u hu => by rw [spW_o hmc 5 s _ (by omega)]; exact c u hu⟩
  · intro s x hs hx
    rw [spS_13 hs hmc]
    split
    · exact h.usd s _ hs (by omega)
    · exact h.usd s x hs hx
  · intro x hx hxr
    rw [spS_0] at hx
    rw [spS_c (Or.inr rfl), spS_c (Or.inl rfl)]
    by_cases z : x = σ 0 0 0
    · rw [if_pos z, if_pos z, if_pos rfl, if_neg (by decide)]
      refine ⟨h0, by omega, fun s hs => ?_⟩
      rw [spS_12 hs hmc]
      have fr := (h.fresh s x hs (by omega) (by omega)).1
      by_cases r : hv.testBit s = true
      · rw [if_pos ⟨r, z⟩]; exact ⟨by omega, fun _ => rfl, fun _ => r⟩
      · rw [if_neg (fun y => r y.1), fr]; exact ⟨by omega, fun y => absurd y r, fun y => by omega⟩
    · rw [if_neg z, if_neg z]
      have hxr' : 0 < σ 7 x 0 := by
        rw [spS_7] at hxr
        by_cases y : x = σ 4 f q
        · rw [y]; exact hr
        · rw [if_neg y, if_neg z] at hxr; exact hxr
      obtain ⟨a, b, e⟩ := h.hold x (by omega) hxr'
      refine ⟨a, b, fun s hs => ?_⟩
      rw [spS_12 hs hmc, if_neg (fun r => z r.2)]
      exact e s hs
  · intro x hx hxr s t hs ht
    rw [spS_0] at hx
    rw [spS_13 hs hmc, spS_13 ht hmc, spS_c (Or.inr rfl)]
    by_cases z : x = σ 0 0 0
    · rw [if_pos z, if_pos rfl]
      intro b1 b2
      rw [if_pos ⟨b1, z⟩, if_pos ⟨b2, z⟩]
      exact h.like _ hc hr s t hs ht (hsub s hs b1) (hsub t ht b2)
    · rw [if_neg z, if_neg (fun r => z r.2), if_neg (fun r => z r.2)]
      have hxr' : 0 < σ 7 x 0 := by
        rw [spS_7] at hxr
        by_cases y : x = σ 4 f q
        · rw [y]; exact hr
        · rw [if_neg y, if_neg z] at hxr; exact hxr
      exact h.like x (by omega) hxr' s t hs ht
theorem lsC_l {σ : xSig} {c : Nat} (h : lsC σ c = 0) (hk : ¬ lsK σ c = true) : ¬ lvh σ c = 0 := by
  intro q
  unfold lsC at h
  rw [if_neg hk, if_pos q] at h
  omega
theorem lsC_F {σ : xSig} {c : Nat} (h : lsC σ c = 0) (hk : ¬ lsK σ c = true) (h2 : 2 ≤ σ 7 c 0) : ¬ anyF σ (lvh σ c) = true := by
  intro q
  have := lsC_m h hk h2
  have hl := lsC_l h hk
  unfold lsC at h
  rw [if_neg hk, if_neg hl, if_pos h2, spC, if_neg (by omega), if_pos q] at h
  omega
theorem Inv.ls {σ : xSig} {w : xWrd} {M f q : Nat} (h : Inv σ w M) (hf : f < 8) (h2 : ¬ σ 2 f 0 = 0) (hq : q < σ 3 f 0) (h0 : lsC σ (σ 4 f q) = 0) : Inv (lsS σ f q) (lsW σ w (σ 4 f q)) (M + 120) := by
  have hc := (h.file f hf).2.2.2.1 q hq
  have hr := row_refs h hf h2 hq
  unfold lsS lsW
  by_cases hk : lsK σ (σ 4 f q) = true
  · rw [if_pos hk, if_pos hk]; exact h.mono (by omega)
  · rw [if_neg hk, if_neg hk]
    have hl := lsC_l h0 hk
    by_cases r : 2 ≤ σ 7 (σ 4 f q) 0
    · rw [if_pos r, if_pos r]
      have g := h.split hf h2 hq (lsC_m h0 hk r) (lsC_F h0 hk r) hl
      exact g.free (fun t i j a _ => up3_n a) (up3_M (fun t i j => Nat.lt_of_lt_of_le (g.1 t i j) (by omega)) (by have := h.1 1 0 0; omega))
    · rw [if_neg r, if_neg r]
      have g := h.raise hc hr hl
      exact g.free (fun t i j a _ => up3_n a) (up3_M (fun t i j => Nat.lt_of_lt_of_le (g.1 t i j) (by omega)) (by have := h.1 1 0 0; omega))
end XI3
