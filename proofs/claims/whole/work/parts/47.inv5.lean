/-! A repair; a copy; a sweep. -/
section XI5
theorem nd_ok {σ : xSig} : ∀ n, (nd σ n).1 = 30 ∨ ((nd σ n).1 < n ∧ 0 < σ 7 (nd σ n).1 0) := by
  intro n
  induction n with
  | zero => exact Or.inl rfl
  | succ n ih =>
    unfold nd
    split
    · rename_i q; exact Or.inr ⟨Nat.lt_succ_self n, q.1⟩
    · rcases ih with h | h
      · exact Or.inl h
      · exact Or.inr ⟨by omega, h.2⟩
theorem bst_fr {σ : xSig} {c ch : Nat} (h : ¬ bst σ c ch = 5) : bst σ c ch < 5 ∧ ¬ σ 10 (bst σ c ch) 0 = 0 ∧ σ 11 (bst σ c ch) 0 < 12 ∧ σ 12 (bst σ c ch) c = 0 := by
  have hb := bst_le σ c ch
  have f := best_fr (fr := frC σ c ch) (ld := fun i => σ 11 i 0) 5 (Nat.le_refl _) (show bst σ c ch < 5 by omega)
  change frC σ c ch (bst σ c ch) = true at f
  simp only [frC, Bool.and_eq_true, decide_eq_true_eq] at f
  exact ⟨by omega, f.1, f.2.1, f.2.2.1⟩
theorem alS_at {σ : xSig} {i q i2 q2 v t x y : Nat} : alS σ i q i2 q2 v t x y = if t = 11 ∧ x = i ∧ y = 0 then σ 11 i 0 + 1 else if t = 13 ∧ x = i ∧ y = q then σ 13 i2 q2 else if t = 12 ∧ x = i ∧ y = q then v else σ t x y := rfl
theorem Inv.repair {σ : xSig} {w : xWrd} {M : Nat} (h : Inv σ w M) (h0 : qc_repair σ = 0) : Inv (qs_repair σ) (qw_repair σ w) (M + 40) := by
  have hq : ¬ (rqC σ = 30 ∨ bst σ (rqC σ) 0 = 5 ∨ fst5 (lvh σ (rqC σ)) = 5) := fun q => by unfold qc_repair at h0; rw [if_pos q] at h0; omega
  obtain ⟨hcm, hcr⟩ : rqC σ < σ 0 0 0 ∧ 0 < σ 7 (rqC σ) 0 := (nd_ok (σ 0 0 0)).resolve_left (fun q => hq (Or.inl q))
  obtain ⟨ht, -, ht11, ht12⟩ := bst_fr (σ := σ) (c := rqC σ) (ch := 0) (fun q => hq (Or.inr (Or.inl q)))
  have hs : fst5 (lvh σ (rqC σ)) < 5 := by have := fst5_le (lvh σ (rqC σ)); omega
  have hb := lvh_sub hs (fst5_bit hs)
  unfold qs_repair qw_repair
  clear hq h0
  generalize rqC σ = c at *
  generalize bst σ c 0 = t at *
  generalize fst5 (lvh σ c) = so at *
  obtain ⟨v1, v2, v3⟩ := h.hold c hcm hcr
  have hv := (v3 so hs).2.mp hb
  have hts : ¬ t = so := fun q => by rw [q] at ht12; omega
  have h30 := h.2.1
  have e8 : ∀ x, up3 (alS σ t c so c (σ 12 so c)) 8 c 0 (σ 8 c 0 ||| 2 ^ t) 8 x 0 = if x = c then σ 8 c 0 ||| 2 ^ t else σ 8 x 0 := by
    intro x
    by_cases r : x = c
    · rw [if_pos r, r, up3_s]
    · rw [if_neg r, show ∀ A : xSig, ∀ v, up3 A 8 c 0 v 8 x 0 = A 8 x 0 from fun A v => if_neg (fun z => r z.2.1), alS_o (by decide)]
  have e11 : ∀ x, up3 (alS σ t c so c (σ 12 so c)) 8 c 0 (σ 8 c 0 ||| 2 ^ t) 11 x 0 = if x = t then σ 11 t 0 + 1 else σ 11 x 0 := by
    intro x
    rw [up3_n (by decide), alS_at]
    by_cases r : x = t
    · rw [if_pos ⟨rfl, r, rfl⟩, if_pos r]
    · rw [if_neg (fun z => r z.2.1), if_neg (fun z => absurd z.1 (by decide)), if_neg (fun z => absurd z.1 (by decide)), if_neg r]
  have e12 : ∀ x y, up3 (alS σ t c so c (σ 12 so c)) 8 c 0 (σ 8 c 0 ||| 2 ^ t) 12 x y = if x = t ∧ y = c then σ 12 so c else σ 12 x y := by
    intro x y
    rw [up3_n (by decide), alS_at, if_neg (fun z => absurd z.1 (by decide)), if_neg (fun z => absurd z.1 (by decide))]
    by_cases r : x = t ∧ y = c
    · rw [if_pos ⟨rfl, r⟩, if_pos r]
    · rw [if_neg (fun z => r z.2), if_neg r]
  have e13 : ∀ x y, up3 (alS σ t c so c (σ 12 so c)) 8 c 0 (σ 8 c 0 ||| 2 ^ t) 13 x y = if x = t ∧ y = c then σ 13 so c else σ 13 x y := by
    intro x y
    rw [up3_n (by decide), alS_at, if_neg (fun z => absurd z.1 (by decide))]
    by_cases r : x = t ∧ y = c
    · rw [if_pos ⟨rfl, r⟩, if_pos r]
    · rw [if_neg (fun z => r z.2), if_neg (fun z => absurd z.1 (by decide)), if_neg r]
  have E : ∀ u, ¬ u = 8 ∧ ¬ u = 11 ∧ ¬ u = 12 ∧ ¬ u = 13 → up3 (alS σ t c so c (σ 12 so c)) 8 c 0 (σ 8 c 0 ||| 2 ^ t) u = σ u := fun u hu => funext fun i => funext fun j => by rw [up3_n hu.1, alS_o ⟨hu.2.1, hu.2.2.1, hu.2.2.2⟩]
  have hor := bt_orlt _ (h.2.2.2.1 c) t ht
  have hB : ∀ a i j, up3 (alS σ t c so c (σ 12 so c)) 8 c 0 (σ 8 c 0 ||| 2 ^ t) a i j < M + 40 := up3_M (fun a i j => Nat.lt_of_lt_of_le (alS_M h.1 (h.1 _ _ _) a i j) (by omega)) (by omega)
  generalize up3 (alS σ t c so c (σ 12 so c)) 8 c 0 (σ 8 c 0 ||| 2 ^ t) = ρ at *
  obtain ⟨h1, h2, h3, h4, h5, h6, h7, h8, h9, h10, h11⟩ := h
  refine ⟨hB, ?_, ?_, ?_, ?_, ?_, ?_, ?_, ?_, ?_, ?_⟩
  · rw [E 0 (by decide)]; exact h2
  · rw [E 0 (by decide), E 1 (by decide), E 2 (by decide), E 3 (by decide), E 4 (by decide), E 5 (by decide)]; exact h3
  · intro x; rw [e8]; split
    · exact hor
    · exact h4 x
  · rw [E 1 (by decide), E 14 (by decide), E 15 (by decide), E 16 (by decide), E 17 (by decide)]; exact h5
  · intro x hx
    rw [e11]
    obtain ⟨a, b⟩ := h6 x hx
    by_cases r : x = t
    · subst r
      rw [if_pos rfl]
      have z := cntV_one (f := σ 12 x) (h := ρ 12 x) (c := c) (fun i hi => by rw [e12, if_neg (fun y => hi y.2)]) 30 (by omega)
      have e0 : ρ 12 x c = σ 12 so c := by rw [e12, if_pos ⟨rfl, rfl⟩]
      rw [e0, ht12, if_neg (show ¬ 0 < 0 by omega), if_pos (show 0 < σ 12 so c by omega)] at z
      omega
    · rw [if_neg r]
      refine ⟨?_, b⟩
      rw [a]
      exact cntV_congr 30 (fun i hi => by rw [e12, if_neg (fun y => r y.1)])
  · intro x hx
    rw [E 7 (by decide), h7 x hx]
    exact rL_congr (fun u i j hu => by rw [E u (by omega)]) 8
  · intro x y hx hy hy'
    rw [E 0 (by decide)] at hy
    obtain ⟨a, b, d⟩ := h8 x y hx hy hy'
    rw [e12, e13, if_neg (by omega), if_neg (by omega)]
    exact ⟨a, b, fun u hu => by rw [cpW_at (fun r => hts r.1) 4 (Nat.le_refl _), if_neg (by omega)]; exact d u hu⟩
  · intro x y hx hy
    rw [e13]
    split
    · exact h9 so c hs (by omega)
    · exact h9 x y hx hy
  · intro x hx hxr
    rw [E 0 (by decide)] at hx
    rw [E 7 (by decide)] at hxr
    rw [e8, E 6 (by decide)]
    obtain ⟨a, b, e⟩ := h10 x hx hxr
    by_cases r : x = c
    · subst r
      rw [if_pos rfl]
      refine ⟨fun z => ?_, b, fun y hy => ?_⟩
      · have := bt_or _ (h4 x) t ht t ht
        rw [z] at this
        simp at this
      · rw [e12, bt_or _ (h4 x) t ht y hy]
        by_cases q : y = t
        · subst q
          rw [if_pos ⟨rfl, rfl⟩, hv]
          exact ⟨Nat.le_refl _, fun _ => rfl, fun _ => by simp⟩
        · rw [if_neg (fun z => q z.1)]
          simp [q]
          exact e y hy
    · rw [if_neg r]
      refine ⟨a, b, fun y hy => ?_⟩
      rw [e12, if_neg (fun z => r z.2)]
      exact e y hy
  · intro x hx hxr y z hy hz
    rw [E 0 (by decide)] at hx
    rw [E 7 (by decide)] at hxr
    rw [e8, e13, e13]
    by_cases r : x = c
    · subst r
      rw [if_pos rfl]
      intro b1 b2
      rw [bt_or _ (h4 x) t ht y hy, Bool.or_eq_true] at b1
      rw [bt_or _ (h4 x) t ht z hz, Bool.or_eq_true] at b2
      have k : ∀ y, y < 5 → (decide (y = t) = true ∨ (σ 8 x 0).testBit y = true) → (if y = t ∧ x = x then σ 13 so x else σ 13 y x) = σ 13 so x := by
        intro y hy hb'
        by_cases q : y = t
        · rw [if_pos ⟨q, rfl⟩]
        · rw [if_neg (fun z => q z.1)]
          rcases hb' with hb' | hb'
          · exact absurd (of_decide_eq_true hb') q
          · exact h11 x hx hxr y so hy hs hb' hb
      rw [k y hy b1, k z hz b2]
    · rw [if_neg r, if_neg (fun q => r q.2), if_neg (fun q => r q.2)]
      exact h11 x hx hxr y z hy hz
/-- forgetting a file -/
theorem Inv.forget {σ : xSig} {w : xWrd} {M f : Nat} (h : Inv σ w M) (hf : f < 8) (h2' : ¬ σ 2 f 0 = 0) : Inv (fgF σ f) w M := by
  have h30 := h.2.1
  have h3' := (h.file f hf).2.1
  have hMp : 0 < M := Nat.lt_of_le_of_lt (Nat.zero_le _) (h.1 0 0 0)
  have e7 : ∀ x, fgF σ f 7 x 0 = σ 7 x 0 - pc4 σ f x (σ 3 f 0) := by
    intro x
    unfold fgF
    rw [up3_n (by decide), up3_n (by decide), fgL_7]
  have e2 : ∀ i, fgF σ f 2 i 0 = if i = f then 0 else σ 2 i 0 := by
    intro i
    by_cases r : i = f
    · rw [if_pos r, r]; unfold fgF; rw [up3_s]
    · rw [if_neg r, fgF_o (by omega)]
  have e3 : ∀ i, fgF σ f 3 i 0 = if i = f then 0 else σ 3 i 0 := by
    intro i
    by_cases r : i = f
    · rw [if_pos r, r]; unfold fgF; rw [up3_n (by decide), up3_s]
    · rw [if_neg r, fgF_o (by omega)]
  have E : ∀ t, ¬ t = 7 ∧ ¬ t = 3 ∧ ¬ t = 2 → fgF σ f t = σ t := fun t ht => funext fun i => funext fun j => fgF_o (by omega)
  have hB : ∀ t i j, fgF σ f t i j < M := up3_M (up3_M (fgL_M h.1 _) hMp) hMp
  obtain ⟨h1, h2, h3, h4, h5, h6, h7, h8, h9, h10, h11⟩ := h
  refine ⟨hB, ?_, ?_, ?_, ?_, ?_, ?_, ?_, ?_, ?_, ?_⟩
  · rw [E 0 (by decide)]; exact h2
  · intro i hi
    obtain ⟨a, b, c, d, e⟩ := h3 i hi
    rw [e2, e3, E 0 (by decide), E 1 (by decide), E 4 (by decide), E 5 (by decide)]
    by_cases r : i = f
    · rw [if_pos r, if_pos r]; exact ⟨by omega, by omega, fun _ => rfl, fun p hp => by omega, e⟩
    · rw [if_neg r, if_neg r]; exact ⟨a, b, c, d, e⟩
  · rw [E 8 (by decide)]; exact h4
  · rw [E 1 (by decide), E 14 (by decide), E 15 (by decide), E 16 (by decide), E 17 (by decide)]; exact h5
  · rw [E 11 (by decide), E 12 (by decide)]; exact h6
  · intro x hx
    have r1 := rL_one (σ := σ) (σ' := fgF σ f) (c := x) (f := f) (fun t i j ht hi => (fgF_o (by omega)).symm) 8 hf
    have r2 : pL (fgF σ f) x f 3 = 0 := pL_0 3 (fun p _ q => q.1 (by rw [e2, if_pos rfl]))
    rw [e7, h7 x hx, ← pL_pc4 h2' h3']
    omega
  · rw [E 0 (by decide), E 12 (by decide), E 13 (by decide)]; exact h8
  · rw [E 13 (by decide)]; exact h9
  · intro x hx hxr
    rw [E 0 (by decide)] at hx
    rw [e7] at hxr
    rw [E 6 (by decide), E 8 (by decide), E 12 (by decide)]
    exact h10 x hx (by omega)
  · intro x hx hxr
    rw [E 0 (by decide)] at hx
    rw [e7] at hxr
    rw [E 8 (by decide), E 13 (by decide)]
    exact h11 x hx (by omega)
theorem Inv.swp {σ : xSig} {w : xWrd} {M : Nat} (h : Inv σ w M) : ∀ n, n ≤ 8 → Inv (sS σ n) w M := by
  intro n
  induction n with
  | zero => intro _; exact h
  | succ n ih =>
    intro hn
    have g := ih (by omega)
    unfold sS
    split
    · rename_i q
      simp only [swC, decide_eq_true_eq] at q
      exact g.forget (by omega) (by omega)
    · exact g
theorem pc4_mono {σ : xSig} {f c : Nat} : ∀ m n, n ≤ m → pc4 σ f c n ≤ pc4 σ f c m := by
  intro m
  induction m with
  | zero => intro n h; rw [show n = 0 by omega]; exact Nat.le_refl _
  | succ m ih =>
    intro n h
    by_cases q : n = m + 1
    · rw [q]; exact Nat.le_refl _
    · have := ih n (by omega)
      show _ ≤ pc4 σ f c m + _
      omega
theorem swp_hg {σ : xSig} {w : xWrd} {M : Nat} (h : Inv σ w M) : ∀ n, n < 8 → ∀ j, j < sS σ n 3 n 0 → 1 ≤ fgL (sS σ n) n j 7 (sS σ n 4 n j) 0 := by
  intro n hn j hj
  have g := h.swp n (by omega)
  obtain ⟨a, b, c, d, e⟩ := g.file n hn
  have hs : ¬ sS σ n 2 n 0 = 0 := fun q => by have := c q; omega
  have h30 := g.2.1
  have hr := d j hj
  rw [fgL_7, g.refs _ (by omega)]
  have r1 := rL_ge (σ := sS σ n) (c := sS σ n 4 n j) (f := n) 8 hn
  rw [pL_pc4 hs b] at r1
  have r2 := pc4_mono (σ := sS σ n) (f := n) (c := sS σ n 4 n j) (sS σ n 3 n 0) (j + 1) (by omega)
  have r3 : pc4 (sS σ n) n (sS σ n 4 n j) (j + 1) = pc4 (sS σ n) n (sS σ n 4 n j) j + 1 := by
    show pc4 (sS σ n) n (sS σ n 4 n j) j + (if sS σ n 4 n j = sS σ n 4 n j then 1 else 0) = _
    rw [if_pos rfl]
  omega
/-- a copy -/
theorem cpL_7 {σ : xSig} {f t c : Nat} : ∀ n, cpL σ f t n 7 c 0 = σ 7 c 0 + pc4 σ f c n := by
  intro n
  induction n with
  | zero => unfold cpL; rw [up3_n (by decide)]; rfl
  | succ n ih =>
    unfold cpL
    rw [aeS_n (by omega)]
    rw [show pc4 σ f c (n + 1) = pc4 σ f c n + (if σ 4 f n = c then 1 else 0) from rfl]
    unfold up3
    by_cases q : c = σ 4 f n
    · rw [if_pos ⟨rfl, q, rfl⟩, ← q, ih, if_pos rfl]; omega
    · rw [if_neg (fun r => q r.2.1), if_neg (fun r => absurd r.1 (by decide)), ih, if_neg (fun r => q r.symm)]; rfl
theorem cpM_at {σ : xSig} {f t : Nat} : ∀ n t' x y, ¬ t' = 9 → cpM σ f t n t' x y = if t' = 2 ∧ x = t ∧ y = 0 then 1 else if t' = 3 ∧ x = t ∧ y = 0 then σ 3 f 0 else if t' = 4 ∧ x = t ∧ y < n then σ 4 f y else σ t' x y := by
  intro n
  induction n with
  | zero => intro t' x y h9; unfold cpM up3; grind
  | succ n ih => intro t' x y h9; unfold cpM; rw [up3_n h9]; unfold up3; rw [ih t' x y h9]; grind
theorem cpL_MM {σ : xSig} {f t M : Nat} (hM : 4 ≤ M) (h : ∀ t i j, σ t i j < M) : ∀ n x y z, cpL σ f t n x y z < M + n := by
  intro n
  induction n with
  | zero => exact up3_M h (by omega)
  | succ n ih =>
    have ih' : ∀ x y z, cpL σ f t n x y z < M + (n + 1) := fun x y z => Nat.lt_succ_of_lt (ih x y z)
    exact aeS_M (up3_M (up3_M ih' (by omega)) (by have := ih 7 (σ 4 f n) 0; omega)) (by have := h 4 f n; omega) (by omega)
theorem pc4_ex {σ : xSig} {f c : Nat} : ∀ n, 0 < pc4 σ f c n → ∃ p, p < n ∧ σ 4 f p = c := by
  intro n
  induction n with
  | zero => intro h; exact absurd h (by show ¬ 0 < 0; omega)
  | succ n ih =>
    intro h
    by_cases q : σ 4 f n = c
    · exact ⟨n, by omega, q⟩
    · have : 0 < pc4 σ f c n := by
        have h' : 0 < pc4 σ f c n + (if σ 4 f n = c then 1 else 0) := h
        rw [if_neg q] at h'; omega
      obtain ⟨p, h1, h2⟩ := ih this
      exact ⟨p, by omega, h2⟩
theorem Inv.copy {σ : xSig} {w : xWrd} {M f t : Nat} (h : Inv σ w M) (hM : 4 ≤ M) (hf : f < 8) (ht : t < 8) (hf1 : σ 2 f 0 = 1) (ht0 : σ 2 t 0 = 0) : Inv (cpL σ f t (σ 3 f 0)) w (M + 3) := by
  have hft : ¬ f = t := fun q => by rw [q] at hf1; omega
  have h3t := (h.file t ht).2.2.1 ht0
  obtain ⟨fa, fb, fc, fd, fe⟩ := h.file f hf
  have hcp := cp_fin (τ := σ) hft h3t fb
  have e : ∀ t' x y, ¬ t' = 7 → ¬ t' = 9 → ¬ t' = 11 → cpL σ f t (σ 3 f 0) t' x y = if t' = 2 ∧ x = t ∧ y = 0 then 1 else if t' = 3 ∧ x = t ∧ y = 0 then σ 3 f 0 else if t' = 4 ∧ x = t ∧ y < σ 3 f 0 then σ 4 f y else σ t' x y := fun t' x y h7 h9 h11 => by rw [← hcp t' x y h7 h11, cpM_at _ _ _ _ h9]
  have e11 : cpL σ f t (σ 3 f 0) 11 = σ 11 := by
    funext x y
    have := (cp_rel (τ := σ) (f := f) (t := t) h3t (σ 3 f 0) fb).2 11 x y (by decide) (fun r => absurd r.1 (by decide))
    rw [this, cpM_at _ _ _ _ (by decide), if_neg (fun r => absurd r.1 (by decide)), if_neg (fun r => absurd r.1 (by decide)), if_neg (fun r => absurd r.1 (by decide))]
  have E : ∀ t', ¬ t' = 2 ∧ ¬ t' = 3 ∧ ¬ t' = 4 ∧ ¬ t' = 7 ∧ ¬ t' = 9 ∧ ¬ t' = 11 → cpL σ f t (σ 3 f 0) t' = σ t' := fun t' hh => funext fun x => funext fun y => by rw [e t' x y hh.2.2.2.1 hh.2.2.2.2.1 hh.2.2.2.2.2, if_neg (fun r => hh.1 r.1), if_neg (fun r => hh.2.1 r.1), if_neg (fun r => hh.2.2.1 r.1)]
  have e7 : ∀ x, cpL σ f t (σ 3 f 0) 7 x 0 = σ 7 x 0 + pc4 σ f x (σ 3 f 0) := fun x => cpL_7 _
  have hpos : ∀ x, 0 < σ 7 x 0 + pc4 σ f x (σ 3 f 0) → 0 < σ 7 x 0 := by
    intro x hx
    by_cases q : 0 < pc4 σ f x (σ 3 f 0)
    · obtain ⟨p, p1, p2⟩ := pc4_ex _ q
      rw [← p2]
      exact row_refs h hf (by omega) p1
    · omega
  have hB : ∀ x y z, cpL σ f t (σ 3 f 0) x y z < M + 3 := fun x y z => by have := cpL_MM (f := f) (t := t) hM h.1 (σ 3 f 0) x y z; omega
  have e2 : ∀ x, cpL σ f t (σ 3 f 0) 2 x 0 = if x = t then 1 else σ 2 x 0 := by
    intro x; rw [e 2 x 0 (by decide) (by decide) (by decide)]
    by_cases q : x = t
    · rw [if_pos ⟨rfl, q, rfl⟩, if_pos q]
    · rw [if_neg (fun r => q r.2.1), if_neg (fun r => q r.2.1), if_neg (fun r => q r.2.1), if_neg q]
  have e3 : ∀ x, cpL σ f t (σ 3 f 0) 3 x 0 = if x = t then σ 3 f 0 else σ 3 x 0 := by
    intro x; rw [e 3 x 0 (by decide) (by decide) (by decide), if_neg (fun r => absurd r.1 (by decide))]
    by_cases q : x = t
    · rw [if_pos ⟨rfl, q, rfl⟩, if_pos q]
    · rw [if_neg (fun r => q r.2.1), if_neg (fun r => q r.2.1), if_neg q]
  have e4 : ∀ x y, cpL σ f t (σ 3 f 0) 4 x y = if x = t ∧ y < σ 3 f 0 then σ 4 f y else σ 4 x y := by
    intro x y; rw [e 4 x y (by decide) (by decide) (by decide), if_neg (fun r => absurd r.1 (by decide)), if_neg (fun r => absurd r.1 (by decide))]
    by_cases q : x = t ∧ y < σ 3 f 0
    · rw [if_pos ⟨rfl, q⟩, if_pos q]
    · rw [if_neg (fun r => q r.2), if_neg q]
  have e' := e
  clear e
  generalize cpL σ f t (σ 3 f 0) = ρ at *
  obtain ⟨h1, h2, h3, h4, h5, h6, h7, h8, h9, h10, h11⟩ := h
  refine ⟨hB, ?_, ?_, ?_, ?_, ?_, ?_, ?_, ?_, ?_, ?_⟩
  · rw [E 0 (by decide)]; exact h2
  · intro i hi
    obtain ⟨a, b, c, d, e⟩ := h3 i hi
    rw [e2, e3, E 0 (by decide), E 1 (by decide), E 5 (by decide)]
    by_cases r : i = t
    · rw [if_pos r, if_pos r]
      exact ⟨by omega, fb, by omega, fun p hp => by rw [e4, if_pos ⟨r, hp⟩]; exact fd p hp, e⟩
    · rw [if_neg r, if_neg r]
      exact ⟨a, b, c, fun p hp => by rw [e4, if_neg (fun q => r q.1)]; exact d p hp, e⟩
  · rw [E 8 (by decide)]; exact h4
  · rw [E 1 (by decide), E 14 (by decide), E 15 (by decide), E 16 (by decide), E 17 (by decide)]; exact h5
  · rw [e11, E 12 (by decide)]; exact h6
  · intro x hx
    have r1 := rL_one (σ := σ) (σ' := ρ) (c := x) (f := t) (fun t' i j ht' hi => by
      rw [e' t' i j (by omega) (by omega) (by omega), if_neg (fun r => hi r.2.1), if_neg (fun r => hi r.2.1), if_neg (fun r => hi r.2.1)]) 8 ht
    have r2 : pL σ x t 3 = 0 := pL_0 3 (fun p _ q => q.1 ht0)
    have r3 : pL ρ x t 3 = pc4 σ f x (σ 3 f 0) := by
      rw [pL_pc4 (by rw [e2, if_pos rfl]; omega) (by rw [e3, if_pos rfl]; exact fb), e3, if_pos rfl]
      exact pc4_cg _ (fun p hp => by rw [e4, if_pos ⟨rfl, hp⟩])
    rw [e7, h7 x hx]
    omega
  · rw [E 0 (by decide), E 12 (by decide), E 13 (by decide)]; exact h8
  · rw [E 13 (by decide)]; exact h9
  · intro x hx hxr
    rw [E 0 (by decide)] at hx
    rw [e7] at hxr
    rw [E 6 (by decide), E 8 (by decide), E 12 (by decide)]
    exact h10 x hx (hpos x hxr)
  · intro x hx hxr
    rw [E 0 (by decide)] at hx
    rw [e7] at hxr
    rw [E 8 (by decide), E 13 (by decide)]
    exact h11 x hx (hpos x hxr)
end XI5
