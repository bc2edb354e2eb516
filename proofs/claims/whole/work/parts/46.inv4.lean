/-! After a lease; a word written; a report; a repair. -/
section XI4
theorem lsS_4 {σ : xSig} {f q : Nat} : lsS σ f q 4 f q = lsN σ (σ 4 f q) := by
  unfold lsS lsN
  by_cases hk : lsK σ (σ 4 f q) = true
  · rw [if_pos hk, if_pos hk]
  · rw [if_neg hk, if_neg hk]
    by_cases r : 2 ≤ σ 7 (σ 4 f q) 0
    · rw [if_pos r, if_pos r, up3_n (by decide), spS_4, if_pos ⟨rfl, rfl⟩]
    · rw [if_neg r, if_neg r, up3_n (by decide), rvS_1 (by decide)]
/-- the holders then are those that are up -/
theorem ls_8 {σ : xSig} {f q : Nat} : lsS σ f q 8 (lsN σ (σ 4 f q)) 0 = lvh σ (σ 4 f q) := by
  unfold lsS lsN
  by_cases hk : lsK σ (σ 4 f q) = true
  · rw [if_pos hk, if_pos hk]
    simp only [lsK, decide_eq_true_eq] at hk
    exact hk.2.symm
  · rw [if_neg hk, if_neg hk]
    by_cases r : 2 ≤ σ 7 (σ 4 f q) 0
    · rw [if_pos r, if_pos r, up3_n (by decide), spS_c (Or.inr rfl), if_pos rfl, if_pos rfl]
    · rw [if_neg r, if_neg r, up3_n (by decide), rvS_8, if_pos rfl]
theorem ls_l {σ : xSig} {w : xWrd} {M f q : Nat} (h : Inv σ w M) (hf : f < 8) (h2 : ¬ σ 2 f 0 = 0) (hq : q < σ 3 f 0) (h0 : lsC σ (σ 4 f q) = 0) : ¬ lvh σ (σ 4 f q) = 0 := by
  by_cases hk : lsK σ (σ 4 f q) = true
  · have hk' := hk
    simp only [lsK, decide_eq_true_eq] at hk'
    rw [hk'.2]
    exact (h.hold _ ((h.file f hf).2.2.2.1 q hq) (row_refs h hf h2 hq)).1
  · exact lsC_l h0 hk
theorem ls_uaf {σ : xSig} {w : xWrd} {M f q : Nat} (h : Inv σ w M) (hf : f < 8) (h2 : ¬ σ 2 f 0 = 0) (hq : q < σ 3 f 0) (h0 : lsC σ (σ 4 f q) = 0) : uaf (lsS σ f q) (lsN σ (σ 4 f q)) = uaf σ (σ 4 f q) := by
  have hc := (h.file f hf).2.2.2.1 q hq
  have hr := row_refs h hf h2 hq
  have hl := ls_l h hf h2 hq h0
  have hlt := fst5_pos _ (lvh_lt σ (σ 4 f q)) hl
  have hb := fst5_bit hlt
  have hs := lvh_sub hlt hb
  have h8 := fst5_pos _ (h.2.2.2.1 (σ 4 f q)) (h.hold _ hc hr).1
  have hb8 := fst5_bit h8
  unfold uaf
  rw [ls_8, if_neg (by omega), if_neg (by omega), ← h.like _ hc hr _ _ hlt h8 hs hb8]
  unfold lsS lsN
  by_cases hk : lsK σ (σ 4 f q) = true
  · rw [if_pos hk, if_pos hk]
  · rw [if_neg hk, if_neg hk]
    by_cases r : 2 ≤ σ 7 (σ 4 f q) 0
    · rw [if_pos r, if_pos r, up3_n (by decide), spS_13 hlt (by omega), if_pos ⟨hb, rfl⟩]
    · rw [if_neg r, if_neg r, up3_n (by decide), rvS_1 (by decide)]
theorem uaf_4 {σ : xSig} {w : xWrd} {M c : Nat} (h : Inv σ w M) (hc : c < 30) : uaf σ c ≤ 4 := by
  unfold uaf
  split
  · omega
  · exact h.usd _ c (by have := fst5_le (σ 8 c 0); omega) hc
theorem uaf_mk {σ : xSig} {w : xWrd} {M f : Nat} (h : Inv σ w M) (h0 : mkC σ f = 0) : uaf (mkS σ f) (σ 0 0 0) = 0 := by
  obtain ⟨m1, m2, m3⟩ := mkC_0 h0
  unfold uaf
  split
  · rfl
  · rename_i q
    have := fst5_le (mkS σ f 8 (σ 0 0 0) 0)
    rw [mkS_o (by omega)]
    exact (h.fresh _ _ (by omega) (Nat.le_refl _) m1).2.1
def mxu (u x : Nat) : Nat := if u + 1 ≤ x then x else u + 1
theorem mxu_le {u x : Nat} (hu : u < 4) (hx : x ≤ 4) : mxu u x ≤ 4 := by unfold mxu; split <;> omega
theorem mxu_M {u x M : Nat} (hu : u < 4) (hx : x < M) : mxu u x < M + 5 := by unfold mxu; split <;> omega
theorem swS_eq {σ : xSig} {s c u : Nat} (hu : u < 4) : swS σ s c u = up3 σ 13 s c (mxu u (σ 13 s c)) := by rw [swS, if_pos hu]; rfl
theorem swL_at {σ : xSig} {c u h : Nat} (hu : u < 4) : ∀ n t i j, swL σ c u h n t i j = if i < n ∧ h.testBit i = true ∧ t = 13 ∧ j = c then mxu u (σ 13 i c) else σ t i j := by
  intro n
  induction n with
  | zero => intro t i j; rw [if_neg (by omega)]; rfl
  | succ n ih =>
    intro t i j
    unfold swL
    by_cases hb : h.testBit n = true
    · rw [if_pos hb, swS_eq hu]
      by_cases r : t = 13 ∧ i = n ∧ j = c
      · obtain ⟨rfl, rfl, rfl⟩ := r
        rw [up3_s, ih, if_neg (by omega), if_pos ⟨by omega, hb, rfl, rfl⟩]
      · rw [show ∀ A : xSig, ∀ v, up3 A 13 n c v t i j = A t i j from fun A v => if_neg r, ih]
        by_cases z : i < n ∧ h.testBit i = true ∧ t = 13 ∧ j = c
        · rw [if_pos z, if_pos ⟨by omega, z.2⟩]
        · rw [if_neg z, if_neg (fun y => by
            by_cases x : i = n
            · exact r ⟨y.2.2.1, x, y.2.2.2⟩
            · exact z ⟨by omega, y.2⟩)]
    · rw [if_neg hb, ih]
      by_cases z : i < n ∧ h.testBit i = true ∧ t = 13 ∧ j = c
      · rw [if_pos z, if_pos ⟨by omega, z.2⟩]
      · rw [if_neg z, if_neg (fun y => by
          by_cases x : i = n
          · rw [x] at y; exact hb y.2.1
          · exact z ⟨by omega, y.2⟩)]
theorem swLW_o {w : xWrd} {c u h : Nat} {v : Int32} : ∀ n s y, ¬ y = c * 4 + u → swLW w c u h v n s y = w s y := by
  intro n
  induction n with
  | zero => intro s y _; rfl
  | succ n ih =>
    intro s y hy
    unfold swLW
    split
    · unfold swW
      split
      · unfold up2; rw [if_neg (fun r => hy r.2), ih s y hy]
      · exact ih s y hy
    · exact ih s y hy
theorem wrS_o {τ : xSig} {c u t i j : Nat} (h : ¬ t = 13) : wrS τ c u t i j = τ t i j := swL_o 5 h
theorem Inv.word {σ : xSig} {w : xWrd} {M c u : Nat} {v : Int32} (h : Inv σ w M) (hc : c < σ 0 0 0) (hu : u < 4) : Inv (wrS σ c u) (wrW σ w c u v) (M + 5) := by
  have E : ∀ t, ¬ t = 13 → wrS σ c u t = σ t := fun t ht => funext fun i => funext fun j => wrS_o ht
  have h30 := h.2.1
  have e13 : ∀ s x, s < 5 → wrS σ c u 13 s x = if (σ 8 c 0).testBit s = true ∧ x = c then mxu u (σ 13 s c) else σ 13 s x := by
    intro s x hs
    unfold wrS
    rw [swL_at hu]
    by_cases r : (σ 8 c 0).testBit s = true ∧ x = c
    · rw [if_pos r, if_pos ⟨hs, r.1, rfl, r.2⟩]
    · rw [if_neg r, if_neg (fun z => r ⟨z.2.1, z.2.2.2⟩)]
  have hM : ∀ t i j, wrS σ c u t i j < M + 5 := by
    intro t i j
    unfold wrS
    rw [swL_at hu]
    have := h.1 t i j
    split
    · exact mxu_M hu (h.1 13 i c)
    · omega
  obtain ⟨h1, h2, h3, h4, h5, h6, h7, h8, h9, h10, h11⟩ := h
  refine ⟨hM, ?_, ?_, ?_, ?_, ?_, ?_, ?_, ?_, ?_, ?_⟩
  · rw [E 0 (by decide)]; exact h2
  · rw [E 0 (by decide), E 1 (by decide), E 2 (by decide), E 3 (by decide), E 4 (by decide), E 5 (by decide)]; exact h3
  · rw [E 8 (by decide)]; exact h4
  · rw [E 1 (by decide), E 14 (by decide), E 15 (by decide), E 16 (by decide), E 17 (by decide)]; exact h5
  · rw [E 11 (by decide), E 12 (by decide)]; exact h6
  · intro x hx
    rw [E 7 (by decide), h7 x hx]
    exact rL_congr (fun t i j ht => (wrS_o (by omega)).symm) 8
  · intro s x hs hx hx'
    rw [E 0 (by decide)] at hx
    obtain ⟨a, b, d⟩ := h8 s x hs hx hx'
    rw [E 12 (by decide), e13 s x hs, if_neg (by omega)]
    exact ⟨a, b, fun z hz => by unfold wrW; rw [swLW_o 5 s _ (by omega)]; exact d z hz⟩
  · intro s x hs hx
    rw [e13 s x hs]
    split
    · exact mxu_le hu (h9 s c hs (by omega))
    · exact h9 s x hs hx
  · rw [E 0 (by decide), E 6 (by decide), E 7 (by decide), E 8 (by decide), E 12 (by decide)]; exact h10
  · intro x hx hxr s t hs ht
    rw [E 0 (by decide)] at hx
    rw [E 7 (by decide)] at hxr
    rw [E 8 (by decide), e13 s x hs, e13 t x ht]
    intro b1 b2
    have := h11 x hx hxr s t hs ht b1 b2
    by_cases r : x = c
    · subst r
      rw [if_pos ⟨b1, rfl⟩, if_pos ⟨b2, rfl⟩, this]
    · rw [if_neg (fun z => r z.2), if_neg (fun z => r z.2)]; exact this
/-- a replica confirmed or dropped -/
theorem Inv.conf {σ : xSig} {w : xWrd} {M s c : Nat} (h : Inv σ w M) (hM : 32 ≤ M) (hs : s < 5) (hc : c < σ 0 0 0) (hp : 0 < σ 12 s c) : Inv (cfS σ s c) w M := by
  have h30 := h.2.1
  have hB := cfS_M (c := c) hs h.2.2.2.1 h.1 hM
  have hH := cfS_H (c := c) hs h.2.2.2.1
  have E : ∀ t, ¬ t = 12 ∧ ¬ t = 11 ∧ ¬ t = 8 → cfS σ s c t = σ t := fun t ht => funext fun i => funext fun j => cfS_o ht
  obtain ⟨h1, h2, h3, h4, h5, h6, h7, h8, h9, h10, h11⟩ := h
  by_cases hd : cfD σ s c = true
  · have e8 : ∀ x, cfS σ s c 8 x 0 = if x = c then clr (σ 8 c 0) s else σ 8 x 0 := by
      intro x
      rw [cfS, if_pos hd]
      by_cases r : x = c
      · rw [if_pos r, r, up3_s]
      · rw [if_neg r, show ∀ A : xSig, ∀ v, up3 A 8 c 0 v 8 x 0 = A 8 x 0 from fun A v => if_neg (fun z => r z.2.1), up3_n (by decide), up3_n (by decide)]
    have e11 : ∀ x, cfS σ s c 11 x 0 = if x = s then σ 11 s 0 - 1 else σ 11 x 0 := by
      intro x
      rw [cfS, if_pos hd, up3_n (by decide)]
      by_cases r : x = s
      · rw [if_pos r, r, up3_s]
      · rw [if_neg r, show ∀ A : xSig, ∀ v, up3 A 11 s 0 v 11 x 0 = A 11 x 0 from fun A v => if_neg (fun z => r z.2.1), up3_n (by decide)]
    have e12 : ∀ x y, cfS σ s c 12 x y = if x = s ∧ y = c then 0 else σ 12 x y := by
      intro x y
      rw [cfS, if_pos hd, up3_n (by decide), up3_n (by decide)]
      by_cases r : x = s ∧ y = c
      · rw [if_pos r, r.1, r.2, up3_s]
      · rw [if_neg r, show ∀ A : xSig, ∀ v, up3 A 12 s c v 12 x y = A 12 x y from fun A v => if_neg (fun z => r z.2)]
    simp only [cfD, decide_eq_true_eq] at hd
    refine ⟨hB, ?_, ?_, hH, ?_, ?_, ?_, ?_, ?_, ?_, ?_⟩
    · rw [E 0 (by decide)]; exact h2
    · rw [E 0 (by decide), E 1 (by decide), E 2 (by decide), E 3 (by decide), E 4 (by decide), E 5 (by decide)]; exact h3
    · rw [E 1 (by decide), E 14 (by decide), E 15 (by decide), E 16 (by decide), E 17 (by decide)]; exact h5
    · intro x hx
      rw [e11]
      obtain ⟨a, b⟩ := h6 x hx
      by_cases r : x = s
      · subst r
        rw [if_pos rfl]
        have z := cntV_one (f := σ 12 x) (h := cfS σ x c 12 x) (c := c) (fun i hi => by rw [e12, if_neg (fun y => hi y.2)]) 30 (by omega)
        have e0 : cfS σ x c 12 x c = 0 := by rw [e12, if_pos ⟨rfl, rfl⟩]
        rw [e0, if_pos hp, if_neg (show ¬ 0 < 0 by omega)] at z
        omega
      · rw [if_neg r]
        refine ⟨?_, b⟩
        rw [a]
        exact cntV_congr 30 (fun i hi => by rw [e12, if_neg (fun y => r y.1)])
    · intro x hx
      rw [E 7 (by decide), h7 x hx]
      exact rL_congr (fun t i j ht => (cfS_o (by omega)).symm) 8
    · intro x y hx hy hy'
      rw [E 0 (by decide)] at hy
      rw [e12, if_neg (by omega), E 13 (by decide)]
      exact h8 x y hx hy hy'
    · rw [E 13 (by decide)]; exact h9
    · intro x hx hxr
      rw [E 0 (by decide)] at hx
      rw [E 7 (by decide)] at hxr
      rw [e8, E 6 (by decide)]
      obtain ⟨a, b, e⟩ := h10 x hx hxr
      by_cases r : x = c
      · subst r
        rw [if_pos rfl]
        have hlt : σ 12 s x < σ 6 x 0 := by omega
        have hnb : ¬ (σ 8 x 0).testBit s = true := fun z => by have := (e s hs).2.mp z; omega
        rw [clr, if_neg hnb]
        refine ⟨a, b, fun y hy => ?_⟩
        rw [e12]
        by_cases q : y = s
        · subst q
          rw [if_pos ⟨rfl, rfl⟩]
          exact ⟨by omega, fun z => absurd z hnb, fun z => by omega⟩
        · rw [if_neg (fun z => q z.1)]; exact e y hy
      · rw [if_neg r]
        refine ⟨a, b, fun y hy => ?_⟩
        rw [e12, if_neg (fun z => r z.2)]
        exact e y hy
    · intro x hx hxr y z hy hz
      rw [E 0 (by decide)] at hx
      rw [E 7 (by decide)] at hxr
      rw [e8, E 13 (by decide)]
      by_cases r : x = c
      · subst r
        rw [if_pos rfl]
        intro b1 b2
        unfold clr at b1 b2
        rw [bt_cl _ (h4 x) s hs y hy, Bool.and_eq_true] at b1
        rw [bt_cl _ (h4 x) s hs z hz, Bool.and_eq_true] at b2
        exact h11 x hx hxr y z hy hz b1.2 b2.2
      · rw [if_neg r]; exact h11 x hx hxr y z hy hz
  · have e8 : ∀ x, cfS σ s c 8 x 0 = if x = c then σ 8 c 0 ||| 2 ^ s else σ 8 x 0 := by
      intro x
      rw [cfS, if_neg hd]
      by_cases r : x = c
      · rw [if_pos r, r, up3_s]
      · rw [if_neg r, show ∀ A : xSig, ∀ v, up3 A 8 c 0 v 8 x 0 = A 8 x 0 from fun A v => if_neg (fun z => r z.2.1)]
    have E' : ∀ t, ¬ t = 8 → cfS σ s c t = σ t := fun t ht => by rw [cfS, if_neg hd]; exact funext fun i => funext fun j => up3_n ht
    simp only [cfD, decide_eq_true_eq] at hd
    have hold := h10 c hc (by omega)
    have hbit : (σ 8 c 0).testBit s = true := ((hold.2.2 s hs).2).mpr (by have := (hold.2.2 s hs).1; omega)
    have hor : σ 8 c 0 ||| 2 ^ s = σ 8 c 0 := bt_ext _ (bt_orlt _ (h4 c) s hs) _ (h4 c) (fun i hi => by rw [bt_or _ (h4 c) s hs i hi]; by_cases q : i = s <;> simp [q, hbit])
    have e8' : ∀ x, cfS σ s c 8 x 0 = σ 8 x 0 := fun x => by rw [e8, hor]; split <;> first | (rename_i q; rw [q]) | rfl
    refine ⟨hB, ?_, ?_, hH, ?_, ?_, ?_, ?_, ?_, ?_, ?_⟩
    · rw [E' 0 (by decide)]; exact h2
    · rw [E' 0 (by decide), E' 1 (by decide), E' 2 (by decide), E' 3 (by decide), E' 4 (by decide), E' 5 (by decide)]; exact h3
    · rw [E' 1 (by decide), E' 14 (by decide), E' 15 (by decide), E' 16 (by decide), E' 17 (by decide)]; exact h5
    · rw [E' 11 (by decide), E' 12 (by decide)]; exact h6
    · intro x hx
      rw [E' 7 (by decide), h7 x hx]
      exact rL_congr (fun t i j ht => by rw [E' t (by omega)]) 8
    · rw [E' 0 (by decide), E' 12 (by decide), E' 13 (by decide)]; exact h8
    · rw [E' 13 (by decide)]; exact h9
    · intro x
      rw [E' 0 (by decide), E' 6 (by decide), E' 7 (by decide), E' 12 (by decide), e8']; exact h10 x
    · intro x
      rw [E' 0 (by decide), E' 7 (by decide), E' 13 (by decide), e8']; exact h11 x
theorem Inv.rep {σ : xSig} {w : xWrd} {M s : Nat} (h : Inv σ w M) (hM : 32 ≤ M) (hs : s < 5) : ∀ n, n ≤ σ 0 0 0 → Inv (rpL σ s n) w M := by
  intro n
  induction n with
  | zero => intro _; exact h
  | succ n ih =>
    intro hn
    have g := ih (by omega)
    unfold rpL
    split
    · exact g.conf hM hs (by rw [rpL_o _ (by omega)]; omega) (by assumption)
    · exact g
theorem rep_hg {σ : xSig} {w : xWrd} {M s : Nat} (h : Inv σ w M) (hM : 32 ≤ M) (hs : s < 5) : ∀ n, n < σ 0 0 0 → 0 < rpL σ s n 12 s n → 1 ≤ rpL σ s n 11 s 0 := by
  intro n hn hp
  have g := h.rep hM hs n (by omega)
  have h30 := h.2.1
  rw [(g.cnt s hs).1]
  exact cntV_pos 30 n (by omega) hp
end XI4
