/-! What holds of the state is kept by every call, in the words of the law. -/
section XLI
variable {σ : xSig} {w : xWrd} {M : Nat}
theorem ixl {x : Int32} {N : Nat} (h : inR x N = true) : ix x < N := by
  have := inR_p.mp h
  unfold ix
  omega
theorem if_inv {p : Prop} [Decidable p] {σ' : xSig} {w' : xWrd} {M' : Nat} (h : Inv σ w M) (hM : M ≤ M') (h2 : p → Inv σ' w' M') : Inv (if p then σ' else σ) (if p then w' else w) M' := by
  by_cases q : p
  · rw [if_pos q, if_pos q]; exact h2 q
  · rw [if_neg q, if_neg q]; exact h.mono hM
theorem if_inv1 {p : Prop} [Decidable p] {σ' : xSig} {M' : Nat} (h : Inv σ w M) (hM : M ≤ M') (h2 : p → Inv σ' w M') : Inv (if p then σ' else σ) w M' := by
  by_cases q : p
  · rw [if_pos q]; exact h2 q
  · rw [if_neg q]; exact h.mono hM
theorem I_create {x : Int32} (h : Inv σ w M) (hM : 1000 ≤ M) : Inv (if qc_create σ x = 0 then up3 σ 2 (ix x) 0 1 else σ) w (M + 1000) := if_inv1 h (by omega) (fun q => by
  have hs : σ 2 (ix x) 0 = 0 := by unfold qc_create at q; grind
  exact h.create (by omega) (by omega) hs)
theorem I_remove {x : Int32} (h : Inv σ w M) (hM : 1000 ≤ M) : Inv (if qc_remove σ x = 0 then up3 (up3 σ 2 (ix x) 0 2) 5 (ix x) 0 (σ 1 0 0) else σ) w (M + 1000) := if_inv1 h (by omega) (fun q => h.remove (by omega) (by omega))
theorem I_restore {x : Int32} (h : Inv σ w M) (hM : 1000 ≤ M) : Inv (if qc_restore σ x = 0 then up3 σ 2 (ix x) 0 1 else σ) w (M + 1000) := if_inv1 h (by omega) (fun q => h.restore (by omega) (by omega))
theorem I_copy {x y : Int32} (h : Inv σ w M) (hM : 1000 ≤ M) : Inv (if qc_copy σ x y = 0 then cpL σ (ix x) (ix y) (σ 3 (ix x) 0) else σ) w (M + 1000) := if_inv1 h (by omega) (fun q => by
  have hs : inR x 8 = true ∧ inR y 8 = true ∧ σ 2 (ix x) 0 = 1 ∧ σ 2 (ix y) 0 = 0 := by unfold qc_copy at q; grind
  exact (h.copy (by omega) (ixl hs.1) (ixl hs.2.1) hs.2.2.1 hs.2.2.2).mono (by omega))
theorem I_extend {x : Int32} (h : Inv σ w M) (hM : 1000 ≤ M) : Inv (if qc_extend σ x = 0 then mkS σ (ix x) else σ) w (M + 1000) := if_inv1 h (by omega) (fun q => by
  have hs : inR x 8 = true ∧ σ 2 (ix x) 0 = 1 ∧ mkC σ (ix x) = 0 := by unfold qc_extend at q; grind
  exact (h.mk (ixl hs.1) hs.2.1 hs.2.2).mono (by omega))
theorem I_locate {x y z : Int32} (h : Inv σ w M) (hM : 1000 ≤ M) : Inv (if qc_locate σ x y z = 0 then fdS σ (kix (ix x) (ix y) (ix z)) (ix y) (ix z) else σ) w (M + 1000) := if_inv1 h (by omega) (fun q => by
  have hs : inR y 8 = true ∧ fdC σ (ix y) (ix z) = 0 := by unfold qc_locate at q; grind
  exact h.find (by omega) (ixl hs.1) hs.2)
theorem I_read {x y z u s : Int32} (h : Inv σ w M) (hM : 1000 ≤ M) : Inv (qs_read σ x y z u s) w (M + 1000) := if_inv1 h (by omega) (fun q => h.find (by omega) (ixl q.1.2.1) q.2)
theorem lsS_3 {f q : Nat} : lsS σ f q 3 f 0 = σ 3 f 0 := by
  unfold lsS
  split
  · rfl
  · split
    · rw [up3_n (by decide), spS_o (by decide)]
    · rw [up3_n (by decide), rvS_1 (by decide)]
theorem ls_lt {f q : Nat} (h : Inv σ w M) (hf : f < 8) (h2 : ¬ σ 2 f 0 = 0) (hq : q < σ 3 f 0) (h0 : lsC σ (σ 4 f q) = 0) : lsN σ (σ 4 f q) < lsS σ f q 0 0 0 := by
  have h' := h.ls hf h2 hq h0
  have := (h'.file f hf).2.2.2.1 q (by rw [lsS_3]; exact hq)
  rw [lsS_4] at this
  exact this
theorem I_write {x y z v : Int32} (h : Inv σ w M) (hM : 1000 ≤ M) : Inv (if qc_write σ x y z = 0 then qs_write σ (ix x) (ix y) (ix z) else σ) (if qc_write σ x y z = 0 then qw_write σ w (ix x) (ix y) (ix z) v else w) (M + 1000) := if_inv h (by omega) (fun q => by
  have hs : inR x 8 = true ∧ inR z 4 = true ∧ σ 2 (ix x) 0 = 1 ∧ ix y < σ 3 (ix x) 0 ∧ lsC σ (σ 4 (ix x) (ix y)) = 0 := by unfold qc_write at q; grind
  exact ((h.ls (ixl hs.1) (by omega) hs.2.2.2.1 hs.2.2.2.2).word (ls_lt h (ixl hs.1) (by omega) hs.2.2.2.1 hs.2.2.2.2) (ixl hs.2.1)).mono (by omega))
theorem I_append {x v : Int32} (h : Inv σ w M) (hM : 1000 ≤ M) : Inv (qs_append σ x) (qw_append σ w x v) (M + 1000) := if_inv h (by omega) (fun hx => by
  have hf := ixl hx
  unfold apS apW
  by_cases q : apQ σ (ix x) = 0
  · rw [if_pos q, if_pos q]
    have hs : σ 2 (ix x) 0 = 1 ∧ ¬ apF σ (ix x) = true ∧ lsC (ap1 σ (ix x)) (apC σ (ix x)) = 0 := by unfold apQ at q; grind
    have hm : apM σ (ix x) = true → mkC σ (ix x) = 0 := fun r => Nat.eq_zero_of_not_pos (fun r2 => hs.2.1 (by unfold apF; rw [r]; simp; omega))
    obtain ⟨i1, i2, i3, i4⟩ := ap_inv h hf hs.1 hm
    have hp : apP σ (ix x) < ap1 σ (ix x) 3 (ix x) 0 := by unfold apP; omega
    have hu : apU σ (ix x) < 4 := by
      unfold apU apC
      rw [ls_uaf i1 hf (by omega) hp hs.2.2]
      exact i4
    exact ((i1.ls hf (by omega) hp hs.2.2).word (ls_lt i1 hf (by omega) hp hs.2.2) hu).mono (by omega)
  · rw [if_neg q, if_neg q]
    refine if_inv1 h (by omega) (fun r => ?_)
    have hm : apM σ (ix x) = true → mkC σ (ix x) = 0 := fun r1 => Nat.eq_zero_of_not_pos (fun r2 => r.2 (by unfold apF; rw [r1]; simp; omega))
    exact (ap_inv h hf r.1 hm).1.mono (by omega))
theorem I_up {x : Int32} {b : Nat} (hb : b = 0 ∨ b = 1) (h : Inv σ w M) (hM : 1000 ≤ M) : Inv (if qc_up σ x = 0 then up3 σ 10 (ix x) 0 b else σ) w (M + 1000) := if_inv1 h (by omega) (fun q => h.free (fun t i j h9 h10 => by rw [up3_n h10]) (fun t i j => by
  unfold up3
  split
  · omega
  · have := h.1 t i j; omega))
theorem I_report {x : Int32} (h : Inv σ w M) (hM : 1000 ≤ M) : Inv (if qc_report σ x = 0 then rpL σ (ix x) (σ 0 0 0) else σ) w (M + 1000) := if_inv1 h (by omega) (fun q => by
  have hs : inR x 5 = true := by unfold qc_report at q; grind
  exact (h.rep (by omega) (ixl hs) _ (Nat.le_refl _)).mono (by omega))
theorem I_repair (h : Inv σ w M) (hM : 1000 ≤ M) : Inv (if qc_repair σ = 0 then qs_repair σ else σ) (if qc_repair σ = 0 then qw_repair σ w else w) (M + 1000) := if_inv h (by omega) (fun q => (h.repair q).mono (by omega))
theorem I_tick {d : Nat} (h : Inv σ w M) (hM : 1000 ≤ M) : Inv (if qc_tick d = 0 then up3 σ 1 0 0 (σ 1 0 0 + d) else σ) w (M + 1000) := if_inv1 h (by omega) (fun q => by
  have hs : d ≤ 800 := by unfold qc_tick at q; grind
  exact h.time (by omega))
theorem Q_create {x : Int32} : qc_create σ x ≤ 2 := by unfold qc_create; grind
theorem Q_remove {x : Int32} : qc_remove σ x ≤ 2 := by unfold qc_remove; grind
theorem Q_restore {x : Int32} : qc_restore σ x ≤ 2 := by unfold qc_restore; grind
theorem Q_copy {x y : Int32} : qc_copy σ x y ≤ 3 := by unfold qc_copy; grind
theorem Q_extend {x : Int32} : qc_extend σ x ≤ 4 := by unfold qc_extend; grind
theorem Q_locate {x y z : Int32} : qc_locate σ x y z ≤ 3 := by unfold qc_locate fdC; grind
theorem Q_ls {c : Nat} : lsC σ c ≤ 5 := by have := lsC_c σ c; omega
theorem Q_write {x y z : Int32} : qc_write σ x y z ≤ 5 := by unfold qc_write; have := @Q_ls σ (σ 4 (ix x) (ix y)); grind
theorem Q_append {x : Int32} : qc_append σ x ≤ 5 := by unfold qc_append apQ; have := @Q_ls (ap1 σ (ix x)) (apC σ (ix x)); grind
theorem Q_read {x y z u s : Int32} : qc_read σ x y z u s ≤ 5 := by unfold qc_read rdQ rdC; grind
theorem Q_up {x : Int32} : qc_up σ x ≤ 1 := by unfold qc_up; grind
theorem Q_report {x : Int32} : qc_report σ x ≤ 2 := by unfold qc_report; grind
theorem Q_repair : qc_repair σ ≤ 1 := by unfold qc_repair; grind
theorem Q_tick {d : Nat} : qc_tick d ≤ 1 := by unfold qc_tick; grind
theorem Q_load : qc_load σ ≤ 1 := by unfold qc_load; grind
theorem Q_look {x y z : Int32} : qc_look σ x y z ≤ 2 := by unfold qc_look; grind
theorem Q_file {x y : Int32} : qc_file σ x y ≤ 1 := by unfold qc_file; grind
theorem Q_chunk {x y : Int32} : qc_chunk σ x y ≤ 2 := by unfold qc_chunk; grind
theorem Inv.B30 (h : Inv σ w M) (hM : M ≤ 2 ^ 30) : ∀ t i j, σ t i j < 2 ^ 30 := fun t i j => Nat.lt_of_lt_of_le (h.1 t i j) hM
end XLI
