/-! What holds of the state between two calls; the model's picture of it. -/
section XIV
/-- how many of the first n are not 0 -/
def cntV (f : Nat → Nat) : Nat → Nat
  | 0 => 0
  | n + 1 => cntV f n + (if 0 < f n then 1 else 0)
theorem cntV_le (f : Nat → Nat) : ∀ n, cntV f n ≤ n := by
  intro n
  induction n with
  | zero => exact Nat.le_refl _
  | succ n ih => unfold cntV; split <;> omega
theorem cntV_congr {f h : Nat → Nat} : ∀ n, (∀ i, i < n → (0 < f i ↔ 0 < h i)) → cntV f n = cntV h n := by
  intro n
  induction n with
  | zero => intro _; rfl
  | succ n ih =>
    intro hh
    unfold cntV
    rw [ih (fun i hi => hh i (by omega))]
    by_cases q : 0 < f n
    · rw [if_pos q, if_pos ((hh n (by omega)).mp q)]
    · rw [if_neg q, if_neg (fun r => q ((hh n (by omega)).mpr r))]
/-- one place changes -/
theorem cntV_one {f h : Nat → Nat} {c : Nat} (ho : ∀ i, i ≠ c → f i = h i) : ∀ n, c < n → cntV h n + (if 0 < f c then 1 else 0) = cntV f n + (if 0 < h c then 1 else 0) := by
  intro n
  induction n with
  | zero => intro q; omega
  | succ n ih =>
    intro q
    unfold cntV
    by_cases r : c = n
    · subst r
      rw [cntV_congr (f := f) (h := h) c (fun i hi => by rw [ho i (by omega)])]
      omega
    · have := ih (by omega)
      rw [ho n (fun z => r z.symm)]
      omega
theorem cntV_pos {f : Nat → Nat} : ∀ n c, c < n → 0 < f c → 0 < cntV f n := by
  intro n
  induction n with
  | zero => intro c q; omega
  | succ n ih =>
    intro c q h
    unfold cntV
    by_cases r : c = n
    · subst r; rw [if_pos h]; omega
    · have := ih c (by omega) h; omega
/-- the chunk c at the first n places of the file f -/
def pL (σ : xSig) (c f : Nat) : Nat → Nat
  | 0 => 0
  | n + 1 => pL σ c f n + (if ¬ σ 2 f 0 = 0 ∧ n < σ 3 f 0 ∧ σ 4 f n = c then 1 else 0)
/-- in the first n files -/
def rL (σ : xSig) (c : Nat) : Nat → Nat
  | 0 => 0
  | n + 1 => rL σ c n + pL σ c n 3
theorem pL_le (σ : xSig) (c f : Nat) : ∀ n, pL σ c f n ≤ n := by
  intro n
  induction n with
  | zero => exact Nat.le_refl _
  | succ n ih => unfold pL; split <;> omega
theorem rL_le (σ : xSig) (c : Nat) : ∀ n, rL σ c n ≤ 3 * n := by
  intro n
  induction n with
  | zero => exact Nat.le_refl _
  | succ n ih => unfold rL; have := pL_le σ c n 3; omega
def Inv (σ : xSig) (w : xWrd) (M : Nat) : Prop :=
  (∀ t i j, σ t i j < M) ∧ σ 0 0 0 ≤ 30 ∧
  (∀ f, f < 8 → σ 2 f 0 ≤ 2 ∧ σ 3 f 0 ≤ 3 ∧ (σ 2 f 0 = 0 → σ 3 f 0 = 0) ∧ (∀ p, p < σ 3 f 0 → σ 4 f p < σ 0 0 0) ∧ σ 5 f 0 ≤ σ 1 0 0) ∧
  (∀ c, σ 8 c 0 < 32) ∧
  (∀ k, k < 72 → σ 14 k 0 < 30 ∧ σ 16 k 0 < 32 ∧ (σ 1 0 0 < σ 17 k 0 → 1 ≤ σ 15 k 0)) ∧
  (∀ s, s < 5 → σ 11 s 0 = cntV (σ 12 s) 30 ∧ σ 11 s 0 ≤ 12) ∧
  (∀ c, c < 30 → σ 7 c 0 = rL σ c 8) ∧
  (∀ s c, s < 5 → σ 0 0 0 ≤ c → c < 30 → σ 12 s c = 0 ∧ σ 13 s c = 0 ∧ ∀ u, u < 4 → w s (c * 4 + u) = 0) ∧
  (∀ s c, s < 5 → c < 30 → σ 13 s c ≤ 4) ∧
  (∀ c, c < σ 0 0 0 → 0 < σ 7 c 0 → ¬ σ 8 c 0 = 0 ∧ 1 ≤ σ 6 c 0 ∧ ∀ s, s < 5 → σ 12 s c ≤ σ 6 c 0 ∧ ((σ 8 c 0).testBit s = true ↔ σ 12 s c = σ 6 c 0)) ∧
  (∀ c, c < σ 0 0 0 → 0 < σ 7 c 0 → ∀ s t, s < 5 → t < 5 → (σ 8 c 0).testBit s = true → (σ 8 c 0).testBit t = true → σ 13 s c = σ 13 t c)
theorem Inv.ok {σ : xSig} {w : xWrd} {M : Nat} (h : Inv σ w M) (hM : M ≤ 2 ^ 28) : Ok σ :=
  ⟨fun t i j => Nat.lt_of_lt_of_le (h.1 t i j) hM, h.2.1, fun f hf => ⟨(h.2.2.1 f hf).2.1, (h.2.2.1 f hf).2.2.2.1⟩, h.2.2.2.1, fun k hk => ⟨(h.2.2.2.2.1 k hk).1, (h.2.2.2.2.1 k hk).2.1⟩, fun f hf => (h.2.2.1 f hf).2.2.2.2⟩
theorem Inv.cnt {σ : xSig} {w : xWrd} {M : Nat} (h : Inv σ w M) : ∀ s, s < 5 → σ 11 s 0 = cntV (σ 12 s) 30 ∧ σ 11 s 0 ≤ 12 := h.2.2.2.2.2.1
theorem Inv.refs {σ : xSig} {w : xWrd} {M : Nat} (h : Inv σ w M) : ∀ c, c < 30 → σ 7 c 0 = rL σ c 8 := h.2.2.2.2.2.2.1
theorem Inv.fresh {σ : xSig} {w : xWrd} {M : Nat} (h : Inv σ w M) : ∀ s c, s < 5 → σ 0 0 0 ≤ c → c < 30 → σ 12 s c = 0 ∧ σ 13 s c = 0 ∧ ∀ u, u < 4 → w s (c * 4 + u) = 0 := h.2.2.2.2.2.2.2.1
theorem Inv.usd {σ : xSig} {w : xWrd} {M : Nat} (h : Inv σ w M) : ∀ s c, s < 5 → c < 30 → σ 13 s c ≤ 4 := h.2.2.2.2.2.2.2.2.1
theorem Inv.hold {σ : xSig} {w : xWrd} {M : Nat} (h : Inv σ w M) : ∀ c, c < σ 0 0 0 → 0 < σ 7 c 0 → ¬ σ 8 c 0 = 0 ∧ 1 ≤ σ 6 c 0 ∧ ∀ s, s < 5 → σ 12 s c ≤ σ 6 c 0 ∧ ((σ 8 c 0).testBit s = true ↔ σ 12 s c = σ 6 c 0) := h.2.2.2.2.2.2.2.2.2.1
theorem Inv.like {σ : xSig} {w : xWrd} {M : Nat} (h : Inv σ w M) : ∀ c, c < σ 0 0 0 → 0 < σ 7 c 0 → ∀ s t, s < 5 → t < 5 → (σ 8 c 0).testBit s = true → (σ 8 c 0).testBit t = true → σ 13 s c = σ 13 t c := h.2.2.2.2.2.2.2.2.2.2
theorem Inv.file {σ : xSig} {w : xWrd} {M : Nat} (h : Inv σ w M) : ∀ f, f < 8 → σ 2 f 0 ≤ 2 ∧ σ 3 f 0 ≤ 3 ∧ (σ 2 f 0 = 0 → σ 3 f 0 = 0) ∧ (∀ p, p < σ 3 f 0 → σ 4 f p < σ 0 0 0) ∧ σ 5 f 0 ≤ σ 1 0 0 := h.2.2.1
theorem Inv.kept {σ : xSig} {w : xWrd} {M : Nat} (h : Inv σ w M) : ∀ k, k < 72 → σ 14 k 0 < 30 ∧ σ 16 k 0 < 32 ∧ (σ 1 0 0 < σ 17 k 0 → 1 ≤ σ 15 k 0) := h.2.2.2.2.1
/-- the model's cells do not show refs and replicas -/
theorem EM_cg {a : Nat → ClassId} {g : Nat → Nat} {τ τ' : xSig} {v v' : xWrd} {fc : Nat} {X : Nat → va_E} (h : ∀ t i j, ¬ t = 7 → ¬ t = 11 → τ t i j = τ' t i j) (hv : v = v') : EM a g τ v fc X = EM a g τ' v' fc X := by
  subst hv
  funext k
  unfold EM
  split
  · rename_i hk
    exact MC_congr hk (fun _ => by simp only [mm_obj, h 1 _ _ (by decide) (by decide), h 0 _ _ (by decide) (by decide)]) (fun _ => by simp only [mm_state, h 2 _ _ (by decide) (by decide)]) (fun _ => by simp only [mm_hidden, h 5 _ _ (by decide) (by decide)]) (fun _ => by simp only [mm_row, h 4 _ _ (by decide) (by decide)]) (fun _ => by simp only [mm_length, h 3 _ _ (by decide) (by decide)]) (fun _ => by simp only [mm_version, h 6 _ _ (by decide) (by decide)]) (fun _ => by simp only [mm_holders, h 8 _ _ (by decide) (by decide)]) (fun _ => by simp only [mm_lease, h 9 _ _ (by decide) (by decide)]) (fun _ => by simp only [mm_down, h 10 _ _ (by decide) (by decide)]) (fun _ => by simp only [mm_replica, h 12 _ _ (by decide) (by decide)]) (fun _ => by simp only [mm_used, h 13 _ _ (by decide) (by decide)]) (fun _ => rfl) (fun _ => by simp only [mm_keptChunk, h 14 _ _ (by decide) (by decide)]) (fun _ => by simp only [mm_keptVersion, h 15 _ _ (by decide) (by decide)]) (fun _ => by simp only [mm_keptHolders, h 16 _ _ (by decide) (by decide)]) (fun _ => by simp only [mm_keptEnd, h 17 _ _ (by decide) (by decide)])
  · rfl
/-- the class's cells beside the model's -/
theorem EL_EM {a : Nat → ClassId} {g : Nat → Nat} {σ τ : xSig} {w v : xWrd} {fc : Nat} {Z : Nat → va_E} : EL a g σ w (EM a g τ v fc Z) = EM a g τ v fc (EL a g σ w Z) := by
  funext k
  unfold EL EM
  by_cases h : k < 143
  · rw [if_pos h, if_neg (by omega)]; show _ = if k < 143 then _ else _; rw [if_pos h]
  · rw [if_neg h]
    by_cases h2 : 143 ≤ k ∧ k < 159
    · rw [if_pos h2, if_pos h2]
    · rw [if_neg h2, if_neg h2]; show _ = if k < 143 then _ else _; rw [if_neg h]
/-- no lease, or none kept: -1.0 is before every time -/
theorem eT_lt {y : Nat} (hy : y < 2 ^ 53) : FP.dcmp 13830554455654793216 (dT y) = some .lt := by
  obtain ⟨d, r, hd, ud, -⟩ := dT_shape (k := y) hy
  have hu : FP.Core.val64 13830554455654793216 = .fin true 4503599627370496 (-52) := by decide +kernel
  have h1 := FP.Core.val64_fits 13830554455654793216
  have h2 := FP.Core.val64_fits (dT y)
  have h3 : FP.dcmp 13830554455654793216 (dT y) = FP.Core.order (FP.Core.val64 13830554455654793216) (FP.Core.val64 (dT y)) := rfl
  rw [h3, FP.Core.order_zval FP.Core.good_b64 h1 h2 (by rw [hu]; exact fun h => by cases h) (by rw [hd]; exact fun h => by cases h), hu, hd]
  have h4 : FP.Core.zval FP.Core.b64 (.fin true 4503599627370496 (-52)) = -((FP.Core.inUnits 4503599627370496 (-52) FP.Core.b64.qmin : Nat) : Int) := rfl
  have h5 : FP.Core.zval FP.Core.b64 (.fin false d r) = ((FP.Core.inUnits d r FP.Core.b64.qmin : Nat) : Int) := rfl
  have h6 : 0 < FP.Core.inUnits 4503599627370496 (-52) FP.Core.b64.qmin := by
    have : FP.Core.inUnits 4503599627370496 (-52) FP.Core.b64.qmin = 4503599627370496 * 2 ^ 1022 := by decide +kernel
    rw [this]; exact Nat.mul_pos (by decide) (Nat.two_pow_pos _)
  rw [h4, h5, FP.Core.compare_ite, if_pos (by omega)]
def cmpE (x y : Nat) : Int32 := if x = 0 then -1 else if x < y then -1 else if x = y then 0 else 1
theorem eT_ci {x y : Nat} (op : CmpOp) (hx : x < 2 ^ 53) (hy : y < 2 ^ 53) : Op.cmpValue (FP.dcmp (eT x) (dT y)) op = cmpE x y := by
  unfold eT cmpE
  by_cases h : x = 0
  · rw [if_pos h, if_pos h, eT_lt hy]; rfl
  · rw [if_neg h, if_neg h, dT_ci op hx hy]
theorem cmpE_le {x y : Nat} (h : cmpE x y ≤ 0) : x ≤ y := by
  unfold cmpE at h
  by_cases q : x = 0
  · omega
  · rw [if_neg q] at h; exact cmpI_le h
theorem cmpE_nle {x y : Nat} (h : ¬ cmpE x y ≤ 0) : y < x := by
  unfold cmpE at h
  by_cases q : x = 0
  · rw [if_pos q] at h; exact absurd (by decide) h
  · rw [if_neg q] at h; exact cmpI_nle h
variable {p : Program} {l : Launch} {e : Env} {R : Room} {s : State} {m : MethodId} {args : Array Value} {below : List Frame} {meth : Method} {c : Code} {Q : State → Prop} {nL : Nat} {D : va_G} {cl : List vw_C} {tys : List (ClassId × FieldType)} {base : Nat} {g : Nat → Nat} {cc : ByteArray} {own : String} {n k z pc : Nat} {E : Nat → va_E} {lv : List (Nat × Value)} {st : List Value}
theorem xn_dcmpE (C : xC p l e s m meth c cc nL own args D cl tys base) {x y : Nat} {op : CmpOp} (hx : x < 2 ^ 53) (hy : y < 2 ^ 53) (hdg : decode cc pc = .ok (.dcmp op, 1)) (kk : xG p l e R s m args below meth c Q nL D cl base g n E k z (pc + 1) lv (.int (cmpE x y) :: st)) : xG p l e R s m args below meth c Q nL D cl base g n E k z pc lv (.double (dT y) :: .double (eT x) :: st) := x_dcmp C hdg (x_topi (eT_ci op hx hy) kk)
end XIV
