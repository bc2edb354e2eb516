/-! Counting places and replicas. -/
section XL1
theorem pL_cg {σ σ' : xSig} {c f f' : Nat} : ∀ n, (∀ p, p < n → ((¬ σ 2 f 0 = 0 ∧ p < σ 3 f 0 ∧ σ 4 f p = c) ↔ (¬ σ' 2 f' 0 = 0 ∧ p < σ' 3 f' 0 ∧ σ' 4 f' p = c))) → pL σ c f n = pL σ' c f' n := by
  intro n
  induction n with
  | zero => intro _; rfl
  | succ n ih =>
    intro h
    unfold pL
    rw [ih (fun p hp => h p (by omega))]
    by_cases q : ¬ σ 2 f 0 = 0 ∧ n < σ 3 f 0 ∧ σ 4 f n = c
    · rw [if_pos q, if_pos ((h n (by omega)).mp q)]
    · rw [if_neg q, if_neg (fun r => q ((h n (by omega)).mpr r))]
theorem rL_cg {σ σ' : xSig} {c : Nat} : ∀ n, (∀ f, f < n → ∀ p, p < 3 → ((¬ σ 2 f 0 = 0 ∧ p < σ 3 f 0 ∧ σ 4 f p = c) ↔ (¬ σ' 2 f 0 = 0 ∧ p < σ' 3 f 0 ∧ σ' 4 f p = c))) → rL σ c n = rL σ' c n := by
  intro n
  induction n with
  | zero => intro _; rfl
  | succ n ih =>
    intro h
    unfold rL
    rw [ih (fun f hf => h f (by omega)), pL_cg 3 (fun p hp => h n (by omega) p hp)]
theorem rL_one {σ σ' : xSig} {c f : Nat} (h : ∀ t i j, (t = 2 ∨ t = 3 ∨ t = 4) → i ≠ f → σ t i j = σ' t i j) : ∀ n, f < n → rL σ' c n + pL σ c f 3 = rL σ c n + pL σ' c f 3 := by
  intro n
  induction n with
  | zero => intro q; omega
  | succ n ih =>
    intro q
    unfold rL
    by_cases r : f = n
    · subst r
      rw [rL_cg (σ := σ) (σ' := σ') f (fun i hi p _ => by rw [h 2 i 0 (by omega) (by omega), h 3 i 0 (by omega) (by omega), h 4 i p (by omega) (by omega)])]
      omega
    · have := ih (by omega)
      rw [pL_cg (σ := σ) (σ' := σ') (f := n) (f' := n) 3 (fun p _ => by rw [h 2 n 0 (by omega) (by omega), h 3 n 0 (by omega) (by omega), h 4 n p (by omega) (by omega)])]
      omega
theorem pL_0 {σ : xSig} {c f : Nat} : ∀ n, (∀ p, p < n → ¬ (¬ σ 2 f 0 = 0 ∧ p < σ 3 f 0 ∧ σ 4 f p = c)) → pL σ c f n = 0 := by
  intro n
  induction n with
  | zero => intro _; rfl
  | succ n ih => intro h; unfold pL; rw [ih (fun p hp => h p (by omega)), if_neg (h n (by omega))]
theorem rL_0 {σ : xSig} {c : Nat} : ∀ n, (∀ f, f < n → ∀ p, p < 3 → ¬ (¬ σ 2 f 0 = 0 ∧ p < σ 3 f 0 ∧ σ 4 f p = c)) → rL σ c n = 0 := by
  intro n
  induction n with
  | zero => intro _; rfl
  | succ n ih => intro h; unfold rL; rw [ih (fun f hf => h f (by omega)), pL_0 3 (h n (by omega))]
theorem pL_pos {σ : xSig} {c f p : Nat} : ∀ n, p < n → (¬ σ 2 f 0 = 0 ∧ p < σ 3 f 0 ∧ σ 4 f p = c) → 0 < pL σ c f n := by
  intro n
  induction n with
  | zero => intro h; omega
  | succ n ih =>
    intro h hc
    unfold pL
    by_cases r : p = n
    · subst r; rw [if_pos hc]; omega
    · have := ih (by omega) hc; omega
theorem rL_ge {σ : xSig} {c f : Nat} : ∀ n, f < n → pL σ c f 3 ≤ rL σ c n := by
  intro n
  induction n with
  | zero => intro h; omega
  | succ n ih =>
    intro h
    unfold rL
    by_cases r : f = n
    · subst r; omega
    · have := ih (by omega); omega
theorem row_refs {σ : xSig} {w : xWrd} {M f p : Nat} (hI : Inv σ w M) (hf : f < 8) (h2 : ¬ σ 2 f 0 = 0) (hp : p < σ 3 f 0) : 0 < σ 7 (σ 4 f p) 0 := by
  have h3 := (hI.file f hf).2.1
  have hc := (hI.file f hf).2.2.2.1 p hp
  have h30 := hI.2.1
  rw [hI.refs _ (by omega)]
  have a := pL_pos (σ := σ) (c := σ 4 f p) (f := f) (p := p) 3 (by omega) ⟨h2, hp, rfl⟩
  have b := rL_ge (σ := σ) (c := σ 4 f p) (f := f) 8 hf
  omega
theorem refs_fresh {σ : xSig} {w : xWrd} {M c : Nat} (hI : Inv σ w M) (hc : σ 0 0 0 ≤ c) : rL σ c 8 = 0 := rL_0 8 (fun f hf p _ h => by have := (hI.file f hf).2.2.2.1 p h.2.1; omega)
/-- how often the chunk c stands at the first n places of f -/
def pc4 (σ : xSig) (f c : Nat) : Nat → Nat
  | 0 => 0
  | n + 1 => pc4 σ f c n + (if σ 4 f n = c then 1 else 0)
theorem pc4_le {σ : xSig} {f c : Nat} (h2 : ¬ σ 2 f 0 = 0) : ∀ n, n ≤ σ 3 f 0 → pL σ c f n = pc4 σ f c n := by
  intro n
  induction n with
  | zero => intro _; rfl
  | succ n ih =>
    intro h
    unfold pL pc4
    rw [ih (by omega)]
    by_cases q : σ 4 f n = c
    · rw [if_pos q, if_pos ⟨h2, by omega, q⟩]
    · rw [if_neg q, if_neg (fun r => q r.2.2)]
theorem pL_mono {σ : xSig} {c f : Nat} : ∀ m n, n ≤ m → pL σ c f n ≤ pL σ c f m := by
  intro m
  induction m with
  | zero => intro n h; rw [show n = 0 by omega]; exact Nat.le_refl _
  | succ m ih =>
    intro n h
    by_cases q : n = m + 1
    · rw [q]; exact Nat.le_refl _
    · have := ih n (by omega)
      show _ ≤ pL σ c f m + _
      omega
theorem pL_pc4 {σ : xSig} {c f : Nat} (h2 : ¬ σ 2 f 0 = 0) (h3 : σ 3 f 0 ≤ 3) : pL σ c f 3 = pc4 σ f c (σ 3 f 0) := by
  rw [← pc4_le h2 (σ 3 f 0) (Nat.le_refl _)]
  have : ∀ d n, n = σ 3 f 0 + d → pL σ c f n = pL σ c f (σ 3 f 0) := by
    intro d
    induction d with
    | zero => intro n hn; rw [hn]; rfl
    | succ d ih =>
      intro n hn
      rw [hn, show σ 3 f 0 + (d + 1) = (σ 3 f 0 + d) + 1 by omega]
      rw [show pL σ c f ((σ 3 f 0 + d) + 1) = pL σ c f (σ 3 f 0 + d) + (if ¬ σ 2 f 0 = 0 ∧ (σ 3 f 0 + d) < σ 3 f 0 ∧ σ 4 f (σ 3 f 0 + d) = c then 1 else 0) from rfl, ih (σ 3 f 0 + d) rfl, if_neg (by omega), Nat.add_zero]
  exact this (3 - σ 3 f 0) 3 (by omega)
theorem fgL_7 {σ : xSig} {f c : Nat} : ∀ n, fgL σ f n 7 c 0 = σ 7 c 0 - pc4 σ f c n := by
  intro n
  induction n with
  | zero => rfl
  | succ n ih =>
    unfold fgL pc4 up3
    by_cases q : c = σ 4 f n
    · rw [if_pos ⟨rfl, q, rfl⟩, ← q, ih, if_pos rfl]; omega
    · rw [if_neg (fun r => q r.2.1), ih, if_neg (fun r => q r.symm)]; rfl
end XL1
