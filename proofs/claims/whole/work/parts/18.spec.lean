/-! What the methods work out, over the shared picture of the state. -/
section XS1
def b01 (b : Bool) : Nat := if b then 1 else 0
theorem b01_nar (b : Bool) : narrow .boolean (.int (nI (b01 b))) = .int (nI (b01 b)) := by cases b <;> rfl
theorem b01_lt (b : Bool) : b01 b < 2 ^ 31 := by cases b <;> decide
theorem b01_0 (b : Bool) : (b01 b = 0) = (b = false) := by cases b <;> decide
theorem b01_n0 (b : Bool) : (¬ b01 b = 0) = (b = true) := by cases b <;> decide
theorem b01_1 (b : Bool) : (b01 b = 1) = (b = true) := by cases b <;> decide
def iv (N b : Nat) : Int32 := if b = N then -1 else nI b
theorem iv_lt {N b : Nat} (h : b < N) : iv N b = nI b := by unfold iv; rw [if_neg (by omega)]
theorem iv_no (N : Nat) : iv N N = -1 := by unfold iv; rw [if_pos rfl]
theorem iv_m1 {N b : Nat} (h : b ≤ N ∧ N < 2 ^ 31) : iv N b = -1 ↔ b = N := by
  unfold iv
  by_cases q : b = N
  · rw [if_pos q]; exact ⟨fun _ => q, fun _ => rfl⟩
  · rw [if_neg q]; exact ⟨fun r => absurd r (nI_m1 (by omega)), fun r => absurd r q⟩
theorem iv_n1 {N b : Nat} (h : b ≤ N ∧ N < 2 ^ 31) (q : ¬ iv N b = -1) : b < N := by
  have : b ≠ N := fun r => q ((iv_m1 h).mpr r)
  omega
theorem iv_neg {N b : Nat} (h : b ≤ N ∧ N < 2 ^ 31) (q : iv N b < 0) : b = N := by
  by_cases r : b = N
  · exact r
  · unfold iv at q; rw [if_neg r] at q; exact absurd q (fun q => nI_pos (by omega) q)
theorem iv_nneg {N b : Nat} (h : b ≤ N ∧ N < 2 ^ 31) (q : ¬ iv N b < 0) : b < N := by
  have : b ≠ N := fun r => q (by unfold iv; rw [if_pos r]; decide)
  omega
theorem iv_ge {N b : Nat} (h : b ≤ N ∧ N < 2 ^ 31) (q : 0 ≤ iv N b) : b < N := by
  have : b ≠ N := fun r => absurd q (by unfold iv; rw [if_pos r]; decide)
  omega
theorem iv_nge {N b : Nat} (h : b ≤ N ∧ N < 2 ^ 31) (q : ¬ 0 ≤ iv N b) : b = N := by
  by_cases r : b = N
  · exact r
  · unfold iv at q; rw [if_neg r] at q; exact absurd (nI_pos' (by omega)) q
theorem dT_240i : dT 240 = 4629137466983448576 := by decide +kernel
theorem dT_40i : dT 40 = 4617315517961601024 := by decide +kernel
theorem dT_80i : dT 80 = 4621819117588971520 := by decide +kernel
theorem up3_B {σ : Nat → Nat → Nat → Nat} {t i j v : Nat} (h : ∀ t i j, σ t i j < 2 ^ 30) (hv : v < 2 ^ 30) : ∀ x y z, up3 σ t i j v x y z < 2 ^ 30 := by
  intro x y z
  unfold up3
  by_cases q : x = t ∧ y = i ∧ z = j
  · rw [if_pos q]; exact hv
  · rw [if_neg q]; exact h x y z
theorem up3_H {σ : Nat → Nat → Nat → Nat} {i j v : Nat} (h : ∀ c, σ 8 c 0 < 32) (hv : v < 32) : ∀ c, up3 σ 8 i j v 8 c 0 < 32 := by
  intro c
  unfold up3
  by_cases q : 8 = 8 ∧ c = i ∧ 0 = j
  · rw [if_pos q]; exact hv
  · rw [if_neg q]; exact h c
theorem up3_n {σ : Nat → Nat → Nat → Nat} {t i j v : Nat} {x y z : Nat} (ht : ¬ x = t) : up3 σ t i j v x y z = σ x y z := by unfold up3; rw [if_neg (fun q => ht q.1)]
theorem up3_Hn {σ : Nat → Nat → Nat → Nat} {t i j v : Nat} (h : ∀ c, σ 8 c 0 < 32) (ht : ¬ 8 = t) : ∀ c, up3 σ t i j v 8 c 0 < 32 := fun c => by rw [up3_n ht]; exact h c
theorem up3_s {σ : Nat → Nat → Nat → Nat} {t i j v : Nat} : up3 σ t i j v t i j = v := by unfold up3; rw [if_pos ⟨rfl, rfl, rfl⟩]
theorem up2_s {w : Nat → Nat → Int32} {i j : Nat} {v : Int32} : up2 w i j v i j = v := by unfold up2; rw [if_pos ⟨rfl, rfl⟩]
/-- holders that are up -/
def liv (u : Nat → Nat) (h : Nat) : Nat → Nat
  | 0 => 0
  | n + 1 => if u n ≠ 0 ∧ h.testBit n = true then liv u h n ||| 2 ^ n else liv u h n
theorem liv_lt {u : Nat → Nat} {h : Nat} : ∀ n, n ≤ 5 → liv u h n < 32 := by
  intro n
  induction n with
  | zero => intro _; exact (by decide : 0 < 32)
  | succ n ih =>
    intro hn
    unfold liv
    by_cases q : u n ≠ 0 ∧ h.testBit n = true
    · rw [if_pos q]; exact bt_orlt _ (ih (by omega)) n (by omega)
    · rw [if_neg q]; exact ih (by omega)
theorem liv_bit {u : Nat → Nat} {h : Nat} : ∀ n, n ≤ 5 → ∀ j, j < 5 → (liv u h n).testBit j = (decide (j < n) && (decide (u j ≠ 0) && h.testBit j)) := by
  intro n
  induction n with
  | zero => intro _ j _; simp [liv]
  | succ n ih =>
    intro hn j hj
    unfold liv
    by_cases q : u n ≠ 0 ∧ h.testBit n = true
    · rw [if_pos q, bt_or _ (liv_lt n (by omega)) n (by omega) j hj, ih (by omega) j hj]
      by_cases r : j = n
      · subst r; simp [q.1, q.2]
      · simp [r, show (j < n + 1) ↔ j < n by omega]
    · rw [if_neg q, ih (by omega) j hj]
      by_cases r : j = n
      · subst r
        simp only [Nat.lt_irrefl, decide_false, Bool.false_and, Nat.lt_succ_self, decide_true, Bool.true_and]
        by_cases r1 : u j = 0
        · simp [r1]
        · have : ¬ h.testBit j = true := fun r2 => q ⟨r1, r2⟩
          simp [this]
      · simp [show (j < n + 1) ↔ j < n by omega]
def lvh (σ : Nat → Nat → Nat → Nat) (c : Nat) : Nat := liv (fun i => σ 10 i 0) (σ 8 c 0) 5
theorem lvh_lt (σ : Nat → Nat → Nat → Nat) (c : Nat) : lvh σ c < 32 := liv_lt 5 (Nat.le_refl _)
/-- the lowest bit; 5: none -/
def fst5 (h : Nat) : Nat := if h.testBit 0 then 0 else if h.testBit 1 then 1 else if h.testBit 2 then 2 else if h.testBit 3 then 3 else if h.testBit 4 then 4 else 5
theorem fst5_at {h i : Nat} (hi : i < 5) (hb : h.testBit i = true) (hl : ∀ j, j < i → h.testBit j = false) : fst5 h = i := by
  unfold fst5
  have c : i = 0 ∨ i = 1 ∨ i = 2 ∨ i = 3 ∨ i = 4 := by omega
  rcases c with rfl | rfl | rfl | rfl | rfl
  · simp [hb]
  · simp [hb, hl 0 (by decide)]
  · simp [hb, hl 0 (by decide), hl 1 (by decide)]
  · simp [hb, hl 0 (by decide), hl 1 (by decide), hl 2 (by decide)]
  · simp [hb, hl 0 (by decide), hl 1 (by decide), hl 2 (by decide), hl 3 (by decide)]
theorem fst5_no {h : Nat} (hl : ∀ j, j < 5 → h.testBit j = false) : fst5 h = 5 := by
  unfold fst5
  simp [hl 0 (by decide), hl 1 (by decide), hl 2 (by decide), hl 3 (by decide), hl 4 (by decide)]
theorem fst5_le (h : Nat) : fst5 h ≤ 5 := by unfold fst5; repeat' split <;> try omega
theorem fst5_bit {h : Nat} (q : fst5 h < 5) : h.testBit (fst5 h) = true := by
  unfold fst5 at q ⊢
  repeat' split at q
  all_goals first | omega | simp_all
theorem fst5_pos : ∀ h, h < 32 → h ≠ 0 → fst5 h < 5 := by decide +kernel
/-- how many bits -/
def pop5 (h : Nat) : Nat := b01 (h.testBit 0) + b01 (h.testBit 1) + b01 (h.testBit 2) + b01 (h.testBit 3) + b01 (h.testBit 4)
theorem pop5_le (h : Nat) : pop5 h ≤ 5 := by unfold pop5 b01; repeat' split <;> try omega
theorem pop5_0 : ∀ h, h < 32 → (pop5 h = 0 ↔ h = 0) := by decide +kernel
/-- the lightest of the free ones; 5: none -/
def best (fr : Nat → Bool) (ld : Nat → Nat) : Nat → Nat
  | 0 => 5
  | n + 1 => if fr n = true ∧ (best fr ld n = 5 ∨ ld n < ld (best fr ld n)) then n else best fr ld n
theorem best_le {fr : Nat → Bool} {ld : Nat → Nat} : ∀ n, n ≤ 5 → best fr ld n ≤ 5 := by
  intro n
  induction n with
  | zero => intro _; exact Nat.le_refl _
  | succ n ih => intro hn; unfold best; split <;> first | omega | exact ih (by omega)
theorem best_fr {fr : Nat → Bool} {ld : Nat → Nat} : ∀ n, n ≤ 5 → best fr ld n < 5 → fr (best fr ld n) = true := by
  intro n
  induction n with
  | zero => intro _ h; exact absurd h (by show ¬ 5 < 5; decide)
  | succ n ih =>
    intro hn h
    unfold best at h ⊢
    split at h
    · rename_i q; rw [if_pos q]; exact q.1
    · rename_i q; rw [if_neg q]; exact ih (by omega) h
theorem best_congr {fr fr' : Nat → Bool} {ld ld' : Nat → Nat} (h1 : ∀ i, i < 5 → fr i = fr' i) (h2 : ∀ i, i < 5 → ld i = ld' i) : ∀ n, n ≤ 5 → best fr ld n = best fr' ld' n := by
  intro n
  induction n with
  | zero => intro _; rfl
  | succ n ih =>
    intro hn
    have e := ih (by omega)
    unfold best
    rw [e, h1 n (by omega), h2 n (by omega)]
    by_cases q : best fr' ld' n = 5
    · simp [q]
    · rw [h2 _ (by have := best_le (fr := fr') (ld := ld') n (by omega); omega)]
def frC (σ : Nat → Nat → Nat → Nat) (c ch i : Nat) : Bool := decide (σ 10 i 0 ≠ 0) && (decide (σ 11 i 0 < 12) && (decide (σ 12 i c = 0) && !ch.testBit i))
def bst (σ : Nat → Nat → Nat → Nat) (c ch : Nat) : Nat := best (frC σ c ch) (fun i => σ 11 i 0) 5
theorem bst_le (σ : Nat → Nat → Nat → Nat) (c ch : Nat) : bst σ c ch ≤ 5 := best_le 5 (Nat.le_refl _)
/-- up to n servers, one behind the other -/
def cho (σ : Nat → Nat → Nat → Nat) (c : Nat) : Nat → Nat
  | 0 => 0
  | n + 1 => if bst σ c (cho σ c n) = 5 then cho σ c n else cho σ c n ||| 2 ^ bst σ c (cho σ c n)
theorem cho_lt (σ : Nat → Nat → Nat → Nat) (c : Nat) : ∀ n, cho σ c n < 32 := by
  intro n
  induction n with
  | zero => exact (by decide : 0 < 32)
  | succ n ih =>
    unfold cho
    have := bst_le σ c (cho σ c n)
    split
    · exact ih
    · exact bt_orlt _ ih _ (by omega)
def nThere (σ : Nat → Nat → Nat → Nat) : Nat → Nat
  | 0 => 0
  | n + 1 => if σ 2 n 0 = 1 then nThere σ n + 1 else nThere σ n
theorem nThere_le (σ : Nat → Nat → Nat → Nat) : ∀ n, nThere σ n ≤ n := by
  intro n
  induction n with
  | zero => exact Nat.le_refl _
  | succ n ih => unfold nThere; split <;> omega
/-- an empty replica of the chunk c at the first n of the set -/
def addE (σ : Nat → Nat → Nat → Nat) (ch c : Nat) : Nat → (Nat → Nat → Nat → Nat)
  | 0 => σ
  | n + 1 => if ch.testBit n then up3 (up3 (addE σ ch c n) 12 n c 1) 11 n 0 (addE σ ch c n 11 n 0 + 1) else addE σ ch c n
theorem addE_at {σ : Nat → Nat → Nat → Nat} {ch c : Nat} (n : Nat) (t i j : Nat) : addE σ ch c n t i j = if i < n ∧ ch.testBit i = true ∧ t = 12 ∧ j = c then 1 else if i < n ∧ ch.testBit i = true ∧ t = 11 ∧ j = 0 then σ 11 i 0 + 1 else σ t i j := by
  induction n generalizing t i j with
  | zero => simp [addE]
  | succ n ih =>
    unfold addE
    by_cases q : ch.testBit n
    · rw [if_pos q]
      unfold up3
      simp only [ih]
      by_cases r : i = n
      · subst r; simp [q]; grind
      · grind
    · rw [if_neg q, ih]
      by_cases r : i = n
      · subst r; simp [q]
      · grind
def cpW (w : Nat → Nat → Int32) (i q i2 q2 : Nat) : Nat → (Nat → Nat → Int32)
  | 0 => w
  | n + 1 => up2 (cpW w i q i2 q2 n) i (q * 4 + n) (cpW w i q i2 q2 n i2 (q2 * 4 + n))
theorem cpW_at {w : Nat → Nat → Int32} {i q i2 q2 : Nat} (h : ¬ (i = i2 ∧ q = q2)) : ∀ n, n ≤ 4 → ∀ x y, cpW w i q i2 q2 n x y = if x = i ∧ q * 4 ≤ y ∧ y < q * 4 + n then w i2 (q2 * 4 + (y - q * 4)) else w x y := by
  intro n
  induction n with
  | zero => intro _ x y; rw [if_neg (by omega)]; rfl
  | succ n ih =>
    intro hn x y
    unfold cpW up2
    rw [ih (by omega), ih (by omega)]
    by_cases r : x = i ∧ y = q * 4 + n
    · rw [if_pos r, if_neg (by omega), if_pos (by omega), r.2, Nat.add_sub_cancel_left]
    · rw [if_neg r]
      by_cases r2 : x = i ∧ q * 4 ≤ y ∧ y < q * 4 + n
      · rw [if_pos r2, if_pos (by omega)]
      · rw [if_neg r2, if_neg (by omega)]
end XS1
section XS2
variable {l : Launch} {D : va_G} {cl : List vw_C} {tys : List (ClassId × FieldType)} {base : Nat} {g : Nat → Nat} {cc : ByteArray} {n : Nat} {E : Nat → va_E} {post : xR → (Nat → va_E) → Prop} {kT nT : Nat}
/-- a contract of a method of the JDK that no entry stands for -/
theorem x_methodF {y : MethodName} {maxL : Nat} {ret : Option FieldType} {rm : Room} {av : List Value} (hy : plainFor y = true) (htr : ∀ e : Env, l.admits e → e.platform.stackTraces = false) (hlen : (lg_sl av).length ≤ maxL)
    (body : ∀ (p : Program) (e : Env) (s : State) (m : MethodId) (args : Array Value) (below : List Frame) (meth : Method) (c : Code), xC p l e s m meth c cc maxL y.cls args D cl tys base → c.exceptionTable.isEmpty = true → meth.sig.returnType = ret → meth.name = y.name →
      xG p l e rm s m args below meth c (xMQ below (xQc D cl base g n post) args s 0 0 kT nT (fun q => base ≤ q)) maxL D cl base g n E 0 0 0 (lv_args 0 av) []) :
    xMet l y [Cond.code y cc maxL ret] rm (xPc D cl tys base g n E av) (xQc D cl base g n post) 0 0 kT nT (fun q => base ≤ q) := by
  refine MetFree.of_bodySF (code := cc) (maxLocals := maxL) (ret := ret) hy ?_ ?_
  · intro args s m h hn
    obtain ⟨meth, c, h1, h2, h3, h4, h5, h6, -, -⟩ := Cond.code_spec hn (atoms_spec (ws := [Cond.code y cc maxL ret]) h _ List.mem_cons_self)
    exact ⟨meth, c, h1, h2, h3, h4, h5, h6⟩
  · intro p e s m args below meth c s₁ B hml hv _
    have hh0 : s₁.heap = s.heap := by rw [B.state]; rfl
    obtain ⟨rfl, hE, hK, hw⟩ := hv
    have hcode : (Cond.code y cc maxL ret).before av.toArray s = true := atoms_spec (ws := [Cond.code y cc maxL ret]) B.pre _ List.mem_cons_self
    have C : xC p l e s m meth c cc maxL y.cls av.toArray D cl tys base := ⟨B.exec, B.bytes, hml, findClass_of_methodNamed B.named, B.notSynchronized, hK, hE, htr e (Stand.of_body B).admits⟩
    have hl := lv_entry av (n := maxL) hlen
    have hb := body p e s m _ below meth c C (B.noHandlers hcode) B.returns (name_of_methodNamed B.named B.method).1 s.heap [] ((lg_sl av ++ List.replicate (maxL - (lg_sl av).length) Slot.unset).toArray) hw va_S.rf hl
    rw [← lg_entry_eq] at hb
    obtain ⟨t, a1, o, b1, b2, b3⟩ := hb s₁ hh0 (Stand.of_body B)
    exact ⟨t, o, a1, b1, b2, b3⟩
theorem b01_t {b : Bool} (h : b = true) : b01 b = 1 := by rw [h]; rfl
theorem b01_f {b : Bool} (h : b = false) : b01 b = 0 := by rw [h]; rfl
end XS2
