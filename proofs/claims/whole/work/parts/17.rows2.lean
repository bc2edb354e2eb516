/-! Rows that were wanting: constants, unsigned shift, boolean arrays, stores of references; rows on naturals for bits and eighths; the loop. -/
section XQ1
variable {p : Program} {l : Launch} {e : Env} {R : Room} {s : State} {m : MethodId} {args : Array Value} {below : List Frame} {meth : Method} {c : Code} {Q : State → Prop} {nL : Nat} {D : va_G} {cl : List vw_C} {tys : List (ClassId × FieldType)} {base : Nat} {g : Nat → Nat} {cc : ByteArray} {own : String} {n k z pc : Nat} {E : Nat → va_E} {lv : List (Nat × Value)} {st : List Value}
theorem x_ldc2d (C : xC p l e s m meth c cc nL own args D cl tys base) {i : Nat} {v : UInt64} (hw : Cond.constantDouble own i v ∈ xT) (hdg : decode cc pc = .ok (.ldc2_w i, 3)) (kk : xG p l e R s m args below meth c Q nL D cl base g n E k z (pc + 3) lv (.double v :: st)) : xG p l e R s m args below meth c Q nL D cl base g n E k z pc lv st := fun H locs ls hw' hS hl => lv_ldc2d C.1 C.2.1 C.ow (C.word hw) hdg (kk H locs ls hw' hS hl)
theorem x_ldcw (C : xC p l e s m meth c cc nL own args D cl tys base) {i : Nat} {v : Int32} (hw : Cond.constant own i v ∈ xT) (hdg : decode cc pc = .ok (.ldc_w i, 3)) (kk : xG p l e R s m args below meth c Q nL D cl base g n E k z (pc + 3) lv (.int v :: st)) : xG p l e R s m args below meth c Q nL D cl base g n E k z pc lv st := fun H locs ls hw' hS hl => lv_ldcw C.1 C.2.1 C.ow (C.word hw) hdg (kk H locs ls hw' hS hl)
theorem x_iushr (C : xC p l e s m meth c cc nL own args D cl tys base) {x y : Int32} (hdg : decode cc pc = .ok (.iushr, 1)) (kk : xG p l e R s m args below meth c Q nL D cl base g n E k z (pc + 1) lv (.int ((x.toUInt32 >>> (y.toUInt32 &&& Int32.toUInt32 31)).toInt32) :: st)) : xG p l e R s m args below meth c Q nL D cl base g n E k z pc lv (.int y :: .int x :: st) := fun H locs ls hw hS hl => lv_iushr C.1 C.2.1 hdg rfl (kk H locs ls hw hS hl)
theorem x_zald (C : xC p l e s m meth c cc nL own args D cl tys base) {i nn : Nat} {cA : ClassId} {f : Nat → Int32} {x : Int32} (hi : i < n) (he : E i = .inl (cA, nn, .inl f)) (t0 : Nat) (ht : tys[t0]? = some (cA, .boolean)) (hx : vp_in x nn) (hdg : decode cc pc = .ok (.baload, 1)) (kk : xG p l e R s m args below meth c Q nL D cl base g n E k z (pc + 1) lv (.int (f x.toNatClampNeg) :: st)) : xG p l e R s m args below meth c Q nL D cl base g n E k z pc lv (.int x :: .ref (g i) :: st) := fun H locs ls hw hS hl => va_zald C.1 C.2.1 C.K hw.1 i t0 (by rw [xWL_get hi, he]) ht hx hdg (kk H locs ls hw hS hl)
theorem x_zast (C : xC p l e s m meth c cc nL own args D cl tys base) {i nn : Nat} {cA : ClassId} {f : Nat → Int32} {x y : Int32} {E' : Nat → va_E} (hi : i < n) (he : E i = .inl (cA, nn, .inl f)) (t0 : Nat) (ht : tys[t0]? = some (cA, .boolean)) (hx : vp_in x nn) (hE : va_up E i (.inl (cA, nn, .inl (upd f x.toNatClampNeg (vp_nar .boolean y)))) = E') (hdg : decode cc pc = .ok (.bastore, 1)) (kk : xG p l e R s m args below meth c Q nL D cl base g n E' k z (pc + 1) lv st) : xG p l e R s m args below meth c Q nL D cl base g n E k z pc lv (.int y :: .int x :: .ref (g i) :: st) := fun H locs ls hw hS hl => va_zast C.1 C.2.1 C.K hw.1 hw.2 hS i t0 (by rw [xWL_get hi, he]) ht hx hdg (fun H locs hP hD hS => kk H locs ls (xWd_set hE hP hD) hS hl)
theorem x_aast (C : xC p l e s m meth c cc nL own args D cl tys base) {i nn q ci : Nat} {cA : ClassId} {r : vw_C} {vs : List Value} {f : Nat → Option Nat} {x : Int32} {E' : Nat → va_E} (hi : i < n) (he : E i = .inl (cA, nn, .inr (.inr (.inr (.inr f))))) (t0 : Nat) (ht : tys[t0]? = some (cA, .object r.1)) (hq : q < n) (hv : E q = .inr (ci, vs)) (hc : cl[ci]? = some r) (hx : vp_in x nn) (hE : va_up E i (.inl (cA, nn, .inr (.inr (.inr (.inr (va_up f x.toNatClampNeg (some (g q)))))))) = E') (hdg : decode cc pc = .ok (.aastore, 1)) (kk : xG p l e R s m args below meth c Q nL D cl base g n E' k z (pc + 1) lv st) : xG p l e R s m args below meth c Q nL D cl base g n E k z pc lv (.ref (g q) :: .int x :: .ref (g i) :: st) := fun H locs ls hw hS hl => va_astq C.1 C.2.1 C.K hw.1 hw.2 hS i t0 q ci (by rw [xWL_get hi, he]) ht (by rw [xWL_get hq, hv]) hc hx hdg (fun H locs hP hD hS => kk H locs ls (xWd_set hE hP hD) hS hl)
/-- the contents and the locals, written otherwise -/
theorem x_E {E' : Nat → va_E} (h : E = E') (kk : xG p l e R s m args below meth c Q nL D cl base g n E' k z pc lv st) : xG p l e R s m args below meth c Q nL D cl base g n E k z pc lv st := by rw [h]; exact kk
theorem x_loop (N : Nat) (EE : Nat → Nat → va_E) (LV : Nat → List (Nat × Value)) (I : Nat → Prop) (hE : E = EE 0) (hlv : xall (LV 0) lv) (h0 : I 0) (step : ∀ i, i ≤ N → I i → (i < N → I (i + 1) → xG p l e R s m args below meth c Q nL D cl base g n (EE (i + 1)) k z pc (LV (i + 1)) st) → xG p l e R s m args below meth c Q nL D cl base g n (EE i) k z pc (LV i) st) : xG p l e R s m args below meth c Q nL D cl base g n E k z pc lv st := by
  have h : ∀ d i, d + i = N → I i → xG p l e R s m args below meth c Q nL D cl base g n (EE i) k z pc (LV i) st := by
    intro d
    induction d with
    | zero => intro i hi hI; exact step i (by omega) hI (fun h => absurd h (by omega))
    | succ d ih => intro i hi hI; exact step i (by omega) hI (fun h hI' => ih (i + 1) (by omega) hI')
  rw [hE]
  exact x_lv (LV 0) hlv (h N 0 rfl h0)
theorem xn_dcmp (C : xC p l e s m meth c cc nL own args D cl tys base) {x y : Nat} {op : CmpOp} (hx : x < 2 ^ 53) (hy : y < 2 ^ 53) (hdg : decode cc pc = .ok (.dcmp op, 1)) (kk : xG p l e R s m args below meth c Q nL D cl base g n E k z (pc + 1) lv (.int (if x < y then -1 else if x = y then 0 else 1) :: st)) : xG p l e R s m args below meth c Q nL D cl base g n E k z pc lv (.double (dT y) :: .double (dT x) :: st) := x_dcmp C hdg (x_topi (dT_ci op hx hy) kk)
theorem xn_dadd (C : xC p l e s m meth c cc nL own args D cl tys base) {x y : Nat} (h : x + y < 2 ^ 53) (hdg : decode cc pc = .ok (.dadd, 1)) (kk : xG p l e R s m args below meth c Q nL D cl base g n E k z (pc + 1) lv (.double (dT (x + y)) :: st)) : xG p l e R s m args below meth c Q nL D cl base g n E k z pc lv (.double (dT y) :: .double (dT x) :: st) := x_dadd (v := 0) C hdg (by rw [dT_add h]; exact dT_n h) (x_topd (dT_add h) kk)
theorem xn_dsub (C : xC p l e s m meth c cc nL own args D cl tys base) {x y : Nat} (h : y ≤ x) (hx : x < 2 ^ 53) (hdg : decode cc pc = .ok (.dsub, 1)) (kk : xG p l e R s m args below meth c Q nL D cl base g n E k z (pc + 1) lv (.double (dT (x - y)) :: st)) : xG p l e R s m args below meth c Q nL D cl base g n E k z pc lv (.double (dT y) :: .double (dT x) :: st) := x_dsub (v := 0) C hdg (by rw [dT_sub h hx]; exact dT_n (by omega)) (x_topd (dT_sub h hx) kk)
end XQ1
section XQ2
theorem cmpI_lt {x y : Nat} (h : (if x < y then (-1 : Int32) else if x = y then 0 else 1) < 0) : x < y := by
  by_cases h1 : x < y
  · exact h1
  · rw [if_neg h1] at h
    by_cases h2 : x = y
    · rw [if_pos h2] at h; exact absurd h (by decide)
    · rw [if_neg h2] at h; exact absurd h (by decide)
theorem cmpI_nlt {x y : Nat} (h : ¬ (if x < y then (-1 : Int32) else if x = y then 0 else 1) < 0) : y ≤ x := Nat.not_lt.mp fun h1 => h (by rw [if_pos h1]; decide)
theorem cmpI_ge {x y : Nat} (h : 0 ≤ (if x < y then (-1 : Int32) else if x = y then 0 else 1)) : y ≤ x := Nat.not_lt.mp fun h1 => by rw [if_pos h1] at h; exact absurd h (by decide)
theorem cmpI_nge {x y : Nat} (h : ¬ 0 ≤ (if x < y then (-1 : Int32) else if x = y then 0 else 1)) : x < y := by
  by_cases h1 : x < y
  · exact h1
  · rw [if_neg h1] at h
    by_cases h2 : x = y
    · rw [if_pos h2] at h; exact absurd (by decide) h
    · rw [if_neg h2] at h; exact absurd (by decide) h
theorem cmpI_gt {x y : Nat} (h : 0 < (if x < y then (-1 : Int32) else if x = y then 0 else 1)) : y < x := by
  by_cases h1 : x < y
  · rw [if_pos h1] at h; exact absurd h (by decide)
  · rw [if_neg h1] at h
    by_cases h2 : x = y
    · rw [if_pos h2] at h; exact absurd h (by decide)
    · omega
theorem cmpI_le {x y : Nat} (h : (if x < y then (-1 : Int32) else if x = y then 0 else 1) ≤ 0) : x ≤ y := by
  by_cases h1 : x < y
  · omega
  · rw [if_neg h1] at h
    by_cases h2 : x = y
    · omega
    · rw [if_neg h2] at h; exact absurd h (by decide)
theorem cmpI_nle {x y : Nat} (h : ¬ (if x < y then (-1 : Int32) else if x = y then 0 else 1) ≤ 0) : y < x := Nat.not_le.mp fun h1 => h (by
  by_cases h2 : x < y
  · rw [if_pos h2]; decide
  · rw [if_neg h2, if_pos (by omega)]; decide)
theorem cmpI_ngt {x y : Nat} (h : ¬ 0 < (if x < y then (-1 : Int32) else if x = y then 0 else 1)) : x ≤ y := Nat.not_lt.mp fun h1 => h (by rw [if_neg (by omega), if_neg (by omega)]; decide)
/-- bits below 32 -/
theorem bI_and : ∀ a, a < 32 → ∀ b, b < 32 → nI a &&& nI b = nI (a &&& b) := by decide +kernel
theorem bI_or : ∀ a, a < 32 → ∀ b, b < 32 → nI a ||| nI b = nI (a ||| b) := by decide +kernel
theorem bI_bit : ∀ i, i < 5 → nI 1 <<< (nI i &&& 31) = nI (2 ^ i) := by decide +kernel
theorem bI_shr : ∀ a, a < 32 → ∀ i, i < 5 → nI a >>> (nI i &&& 31) = nI (a >>> i) := by decide +kernel
theorem bI_not : ∀ a, a < 32 → ∀ i, i < 5 → nI a &&& (nI (2 ^ i) ^^^ -1) = nI (if a.testBit i then a - 2 ^ i else a) := by decide +kernel
theorem bt_and : ∀ a, a < 32 → ∀ i, i < 5 → (a &&& 2 ^ i = 0 ↔ a.testBit i = false) := by decide +kernel
theorem bt_and' : ∀ a, a < 32 → ∀ i, i < 5 → a &&& 2 ^ i = if a.testBit i then 2 ^ i else 0 := by decide +kernel
theorem bt_shr : ∀ a, a < 32 → ∀ i, i < 5 → a >>> i &&& 1 = if a.testBit i then 1 else 0 := by decide +kernel
theorem bt_orlt : ∀ a, a < 32 → ∀ i, i < 5 → a ||| 2 ^ i < 32 := by decide +kernel
theorem bt_p : ∀ i, i < 5 → 2 ^ i < 32 := by decide +kernel
theorem bt_or : ∀ a, a < 32 → ∀ i, i < 5 → ∀ j, j < 5 → (a ||| 2 ^ i).testBit j = (decide (j = i) || a.testBit j) := by decide +kernel
theorem bt_cl : ∀ a, a < 32 → ∀ i, i < 5 → ∀ j, j < 5 → (if a.testBit i then a - 2 ^ i else a).testBit j = (decide (j ≠ i) && a.testBit j) := by decide +kernel
theorem bt_cllt : ∀ a, a < 32 → ∀ i, i < 5 → (if a.testBit i then a - 2 ^ i else a) < 32 := by decide +kernel
theorem bt_z : ∀ a, a < 32 → (∀ i, i < 5 → a.testBit i = false) → a = 0 := by decide +kernel
theorem bt_ext : ∀ a, a < 32 → ∀ b, b < 32 → (∀ i, i < 5 → a.testBit i = b.testBit i) → a = b := by decide +kernel
theorem bt_shlt : ∀ a, a < 32 → ∀ i, i < 5 → a >>> i < 32 := by decide +kernel
theorem bt_andlt : ∀ a, a < 32 → ∀ b, b < 32 → a &&& b < 32 := by decide +kernel
theorem bt_oolt : ∀ a, a < 32 → ∀ b, b < 32 → a ||| b < 32 := by decide +kernel
end XQ2
section XQ3
variable {p : Program} {l : Launch} {e : Env} {R : Room} {s : State} {m : MethodId} {args : Array Value} {below : List Frame} {meth : Method} {c : Code} {Q : State → Prop} {nL : Nat} {D : va_G} {cl : List vw_C} {tys : List (ClassId × FieldType)} {base : Nat} {g : Nat → Nat} {cc : ByteArray} {own : String} {n k z pc : Nat} {E : Nat → va_E} {lv : List (Nat × Value)} {st : List Value}
theorem xn_iand (C : xC p l e s m meth c cc nL own args D cl tys base) {x y : Nat} (hx : x < 32) (hy : y < 32) (hdg : decode cc pc = .ok (.iand, 1)) (kk : xG p l e R s m args below meth c Q nL D cl base g n E k z (pc + 1) lv (.int (nI (x &&& y)) :: st)) : xG p l e R s m args below meth c Q nL D cl base g n E k z pc lv (.int (nI y) :: .int (nI x) :: st) := x_iand C hdg (x_topi (bI_and x hx y hy) kk)
theorem xn_ior (C : xC p l e s m meth c cc nL own args D cl tys base) {x y : Nat} (hx : x < 32) (hy : y < 32) (hdg : decode cc pc = .ok (.ior, 1)) (kk : xG p l e R s m args below meth c Q nL D cl base g n E k z (pc + 1) lv (.int (nI (x ||| y)) :: st)) : xG p l e R s m args below meth c Q nL D cl base g n E k z pc lv (.int (nI y) :: .int (nI x) :: st) := x_ior C hdg (x_topi (bI_or x hx y hy) kk)
theorem xn_bit (C : xC p l e s m meth c cc nL own args D cl tys base) {y : Nat} (hy : y < 5) (hdg : decode cc pc = .ok (.ishl, 1)) (kk : xG p l e R s m args below meth c Q nL D cl base g n E k z (pc + 1) lv (.int (nI (2 ^ y)) :: st)) : xG p l e R s m args below meth c Q nL D cl base g n E k z pc lv (.int (nI y) :: .int (nI 1) :: st) := x_ishl C hdg (x_topi (bI_bit y hy) kk)
theorem xn_ishr (C : xC p l e s m meth c cc nL own args D cl tys base) {x y : Nat} (hx : x < 32) (hy : y < 5) (hdg : decode cc pc = .ok (.ishr, 1)) (kk : xG p l e R s m args below meth c Q nL D cl base g n E k z (pc + 1) lv (.int (nI (x >>> y)) :: st)) : xG p l e R s m args below meth c Q nL D cl base g n E k z pc lv (.int (nI y) :: .int (nI x) :: st) := x_ishr C hdg (x_topi (bI_shr x hx y hy) kk)
theorem xn_iandnot (C : xC p l e s m meth c cc nL own args D cl tys base) {x y : Nat} (hx : x < 32) (hy : y < 5) (hdg : decode cc pc = .ok (.iand, 1)) (kk : xG p l e R s m args below meth c Q nL D cl base g n E k z (pc + 1) lv (.int (nI (if x.testBit y then x - 2 ^ y else x)) :: st)) : xG p l e R s m args below meth c Q nL D cl base g n E k z pc lv (.int (nI (2 ^ y) ^^^ -1) :: .int (nI x) :: st) := x_iand C hdg (x_topi (bI_not x hx y hy) kk)
/-- the answer of a callee that returns or throws -/
theorem rif_l {P : Prop} [Decidable P] {v a : Option Value} {X : String} (h : (Sum.inl v : xR) = if P then .inl a else .inr X) : P ∧ v = a := by
  by_cases q : P
  · rw [if_pos q] at h; cases h; exact ⟨q, rfl⟩
  · rw [if_neg q] at h; cases h
theorem rif_r {P : Prop} [Decidable P] {a : Option Value} {X Z : String} (h : (Sum.inr Z : xR) = if P then .inl a else .inr X) : ¬ P ∧ Z = X := by
  by_cases q : P
  · rw [if_pos q] at h; cases h
  · rw [if_neg q] at h; cases h; exact ⟨q, rfl⟩
/-- an int below N -/
def inR (x : Int32) (N : Nat) : Bool := decide (0 ≤ x.toInt ∧ x.toInt < N)
theorem inR_p {x : Int32} {N : Nat} : inR x N = true ↔ (0 ≤ x.toInt ∧ x.toInt < N) := by unfold inR; exact decide_eq_true_iff
def ix (x : Int32) : Nat := x.toInt.toNat
theorem inR_of {x : Int32} {N : Nat} (h : inR x N = true) : ∃ j, j < N ∧ x = nI j := by
  obtain ⟨h1, h2⟩ := inR_p.mp h
  obtain ⟨j, hj, rfl⟩ := nI_of (x := x) (by intro q; have := Int32.lt_iff_toInt_lt.mp q; rw [show (0 : Int32).toInt = 0 from rfl] at this; omega)
  rw [nI_toInt hj] at h2
  exact ⟨j, by omega, rfl⟩
theorem inR_nI {j N : Nat} (h : j < N) (hN : N < 2 ^ 31) : inR (nI j) N = true := by rw [inR_p, nI_toInt (by omega)]; omega
theorem ix_nI {j : Nat} (h : j < 2 ^ 31) : ix (nI j) = j := by unfold ix; rw [nI_toInt h]; rfl
theorem inR_lt {j N : Nat} (hj : j < 2 ^ 31) (h : inR (nI j) N = true) : j < N := by rw [inR_p, nI_toInt hj] at h; omega
end XQ3
