/-! Times are eighths: dT k is the double k / 8. -/
section XD
def dT (k : Nat) : UInt64 := FP.Core.of64 (FP.Core.round FP.Core.b64 (.fin false k (-3)))
theorem dT_val (k : Nat) : FP.Core.val64 (dT k) = FP.Core.round FP.Core.b64 (.fin false k (-3)) := FP.Core.val64_of64 (FP.Core.round_fits FP.Core.good_b64 _)
theorem dT_shape {k : Nat} (h : k < 2 ^ 53) : ∃ c q, FP.Core.val64 (dT k) = .fin false c q ∧ FP.Core.inUnits c q FP.Core.b64.qmin = k * 2 ^ 1071 ∧ FP.Core.b64.qmin ≤ q := by
  obtain ⟨c, q, h1, h2⟩ := FP.Core.round_exact FP.Core.good_b64 false (c := k) (q := -3) h (by decide) (by decide)
  have hv : FP.Core.val64 (dT k) = .fin false c q := by rw [dT_val]; exact h1
  have hf := FP.Core.val64_fits (dT k)
  rw [hv] at hf
  refine ⟨c, q, hv, ?_, hf.2.1⟩
  rw [h2]
  show k * 2 ^ (-3 - FP.Core.b64.qmin).toNat = _
  rw [show (-3 - FP.Core.b64.qmin).toNat = 1071 by decide]
theorem x_pw {N K M : Nat} {m : Int} (hm : (M : Int) = m + 1074) (h : N * 2 ^ M = K * 2 ^ 1071) : N * 2 ^ (m - -3).toNat = K * 2 ^ (-3 - m).toNat := by
  rcases Int.lt_or_le m (-3) with h3 | h3
  · have e1 : (m - -3).toNat = 0 := by omega
    obtain ⟨j, hj, hj2⟩ : ∃ j : Nat, 1071 = M + j ∧ (-3 - m).toNat = j := ⟨1071 - M, by omega, by omega⟩
    rw [e1, hj2, Nat.pow_zero, Nat.mul_one]
    refine Nat.eq_of_mul_eq_mul_right (Nat.two_pow_pos M) ?_
    rw [h, hj, Nat.pow_add, Nat.mul_assoc, Nat.mul_comm (2 ^ M)]
  · have e1 : (-3 - m).toNat = 0 := by omega
    obtain ⟨j, hj, hj2⟩ : ∃ j : Nat, M = 1071 + j ∧ (m - -3).toNat = j := ⟨M - 1071, by omega, by omega⟩
    rw [e1, hj2, Nat.pow_zero, Nat.mul_one]
    refine Nat.eq_of_mul_eq_mul_right (Nat.two_pow_pos 1071) ?_
    rw [← h, hj, Nat.pow_add, Nat.mul_assoc, Nat.mul_comm (2 ^ j)]
theorem x_qmin : FP.Core.b64.qmin = -1074 := by decide
theorem dT_add {a b : Nat} (h : a + b < 2 ^ 53) : FP.dadd (dT a) (dT b) = dT (a + b) := by
  obtain ⟨c, q, hc, uc, hq⟩ := dT_shape (k := a) (by omega)
  obtain ⟨d, r, hd, ud, hr⟩ := dT_shape (k := b) (by omega)
  have hv : FP.Core.val64 (FP.dadd (dT a) (dT b)) = FP.Core.roundRatio FP.Core.b64 false (a + b) 1 (-3) := by
    show FP.Core.val64 (FP.Core.dadd (dT a) (dT b)) = _
    rw [FP.Core.val64_dadd, hc, hd]
    show FP.Core.roundRatio FP.Core.b64 (FP.Core.sumSign false false (FP.Core.sumUnits false c q false d r (min q r))) (FP.Core.sumUnits false c q false d r (min q r)).natAbs 1 (min q r) = _
    have hU : FP.Core.sumUnits false c q false d r (min q r) = ((FP.Core.inUnits c q (min q r) + FP.Core.inUnits d r (min q r) : Nat) : Int) := by
      simp [FP.Core.sumUnits, FP.Core.signed]
    have hs : FP.Core.sumSign false false (FP.Core.sumUnits false c q false d r (min q r)) = false := by
      rw [hU]; unfold FP.Core.sumSign; split
      · rfl
      · simp; omega
    rw [hs, hU, Int.natAbs_natCast]
    refine FP.Core.roundRatio_congr (by decide) (by decide) ?_
    rw [Nat.mul_one, Nat.mul_one]
    rw [x_qmin] at hq hr uc ud
    refine x_pw (M := (min q r + 1074).toNat) (by omega) ?_
    have e1 := FP.Core.inUnits_move c (q := q) (r := min q r) (e := -1074) (by omega) (by omega)
    have e2 := FP.Core.inUnits_move d (q := r) (r := min q r) (e := -1074) (by omega) (by omega)
    have e3 : (min q r - -1074).toNat = (min q r + 1074).toNat := by omega
    rw [e3] at e1 e2
    rw [Nat.add_mul, Nat.add_mul, ← uc, ← ud]
    first | (rw [e1, e2]; done) | (rw [← e1, ← e2])
  refine FP.Core.val64_inj (by rw [hv]; exact FP.Core.roundRatio_ne_nan _ _ _ _ _) ?_
  rw [hv, dT_val]; rfl
theorem dT_sub {a b : Nat} (h : b ≤ a) (ha : a < 2 ^ 53) : FP.dsub (dT a) (dT b) = dT (a - b) := by
  obtain ⟨c, q, hc, uc, hq⟩ := dT_shape (k := a) (by omega)
  obtain ⟨d, r, hd, ud, hr⟩ := dT_shape (k := b) (by omega)
  have hv : FP.Core.val64 (FP.dsub (dT a) (dT b)) = FP.Core.roundRatio FP.Core.b64 false (a - b) 1 (-3) := by
    show FP.Core.val64 (FP.Core.dsub (dT a) (dT b)) = _
    rw [FP.Core.val64_dsub, hc, hd]
    show FP.Core.roundRatio FP.Core.b64 (FP.Core.sumSign false true (FP.Core.sumUnits false c q true d r (min q r))) (FP.Core.sumUnits false c q true d r (min q r)).natAbs 1 (min q r) = _
    rw [x_qmin] at hq hr uc ud
    have e1 := FP.Core.inUnits_move c (q := q) (r := min q r) (e := -1074) (by omega) (by omega)
    have e2 := FP.Core.inUnits_move d (q := r) (r := min q r) (e := -1074) (by omega) (by omega)
    have e3 : (min q r - -1074).toNat = (min q r + 1074).toNat := by omega
    rw [e3] at e1 e2
    have hU : FP.Core.sumUnits false c q true d r (min q r) = (FP.Core.inUnits c q (min q r) : Int) - (FP.Core.inUnits d r (min q r) : Int) := by
      simp [FP.Core.sumUnits, FP.Core.signed]; omega
    generalize FP.Core.inUnits c q (min q r) = C at e1 hU
    generalize FP.Core.inUnits d r (min q r) = D at e2 hU
    have f1 : C * 2 ^ (min q r + 1074).toNat = a * 2 ^ 1071 := by first | (rw [← uc, e1]; done) | (rw [← uc, ← e1])
    have f2 : D * 2 ^ (min q r + 1074).toNat = b * 2 ^ 1071 := by first | (rw [← ud, e2]; done) | (rw [← ud, ← e2])
    have hle : D ≤ C := by
      refine Nat.le_of_mul_le_mul_right ?_ (Nat.two_pow_pos (min q r + 1074).toNat)
      rw [f1, f2]
      exact Nat.mul_le_mul_right _ h
    have hs : FP.Core.sumSign false true (FP.Core.sumUnits false c q true d r (min q r)) = false := by
      rw [hU]; unfold FP.Core.sumSign; split
      · rfl
      · simp; omega
    have hn : (FP.Core.sumUnits false c q true d r (min q r)).natAbs = C - D := by rw [hU]; omega
    rw [hs, hn]
    refine FP.Core.roundRatio_congr (by decide) (by decide) ?_
    rw [Nat.mul_one, Nat.mul_one]
    refine x_pw (M := (min q r + 1074).toNat) (by omega) ?_
    rw [Nat.sub_mul, Nat.sub_mul, f1, f2]
  refine FP.Core.val64_inj (by rw [hv]; exact FP.Core.roundRatio_ne_nan _ _ _ _ _) ?_
  rw [hv, dT_val]; rfl
theorem dT_cmp {a b : Nat} (ha : a < 2 ^ 53) (hb : b < 2 ^ 53) : FP.dcmp (dT a) (dT b) = some (compare (a : Int) (b : Int)) := by
  obtain ⟨c, q, hc, uc, hq⟩ := dT_shape ha
  obtain ⟨d, r, hd, ud, hr⟩ := dT_shape hb
  have h1 := FP.Core.val64_fits (dT a)
  have h2 := FP.Core.val64_fits (dT b)
  show FP.Core.order (FP.Core.val64 (dT a)) (FP.Core.val64 (dT b)) = _
  rw [FP.Core.order_zval FP.Core.good_b64 h1 h2 (by rw [hc]; exact fun h => by cases h) (by rw [hd]; exact fun h => by cases h), hc, hd]
  congr 1
  show compare (FP.Core.signed false (FP.Core.inUnits c q FP.Core.b64.qmin)) (FP.Core.signed false (FP.Core.inUnits d r FP.Core.b64.qmin)) = _
  rw [uc, ud]
  have hp := Nat.two_pow_pos 1071
  generalize 2 ^ 1071 = P at hp
  refine FP.Core.compare_congr ?_ ?_
  · show ((a * P : Nat) : Int) < ((b * P : Nat) : Int) ↔ _
    constructor
    · intro h; have := Nat.lt_of_mul_lt_mul_right (Int.ofNat_lt.mp h); omega
    · intro h; exact Int.ofNat_lt.mpr (Nat.mul_lt_mul_of_pos_right (Int.ofNat_lt.mp h) hp)
  · show ((a * P : Nat) : Int) = ((b * P : Nat) : Int) ↔ _
    constructor
    · intro h; have := Nat.eq_of_mul_eq_mul_right hp (Int.ofNat_inj.mp h); omega
    · intro h; rw [Int.ofNat_inj.mp h]
theorem dT_ci {a b : Nat} (op : CmpOp) (ha : a < 2 ^ 53) (hb : b < 2 ^ 53) : Op.cmpValue (FP.dcmp (dT a) (dT b)) op = if a < b then -1 else if a = b then 0 else 1 := by
  rw [dT_cmp ha hb]
  rcases Nat.lt_trichotomy a b with h | h | h
  · have : compare (a : Int) (b : Int) = .lt := by rw [FP.Core.compare_ite, if_pos (by omega)]
    rw [this, if_pos h]; rfl
  · have : compare (a : Int) (b : Int) = .eq := by rw [FP.Core.compare_ite, if_neg (by omega), if_pos (by omega)]
    rw [this, if_neg (by omega), if_pos h]; rfl
  · have : compare (a : Int) (b : Int) = .gt := by rw [FP.Core.compare_ite, if_neg (by omega), if_neg (by omega)]
    rw [this, if_neg (by omega), if_neg (by omega)]; rfl
theorem dT_0 : dT 0 = 0 := by decide +kernel
theorem dT_800 : dT 800 = 4636737291354636288 := by decide +kernel
theorem dT_240 : dT 240 = FP.i2d 30 := by decide +kernel
theorem dT_40 : dT 40 = FP.i2d 5 := by decide +kernel
theorem dT_80 : dT 80 = FP.i2d 10 := by decide +kernel
theorem dT_800i : dT 800 = FP.i2d 100 := by decide +kernel
theorem x_n64 {r : UInt64} (h : FP.Core.val64 r ≠ .nan) : vf_n64 r := by
  have h1 : ¬ FP.Core.infBits FP.Core.b64 < FP.Core.mag FP.Core.b64 r.toNat := fun q => h ((FP.Core.decode_nan r.toNat).mpr q)
  have e2 : FP.Core.infBits FP.Core.b64 = 9218868437227405312 := by decide
  have e3 : FP.Core.mag FP.Core.b64 r.toNat = r.toNat % 2 ^ 63 := by
    show r.toNat % FP.Core.half FP.Core.b64 = _
    rw [show FP.Core.half FP.Core.b64 = 2 ^ 63 by decide]
  have e1 : (0x7fffffffffffffff : UInt64).toNat = 2 ^ 63 - 1 := by decide
  have e4 : (0x7ff0000000000000 : UInt64).toNat = 9218868437227405312 := by decide
  show r &&& 0x7fffffffffffffff ≤ 0x7ff0000000000000
  rw [UInt64.le_iff_toNat_le, UInt64.toNat_and, e1, Nat.and_two_pow_sub_one_eq_mod, e4]
  rw [e2, e3] at h1
  omega
theorem dT_n {k : Nat} (h : k < 2 ^ 53) : vf_n64 (dT k) := by
  obtain ⟨c, q, hc, -, -⟩ := dT_shape h
  exact x_n64 (by rw [hc]; exact fun z => by cases z)
theorem x_pw2 {c n : Nat} {q : Int} (hq : -1074 ≤ q) (h : c * 2 ^ (q + 1074).toNat = n * 2 ^ 1074) : c * 2 ^ 52 * 2 ^ (q + -55 - -3).toNat = n * 2 ^ (-3 - (q + -55)).toNat := by
  rcases Int.lt_or_le q 52 with h3 | h3
  · have e1 : (q + -55 - -3).toNat = 0 := by omega
    obtain ⟨j, hj, hj2⟩ : ∃ j : Nat, 52 + 1074 = (q + 1074).toNat + j ∧ (-3 - (q + -55)).toNat = j := ⟨(52 - q).toNat, by omega, by omega⟩
    rw [e1, hj2, Nat.pow_zero, Nat.mul_one]
    refine Nat.eq_of_mul_eq_mul_right (Nat.two_pow_pos 1074) ?_
    rw [Nat.mul_assoc c, ← Nat.pow_add, hj, Nat.pow_add, ← Nat.mul_assoc, h, Nat.mul_assoc, Nat.mul_assoc, Nat.mul_comm (2 ^ 1074)]
  · have e1 : (-3 - (q + -55)).toNat = 0 := by omega
    obtain ⟨j, hj, hj2⟩ : ∃ j : Nat, (q + 1074).toNat = 52 + j + 1074 ∧ (q + -55 - -3).toNat = j := ⟨(q - 52).toNat, by omega, by omega⟩
    rw [e1, hj2, Nat.pow_zero, Nat.mul_one]
    refine Nat.eq_of_mul_eq_mul_right (Nat.two_pow_pos 1074) ?_
    rw [← h, hj, Nat.pow_add, Nat.pow_add, Nat.mul_assoc c, Nat.mul_assoc c]
theorem x_125 : FP.Core.val64 4593671619917905920 = .fin false 4503599627370496 (-55) := by decide +kernel
/-- an int's eighths, as the law makes them -/
theorem dX_val {x : Int32} {b : Bool} {n : Nat} (hx : FP.Core.ofInt x.toInt = .fin b n 0) (hn : n < 2 ^ 53) : FP.Core.val64 (FP.dmul (FP.i2d x) 4593671619917905920) = FP.Core.roundRatio FP.Core.b64 b n 1 (-3) := by
  obtain ⟨c, q, h1, h2⟩ := FP.Core.round_exact FP.Core.good_b64 b (c := n) (q := 0) hn (by decide) (by decide)
  have hv : FP.Core.val64 (FP.i2d x) = .fin b c q := by
    show FP.Core.val64 (FP.Core.i2d x) = _
    rw [FP.Core.val64_i2d, hx]; exact h1
  have hf := FP.Core.val64_fits (FP.i2d x)
  rw [hv] at hf
  have hq : FP.Core.b64.qmin ≤ q := hf.2.1
  rw [x_qmin] at hq h2
  have h3 : c * 2 ^ (q + 1074).toNat = n * 2 ^ 1074 := by
    have a1 : FP.Core.inUnits c q (-1074) = c * 2 ^ (q + 1074).toNat := by
      unfold FP.Core.inUnits; rw [show (q - -1074).toNat = (q + 1074).toNat by omega]
    have a2 : FP.Core.inUnits n 0 (-1074) = n * 2 ^ 1074 := rfl
    rw [← a1, h2, a2]
  show FP.Core.val64 (FP.Core.dmul (FP.i2d x) 4593671619917905920) = _
  rw [FP.Core.val64_dmul, hv, x_125]
  show FP.Core.roundRatio FP.Core.b64 (b != false) (c * 4503599627370496) 1 (q + -55) = _
  rw [show (b != false) = b by cases b <;> rfl]
  refine FP.Core.roundRatio_congr (by decide) (by decide) ?_
  rw [Nat.mul_one, Nat.mul_one]
  exact x_pw2 hq h3
theorem dX_pos {n : Nat} (h : n < 2 ^ 31) : FP.dmul (FP.i2d (nI n)) 4593671619917905920 = dT n := by
  have hx : FP.Core.ofInt (nI n).toInt = .fin false n 0 := by
    rw [nI_toInt h]; unfold FP.Core.ofInt
    rw [Int.natAbs_natCast, decide_eq_false (by omega)]
  have hv := dX_val hx (by omega)
  refine FP.Core.val64_inj (by rw [hv]; exact FP.Core.roundRatio_ne_nan _ _ _ _ _) ?_
  rw [hv, dT_val]; rfl
theorem x_cmpneg {u y : UInt64} {c d Z : Nat} {q r : Int} (hu : FP.Core.val64 u = .fin true c q) (hy : FP.Core.val64 y = .fin false d r) (uu : FP.Core.inUnits c q FP.Core.b64.qmin = Z) (hZ : 0 < Z) (uy : FP.Core.inUnits d r FP.Core.b64.qmin = 0) : FP.dcmp u y = some .lt := by
  have h1 := FP.Core.val64_fits u
  have h2 := FP.Core.val64_fits y
  have h3 : FP.dcmp u y = FP.Core.order (FP.Core.val64 u) (FP.Core.val64 y) := rfl
  rw [h3, FP.Core.order_zval FP.Core.good_b64 h1 h2 (by rw [hu]; exact fun h => by cases h) (by rw [hy]; exact fun h => by cases h), hu, hy]
  have h4 : FP.Core.zval FP.Core.b64 (.fin true c q) = -(Z : Int) := by rw [← uu]; rfl
  have h5 : FP.Core.zval FP.Core.b64 (.fin false d r) = 0 := by
    have : FP.Core.zval FP.Core.b64 (.fin false d r) = ((FP.Core.inUnits d r FP.Core.b64.qmin : Nat) : Int) := rfl
    rw [this, uy]; rfl
  rw [h4, h5, FP.Core.compare_ite, if_pos (by omega)]
theorem dX_neg {x : Int32} (h : x < 0) : FP.dcmp (FP.dmul (FP.i2d x) 4593671619917905920) (dT 0) = some .lt ∧ vf_n64 (FP.dmul (FP.i2d x) 4593671619917905920) := by
  have h0 : x.toInt < 0 := by rw [Int32.lt_iff_toInt_lt] at h; simpa using h
  have hb : -2147483648 ≤ x.toInt := by have := x.le_toInt; omega
  have hx : FP.Core.ofInt x.toInt = .fin true x.toInt.natAbs 0 := by
    unfold FP.Core.ofInt; rw [decide_eq_true h0]
  have hn : x.toInt.natAbs < 2 ^ 53 := by omega
  have hv := dX_val hx hn
  generalize FP.dmul (FP.i2d x) 4593671619917905920 = u at hv
  have hnn : FP.Core.val64 u ≠ .nan := by rw [hv]; exact FP.Core.roundRatio_ne_nan _ _ _ _ _
  refine ⟨?_, x_n64 hnn⟩
  obtain ⟨c, q, h1, h2⟩ := FP.Core.round_exact FP.Core.good_b64 true (c := x.toInt.natAbs) (q := -3) hn (by decide) (by decide)
  have hv2 : FP.Core.val64 u = .fin true c q := by rw [hv]; exact h1
  obtain ⟨d, r, hd, ud, -⟩ := dT_shape (k := 0) (by decide)
  rw [Nat.zero_mul] at ud
  generalize dT 0 = y at hd
  have hpos : 0 < x.toInt.natAbs * 2 ^ (-3 - FP.Core.b64.qmin).toNat := Nat.mul_pos (by omega) (Nat.two_pow_pos _)
  exact x_cmpneg hv2 hd h2 hpos ud
end XD
