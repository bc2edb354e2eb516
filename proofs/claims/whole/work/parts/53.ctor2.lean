section XK2
def σ0 : xSig := fun t _ _ => if t = 10 then 1 else 0
def w0 : xWrd := fun _ _ => 0
def KC (a : Nat → ClassId) (g : Nat → Nat) (fs : List Value) (c : Nat) (A : va_E) (k : Nat) : va_E := if k = 0 then .inr (0, fs) else if k = c then A else EC a g σ0 w0 k
def AR (a : Nat → ClassId) (g : Nat → Nat) (t N s0 d i : Nat) : va_E := .inl (a t, N, .inr (.inr (.inr (.inr (fun j => if j < i then some (g (s0 + d * j)) else none)))))
theorem zi : nI (0 : Nat) = (0 : Int32) := nI_0
theorem z1 : nI (1 : Nat) = (1 : Int32) := by decide
theorem ECf {a : Nat → ClassId} {g : Nat → Nat} {i : Nat} (hi : i < 8) : EC a g σ0 w0 (2 + 2 * i) = .inr (2, [.ref (g (3 + 2 * i)), .int 0, .int 0, .double 0]) := by rw [EC_file (Y := fun _ => .inr (0, [])) hi, cc_file]; simp [σ0, zi, dT_0]
theorem ECr {a : Nat → ClassId} {g : Nat → Nat} {i : Nat} (hi : i < 8) : EC a g σ0 w0 (3 + 2 * i) = .inl (a 0, 3, .inl (fun _ => 0)) := by rw [EC_row (Y := fun _ => .inr (0, [])) hi, cc_row]; simp [σ0, zi]
theorem ECc {a : Nat → ClassId} {g : Nat → Nat} {i : Nat} (hi : i < 30) : EC a g σ0 w0 (19 + i) = .inr (1, [.int 0, .int 0, .int 0, .double 0]) := by rw [EC_chunk (Y := fun _ => .inr (0, [])) hi, cc_chunk]; simp [σ0, zi, dT_0]
theorem ECs {a : Nat → ClassId} {g : Nat → Nat} {i : Nat} (hi : i < 5) : EC a g σ0 w0 (50 + 4 * i) = .inr (4, [.ref (g (51 + 4 * i)), .ref (g (52 + 4 * i)), .ref (g (53 + 4 * i)), .int 1, .int 0]) := by rw [EC_server (Y := fun _ => .inr (0, [])) hi, cc_server]; simp [σ0, zi, z1]
theorem ECv {a : Nat → ClassId} {g : Nat → Nat} {i : Nat} (hi : i < 5) : EC a g σ0 w0 (51 + 4 * i) = .inl (a 0, 30, .inl (fun _ => 0)) := by rw [EC_vers (Y := fun _ => .inr (0, [])) hi, cc_vers]; simp [σ0, zi]
theorem ECu {a : Nat → ClassId} {g : Nat → Nat} {i : Nat} (hi : i < 5) : EC a g σ0 w0 (52 + 4 * i) = .inl (a 0, 30, .inl (fun _ => 0)) := by rw [EC_used (Y := fun _ => .inr (0, [])) hi, cc_used]; simp [σ0, zi]
theorem ECw {a : Nat → ClassId} {g : Nat → Nat} {i : Nat} (hi : i < 5) : EC a g σ0 w0 (53 + 4 * i) = .inl (a 0, 120, .inl (fun _ => 0)) := by rw [EC_wrds (Y := fun _ => .inr (0, [])) hi, cc_wrds]; simp [w0]
theorem ECk {a : Nat → ClassId} {g : Nat → Nat} {i : Nat} (hi : i < 72) : EC a g σ0 w0 (71 + i) = .inr (3, [.int 0, .int 0, .int 0, .double 0]) := by rw [EC_kept (Y := fun _ => .inr (0, [])) hi, cc_kept]; simp [σ0, zi, dT_0]
/-- the cells by other addresses: those that a cell names must be the same -/
theorem EC_geq {a : Nat → ClassId} {g g' : Nat → Nat} {σ : xSig} {w : xWrd} {n k : Nat} (hg : ∀ i, i < n → g' i = g i) (hk : k < n) (h143 : k < 143) (h0 : k = 0 → 71 ≤ n) (h1 : k = 1 → 18 ≤ n) (h2 : k = 18 → 49 ≤ n) (h3 : k = 49 → 70 ≤ n) (h4 : k = 70 → 143 ≤ n) (h5 : k < 18 → k % 2 = 0 → k + 1 < n) (h6 : 50 ≤ k → k < 70 → (k - 50) % 4 = 0 → k + 3 < n) : eqE (EC a g σ w k) (EC a g' σ w k) := by
  unfold EC
  by_cases c1 : k = 0
  · rw [if_pos c1, if_pos c1]
    have := h0 c1
    exact eqE_of (by unfold cc_cs; rw [hg 1 (by omega), hg 18 (by omega), hg 49 (by omega), hg 70 (by omega)])
  rw [if_neg c1, if_neg c1]
  by_cases c2 : k = 1
  · rw [if_pos c2, if_pos c2]
    have := h1 c2
    exact eqE_refs (fun j hj => by rw [hg _ (by omega)])
  rw [if_neg c2, if_neg c2]
  by_cases c3 : k < 18
  · rw [if_pos c3, if_pos c3]
    by_cases c4 : k % 2 = 0
    · rw [if_pos c4, if_pos c4]
      have := h5 c3 c4
      exact eqE_of (by unfold cc_file; rw [hg _ (by omega)])
    · rw [if_neg c4, if_neg c4]; exact eqE_rfl _
  rw [if_neg c3, if_neg c3]
  by_cases c5 : k = 18
  · rw [if_pos c5, if_pos c5]
    have := h2 c5
    exact eqE_refs (fun j hj => by rw [hg _ (by omega)])
  rw [if_neg c5, if_neg c5]
  by_cases c6 : k < 49
  · rw [if_pos c6, if_pos c6]; exact eqE_rfl _
  rw [if_neg c6, if_neg c6]
  by_cases c7 : k = 49
  · rw [if_pos c7, if_pos c7]
    have := h3 c7
    exact eqE_refs (fun j hj => by rw [hg _ (by omega)])
  rw [if_neg c7, if_neg c7]
  by_cases c8 : k < 70
  · rw [if_pos c8, if_pos c8]
    by_cases d1 : (k - 50) % 4 = 0
    · rw [if_pos d1, if_pos d1]
      have := h6 (by omega) c8 d1
      exact eqE_of (by unfold cc_server; rw [hg _ (by omega), hg _ (by omega), hg _ (by omega)])
    rw [if_neg d1, if_neg d1]
    by_cases d2 : (k - 50) % 4 = 1
    · rw [if_pos d2, if_pos d2]; exact eqE_rfl _
    rw [if_neg d2, if_neg d2]
    by_cases d3 : (k - 50) % 4 = 2
    · rw [if_pos d3, if_pos d3]; exact eqE_rfl _
    · rw [if_neg d3, if_neg d3]; exact eqE_rfl _
  rw [if_neg c8, if_neg c8]
  by_cases c9 : k = 70
  · rw [if_pos c9, if_pos c9]
    have := h4 c9
    exact eqE_refs (fun j hj => by rw [hg _ (by omega)])
  · rw [if_neg c9, if_neg c9]; exact eqE_rfl _
theorem KC_g {a : Nat → ClassId} {g g' : Nat → Nat} {fs fs' : List Value} {c k : Nat} {A A' : va_E} (hfs : k = 0 → fs = fs') (hA : k = c → eqE A A') (hE : ¬ k = 0 → ¬ k = c → eqE (EC a g σ0 w0 k) (EC a g' σ0 w0 k)) : eqE (KC a g fs c A k) (KC a g' fs' c A' k) := by
  unfold KC
  by_cases c1 : k = 0
  · rw [if_pos c1, if_pos c1, hfs c1]; exact eqE_rfl _
  · rw [if_neg c1, if_neg c1]
    by_cases c2 : k = c
    · rw [if_pos c2, if_pos c2]; exact hA c2
    · rw [if_neg c2, if_neg c2]; exact hE c1 c2
theorem AR_g {a : Nat → ClassId} {g g' : Nat → Nat} {t N s0 d i : Nat} (h : ∀ j, j < i → g' (s0 + d * j) = g (s0 + d * j)) : eqE (AR a g t N s0 d i) (AR a g' t N s0 d i) := eqE_refs (fun j _ => by by_cases q : j < i; rw [if_pos q, if_pos q, h j q]; rw [if_neg q, if_neg q])
theorem KC_st {a : Nat → ClassId} {g : Nat → Nat} {fs : List Value} {c t N s0 d i : Nat} (hc : ¬ c = 0) : va_up (KC a g fs c (AR a g t N s0 d i)) c (.inl (a t, N, .inr (.inr (.inr (.inr (va_up (fun j => if j < i then some (g (s0 + d * j)) else none) i (some (g (s0 + d * i))))))))) = KC a g fs c (AR a g t N s0 d (i + 1)) := by
  funext k
  by_cases q : k = c
  · subst q
    rw [va_up_self]
    unfold KC AR
    rw [if_neg hc, if_pos rfl]
    congr 1
    congr 1
    congr 1
    congr 1
    congr 1
    congr 1
    congr 1
    funext j
    by_cases r : j = i
    · rw [r, va_up_self, if_pos (by omega)]
    · rw [va_up_ne _ _ r]
      by_cases r2 : j < i
      · rw [if_pos r2, if_pos (by omega)]
      · rw [if_neg r2, if_neg (by omega)]
  · rw [va_up_ne _ _ q]
    unfold KC
    simp only [if_neg q]
theorem KC_0 {a : Nat → ClassId} {g : Nat → Nat} {fs : List Value} {c : Nat} {A : va_E} : KC a g fs c A 0 = .inr (0, fs) := if_pos rfl
theorem KC_c {a : Nat → ClassId} {g : Nat → Nat} {fs : List Value} {c : Nat} {A : va_E} (h : ¬ c = 0) : KC a g fs c A c = A := by unfold KC; rw [if_neg h, if_pos rfl]
theorem KC_o {a : Nat → ClassId} {g : Nat → Nat} {fs : List Value} {c k : Nat} {A : va_E} (h : ¬ k = 0) (h2 : ¬ k = c) : KC a g fs c A k = EC a g σ0 w0 k := by unfold KC; rw [if_neg h, if_neg h2]
theorem k_CS {l : Launch} (htr : xTr l) {D : va_G} {a : Nat → ClassId} {base : Nat} {g : Nat → Nat} {E : Nat → va_E} (he : E 0 = .inr (0, [.null, .null, .null, .null, .int 0, .double 0])) : Met l y_CS_init [Cond.code y_CS_init b_CS_init 2 none] (rmC 142 1504 1) (xPc D xcl (xty a) base g 1 E [.ref (g 0)]) (xQn D xcl base g 1 143 (fun g2 => EC a g2 σ0 w0)) 142 1504 (fun q => base ≤ q) := by
  refine x_ctor (by decide) htr (Nat.le_of_ble_eq_true rfl) ?_
  intro p e s m args below meth c C hret hnm
  have C : xC p l e s m meth c b_CS_init 2 "ChunkStore" args D xcl (xty a) base := C
  refine x_aload_n C d_CS_init_0 rfl rfl ?_
  refine x_obj C (hlink := kw23) kw24 kw25 (by decide) (Nat.le_of_ble_eq_true rfl) d_CS_init_1 ?_
  refine x_aload_n C d_CS_init_4 rfl rfl ?_
  refine x_bipush C (v := nI 8) d_CS_init_5 (by decide) ?_
  refine x_newr C (N := 8) kw26 (by decide) 1 rfl (by decide) (by decide) (by decide) (by show 0 + 1 ≤ 142; decide) (by show 0 + 8 ≤ 1504; decide) d_CS_init_7 (fun _ i => if i = 1 then .inl (a 1, 8, .inr (.inr (.inr (.inr (fun _ => none))))) else E i) (fun g' hg => ⟨fun i hi => by rw [if_neg (by omega)]; exact eqE_rfl _, by rw [if_pos rfl]⟩) ?_
  intro ga0 hg0
  rw [← hg0 0 (by omega)]
  refine x_putF C (ci := 0) (ty := .array (.object "ChunkStore$FileEntry")) (ty0 := t_CS) rfl i_CS 0 (by decide) kw116 (fun _ h => h) (i := 0) (by omega) (show (if 0 = 1 then _ else E 0) = _ by rw [if_neg (by decide)]; exact he) t_CS_ok n_CS rfl hnm rfl rfl rfl rfl (by simp) rfl d_CS_init_10 ?_
  refine x_iconst C (v := nI 0) d_CS_init_13 (by decide) ?_
  refine x_istore_n C d_CS_init_14 rfl (by decide) rfl ?_
  refine x_loopG 8 (fun h => h 0 = g 0) (fun i => 2 + 2 * i) (fun i => 1 + 2 * i) (fun i => 8 + 7 * i) (fun h i => KC a h [.ref (h 1), .null, .null, .null, .int 0, .double 0] 1 (AR a h 1 8 2 2 i)) (fun h i => [(0, .ref (h 0)), (1, .int (nI i))]) rfl rfl rfl (fun i hi => by
      by_cases r : i = 0
      · subst r; rw [va_up_self, KC_0]; exact eqE_rfl _
      · rw [va_up_ne _ _ r, show i = 1 by omega, if_pos rfl, KC_c (by decide)]; exact eqE_refs (fun j _ => by rw [if_neg (by omega)])) ⟨rfl, rfl, trivial⟩ (by rw [hg0 0 (by omega)]) ?_
  intro i0 gi0 hi0 hP0 ih0
  refine x_iload_n C d_CS_init_15 rfl rfl ?_
  refine x_bipush C (v := nI 8) d_CS_init_16 (by decide) ?_
  refine xn_icmp_ge C (by omega) (by decide) 40 d_CS_init_18 (by decide) (fun h => ?_) (fun h => ?_)
  rotate_left
  · refine x_aload_n C d_CS_init_21 rfl rfl ?_
    refine x_get C (ci := 0) rfl i_CS 0 (by decide) kw116 (fun _ h => h) (i := 0) (by omega) KC_0 rfl d_CS_init_22 ?_
    refine x_iload_n C d_CS_init_25 rfl rfl ?_
    refine x_newo C (ci := 2) (fs := [.null, .int 0, .int 0, .double 0]) t_FE kw26 kw28 kw2 i_FE t_FE_ok rfl (by intro j hj; have : j = 0 ∨ j = 1 ∨ j = 2 ∨ j = 3 := (by omega); rcases this with rfl | rfl | rfl | rfl <;> rfl) (by show 1 + 2 * i0 + 1 ≤ 142; omega) (by show 8 + 7 * i0 + 4 ≤ 1504; omega) d_CS_init_26 (fun g' k => if k = 2 + 2 * i0 then .inr (2, [.null, .int 0, .int 0, .double 0]) else KC a g' [.ref (g' 1), .null, .null, .null, .int 0, .double 0] 1 (AR a g' 1 8 2 2 i0) k) (fun g' hg => ⟨fun k hk => by rw [if_neg (by omega)]; exact KC_g (fun _ => by rw [hg 1 (by omega)]) (fun _ => AR_g (fun j hj => hg _ (by omega))) (fun _ _ => EC_geq hg (by omega) (by omega) (by omega) (by omega) (by omega) (by omega) (by omega) (by omega) (by omega)), by rw [if_pos rfl]⟩) ?_
    intro gb hgb
    rw [← hgb 1 (by omega), ← hgb 0 (by omega)]
    refine x_dup C d_CS_init_29 rfl ?_
    refine x_callIN C (k_FE htr (t := 2 + 2 * i0) (by omega) (if_pos rfl) (fun g' => KC a g' [.ref (g' 1), .null, .null, .null, .int 0, .double 0] 1 (AR a g' 1 8 2 2 i0)) (fun g' hg => ⟨fun k hk hne => by rw [if_neg hne]; exact KC_g (fun _ => by rw [hg 1 (by omega)]) (fun _ => AR_g (fun j hj => hg _ (by omega))) (fun _ _ => EC_geq hg (by omega) (by omega) (by omega) (by omega) (by omega) (by omega) (by omega) (by omega) (by omega)), by rw [KC_o (by omega) (by omega)]; rw [ECf (by omega), show 3 + 2 * i0 = 2 + 2 * i0 + 1 by omega], by rw [KC_o (by omega) (by omega)]; rw [show 2 + 2 * i0 + 1 = 3 + 2 * i0 by omega]; exact ECr (by omega)⟩)) kw31 kw30 kw2 kn29 rfl ny_FE pl_FE_init ⟨rfl, rfl⟩ (by decide) ⟨by show 1 + 2 * i0 + 1 + 1 ≤ 142; omega, by show 8 + 7 * i0 + 4 + 3 ≤ 1504; omega⟩ (Nat.le_of_ble_eq_true rfl) d_CS_init_30 ?_
    intro gc hgc
    rw [← hgc 1 (by omega), ← hgc 0 (by omega), ← hgc (2 + 2 * i0) (by omega)]
    refine x_aast C (E' := KC a gc [.ref (gc 1), .null, .null, .null, .int 0, .double 0] 1 (AR a gc 1 8 2 2 (i0 + 1))) (i := 1) (q := 2 + 2 * i0) (ci := 2) (r := (R_FE, F_FE, 4)) (by omega) (KC_c (by decide)) 1 rfl (by omega) (by rw [KC_o (by omega) (by omega)]; rw [ECf (by omega)]) rfl (vp_in_nI (show i0 < 8 by omega) (by omega)) (by rw [nI_clamp (by omega)]; exact KC_st (by decide)) d_CS_init_33 ?_
    refine x_lv [(0, .ref (gc 0)), (1, .int (nI i0))] ⟨rfl, rfl, trivial⟩ ?_
    refine xn_iinc C d_CS_init_34 1 rfl (by decide) rfl ?_
    refine x_goto C 15 d_CS_init_37 (by decide) ?_
    have hx := ih0 h gc (by show gc 0 = g 0; rw [hgc 0 (by omega), hgb 0 (by omega)]; exact hP0)
    refine x_lv [(0, .ref (gc 0)), (1, .int (nI (i0 + 1)))] ⟨rfl, rfl, trivial⟩ ?_
    rw [show 2 + 2 * (i0 + 1) = 2 + 2 * i0 + 1 + 1 by omega, show 1 + 2 * (i0 + 1) = 1 + 2 * i0 + 1 + 1 by omega, show 8 + 7 * (i0 + 1) = 8 + 7 * i0 + 4 + 3 by omega] at hx
    exact hx
  have e0 : i0 = 8 := by omega
  subst e0
  refine x_aload_n C d_CS_init_40 rfl rfl ?_
  refine x_bipush C (v := nI 30) d_CS_init_41 (by decide) ?_
  refine x_newr C (N := 30) kw49 (by decide) 2 rfl (by decide) (by decide) (by decide) (by show 17 + 1 ≤ 142; decide) (by show 64 + 30 ≤ 1504; decide) d_CS_init_43 (fun g' i => if i = 18 then .inl (a 2, 30, .inr (.inr (.inr (.inr (fun _ => none))))) else KC a g' [.ref (g' 1), .null, .null, .null, .int 0, .double 0] 1 (AR a g' 1 8 2 2 8) i) (fun g' hg => ⟨fun i hi => by rw [if_neg (by omega)]; exact KC_g (fun _ => by rw [hg 1 (by omega)]) (fun _ => AR_g (fun j hj => hg _ (by omega))) (fun _ _ => EC_geq hg hi (by omega) (by omega) (by omega) (by omega) (by omega) (by omega) (by omega) (by omega)), by rw [if_pos rfl]⟩) ?_
  intro ga1 hg1
  rw [← hg1 0 (by omega)]
  refine x_putF C (ci := 0) (ty := .array (.object "ChunkStore$Chunk")) (ty0 := t_CS) rfl i_CS 1 (by decide) kw117 (fun _ h => h) (i := 0) (by omega) (show (if 0 = 18 then _ else KC _ _ _ _ _ 0) = _ by rw [if_neg (by decide)]; exact KC_0) t_CS_ok n_CS rfl hnm rfl rfl rfl rfl (by simp) rfl d_CS_init_46 ?_
  refine x_iconst C (v := nI 0) d_CS_init_49 (by decide) ?_
  refine x_istore_n C d_CS_init_50 rfl (by decide) rfl ?_
  refine x_loopG 30 (fun h => h 0 = g 0) (fun i => 19 + 1 * i) (fun i => 18 + 1 * i) (fun i => 94 + 4 * i) (fun h i => KC a h [.ref (h 1), .ref (h 18), .null, .null, .int 0, .double 0] 18 (AR a h 2 30 19 1 i)) (fun h i => [(0, .ref (h 0)), (1, .int (nI i))]) rfl rfl rfl (fun i hi => by
      by_cases r : i = 0
      · subst r; rw [va_up_self, KC_0]; exact eqE_rfl _
      · rw [va_up_ne _ _ r]
        by_cases r2 : i = 18
        · subst r2; rw [if_pos rfl, KC_c (by decide)]; exact eqE_refs (fun j _ => by rw [if_neg (by omega)])
        · rw [if_neg r2, KC_o r r2]
          by_cases r3 : i = 1
          · subst r3; rw [KC_c (by decide)]; exact eqE_refs (fun j hj => by rw [if_pos hj]; (try rw [Nat.one_mul]))
          · rw [KC_o r r3]; exact eqE_rfl _) ⟨rfl, rfl, trivial⟩ (by rw [hg1 0 (by omega)]; exact hP0) ?_
  intro i1 gi1 hi1 hP1 ih1
  refine x_iload_n C d_CS_init_51 rfl rfl ?_
  refine x_bipush C (v := nI 30) d_CS_init_52 (by decide) ?_
  refine xn_icmp_ge C (by omega) (by decide) 76 d_CS_init_54 (by decide) (fun h => ?_) (fun h => ?_)
  rotate_left
  · refine x_aload_n C d_CS_init_57 rfl rfl ?_
    refine x_get C (ci := 0) rfl i_CS 1 (by decide) kw117 (fun _ h => h) (i := 0) (by omega) KC_0 rfl d_CS_init_58 ?_
    refine x_iload_n C d_CS_init_61 rfl rfl ?_
    refine x_newo C (ci := 1) (fs := [.int 0, .int 0, .int 0, .double 0]) t_CH kw49 kw51 kw3 i_CH t_CH_ok rfl (by intro j hj; have : j = 0 ∨ j = 1 ∨ j = 2 ∨ j = 3 := (by omega); rcases this with rfl | rfl | rfl | rfl <;> rfl) (by show 18 + 1 * i1 + 1 ≤ 142; omega) (by show 94 + 4 * i1 + 4 ≤ 1504; omega) d_CS_init_62 (fun g' k => if k = 19 + 1 * i1 then .inr (1, [.int 0, .int 0, .int 0, .double 0]) else KC a g' [.ref (g' 1), .ref (g' 18), .null, .null, .int 0, .double 0] 18 (AR a g' 2 30 19 1 i1) k) (fun g' hg => ⟨fun k hk => by rw [if_neg (by omega)]; exact KC_g (fun _ => by rw [hg 1 (by omega), hg 18 (by omega)]) (fun _ => AR_g (fun j hj => hg _ (by omega))) (fun _ _ => EC_geq hg (by omega) (by omega) (by omega) (by omega) (by omega) (by omega) (by omega) (by omega) (by omega)), by rw [if_pos rfl]⟩) ?_
    intro gb hgb
    rw [← hgb 18 (by omega), ← hgb 0 (by omega)]
    refine x_dup C d_CS_init_65 rfl ?_
    refine x_callIN C (k_CH htr (t := 19 + 1 * i1) (fun g' => KC a g' [.ref (g' 1), .ref (g' 18), .null, .null, .int 0, .double 0] 18 (AR a g' 2 30 19 1 i1)) (fun k hk => by
        by_cases r : k = 19 + 1 * i1
        · rw [if_pos r, r, KC_o (by omega) (by omega), show 19 + 1 * i1 = 19 + i1 by omega, ECc (by omega)]; exact eqE_rfl _
        · rw [if_neg r]; exact eqE_rfl _)) kw54 kw53 kw3 kn52 rfl ny_CH pl_CH_init ⟨rfl, rfl⟩ (by decide) ⟨by show 18 + 1 * i1 + 1 + 0 ≤ 142; omega, by show 94 + 4 * i1 + 4 + 0 ≤ 1504; omega⟩ (Nat.le_of_ble_eq_true rfl) d_CS_init_66 ?_
    intro gc hgc
    rw [← hgc 18 (by omega), ← hgc 0 (by omega), ← hgc (19 + 1 * i1) (by omega)]
    refine x_aast C (E' := KC a gc [.ref (gc 1), .ref (gc 18), .null, .null, .int 0, .double 0] 18 (AR a gc 2 30 19 1 (i1 + 1))) (i := 18) (q := 19 + 1 * i1) (ci := 1) (r := (R_CH, F_CH, 4)) (by omega) (KC_c (by decide)) 2 rfl (by omega) (by rw [KC_o (by omega) (by omega)]; rw [show 19 + 1 * i1 = 19 + i1 by omega, ECc (by omega)]) rfl (vp_in_nI (show i1 < 30 by omega) (by omega)) (by rw [nI_clamp (by omega)]; exact KC_st (by decide)) d_CS_init_69 ?_
    refine x_lv [(0, .ref (gc 0)), (1, .int (nI i1))] ⟨rfl, rfl, trivial⟩ ?_
    refine xn_iinc C d_CS_init_70 1 rfl (by decide) rfl ?_
    refine x_goto C 51 d_CS_init_73 (by decide) ?_
    have hx := ih1 h gc (by show gc 0 = g 0; rw [hgc 0 (by omega), hgb 0 (by omega)]; exact hP1)
    refine x_lv [(0, .ref (gc 0)), (1, .int (nI (i1 + 1)))] ⟨rfl, rfl, trivial⟩ ?_
    rw [show 19 + 1 * (i1 + 1) = 19 + 1 * i1 + 1 by omega, show 18 + 1 * (i1 + 1) = 18 + 1 * i1 + 1 + 0 by omega, show 94 + 4 * (i1 + 1) = 94 + 4 * i1 + 4 + 0 by omega] at hx
    exact hx
  have e1 : i1 = 30 := by omega
  subst e1
  refine x_aload_n C d_CS_init_76 rfl rfl ?_
  refine x_iconst C (v := nI 5) d_CS_init_77 (by decide) ?_
  refine x_newr C (N := 5) kw69 (by decide) 3 rfl (by decide) (by decide) (by decide) (by show 48 + 1 ≤ 142; decide) (by show 214 + 5 ≤ 1504; decide) d_CS_init_78 (fun g' i => if i = 49 then .inl (a 3, 5, .inr (.inr (.inr (.inr (fun _ => none))))) else KC a g' [.ref (g' 1), .ref (g' 18), .null, .null, .int 0, .double 0] 18 (AR a g' 2 30 19 1 30) i) (fun g' hg => ⟨fun i hi => by rw [if_neg (by omega)]; exact KC_g (fun _ => by rw [hg 1 (by omega), hg 18 (by omega)]) (fun _ => AR_g (fun j hj => hg _ (by omega))) (fun _ _ => EC_geq hg hi (by omega) (by omega) (by omega) (by omega) (by omega) (by omega) (by omega) (by omega)), by rw [if_pos rfl]⟩) ?_
  intro ga2 hg2
  rw [← hg2 0 (by omega)]
  refine x_putF C (ci := 0) (ty := .array (.object "ChunkStore$Server")) (ty0 := t_CS) rfl i_CS 2 (by decide) kw118 (fun _ h => h) (i := 0) (by omega) (show (if 0 = 49 then _ else KC _ _ _ _ _ 0) = _ by rw [if_neg (by decide)]; exact KC_0) t_CS_ok n_CS rfl hnm rfl rfl rfl rfl (by simp) rfl d_CS_init_81 ?_
  refine x_iconst C (v := nI 0) d_CS_init_84 (by decide) ?_
  refine x_istore_n C d_CS_init_85 rfl (by decide) rfl ?_
  refine x_loopG 5 (fun h => h 0 = g 0) (fun i => 50 + 4 * i) (fun i => 49 + 4 * i) (fun i => 219 + 185 * i) (fun h i => KC a h [.ref (h 1), .ref (h 18), .ref (h 49), .null, .int 0, .double 0] 49 (AR a h 3 5 50 4 i)) (fun h i => [(0, .ref (h 0)), (1, .int (nI i))]) rfl rfl rfl (fun i hi => by
      by_cases r : i = 0
      · subst r; rw [va_up_self, KC_0]; exact eqE_rfl _
      · rw [va_up_ne _ _ r]
        by_cases r2 : i = 49
        · subst r2; rw [if_pos rfl, KC_c (by decide)]; exact eqE_refs (fun j _ => by rw [if_neg (by omega)])
        · rw [if_neg r2, KC_o r r2]
          by_cases r3 : i = 18
          · subst r3; rw [KC_c (by decide)]; exact eqE_refs (fun j hj => by rw [if_pos hj]; (try rw [Nat.one_mul]))
          · rw [KC_o r r3]; exact eqE_rfl _) ⟨rfl, rfl, trivial⟩ (by rw [hg2 0 (by omega)]; exact hP1) ?_
  intro i2 gi2 hi2 hP2 ih2
  refine x_iload_n C d_CS_init_86 rfl rfl ?_
  refine x_iconst C (v := nI 5) d_CS_init_87 (by decide) ?_
  refine xn_icmp_ge C (by omega) (by decide) 110 d_CS_init_88 (by decide) (fun h => ?_) (fun h => ?_)
  rotate_left
  · refine x_aload_n C d_CS_init_91 rfl rfl ?_
    refine x_get C (ci := 0) rfl i_CS 2 (by decide) kw118 (fun _ h => h) (i := 0) (by omega) KC_0 rfl d_CS_init_92 ?_
    refine x_iload_n C d_CS_init_95 rfl rfl ?_
    refine x_newo C (ci := 4) (fs := [.null, .null, .null, .int 0, .int 0]) t_SV kw69 kw71 kw4 i_SV t_SV_ok rfl (by intro j hj; have : j = 0 ∨ j = 1 ∨ j = 2 ∨ j = 3 ∨ j = 4 := (by omega); rcases this with rfl | rfl | rfl | rfl | rfl <;> rfl) (by show 49 + 4 * i2 + 1 ≤ 142; omega) (by show 219 + 185 * i2 + 5 ≤ 1504; omega) d_CS_init_96 (fun g' k => if k = 50 + 4 * i2 then .inr (4, [.null, .null, .null, .int 0, .int 0]) else KC a g' [.ref (g' 1), .ref (g' 18), .ref (g' 49), .null, .int 0, .double 0] 49 (AR a g' 3 5 50 4 i2) k) (fun g' hg => ⟨fun k hk => by rw [if_neg (by omega)]; exact KC_g (fun _ => by rw [hg 1 (by omega), hg 18 (by omega), hg 49 (by omega)]) (fun _ => AR_g (fun j hj => hg _ (by omega))) (fun _ _ => EC_geq hg (by omega) (by omega) (by omega) (by omega) (by omega) (by omega) (by omega) (by omega) (by omega)), by rw [if_pos rfl]⟩) ?_
    intro gb hgb
    rw [← hgb 49 (by omega), ← hgb 0 (by omega)]
    refine x_dup C d_CS_init_99 rfl ?_
    refine x_callIN C (k_SV htr (t := 50 + 4 * i2) (by omega) (if_pos rfl) (fun g' => KC a g' [.ref (g' 1), .ref (g' 18), .ref (g' 49), .null, .int 0, .double 0] 49 (AR a g' 3 5 50 4 i2)) (fun g' hg => ⟨fun k hk hne => by rw [if_neg hne]; exact KC_g (fun _ => by rw [hg 1 (by omega), hg 18 (by omega), hg 49 (by omega)]) (fun _ => AR_g (fun j hj => hg _ (by omega))) (fun _ _ => EC_geq hg (by omega) (by omega) (by omega) (by omega) (by omega) (by omega) (by omega) (by omega) (by omega)), by rw [KC_o (by omega) (by omega)]; rw [ECs (by omega), show 51 + 4 * i2 = 50 + 4 * i2 + 1 by omega, show 52 + 4 * i2 = 50 + 4 * i2 + 1 + 1 by omega, show 53 + 4 * i2 = 50 + 4 * i2 + 1 + 2 by omega], by rw [KC_o (by omega) (by omega)]; rw [show 50 + 4 * i2 + 1 = 51 + 4 * i2 by omega]; exact ECv (by omega), by rw [KC_o (by omega) (by omega)]; rw [show 50 + 4 * i2 + 1 + 1 = 52 + 4 * i2 by omega]; exact ECu (by omega), by rw [KC_o (by omega) (by omega)]; rw [show 50 + 4 * i2 + 1 + 2 = 53 + 4 * i2 by omega]; exact ECw (by omega)⟩)) kw74 kw73 kw4 kn72 rfl ny_SV pl_SV_init ⟨rfl, rfl⟩ (by decide) ⟨by show 49 + 4 * i2 + 1 + 3 ≤ 142; omega, by show 219 + 185 * i2 + 5 + 180 ≤ 1504; omega⟩ (Nat.le_of_ble_eq_true rfl) d_CS_init_100 ?_
    intro gc hgc
    rw [← hgc 49 (by omega), ← hgc 0 (by omega), ← hgc (50 + 4 * i2) (by omega)]
    refine x_aast C (E' := KC a gc [.ref (gc 1), .ref (gc 18), .ref (gc 49), .null, .int 0, .double 0] 49 (AR a gc 3 5 50 4 (i2 + 1))) (i := 49) (q := 50 + 4 * i2) (ci := 4) (r := (R_SV, F_SV, 5)) (by omega) (KC_c (by decide)) 3 rfl (by omega) (by rw [KC_o (by omega) (by omega)]; rw [ECs (by omega)]) rfl (vp_in_nI (show i2 < 5 by omega) (by omega)) (by rw [nI_clamp (by omega)]; exact KC_st (by decide)) d_CS_init_103 ?_
    refine x_lv [(0, .ref (gc 0)), (1, .int (nI i2))] ⟨rfl, rfl, trivial⟩ ?_
    refine xn_iinc C d_CS_init_104 1 rfl (by decide) rfl ?_
    refine x_goto C 86 d_CS_init_107 (by decide) ?_
    have hx := ih2 h gc (by show gc 0 = g 0; rw [hgc 0 (by omega), hgb 0 (by omega)]; exact hP2)
    refine x_lv [(0, .ref (gc 0)), (1, .int (nI (i2 + 1)))] ⟨rfl, rfl, trivial⟩ ?_
    rw [show 50 + 4 * (i2 + 1) = 50 + 4 * i2 + 1 + 3 by omega, show 49 + 4 * (i2 + 1) = 49 + 4 * i2 + 1 + 3 by omega, show 219 + 185 * (i2 + 1) = 219 + 185 * i2 + 5 + 180 by omega] at hx
    exact hx
  have e2 : i2 = 5 := by omega
  subst e2
  refine x_aload_n C d_CS_init_110 rfl rfl ?_
  refine x_bipush C (v := nI 72) d_CS_init_111 (by decide) ?_
  refine x_newr C (N := 72) kw96 (by decide) 4 rfl (by decide) (by decide) (by decide) (by show 69 + 1 ≤ 142; decide) (by show 1144 + 72 ≤ 1504; decide) d_CS_init_113 (fun g' i => if i = 70 then .inl (a 4, 72, .inr (.inr (.inr (.inr (fun _ => none))))) else KC a g' [.ref (g' 1), .ref (g' 18), .ref (g' 49), .null, .int 0, .double 0] 49 (AR a g' 3 5 50 4 5) i) (fun g' hg => ⟨fun i hi => by rw [if_neg (by omega)]; exact KC_g (fun _ => by rw [hg 1 (by omega), hg 18 (by omega), hg 49 (by omega)]) (fun _ => AR_g (fun j hj => hg _ (by omega))) (fun _ _ => EC_geq hg hi (by omega) (by omega) (by omega) (by omega) (by omega) (by omega) (by omega) (by omega)), by rw [if_pos rfl]⟩) ?_
  intro ga3 hg3
  rw [← hg3 0 (by omega)]
  refine x_putF C (ci := 0) (ty := .array (.object "ChunkStore$Kept")) (ty0 := t_CS) rfl i_CS 3 (by decide) kw119 (fun _ h => h) (i := 0) (by omega) (show (if 0 = 70 then _ else KC _ _ _ _ _ 0) = _ by rw [if_neg (by decide)]; exact KC_0) t_CS_ok n_CS rfl hnm rfl rfl rfl rfl (by simp) rfl d_CS_init_116 ?_
  refine x_iconst C (v := nI 0) d_CS_init_119 (by decide) ?_
  refine x_istore_n C d_CS_init_120 rfl (by decide) rfl ?_
  refine x_loopG 72 (fun h => h 0 = g 0) (fun i => 71 + 1 * i) (fun i => 70 + 1 * i) (fun i => 1216 + 4 * i) (fun h i => KC a h [.ref (h 1), .ref (h 18), .ref (h 49), .ref (h 70), .int 0, .double 0] 70 (AR a h 4 72 71 1 i)) (fun h i => [(0, .ref (h 0)), (1, .int (nI i))]) rfl rfl rfl (fun i hi => by
      by_cases r : i = 0
      · subst r; rw [va_up_self, KC_0]; exact eqE_rfl _
      · rw [va_up_ne _ _ r]
        by_cases r2 : i = 70
        · subst r2; rw [if_pos rfl, KC_c (by decide)]; exact eqE_refs (fun j _ => by rw [if_neg (by omega)])
        · rw [if_neg r2, KC_o r r2]
          by_cases r3 : i = 49
          · subst r3; rw [KC_c (by decide)]; exact eqE_refs (fun j hj => by rw [if_pos hj]; (try rw [Nat.one_mul]))
          · rw [KC_o r r3]; exact eqE_rfl _) ⟨rfl, rfl, trivial⟩ (by rw [hg3 0 (by omega)]; exact hP2) ?_
  intro i3 gi3 hi3 hP3 ih3
  refine x_iload_n C d_CS_init_121 rfl rfl ?_
  refine x_bipush C (v := nI 72) d_CS_init_122 (by decide) ?_
  refine xn_icmp_ge C (by omega) (by decide) 146 d_CS_init_124 (by decide) (fun h => ?_) (fun h => ?_)
  rotate_left
  · refine x_aload_n C d_CS_init_127 rfl rfl ?_
    refine x_get C (ci := 0) rfl i_CS 3 (by decide) kw119 (fun _ h => h) (i := 0) (by omega) KC_0 rfl d_CS_init_128 ?_
    refine x_iload_n C d_CS_init_131 rfl rfl ?_
    refine x_newo C (ci := 3) (fs := [.int 0, .int 0, .int 0, .double 0]) t_KP kw96 kw98 kw5 i_KP t_KP_ok rfl (by intro j hj; have : j = 0 ∨ j = 1 ∨ j = 2 ∨ j = 3 := (by omega); rcases this with rfl | rfl | rfl | rfl <;> rfl) (by show 70 + 1 * i3 + 1 ≤ 142; omega) (by show 1216 + 4 * i3 + 4 ≤ 1504; omega) d_CS_init_132 (fun g' k => if k = 71 + 1 * i3 then .inr (3, [.int 0, .int 0, .int 0, .double 0]) else KC a g' [.ref (g' 1), .ref (g' 18), .ref (g' 49), .ref (g' 70), .int 0, .double 0] 70 (AR a g' 4 72 71 1 i3) k) (fun g' hg => ⟨fun k hk => by rw [if_neg (by omega)]; exact KC_g (fun _ => by rw [hg 1 (by omega), hg 18 (by omega), hg 49 (by omega), hg 70 (by omega)]) (fun _ => AR_g (fun j hj => hg _ (by omega))) (fun _ _ => EC_geq hg (by omega) (by omega) (by omega) (by omega) (by omega) (by omega) (by omega) (by omega) (by omega)), by rw [if_pos rfl]⟩) ?_
    intro gb hgb
    rw [← hgb 70 (by omega), ← hgb 0 (by omega)]
    refine x_dup C d_CS_init_135 rfl ?_
    refine x_callIN C (k_KP htr (t := 71 + 1 * i3) (fun g' => KC a g' [.ref (g' 1), .ref (g' 18), .ref (g' 49), .ref (g' 70), .int 0, .double 0] 70 (AR a g' 4 72 71 1 i3)) (fun k hk => by
        by_cases r : k = 71 + 1 * i3
        · rw [if_pos r, r, KC_o (by omega) (by omega), show 71 + 1 * i3 = 71 + i3 by omega, ECk (by omega)]; exact eqE_rfl _
        · rw [if_neg r]; exact eqE_rfl _)) kw101 kw100 kw5 kn99 rfl ny_KP pl_KP_init ⟨rfl, rfl⟩ (by decide) ⟨by show 70 + 1 * i3 + 1 + 0 ≤ 142; omega, by show 1216 + 4 * i3 + 4 + 0 ≤ 1504; omega⟩ (Nat.le_of_ble_eq_true rfl) d_CS_init_136 ?_
    intro gc hgc
    rw [← hgc 70 (by omega), ← hgc 0 (by omega), ← hgc (71 + 1 * i3) (by omega)]
    refine x_aast C (E' := KC a gc [.ref (gc 1), .ref (gc 18), .ref (gc 49), .ref (gc 70), .int 0, .double 0] 70 (AR a gc 4 72 71 1 (i3 + 1))) (i := 70) (q := 71 + 1 * i3) (ci := 3) (r := (R_KP, F_KP, 4)) (by omega) (KC_c (by decide)) 4 rfl (by omega) (by rw [KC_o (by omega) (by omega)]; rw [show 71 + 1 * i3 = 71 + i3 by omega, ECk (by omega)]) rfl (vp_in_nI (show i3 < 72 by omega) (by omega)) (by rw [nI_clamp (by omega)]; exact KC_st (by decide)) d_CS_init_139 ?_
    refine x_lv [(0, .ref (gc 0)), (1, .int (nI i3))] ⟨rfl, rfl, trivial⟩ ?_
    refine xn_iinc C d_CS_init_140 1 rfl (by decide) rfl ?_
    refine x_goto C 121 d_CS_init_143 (by decide) ?_
    have hx := ih3 h gc (by show gc 0 = g 0; rw [hgc 0 (by omega), hgb 0 (by omega)]; exact hP3)
    refine x_lv [(0, .ref (gc 0)), (1, .int (nI (i3 + 1)))] ⟨rfl, rfl, trivial⟩ ?_
    rw [show 71 + 1 * (i3 + 1) = 71 + 1 * i3 + 1 by omega, show 70 + 1 * (i3 + 1) = 70 + 1 * i3 + 1 + 0 by omega, show 1216 + 4 * (i3 + 1) = 1216 + 4 * i3 + 4 + 0 by omega] at hx
    exact hx
  have e3 : i3 = 72 := by omega
  subst e3
  refine x_cret C hret d_CS_init_146 (fun i hi => by rw [show i = 0 by omega]; exact hP3) (fun i hi => ?_)
  by_cases r : i = 0
  · subst r; rw [KC_0]; exact eqE_of (by show _ = cc_cs a gi3 σ0 w0 0; unfold cc_cs; simp [σ0, zi, dT_0])
  · by_cases r2 : i = 70
    · subst r2; rw [KC_c (by decide)]; exact eqE_refs (fun j hj => by rw [if_pos hj, Nat.one_mul])
    · rw [KC_o r r2]; exact eqE_rfl _
end XK2
