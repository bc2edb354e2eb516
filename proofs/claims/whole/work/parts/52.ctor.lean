section XK1
theorem if_self {E : Nat → va_E} {t : Nat} {x : va_E} (h : E t = x) : E = fun i => if i = t then x else E i := by
  funext i
  by_cases r : i = t
  · rw [r, if_pos rfl]; exact h
  · rw [if_neg r]
theorem up_if {F : Nat → va_E} {t : Nat} {x y y' : va_E} (h : y = y') : va_up (fun i => if i = t then x else F i) t y = fun i => if i = t then y' else F i := by
  subst h
  funext i
  by_cases r : i = t
  · rw [r, va_up_self, if_pos rfl]
  · rw [va_up_ne _ _ r, if_neg r, if_neg r]
def rmC (k z j : Nat) : Room := { frames := 2 + j, cells := k, slots := z, locals := 40 + 40 * j }
theorem k_CH {l : Launch} (htr : xTr l) {D : va_G} {a : Nat → ClassId} {base : Nat} {g : Nat → Nat} {n : Nat} {E : Nat → va_E} {t : Nat} (E2 : (Nat → Nat) → Nat → va_E) (hE2 : ∀ i, i < n → eqE (E i) (E2 g i)) : Met l y_CH_init [Cond.code y_CH_init b_CH_init 1 none] (rmC 0 0 0) (xPc D xcl (xty a) base g n E [.ref (g t)]) (xQn D xcl base g n n E2) 0 0 (fun q => base ≤ q) := by
  refine x_ctor (by decide) htr (Nat.le_of_ble_eq_true rfl) ?_
  intro p e s m args below meth c C hret hnm
  have C : xC p l e s m meth c b_CH_init 1 "ChunkStore$Chunk" args D xcl (xty a) base := C
  refine x_aload_n C d_CH_init_0 rfl rfl ?_
  refine x_obj C (hlink := kw55) kw24 kw25 (by decide) (Nat.le_of_ble_eq_true rfl) d_CH_init_1 ?_
  exact x_cret C hret d_CH_init_4 (fun _ _ => rfl) hE2
theorem k_KP {l : Launch} (htr : xTr l) {D : va_G} {a : Nat → ClassId} {base : Nat} {g : Nat → Nat} {n : Nat} {E : Nat → va_E} {t : Nat} (E2 : (Nat → Nat) → Nat → va_E) (hE2 : ∀ i, i < n → eqE (E i) (E2 g i)) : Met l y_KP_init [Cond.code y_KP_init b_KP_init 1 none] (rmC 0 0 0) (xPc D xcl (xty a) base g n E [.ref (g t)]) (xQn D xcl base g n n E2) 0 0 (fun q => base ≤ q) := by
  refine x_ctor (by decide) htr (Nat.le_of_ble_eq_true rfl) ?_
  intro p e s m args below meth c C hret hnm
  have C : xC p l e s m meth c b_KP_init 1 "ChunkStore$Kept" args D xcl (xty a) base := C
  refine x_aload_n C d_KP_init_0 rfl rfl ?_
  refine x_obj C (hlink := kw102) kw24 kw25 (by decide) (Nat.le_of_ble_eq_true rfl) d_KP_init_1 ?_
  exact x_cret C hret d_KP_init_4 (fun _ _ => rfl) hE2
theorem k_FE {l : Launch} (htr : xTr l) {D : va_G} {a : Nat → ClassId} {base : Nat} {g : Nat → Nat} {n : Nat} {E : Nat → va_E} {t : Nat} (ht : t < n) (he : E t = .inr (2, [.null, .int 0, .int 0, .double 0])) (E2 : (Nat → Nat) → Nat → va_E) (hE2 : ∀ g', (∀ i, i < n → g' i = g i) → (∀ i, i < n → i ≠ t → eqE (E i) (E2 g' i)) ∧ E2 g' t = .inr (2, [.ref (g' n), .int 0, .int 0, .double 0]) ∧ E2 g' n = .inl (a 0, 3, .inl (fun _ => 0))) : Met l y_FE_init [Cond.code y_FE_init b_FE_init 1 none] (rmC 1 3 0) (xPc D xcl (xty a) base g n E [.ref (g t)]) (xQn D xcl base g n (n + 1) E2) 1 3 (fun q => base ≤ q) := by
  refine x_ctor (by decide) htr (Nat.le_of_ble_eq_true rfl) ?_
  intro p e s m args below meth c C hret hnm
  have C : xC p l e s m meth c b_FE_init 1 "ChunkStore$FileEntry" args D xcl (xty a) base := C
  refine x_aload_n C d_FE_init_0 rfl rfl ?_
  refine x_obj C (hlink := kw32) kw24 kw25 (by decide) (Nat.le_of_ble_eq_true rfl) d_FE_init_1 ?_
  refine x_aload_n C d_FE_init_4 rfl rfl ?_
  refine x_iconst C (v := 3) d_FE_init_5 (by decide) ?_
  refine x_newa C (ty := .int) (a0 := (3, .inl (fun _ => 0))) (by decide) rfl 0 rfl (fun _ h => by cases h) (fun _ => rfl) (by decide) rfl (by decide) (by decide) (by decide) d_FE_init_6 (fun _ => (fun i => if i = n then .inl (a 0, 3, .inl (fun _ => 0)) else E i)) (fun g' hg => ⟨fun i hi => by show eqE _ (if i = n then _ else _); rw [if_neg (by omega)]; exact eqE_rfl _, by show (if n = n then _ else _) = _; rw [if_pos rfl]⟩) ?_
  intro g' hg
  rw [← hg t ht]
  refine x_putF C (ci := 2) (ty := .array .int) (ty0 := t_FE) rfl i_FE 0 (by decide) kw33 (fun _ h => h) (show t < n + 1 by omega) (show (if t = n then _ else E t) = _ by rw [if_neg (by omega)]; exact he) t_FE_ok n_FE rfl hnm rfl rfl rfl rfl (by decide) rfl d_FE_init_8 ?_
  obtain ⟨q1, q2, q3⟩ := hE2 g' hg
  refine x_cret C hret d_FE_init_11 hg (fun i hi => ?_)
  by_cases r : i = t
  · subst r; rw [va_up_self, q2]; exact eqE_rfl _
  · rw [va_up_ne _ _ r]
    show eqE (if i = n then _ else _) _
    by_cases r2 : i = n
    · subst r2; rw [if_pos rfl, q3]; exact eqE_rfl _
    · rw [if_neg r2]; exact q1 i (by omega) r
theorem k_SV {l : Launch} (htr : xTr l) {D : va_G} {a : Nat → ClassId} {base : Nat} {g : Nat → Nat} {n : Nat} {E : Nat → va_E} {t : Nat} (ht : t < n) (he : E t = .inr (4, [.null, .null, .null, .int 0, .int 0])) (E2 : (Nat → Nat) → Nat → va_E) (hE2 : ∀ g', (∀ i, i < n → g' i = g i) → (∀ i, i < n → i ≠ t → eqE (E i) (E2 g' i)) ∧ E2 g' t = .inr (4, [.ref (g' n), .ref (g' (n + 1)), .ref (g' (n + 2)), .int 1, .int 0]) ∧ E2 g' n = .inl (a 0, 30, .inl (fun _ => 0)) ∧ E2 g' (n + 1) = .inl (a 0, 30, .inl (fun _ => 0)) ∧ E2 g' (n + 2) = .inl (a 0, 120, .inl (fun _ => 0))) : Met l y_SV_init [Cond.code y_SV_init b_SV_init 1 none] (rmC 3 180 0) (xPc D xcl (xty a) base g n E [.ref (g t)]) (xQn D xcl base g n (n + 3) E2) 3 180 (fun q => base ≤ q) := by
  refine x_ctor (by decide) htr (Nat.le_of_ble_eq_true rfl) ?_
  intro p e s m args below meth c C hret hnm
  have C : xC p l e s m meth c b_SV_init 1 "ChunkStore$Server" args D xcl (xty a) base := C
  refine x_aload_n C d_SV_init_0 rfl rfl ?_
  refine x_obj C (hlink := kw75) kw24 kw25 (by decide) (Nat.le_of_ble_eq_true rfl) d_SV_init_1 ?_
  refine x_E (E' := (fun i => if i = t then .inr (4, [.null, .null, .null, .int 0, .int 0]) else E i)) (if_self he) ?_
  refine x_aload_n C d_SV_init_4 rfl rfl ?_
  refine x_bipush C (v := 30) d_SV_init_5 (by decide) ?_
  refine x_newa C (ty := .int) (a0 := (30, .inl (fun _ => 0))) (by decide) rfl 0 rfl (fun _ h => by cases h) (fun _ => rfl) (by decide) rfl (by decide) (by show 0 + 1 ≤ 3; decide) (by show 0 + 30 ≤ 180; decide) d_SV_init_7 (fun g1 => (fun i => if i = t then .inr (4, [.null, .null, .null, .int 0, .int 0]) else if i = n then .inl (a 0, 30, .inl (fun _ => 0)) else E i)) (fun g1 hg => ⟨fun i hi => eqE_of (by (repeat' split) <;> first | rfl | omega), by rw [if_neg (by omega), if_pos rfl]⟩) ?_
  intro g1 hg1
  rw [← hg1 t (by omega)]
  refine x_putF C (ci := 4) (ty := .array .int) (ty0 := t_SV) (E' := (fun i => if i = t then .inr (4, [.ref (g1 n), .null, .null, .int 0, .int 0]) else if i = n then .inl (a 0, 30, .inl (fun _ => 0)) else E i)) rfl i_SV 0 (by decide) kw76 (fun _ h => h) (show t < n + 0 + 1 by omega) (if_pos rfl) t_SV_ok n_SV rfl hnm rfl rfl rfl rfl (by simp) (up_if rfl) d_SV_init_9 ?_
  refine x_aload_n C d_SV_init_12 rfl rfl ?_
  refine x_bipush C (v := 30) d_SV_init_13 (by decide) ?_
  refine x_newa C (ty := .int) (a0 := (30, .inl (fun _ => 0))) (by decide) rfl 0 rfl (fun _ h => by cases h) (fun _ => rfl) (by decide) rfl (by decide) (by show 1 + 1 ≤ 3; decide) (by show 30 + 30 ≤ 180; decide) d_SV_init_15 (fun g2 => (fun i => if i = t then .inr (4, [.ref (g2 n), .null, .null, .int 0, .int 0]) else if i = n then .inl (a 0, 30, .inl (fun _ => 0)) else if i = n + 1 then .inl (a 0, 30, .inl (fun _ => 0)) else E i)) (fun g2 hg => ⟨fun i hi => eqE_of (by simp only [hg n (by omega)]; (repeat' split) <;> first | rfl | omega), by rw [if_neg (by omega), if_neg (by omega), if_pos rfl]⟩) ?_
  intro g2 hg2
  rw [← hg2 t (by omega)]
  refine x_putF C (ci := 4) (ty := .array .int) (ty0 := t_SV) (E' := (fun i => if i = t then .inr (4, [.ref (g2 n), .ref (g2 (n + 1)), .null, .int 0, .int 0]) else if i = n then .inl (a 0, 30, .inl (fun _ => 0)) else if i = n + 1 then .inl (a 0, 30, .inl (fun _ => 0)) else E i)) rfl i_SV 1 (by decide) kw78 (fun _ h => h) (show t < n + 1 + 1 by omega) (if_pos rfl) t_SV_ok n_SV rfl hnm rfl rfl rfl rfl (by simp) (up_if rfl) d_SV_init_17 ?_
  refine x_aload_n C d_SV_init_20 rfl rfl ?_
  refine x_bipush C (v := 120) d_SV_init_21 (by decide) ?_
  refine x_newa C (ty := .int) (a0 := (120, .inl (fun _ => 0))) (by decide) rfl 0 rfl (fun _ h => by cases h) (fun _ => rfl) (by decide) rfl (by decide) (by show 2 + 1 ≤ 3; decide) (by show 60 + 120 ≤ 180; decide) d_SV_init_23 (fun g3 => (fun i => if i = t then .inr (4, [.ref (g3 n), .ref (g3 (n + 1)), .null, .int 0, .int 0]) else if i = n then .inl (a 0, 30, .inl (fun _ => 0)) else if i = n + 1 then .inl (a 0, 30, .inl (fun _ => 0)) else if i = n + 2 then .inl (a 0, 120, .inl (fun _ => 0)) else E i)) (fun g3 hg => ⟨fun i hi => eqE_of (by simp only [hg n (by omega), hg (n + 1) (by omega)]; (repeat' split) <;> first | rfl | omega), by rw [if_neg (by omega), if_neg (by omega), if_neg (by omega), if_pos rfl]⟩) ?_
  intro g3 hg3
  rw [← hg3 t (by omega)]
  refine x_putF C (ci := 4) (ty := .array .int) (ty0 := t_SV) (E' := (fun i => if i = t then .inr (4, [.ref (g3 n), .ref (g3 (n + 1)), .ref (g3 (n + 2)), .int 0, .int 0]) else if i = n then .inl (a 0, 30, .inl (fun _ => 0)) else if i = n + 1 then .inl (a 0, 30, .inl (fun _ => 0)) else if i = n + 2 then .inl (a 0, 120, .inl (fun _ => 0)) else E i)) rfl i_SV 2 (by decide) kw80 (fun _ h => h) (show t < n + 2 + 1 by omega) (if_pos rfl) t_SV_ok n_SV rfl hnm rfl rfl rfl rfl (by simp) (up_if rfl) d_SV_init_25 ?_
  refine x_aload_n C d_SV_init_28 rfl rfl ?_
  refine x_iconst C (v := 1) d_SV_init_29 (by decide) ?_
  have ha : ∀ i, i < n → g3 i = g i := fun i hi => by rw [hg3 i (by omega), hg2 i (by omega), hg1 i hi]
  try rw [← ha t ht]
  refine x_put C (ci := 4) (ty := .boolean) (ty0 := t_SV) rfl i_SV 3 (by decide) kw81 (fun _ h => h) (show t < n + 3 by omega) (if_pos rfl) t_SV_ok n_SV rfl rfl rfl rfl (by simp) rfl d_SV_init_30 ?_
  obtain ⟨q1, q2, q3, q4, q5⟩ := hE2 g3 ha
  refine x_cret C hret d_SV_init_33 ha (fun i hi => ?_)
  by_cases r : i = t
  · subst r; rw [va_up_self, q2]; exact eqE_rfl _
  · rw [va_up_ne _ _ r]
    simp only [if_neg r]
    by_cases r1 : i = n
    · subst r1; rw [if_pos rfl, q3]; exact eqE_rfl _
    · rw [if_neg r1]
      by_cases r2 : i = n + 1
      · subst r2; rw [if_pos rfl, q4]; exact eqE_rfl _
      · rw [if_neg r2]
        by_cases r3 : i = n + 2
        · subst r3; rw [if_pos rfl, q5]; exact eqE_rfl _
        · rw [if_neg r3]; exact q1 i (by omega) r
end XK1
