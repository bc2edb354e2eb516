section XK3
theorem eqE_tr {e e1 e2 : va_E} (h : eqE e e1) (h2 : eqE e1 e2) : eqE e e2 := fun D cl q H x => h2 D cl q H (h D cl q H x)
def MZ (a : Nat → ClassId) (k : Nat) : va_E := if k = 144 then .inl (a 0, 8, .inl (fun _ => 0)) else if k = 145 then .inl (a 5, 8, .inr (.inr (.inr (.inl (fun _ => 0))))) else if k = 146 then .inl (a 0, 24, .inl (fun _ => 0)) else if k = 147 then .inl (a 0, 8, .inl (fun _ => 0)) else if k = 148 then .inl (a 0, 30, .inl (fun _ => 0)) else if k = 149 then .inl (a 0, 30, .inl (fun _ => 0)) else if k = 150 then .inl (a 5, 30, .inr (.inr (.inr (.inl (fun _ => 0))))) else if k = 151 then .inl (a 6, 5, .inl (fun _ => 0)) else if k = 152 then .inl (a 0, 150, .inl (fun _ => 0)) else if k = 153 then .inl (a 0, 150, .inl (fun _ => 0)) else if k = 154 then .inl (a 0, 600, .inl (fun _ => 0)) else if k = 155 then .inl (a 0, 72, .inl (fun _ => 0)) else if k = 156 then .inl (a 0, 72, .inl (fun _ => 0)) else if k = 157 then .inl (a 0, 72, .inl (fun _ => 0)) else if k = 158 then .inl (a 5, 72, .inr (.inr (.inr (.inl (fun _ => 0))))) else .inr (0, [])
theorem MZ_144 {a : Nat → ClassId} : MZ a 144 = .inl (a 0, 8, .inl (fun _ => 0)) := by unfold MZ; simp only [Nat.reduceEqDiff, ↓reduceIte]
theorem MZ_145 {a : Nat → ClassId} : MZ a 145 = .inl (a 5, 8, .inr (.inr (.inr (.inl (fun _ => 0))))) := by unfold MZ; simp only [Nat.reduceEqDiff, ↓reduceIte]
theorem MZ_146 {a : Nat → ClassId} : MZ a 146 = .inl (a 0, 24, .inl (fun _ => 0)) := by unfold MZ; simp only [Nat.reduceEqDiff, ↓reduceIte]
theorem MZ_147 {a : Nat → ClassId} : MZ a 147 = .inl (a 0, 8, .inl (fun _ => 0)) := by unfold MZ; simp only [Nat.reduceEqDiff, ↓reduceIte]
theorem MZ_148 {a : Nat → ClassId} : MZ a 148 = .inl (a 0, 30, .inl (fun _ => 0)) := by unfold MZ; simp only [Nat.reduceEqDiff, ↓reduceIte]
theorem MZ_149 {a : Nat → ClassId} : MZ a 149 = .inl (a 0, 30, .inl (fun _ => 0)) := by unfold MZ; simp only [Nat.reduceEqDiff, ↓reduceIte]
theorem MZ_150 {a : Nat → ClassId} : MZ a 150 = .inl (a 5, 30, .inr (.inr (.inr (.inl (fun _ => 0))))) := by unfold MZ; simp only [Nat.reduceEqDiff, ↓reduceIte]
theorem MZ_151 {a : Nat → ClassId} : MZ a 151 = .inl (a 6, 5, .inl (fun _ => 0)) := by unfold MZ; simp only [Nat.reduceEqDiff, ↓reduceIte]
theorem MZ_152 {a : Nat → ClassId} : MZ a 152 = .inl (a 0, 150, .inl (fun _ => 0)) := by unfold MZ; simp only [Nat.reduceEqDiff, ↓reduceIte]
theorem MZ_153 {a : Nat → ClassId} : MZ a 153 = .inl (a 0, 150, .inl (fun _ => 0)) := by unfold MZ; simp only [Nat.reduceEqDiff, ↓reduceIte]
theorem MZ_154 {a : Nat → ClassId} : MZ a 154 = .inl (a 0, 600, .inl (fun _ => 0)) := by unfold MZ; simp only [Nat.reduceEqDiff, ↓reduceIte]
theorem MZ_155 {a : Nat → ClassId} : MZ a 155 = .inl (a 0, 72, .inl (fun _ => 0)) := by unfold MZ; simp only [Nat.reduceEqDiff, ↓reduceIte]
theorem MZ_156 {a : Nat → ClassId} : MZ a 156 = .inl (a 0, 72, .inl (fun _ => 0)) := by unfold MZ; simp only [Nat.reduceEqDiff, ↓reduceIte]
theorem MZ_157 {a : Nat → ClassId} : MZ a 157 = .inl (a 0, 72, .inl (fun _ => 0)) := by unfold MZ; simp only [Nat.reduceEqDiff, ↓reduceIte]
theorem MZ_158 {a : Nat → ClassId} : MZ a 158 = .inl (a 5, 72, .inr (.inr (.inr (.inl (fun _ => 0))))) := by unfold MZ; simp only [Nat.reduceEqDiff, ↓reduceIte]
def KM (a : Nat → ClassId) (E : Nat → va_E) (fs : List Value) (A B : va_E) (i : Nat) : va_E := if i < 143 then E i else if i = 143 then .inr (5, fs) else if i = 150 then A else if i = 158 then B else MZ a i
theorem KM_143 {a : Nat → ClassId} {E : Nat → va_E} {fs : List Value} {A B : va_E} : KM a E fs A B 143 = .inr (5, fs) := by unfold KM; rw [if_neg (by decide), if_pos rfl]
theorem KM_150 {a : Nat → ClassId} {E : Nat → va_E} {fs : List Value} {A B : va_E} : KM a E fs A B 150 = A := by unfold KM; rw [if_neg (by decide), if_neg (by decide), if_pos rfl]
theorem KM_158 {a : Nat → ClassId} {E : Nat → va_E} {fs : List Value} {A B : va_E} : KM a E fs A B 158 = B := by unfold KM; rw [if_neg (by decide), if_neg (by decide), if_neg (by decide), if_pos rfl]
theorem KM_z {a : Nat → ClassId} {E : Nat → va_E} {fs : List Value} {A B : va_E} {k : Nat} (h1 : ¬ k < 143) (h2 : ¬ k = 143) (h3 : ¬ k = 150) (h4 : ¬ k = 158) : KM a E fs A B k = MZ a k := by unfold KM; rw [if_neg h1, if_neg h2, if_neg h3, if_neg h4]
theorem KM_put {a : Nat → ClassId} {E : Nat → va_E} {fs fs' : List Value} {A B : va_E} : va_up (KM a E fs A B) 143 (.inr (5, fs')) = KM a E fs' A B := by
  funext k
  by_cases q : k = 143
  · rw [q, va_up_self, KM_143]
  · rw [va_up_ne _ _ q]; unfold KM; rw [if_neg q, if_neg q]
theorem KM_A {a : Nat → ClassId} {E : Nat → va_E} {fs : List Value} {A A' B : va_E} : va_up (KM a E fs A B) 150 A' = KM a E fs A' B := by
  funext k
  by_cases q : k = 150
  · rw [q, va_up_self, KM_150]
  · rw [va_up_ne _ _ q]; unfold KM; rw [if_neg q, if_neg q]
theorem KM_B {a : Nat → ClassId} {E : Nat → va_E} {fs : List Value} {A B B' : va_E} : va_up (KM a E fs A B) 158 B' = KM a E fs A B' := by
  funext k
  by_cases q : k = 158
  · rw [q, va_up_self, KM_158]
  · rw [va_up_ne _ _ q]; unfold KM; rw [if_neg q, if_neg q]
def DN (a : Nat → ClassId) (N i : Nat) : va_E := .inl (a 5, N, .inr (.inr (.inr (.inl (fun j => if j < i then 13830554455654793216 else 0)))))
theorem DN_up {a : Nat → ClassId} {N i : Nat} : (.inl (a 5, N, .inr (.inr (.inr (.inl (vf_upd (fun j => if j < i then 13830554455654793216 else 0) i 13830554455654793216))))) : va_E) = DN a N (i + 1) := by
  unfold DN
  congr 1
  congr 1
  congr 1
  congr 1
  congr 1
  congr 1
  congr 1
  funext j
  unfold vf_upd
  grind
theorem DN_0 {a : Nat → ClassId} {N : Nat} : DN a N 0 = .inl (a 5, N, .inr (.inr (.inr (.inl (fun _ => 0))))) := by unfold DN; simp only [Nat.not_lt_zero, ↓reduceIte]
theorem MC_z {a : Nat → ClassId} {g : Nat → Nat} {k : Nat} (h1 : 143 < k) (h2 : k < 159) (h3 : ¬ k = 150) (h4 : ¬ k = 158) : MZ a k = MC a g σ0 w0 0 k := by
  have h : k = 144 ∨ k = 145 ∨ k = 146 ∨ k = 147 ∨ k = 148 ∨ k = 149 ∨ k = 151 ∨ k = 152 ∨ k = 153 ∨ k = 154 ∨ k = 155 ∨ k = 156 ∨ k = 157 := by omega
  rcases h with rfl | rfl | rfl | rfl | rfl | rfl | rfl | rfl | rfl | rfl | rfl | rfl | rfl <;> simp [MZ, MC, mm_state, mm_hidden, mm_row, mm_length, mm_version, mm_holders, mm_down, mm_replica, mm_used, mm_word, mm_keptChunk, mm_keptVersion, mm_keptHolders, σ0, w0, zi, dT_0, b01]
theorem MC_143 {a : Nat → ClassId} {g : Nat → Nat} : MC a g σ0 w0 0 143 = .inr (5, [.int 0, .double 0, .ref (g 144), .ref (g 145), .ref (g 146), .ref (g 147), .int 0, .ref (g 148), .ref (g 149), .ref (g 150), .ref (g 151), .ref (g 152), .ref (g 153), .ref (g 154), .ref (g 155), .ref (g 156), .ref (g 157), .ref (g 158)]) := by simp [MC, mm_obj, σ0, zi, dT_0]
theorem MC_150 {a : Nat → ClassId} {g : Nat → Nat} : eqE (DN a 30 30) (MC a g σ0 w0 0 150) := by
  have h : MC a g σ0 w0 0 150 = .inl (a 5, 30, .inr (.inr (.inr (.inl (fun j => 13830554455654793216))))) := by simp [MC, mm_lease, σ0, eT]
  rw [h]
  exact eqE_dbl (fun j hj => by rw [if_pos hj])
theorem MC_158 {a : Nat → ClassId} {g : Nat → Nat} : eqE (DN a 72 72) (MC a g σ0 w0 0 158) := by
  have h : MC a g σ0 w0 0 158 = .inl (a 5, 72, .inr (.inr (.inr (.inl (fun j => 13830554455654793216))))) := by simp [MC, mm_keptEnd, σ0, eT]
  rw [h]
  exact eqE_dbl (fun j hj => by rw [if_pos hj])
theorem k_MD {l : Launch} (htr : xTr l) {D : va_G} {a : Nat → ClassId} {base : Nat} {g : Nat → Nat} {E : Nat → va_E} (he : E 143 = .inr (5, [.int 0, .double 0, .null, .null, .null, .null, .int 0, .null, .null, .null, .null, .null, .null, .null, .null, .null, .null, .null])) (E2 : (Nat → Nat) → Nat → va_E) (hE2 : ∀ g', (∀ i, i < 144 → g' i = g i) → (∀ i, i < 143 → eqE (E i) (E2 g' i)) ∧ ∀ i, 143 ≤ i → i < 159 → E2 g' i = MC a g' σ0 w0 0 i) : Met l y_MD_init [Cond.code y_MD_init b_MD_init 2 none] (rmC 15 1331 1) (xPc D xcl (xty a) base g 144 E [.ref (g 143)]) (xQn D xcl base g 144 159 E2) 15 1331 (fun q => base ≤ q) := by
  refine x_ctor (by decide) htr (Nat.le_of_ble_eq_true rfl) ?_
  intro p e s m args below meth c C hret hnm
  have C : xC p l e s m meth c b_MD_init 2 "ChunkStoreModel" args D xcl (xty a) base := C
  refine x_aload_n C d_MD_init_0 rfl rfl ?_
  refine x_obj C (hlink := kw565) kw24 kw25 (by decide) (Nat.le_of_ble_eq_true rfl) d_MD_init_1 ?_
  refine x_Eq (E' := KM a E [.int 0, .double 0, .null, .null, .null, .null, .int 0, .null, .null, .null, .null, .null, .null, .null, .null, .null, .null, .null] (DN a 30 0) (DN a 72 0)) (fun i hi => by
    by_cases r : i = 143
    · rw [r, KM_143, he]; exact eqE_rfl _
    · exact eqE_of (by unfold KM; rw [if_pos (by omega)])) ?_
  refine x_aload_n C d_MD_init_4 rfl rfl ?_
  refine x_bipush C (v := nI 8) d_MD_init_5 (by decide) ?_
  refine x_newa C (ty := .int) (a0 := (8, .inl (fun _ => 0))) (by decide) rfl 0 rfl (fun _ h => by cases h) (fun _ => rfl) (by decide) rfl (by decide) (by show 0 + 1 ≤ 15; decide) (by show 0 + 8 ≤ 1331; decide) d_MD_init_7 (fun g' => KM a E [.int 0, .double 0, .null, .null, .null, .null, .int 0, .null, .null, .null, .null, .null, .null, .null, .null, .null, .null, .null] (DN a 30 0) (DN a 72 0)) (fun g' hg => ⟨fun i hi => by exact eqE_rfl _, (KM_z (by decide) (by decide) (by decide) (by decide)).trans MZ_144⟩) ?_
  intro ga0 hg0
  have hr0 : ga0 143 = g 143 := by rw [hg0 143 (by omega)]
  rw [← hg0 143 (by omega)]
  refine x_putF C (ci := 5) (ty := .array .int) (ty0 := t_MD) (E' := KM a E [.int 0, .double 0, .ref (ga0 144), .null, .null, .null, .int 0, .null, .null, .null, .null, .null, .null, .null, .null, .null, .null, .null] (DN a 30 0) (DN a 72 0)) rfl i_MD 2 (by decide) kw569 (fun _ h => h) (i := 143) (by omega) KM_143 t_MD_ok n_MD rfl hnm rfl rfl rfl rfl (by simp) KM_put d_MD_init_9 ?_
  refine x_aload_n C d_MD_init_12 rfl rfl ?_
  refine x_bipush C (v := nI 8) d_MD_init_13 (by decide) ?_
  refine x_newa C (ty := .double) (a0 := (8, .inr (.inr (.inr (.inl (fun _ => 0)))))) (by decide) rfl 5 rfl (fun _ h => by cases h) (fun _ => rfl) (by decide) rfl (by decide) (by show 1 + 1 ≤ 15; decide) (by show 8 + 8 ≤ 1331; decide) d_MD_init_15 (fun g' => KM a E [.int 0, .double 0, .ref (g' 144), .null, .null, .null, .int 0, .null, .null, .null, .null, .null, .null, .null, .null, .null, .null, .null] (DN a 30 0) (DN a 72 0)) (fun g' hg => ⟨fun i hi => by rw [show ([.int 0, .double 0, .ref (ga0 144), .null, .null, .null, .int 0, .null, .null, .null, .null, .null, .null, .null, .null, .null, .null, .null] : List Value) = [.int 0, .double 0, .ref (g' 144), .null, .null, .null, .int 0, .null, .null, .null, .null, .null, .null, .null, .null, .null, .null, .null] by rw [hg 144 (by omega)]]; exact eqE_rfl _, (KM_z (by decide) (by decide) (by decide) (by decide)).trans MZ_145⟩) ?_
  intro ga1 hg1
  have hr1 : ga1 143 = g 143 := by rw [hg1 143 (by omega)]; exact hr0
  rw [← hg1 143 (by omega)]
  refine x_putF C (ci := 5) (ty := .array .double) (ty0 := t_MD) (E' := KM a E [.int 0, .double 0, .ref (ga1 144), .ref (ga1 145), .null, .null, .int 0, .null, .null, .null, .null, .null, .null, .null, .null, .null, .null, .null] (DN a 30 0) (DN a 72 0)) rfl i_MD 3 (by decide) kw570 (fun _ h => h) (i := 143) (by omega) KM_143 t_MD_ok n_MD rfl hnm rfl rfl rfl rfl (by simp) KM_put d_MD_init_17 ?_
  refine x_aload_n C d_MD_init_20 rfl rfl ?_
  refine x_bipush C (v := nI 24) d_MD_init_21 (by decide) ?_
  refine x_newa C (ty := .int) (a0 := (24, .inl (fun _ => 0))) (by decide) rfl 0 rfl (fun _ h => by cases h) (fun _ => rfl) (by decide) rfl (by decide) (by show 2 + 1 ≤ 15; decide) (by show 16 + 24 ≤ 1331; decide) d_MD_init_23 (fun g' => KM a E [.int 0, .double 0, .ref (g' 144), .ref (g' 145), .null, .null, .int 0, .null, .null, .null, .null, .null, .null, .null, .null, .null, .null, .null] (DN a 30 0) (DN a 72 0)) (fun g' hg => ⟨fun i hi => by rw [show ([.int 0, .double 0, .ref (ga1 144), .ref (ga1 145), .null, .null, .int 0, .null, .null, .null, .null, .null, .null, .null, .null, .null, .null, .null] : List Value) = [.int 0, .double 0, .ref (g' 144), .ref (g' 145), .null, .null, .int 0, .null, .null, .null, .null, .null, .null, .null, .null, .null, .null, .null] by rw [hg 144 (by omega), hg 145 (by omega)]]; exact eqE_rfl _, (KM_z (by decide) (by decide) (by decide) (by decide)).trans MZ_146⟩) ?_
  intro ga2 hg2
  have hr2 : ga2 143 = g 143 := by rw [hg2 143 (by omega)]; exact hr1
  rw [← hg2 143 (by omega)]
  refine x_putF C (ci := 5) (ty := .array .int) (ty0 := t_MD) (E' := KM a E [.int 0, .double 0, .ref (ga2 144), .ref (ga2 145), .ref (ga2 146), .null, .int 0, .null, .null, .null, .null, .null, .null, .null, .null, .null, .null, .null] (DN a 30 0) (DN a 72 0)) rfl i_MD 4 (by decide) kw571 (fun _ h => h) (i := 143) (by omega) KM_143 t_MD_ok n_MD rfl hnm rfl rfl rfl rfl (by simp) KM_put d_MD_init_25 ?_
  refine x_aload_n C d_MD_init_28 rfl rfl ?_
  refine x_bipush C (v := nI 8) d_MD_init_29 (by decide) ?_
  refine x_newa C (ty := .int) (a0 := (8, .inl (fun _ => 0))) (by decide) rfl 0 rfl (fun _ h => by cases h) (fun _ => rfl) (by decide) rfl (by decide) (by show 3 + 1 ≤ 15; decide) (by show 40 + 8 ≤ 1331; decide) d_MD_init_31 (fun g' => KM a E [.int 0, .double 0, .ref (g' 144), .ref (g' 145), .ref (g' 146), .null, .int 0, .null, .null, .null, .null, .null, .null, .null, .null, .null, .null, .null] (DN a 30 0) (DN a 72 0)) (fun g' hg => ⟨fun i hi => by rw [show ([.int 0, .double 0, .ref (ga2 144), .ref (ga2 145), .ref (ga2 146), .null, .int 0, .null, .null, .null, .null, .null, .null, .null, .null, .null, .null, .null] : List Value) = [.int 0, .double 0, .ref (g' 144), .ref (g' 145), .ref (g' 146), .null, .int 0, .null, .null, .null, .null, .null, .null, .null, .null, .null, .null, .null] by rw [hg 144 (by omega), hg 145 (by omega), hg 146 (by omega)]]; exact eqE_rfl _, (KM_z (by decide) (by decide) (by decide) (by decide)).trans MZ_147⟩) ?_
  intro ga3 hg3
  have hr3 : ga3 143 = g 143 := by rw [hg3 143 (by omega)]; exact hr2
  rw [← hg3 143 (by omega)]
  refine x_putF C (ci := 5) (ty := .array .int) (ty0 := t_MD) (E' := KM a E [.int 0, .double 0, .ref (ga3 144), .ref (ga3 145), .ref (ga3 146), .ref (ga3 147), .int 0, .null, .null, .null, .null, .null, .null, .null, .null, .null, .null, .null] (DN a 30 0) (DN a 72 0)) rfl i_MD 5 (by decide) kw572 (fun _ h => h) (i := 143) (by omega) KM_143 t_MD_ok n_MD rfl hnm rfl rfl rfl rfl (by simp) KM_put d_MD_init_33 ?_
  refine x_aload_n C d_MD_init_36 rfl rfl ?_
  refine x_bipush C (v := nI 30) d_MD_init_37 (by decide) ?_
  refine x_newa C (ty := .int) (a0 := (30, .inl (fun _ => 0))) (by decide) rfl 0 rfl (fun _ h => by cases h) (fun _ => rfl) (by decide) rfl (by decide) (by show 4 + 1 ≤ 15; decide) (by show 48 + 30 ≤ 1331; decide) d_MD_init_39 (fun g' => KM a E [.int 0, .double 0, .ref (g' 144), .ref (g' 145), .ref (g' 146), .ref (g' 147), .int 0, .null, .null, .null, .null, .null, .null, .null, .null, .null, .null, .null] (DN a 30 0) (DN a 72 0)) (fun g' hg => ⟨fun i hi => by rw [show ([.int 0, .double 0, .ref (ga3 144), .ref (ga3 145), .ref (ga3 146), .ref (ga3 147), .int 0, .null, .null, .null, .null, .null, .null, .null, .null, .null, .null, .null] : List Value) = [.int 0, .double 0, .ref (g' 144), .ref (g' 145), .ref (g' 146), .ref (g' 147), .int 0, .null, .null, .null, .null, .null, .null, .null, .null, .null, .null, .null] by rw [hg 144 (by omega), hg 145 (by omega), hg 146 (by omega), hg 147 (by omega)]]; exact eqE_rfl _, (KM_z (by decide) (by decide) (by decide) (by decide)).trans MZ_148⟩) ?_
  intro ga4 hg4
  have hr4 : ga4 143 = g 143 := by rw [hg4 143 (by omega)]; exact hr3
  rw [← hg4 143 (by omega)]
  refine x_putF C (ci := 5) (ty := .array .int) (ty0 := t_MD) (E' := KM a E [.int 0, .double 0, .ref (ga4 144), .ref (ga4 145), .ref (ga4 146), .ref (ga4 147), .int 0, .ref (ga4 148), .null, .null, .null, .null, .null, .null, .null, .null, .null, .null] (DN a 30 0) (DN a 72 0)) rfl i_MD 7 (by decide) kw574 (fun _ h => h) (i := 143) (by omega) KM_143 t_MD_ok n_MD rfl hnm rfl rfl rfl rfl (by simp) KM_put d_MD_init_41 ?_
  refine x_aload_n C d_MD_init_44 rfl rfl ?_
  refine x_bipush C (v := nI 30) d_MD_init_45 (by decide) ?_
  refine x_newa C (ty := .int) (a0 := (30, .inl (fun _ => 0))) (by decide) rfl 0 rfl (fun _ h => by cases h) (fun _ => rfl) (by decide) rfl (by decide) (by show 5 + 1 ≤ 15; decide) (by show 78 + 30 ≤ 1331; decide) d_MD_init_47 (fun g' => KM a E [.int 0, .double 0, .ref (g' 144), .ref (g' 145), .ref (g' 146), .ref (g' 147), .int 0, .ref (g' 148), .null, .null, .null, .null, .null, .null, .null, .null, .null, .null] (DN a 30 0) (DN a 72 0)) (fun g' hg => ⟨fun i hi => by rw [show ([.int 0, .double 0, .ref (ga4 144), .ref (ga4 145), .ref (ga4 146), .ref (ga4 147), .int 0, .ref (ga4 148), .null, .null, .null, .null, .null, .null, .null, .null, .null, .null] : List Value) = [.int 0, .double 0, .ref (g' 144), .ref (g' 145), .ref (g' 146), .ref (g' 147), .int 0, .ref (g' 148), .null, .null, .null, .null, .null, .null, .null, .null, .null, .null] by rw [hg 144 (by omega), hg 145 (by omega), hg 146 (by omega), hg 147 (by omega), hg 148 (by omega)]]; exact eqE_rfl _, (KM_z (by decide) (by decide) (by decide) (by decide)).trans MZ_149⟩) ?_
  intro ga5 hg5
  have hr5 : ga5 143 = g 143 := by rw [hg5 143 (by omega)]; exact hr4
  rw [← hg5 143 (by omega)]
  refine x_putF C (ci := 5) (ty := .array .int) (ty0 := t_MD) (E' := KM a E [.int 0, .double 0, .ref (ga5 144), .ref (ga5 145), .ref (ga5 146), .ref (ga5 147), .int 0, .ref (ga5 148), .ref (ga5 149), .null, .null, .null, .null, .null, .null, .null, .null, .null] (DN a 30 0) (DN a 72 0)) rfl i_MD 8 (by decide) kw575 (fun _ h => h) (i := 143) (by omega) KM_143 t_MD_ok n_MD rfl hnm rfl rfl rfl rfl (by simp) KM_put d_MD_init_49 ?_
  refine x_aload_n C d_MD_init_52 rfl rfl ?_
  refine x_bipush C (v := nI 30) d_MD_init_53 (by decide) ?_
  refine x_newa C (ty := .double) (a0 := (30, .inr (.inr (.inr (.inl (fun _ => 0)))))) (by decide) rfl 5 rfl (fun _ h => by cases h) (fun _ => rfl) (by decide) rfl (by decide) (by show 6 + 1 ≤ 15; decide) (by show 108 + 30 ≤ 1331; decide) d_MD_init_55 (fun g' => KM a E [.int 0, .double 0, .ref (g' 144), .ref (g' 145), .ref (g' 146), .ref (g' 147), .int 0, .ref (g' 148), .ref (g' 149), .null, .null, .null, .null, .null, .null, .null, .null, .null] (DN a 30 0) (DN a 72 0)) (fun g' hg => ⟨fun i hi => by rw [show ([.int 0, .double 0, .ref (ga5 144), .ref (ga5 145), .ref (ga5 146), .ref (ga5 147), .int 0, .ref (ga5 148), .ref (ga5 149), .null, .null, .null, .null, .null, .null, .null, .null, .null] : List Value) = [.int 0, .double 0, .ref (g' 144), .ref (g' 145), .ref (g' 146), .ref (g' 147), .int 0, .ref (g' 148), .ref (g' 149), .null, .null, .null, .null, .null, .null, .null, .null, .null] by rw [hg 144 (by omega), hg 145 (by omega), hg 146 (by omega), hg 147 (by omega), hg 148 (by omega), hg 149 (by omega)]]; exact eqE_rfl _, KM_150.trans DN_0⟩) ?_
  intro ga6 hg6
  have hr6 : ga6 143 = g 143 := by rw [hg6 143 (by omega)]; exact hr5
  rw [← hg6 143 (by omega)]
  refine x_putF C (ci := 5) (ty := .array .double) (ty0 := t_MD) (E' := KM a E [.int 0, .double 0, .ref (ga6 144), .ref (ga6 145), .ref (ga6 146), .ref (ga6 147), .int 0, .ref (ga6 148), .ref (ga6 149), .ref (ga6 150), .null, .null, .null, .null, .null, .null, .null, .null] (DN a 30 0) (DN a 72 0)) rfl i_MD 9 (by decide) kw576 (fun _ h => h) (i := 143) (by omega) KM_143 t_MD_ok n_MD rfl hnm rfl rfl rfl rfl (by simp) KM_put d_MD_init_57 ?_
  refine x_aload_n C d_MD_init_60 rfl rfl ?_
  refine x_iconst C (v := nI 5) d_MD_init_61 (by decide) ?_
  refine x_newa C (ty := .boolean) (a0 := (5, .inl (fun _ => 0))) (by decide) rfl 6 rfl (fun _ h => by cases h) (fun _ => rfl) (by decide) rfl (by decide) (by show 7 + 1 ≤ 15; decide) (by show 138 + 5 ≤ 1331; decide) d_MD_init_62 (fun g' => KM a E [.int 0, .double 0, .ref (g' 144), .ref (g' 145), .ref (g' 146), .ref (g' 147), .int 0, .ref (g' 148), .ref (g' 149), .ref (g' 150), .null, .null, .null, .null, .null, .null, .null, .null] (DN a 30 0) (DN a 72 0)) (fun g' hg => ⟨fun i hi => by rw [show ([.int 0, .double 0, .ref (ga6 144), .ref (ga6 145), .ref (ga6 146), .ref (ga6 147), .int 0, .ref (ga6 148), .ref (ga6 149), .ref (ga6 150), .null, .null, .null, .null, .null, .null, .null, .null] : List Value) = [.int 0, .double 0, .ref (g' 144), .ref (g' 145), .ref (g' 146), .ref (g' 147), .int 0, .ref (g' 148), .ref (g' 149), .ref (g' 150), .null, .null, .null, .null, .null, .null, .null, .null] by rw [hg 144 (by omega), hg 145 (by omega), hg 146 (by omega), hg 147 (by omega), hg 148 (by omega), hg 149 (by omega), hg 150 (by omega)]]; exact eqE_rfl _, (KM_z (by decide) (by decide) (by decide) (by decide)).trans MZ_151⟩) ?_
  intro ga7 hg7
  have hr7 : ga7 143 = g 143 := by rw [hg7 143 (by omega)]; exact hr6
  rw [← hg7 143 (by omega)]
  refine x_putF C (ci := 5) (ty := .array .boolean) (ty0 := t_MD) (E' := KM a E [.int 0, .double 0, .ref (ga7 144), .ref (ga7 145), .ref (ga7 146), .ref (ga7 147), .int 0, .ref (ga7 148), .ref (ga7 149), .ref (ga7 150), .ref (ga7 151), .null, .null, .null, .null, .null, .null, .null] (DN a 30 0) (DN a 72 0)) rfl i_MD 10 (by decide) kw577 (fun _ h => h) (i := 143) (by omega) KM_143 t_MD_ok n_MD rfl hnm rfl rfl rfl rfl (by simp) KM_put d_MD_init_64 ?_
  refine x_aload_n C d_MD_init_67 rfl rfl ?_
  refine x_sipush C (v := nI 150) d_MD_init_68 (by decide) ?_
  refine x_newa C (ty := .int) (a0 := (150, .inl (fun _ => 0))) (by decide) rfl 0 rfl (fun _ h => by cases h) (fun _ => rfl) (by decide) rfl (by decide) (by show 8 + 1 ≤ 15; decide) (by show 143 + 150 ≤ 1331; decide) d_MD_init_71 (fun g' => KM a E [.int 0, .double 0, .ref (g' 144), .ref (g' 145), .ref (g' 146), .ref (g' 147), .int 0, .ref (g' 148), .ref (g' 149), .ref (g' 150), .ref (g' 151), .null, .null, .null, .null, .null, .null, .null] (DN a 30 0) (DN a 72 0)) (fun g' hg => ⟨fun i hi => by rw [show ([.int 0, .double 0, .ref (ga7 144), .ref (ga7 145), .ref (ga7 146), .ref (ga7 147), .int 0, .ref (ga7 148), .ref (ga7 149), .ref (ga7 150), .ref (ga7 151), .null, .null, .null, .null, .null, .null, .null] : List Value) = [.int 0, .double 0, .ref (g' 144), .ref (g' 145), .ref (g' 146), .ref (g' 147), .int 0, .ref (g' 148), .ref (g' 149), .ref (g' 150), .ref (g' 151), .null, .null, .null, .null, .null, .null, .null] by rw [hg 144 (by omega), hg 145 (by omega), hg 146 (by omega), hg 147 (by omega), hg 148 (by omega), hg 149 (by omega), hg 150 (by omega), hg 151 (by omega)]]; exact eqE_rfl _, (KM_z (by decide) (by decide) (by decide) (by decide)).trans MZ_152⟩) ?_
  intro ga8 hg8
  have hr8 : ga8 143 = g 143 := by rw [hg8 143 (by omega)]; exact hr7
  rw [← hg8 143 (by omega)]
  refine x_putF C (ci := 5) (ty := .array .int) (ty0 := t_MD) (E' := KM a E [.int 0, .double 0, .ref (ga8 144), .ref (ga8 145), .ref (ga8 146), .ref (ga8 147), .int 0, .ref (ga8 148), .ref (ga8 149), .ref (ga8 150), .ref (ga8 151), .ref (ga8 152), .null, .null, .null, .null, .null, .null] (DN a 30 0) (DN a 72 0)) rfl i_MD 11 (by decide) kw578 (fun _ h => h) (i := 143) (by omega) KM_143 t_MD_ok n_MD rfl hnm rfl rfl rfl rfl (by simp) KM_put d_MD_init_73 ?_
  refine x_aload_n C d_MD_init_76 rfl rfl ?_
  refine x_sipush C (v := nI 150) d_MD_init_77 (by decide) ?_
  refine x_newa C (ty := .int) (a0 := (150, .inl (fun _ => 0))) (by decide) rfl 0 rfl (fun _ h => by cases h) (fun _ => rfl) (by decide) rfl (by decide) (by show 9 + 1 ≤ 15; decide) (by show 293 + 150 ≤ 1331; decide) d_MD_init_80 (fun g' => KM a E [.int 0, .double 0, .ref (g' 144), .ref (g' 145), .ref (g' 146), .ref (g' 147), .int 0, .ref (g' 148), .ref (g' 149), .ref (g' 150), .ref (g' 151), .ref (g' 152), .null, .null, .null, .null, .null, .null] (DN a 30 0) (DN a 72 0)) (fun g' hg => ⟨fun i hi => by rw [show ([.int 0, .double 0, .ref (ga8 144), .ref (ga8 145), .ref (ga8 146), .ref (ga8 147), .int 0, .ref (ga8 148), .ref (ga8 149), .ref (ga8 150), .ref (ga8 151), .ref (ga8 152), .null, .null, .null, .null, .null, .null] : List Value) = [.int 0, .double 0, .ref (g' 144), .ref (g' 145), .ref (g' 146), .ref (g' 147), .int 0, .ref (g' 148), .ref (g' 149), .ref (g' 150), .ref (g' 151), .ref (g' 152), .null, .null, .null, .null, .null, .null] by rw [hg 144 (by omega), hg 145 (by omega), hg 146 (by omega), hg 147 (by omega), hg 148 (by omega), hg 149 (by omega), hg 150 (by omega), hg 151 (by omega), hg 152 (by omega)]]; exact eqE_rfl _, (KM_z (by decide) (by decide) (by decide) (by decide)).trans MZ_153⟩) ?_
  intro ga9 hg9
  have hr9 : ga9 143 = g 143 := by rw [hg9 143 (by omega)]; exact hr8
  rw [← hg9 143 (by omega)]
  refine x_putF C (ci := 5) (ty := .array .int) (ty0 := t_MD) (E' := KM a E [.int 0, .double 0, .ref (ga9 144), .ref (ga9 145), .ref (ga9 146), .ref (ga9 147), .int 0, .ref (ga9 148), .ref (ga9 149), .ref (ga9 150), .ref (ga9 151), .ref (ga9 152), .ref (ga9 153), .null, .null, .null, .null, .null] (DN a 30 0) (DN a 72 0)) rfl i_MD 12 (by decide) kw579 (fun _ h => h) (i := 143) (by omega) KM_143 t_MD_ok n_MD rfl hnm rfl rfl rfl rfl (by simp) KM_put d_MD_init_82 ?_
  refine x_aload_n C d_MD_init_85 rfl rfl ?_
  refine x_sipush C (v := nI 600) d_MD_init_86 (by decide) ?_
  refine x_newa C (ty := .int) (a0 := (600, .inl (fun _ => 0))) (by decide) rfl 0 rfl (fun _ h => by cases h) (fun _ => rfl) (by decide) rfl (by decide) (by show 10 + 1 ≤ 15; decide) (by show 443 + 600 ≤ 1331; decide) d_MD_init_89 (fun g' => KM a E [.int 0, .double 0, .ref (g' 144), .ref (g' 145), .ref (g' 146), .ref (g' 147), .int 0, .ref (g' 148), .ref (g' 149), .ref (g' 150), .ref (g' 151), .ref (g' 152), .ref (g' 153), .null, .null, .null, .null, .null] (DN a 30 0) (DN a 72 0)) (fun g' hg => ⟨fun i hi => by rw [show ([.int 0, .double 0, .ref (ga9 144), .ref (ga9 145), .ref (ga9 146), .ref (ga9 147), .int 0, .ref (ga9 148), .ref (ga9 149), .ref (ga9 150), .ref (ga9 151), .ref (ga9 152), .ref (ga9 153), .null, .null, .null, .null, .null] : List Value) = [.int 0, .double 0, .ref (g' 144), .ref (g' 145), .ref (g' 146), .ref (g' 147), .int 0, .ref (g' 148), .ref (g' 149), .ref (g' 150), .ref (g' 151), .ref (g' 152), .ref (g' 153), .null, .null, .null, .null, .null] by rw [hg 144 (by omega), hg 145 (by omega), hg 146 (by omega), hg 147 (by omega), hg 148 (by omega), hg 149 (by omega), hg 150 (by omega), hg 151 (by omega), hg 152 (by omega), hg 153 (by omega)]]; exact eqE_rfl _, (KM_z (by decide) (by decide) (by decide) (by decide)).trans MZ_154⟩) ?_
  intro ga10 hg10
  have hr10 : ga10 143 = g 143 := by rw [hg10 143 (by omega)]; exact hr9
  rw [← hg10 143 (by omega)]
  refine x_putF C (ci := 5) (ty := .array .int) (ty0 := t_MD) (E' := KM a E [.int 0, .double 0, .ref (ga10 144), .ref (ga10 145), .ref (ga10 146), .ref (ga10 147), .int 0, .ref (ga10 148), .ref (ga10 149), .ref (ga10 150), .ref (ga10 151), .ref (ga10 152), .ref (ga10 153), .ref (ga10 154), .null, .null, .null, .null] (DN a 30 0) (DN a 72 0)) rfl i_MD 13 (by decide) kw580 (fun _ h => h) (i := 143) (by omega) KM_143 t_MD_ok n_MD rfl hnm rfl rfl rfl rfl (by simp) KM_put d_MD_init_91 ?_
  refine x_aload_n C d_MD_init_94 rfl rfl ?_
  refine x_bipush C (v := nI 72) d_MD_init_95 (by decide) ?_
  refine x_newa C (ty := .int) (a0 := (72, .inl (fun _ => 0))) (by decide) rfl 0 rfl (fun _ h => by cases h) (fun _ => rfl) (by decide) rfl (by decide) (by show 11 + 1 ≤ 15; decide) (by show 1043 + 72 ≤ 1331; decide) d_MD_init_97 (fun g' => KM a E [.int 0, .double 0, .ref (g' 144), .ref (g' 145), .ref (g' 146), .ref (g' 147), .int 0, .ref (g' 148), .ref (g' 149), .ref (g' 150), .ref (g' 151), .ref (g' 152), .ref (g' 153), .ref (g' 154), .null, .null, .null, .null] (DN a 30 0) (DN a 72 0)) (fun g' hg => ⟨fun i hi => by rw [show ([.int 0, .double 0, .ref (ga10 144), .ref (ga10 145), .ref (ga10 146), .ref (ga10 147), .int 0, .ref (ga10 148), .ref (ga10 149), .ref (ga10 150), .ref (ga10 151), .ref (ga10 152), .ref (ga10 153), .ref (ga10 154), .null, .null, .null, .null] : List Value) = [.int 0, .double 0, .ref (g' 144), .ref (g' 145), .ref (g' 146), .ref (g' 147), .int 0, .ref (g' 148), .ref (g' 149), .ref (g' 150), .ref (g' 151), .ref (g' 152), .ref (g' 153), .ref (g' 154), .null, .null, .null, .null] by rw [hg 144 (by omega), hg 145 (by omega), hg 146 (by omega), hg 147 (by omega), hg 148 (by omega), hg 149 (by omega), hg 150 (by omega), hg 151 (by omega), hg 152 (by omega), hg 153 (by omega), hg 154 (by omega)]]; exact eqE_rfl _, (KM_z (by decide) (by decide) (by decide) (by decide)).trans MZ_155⟩) ?_
  intro ga11 hg11
  have hr11 : ga11 143 = g 143 := by rw [hg11 143 (by omega)]; exact hr10
  rw [← hg11 143 (by omega)]
  refine x_putF C (ci := 5) (ty := .array .int) (ty0 := t_MD) (E' := KM a E [.int 0, .double 0, .ref (ga11 144), .ref (ga11 145), .ref (ga11 146), .ref (ga11 147), .int 0, .ref (ga11 148), .ref (ga11 149), .ref (ga11 150), .ref (ga11 151), .ref (ga11 152), .ref (ga11 153), .ref (ga11 154), .ref (ga11 155), .null, .null, .null] (DN a 30 0) (DN a 72 0)) rfl i_MD 14 (by decide) kw581 (fun _ h => h) (i := 143) (by omega) KM_143 t_MD_ok n_MD rfl hnm rfl rfl rfl rfl (by simp) KM_put d_MD_init_99 ?_
  refine x_aload_n C d_MD_init_102 rfl rfl ?_
  refine x_bipush C (v := nI 72) d_MD_init_103 (by decide) ?_
  refine x_newa C (ty := .int) (a0 := (72, .inl (fun _ => 0))) (by decide) rfl 0 rfl (fun _ h => by cases h) (fun _ => rfl) (by decide) rfl (by decide) (by show 12 + 1 ≤ 15; decide) (by show 1115 + 72 ≤ 1331; decide) d_MD_init_105 (fun g' => KM a E [.int 0, .double 0, .ref (g' 144), .ref (g' 145), .ref (g' 146), .ref (g' 147), .int 0, .ref (g' 148), .ref (g' 149), .ref (g' 150), .ref (g' 151), .ref (g' 152), .ref (g' 153), .ref (g' 154), .ref (g' 155), .null, .null, .null] (DN a 30 0) (DN a 72 0)) (fun g' hg => ⟨fun i hi => by rw [show ([.int 0, .double 0, .ref (ga11 144), .ref (ga11 145), .ref (ga11 146), .ref (ga11 147), .int 0, .ref (ga11 148), .ref (ga11 149), .ref (ga11 150), .ref (ga11 151), .ref (ga11 152), .ref (ga11 153), .ref (ga11 154), .ref (ga11 155), .null, .null, .null] : List Value) = [.int 0, .double 0, .ref (g' 144), .ref (g' 145), .ref (g' 146), .ref (g' 147), .int 0, .ref (g' 148), .ref (g' 149), .ref (g' 150), .ref (g' 151), .ref (g' 152), .ref (g' 153), .ref (g' 154), .ref (g' 155), .null, .null, .null] by rw [hg 144 (by omega), hg 145 (by omega), hg 146 (by omega), hg 147 (by omega), hg 148 (by omega), hg 149 (by omega), hg 150 (by omega), hg 151 (by omega), hg 152 (by omega), hg 153 (by omega), hg 154 (by omega), hg 155 (by omega)]]; exact eqE_rfl _, (KM_z (by decide) (by decide) (by decide) (by decide)).trans MZ_156⟩) ?_
  intro ga12 hg12
  have hr12 : ga12 143 = g 143 := by rw [hg12 143 (by omega)]; exact hr11
  rw [← hg12 143 (by omega)]
  refine x_putF C (ci := 5) (ty := .array .int) (ty0 := t_MD) (E' := KM a E [.int 0, .double 0, .ref (ga12 144), .ref (ga12 145), .ref (ga12 146), .ref (ga12 147), .int 0, .ref (ga12 148), .ref (ga12 149), .ref (ga12 150), .ref (ga12 151), .ref (ga12 152), .ref (ga12 153), .ref (ga12 154), .ref (ga12 155), .ref (ga12 156), .null, .null] (DN a 30 0) (DN a 72 0)) rfl i_MD 15 (by decide) kw582 (fun _ h => h) (i := 143) (by omega) KM_143 t_MD_ok n_MD rfl hnm rfl rfl rfl rfl (by simp) KM_put d_MD_init_107 ?_
  refine x_aload_n C d_MD_init_110 rfl rfl ?_
  refine x_bipush C (v := nI 72) d_MD_init_111 (by decide) ?_
  refine x_newa C (ty := .int) (a0 := (72, .inl (fun _ => 0))) (by decide) rfl 0 rfl (fun _ h => by cases h) (fun _ => rfl) (by decide) rfl (by decide) (by show 13 + 1 ≤ 15; decide) (by show 1187 + 72 ≤ 1331; decide) d_MD_init_113 (fun g' => KM a E [.int 0, .double 0, .ref (g' 144), .ref (g' 145), .ref (g' 146), .ref (g' 147), .int 0, .ref (g' 148), .ref (g' 149), .ref (g' 150), .ref (g' 151), .ref (g' 152), .ref (g' 153), .ref (g' 154), .ref (g' 155), .ref (g' 156), .null, .null] (DN a 30 0) (DN a 72 0)) (fun g' hg => ⟨fun i hi => by rw [show ([.int 0, .double 0, .ref (ga12 144), .ref (ga12 145), .ref (ga12 146), .ref (ga12 147), .int 0, .ref (ga12 148), .ref (ga12 149), .ref (ga12 150), .ref (ga12 151), .ref (ga12 152), .ref (ga12 153), .ref (ga12 154), .ref (ga12 155), .ref (ga12 156), .null, .null] : List Value) = [.int 0, .double 0, .ref (g' 144), .ref (g' 145), .ref (g' 146), .ref (g' 147), .int 0, .ref (g' 148), .ref (g' 149), .ref (g' 150), .ref (g' 151), .ref (g' 152), .ref (g' 153), .ref (g' 154), .ref (g' 155), .ref (g' 156), .null, .null] by rw [hg 144 (by omega), hg 145 (by omega), hg 146 (by omega), hg 147 (by omega), hg 148 (by omega), hg 149 (by omega), hg 150 (by omega), hg 151 (by omega), hg 152 (by omega), hg 153 (by omega), hg 154 (by omega), hg 155 (by omega), hg 156 (by omega)]]; exact eqE_rfl _, (KM_z (by decide) (by decide) (by decide) (by decide)).trans MZ_157⟩) ?_
  intro ga13 hg13
  have hr13 : ga13 143 = g 143 := by rw [hg13 143 (by omega)]; exact hr12
  rw [← hg13 143 (by omega)]
  refine x_putF C (ci := 5) (ty := .array .int) (ty0 := t_MD) (E' := KM a E [.int 0, .double 0, .ref (ga13 144), .ref (ga13 145), .ref (ga13 146), .ref (ga13 147), .int 0, .ref (ga13 148), .ref (ga13 149), .ref (ga13 150), .ref (ga13 151), .ref (ga13 152), .ref (ga13 153), .ref (ga13 154), .ref (ga13 155), .ref (ga13 156), .ref (ga13 157), .null] (DN a 30 0) (DN a 72 0)) rfl i_MD 16 (by decide) kw583 (fun _ h => h) (i := 143) (by omega) KM_143 t_MD_ok n_MD rfl hnm rfl rfl rfl rfl (by simp) KM_put d_MD_init_115 ?_
  refine x_aload_n C d_MD_init_118 rfl rfl ?_
  refine x_bipush C (v := nI 72) d_MD_init_119 (by decide) ?_
  refine x_newa C (ty := .double) (a0 := (72, .inr (.inr (.inr (.inl (fun _ => 0)))))) (by decide) rfl 5 rfl (fun _ h => by cases h) (fun _ => rfl) (by decide) rfl (by decide) (by show 14 + 1 ≤ 15; decide) (by show 1259 + 72 ≤ 1331; decide) d_MD_init_121 (fun g' => KM a E [.int 0, .double 0, .ref (g' 144), .ref (g' 145), .ref (g' 146), .ref (g' 147), .int 0, .ref (g' 148), .ref (g' 149), .ref (g' 150), .ref (g' 151), .ref (g' 152), .ref (g' 153), .ref (g' 154), .ref (g' 155), .ref (g' 156), .ref (g' 157), .null] (DN a 30 0) (DN a 72 0)) (fun g' hg => ⟨fun i hi => by rw [show ([.int 0, .double 0, .ref (ga13 144), .ref (ga13 145), .ref (ga13 146), .ref (ga13 147), .int 0, .ref (ga13 148), .ref (ga13 149), .ref (ga13 150), .ref (ga13 151), .ref (ga13 152), .ref (ga13 153), .ref (ga13 154), .ref (ga13 155), .ref (ga13 156), .ref (ga13 157), .null] : List Value) = [.int 0, .double 0, .ref (g' 144), .ref (g' 145), .ref (g' 146), .ref (g' 147), .int 0, .ref (g' 148), .ref (g' 149), .ref (g' 150), .ref (g' 151), .ref (g' 152), .ref (g' 153), .ref (g' 154), .ref (g' 155), .ref (g' 156), .ref (g' 157), .null] by rw [hg 144 (by omega), hg 145 (by omega), hg 146 (by omega), hg 147 (by omega), hg 148 (by omega), hg 149 (by omega), hg 150 (by omega), hg 151 (by omega), hg 152 (by omega), hg 153 (by omega), hg 154 (by omega), hg 155 (by omega), hg 156 (by omega), hg 157 (by omega)]]; exact eqE_rfl _, KM_158.trans DN_0⟩) ?_
  intro ga14 hg14
  have hr14 : ga14 143 = g 143 := by rw [hg14 143 (by omega)]; exact hr13
  rw [← hg14 143 (by omega)]
  refine x_putF C (ci := 5) (ty := .array .double) (ty0 := t_MD) (E' := KM a E [.int 0, .double 0, .ref (ga14 144), .ref (ga14 145), .ref (ga14 146), .ref (ga14 147), .int 0, .ref (ga14 148), .ref (ga14 149), .ref (ga14 150), .ref (ga14 151), .ref (ga14 152), .ref (ga14 153), .ref (ga14 154), .ref (ga14 155), .ref (ga14 156), .ref (ga14 157), .ref (ga14 158)] (DN a 30 0) (DN a 72 0)) rfl i_MD 17 (by decide) kw584 (fun _ h => h) (i := 143) (by omega) KM_143 t_MD_ok n_MD rfl hnm rfl rfl rfl rfl (by simp) KM_put d_MD_init_123 ?_
  refine x_iconst C (v := nI 0) d_MD_init_126 (by decide) ?_
  refine x_istore_n C d_MD_init_127 rfl (by decide) rfl ?_
  refine x_loop 30 (fun i => KM a E [.int 0, .double 0, .ref (ga14 144), .ref (ga14 145), .ref (ga14 146), .ref (ga14 147), .int 0, .ref (ga14 148), .ref (ga14 149), .ref (ga14 150), .ref (ga14 151), .ref (ga14 152), .ref (ga14 153), .ref (ga14 154), .ref (ga14 155), .ref (ga14 156), .ref (ga14 157), .ref (ga14 158)] (DN a 30 i) (DN a 72 0)) (fun i => [(0, .ref (ga14 143)), (1, .int (nI i))]) (fun i => True) rfl ⟨rfl, rfl, trivial⟩ trivial ?_
  intro i150 hi150 _ ih150
  refine x_iload_n C d_MD_init_128 rfl rfl ?_
  refine x_bipush C (v := nI 30) d_MD_init_129 (by decide) ?_
  refine xn_icmp_ge C (by omega) (by decide) 149 d_MD_init_131 (by decide) (fun h => ?_) (fun h => ?_)
  rotate_left
  · refine x_aload_n C d_MD_init_134 rfl rfl ?_
    refine x_get C (ci := 5) rfl i_MD 9 (by decide) kw576 (fun _ h => h) (i := 143) (by omega) KM_143 rfl d_MD_init_135 ?_
    refine x_iload_n C d_MD_init_138 rfl rfl ?_
    refine x_ldc2d C kw566 d_MD_init_139 ?_
    refine x_dast C (E' := KM a E [.int 0, .double 0, .ref (ga14 144), .ref (ga14 145), .ref (ga14 146), .ref (ga14 147), .int 0, .ref (ga14 148), .ref (ga14 149), .ref (ga14 150), .ref (ga14 151), .ref (ga14 152), .ref (ga14 153), .ref (ga14 154), .ref (ga14 155), .ref (ga14 156), .ref (ga14 157), .ref (ga14 158)] (DN a 30 (i150 + 1)) (DN a 72 0)) (i := 150) (by omega) KM_150 5 rfl (vp_in_nI (show i150 < 30 by omega) (by omega)) (by rw [nI_clamp (by omega), DN_up]; exact KM_A) d_MD_init_142 ?_
    refine x_lv [(0, .ref (ga14 143)), (1, .int (nI i150))] ⟨rfl, rfl, trivial⟩ ?_
    refine xn_iinc C d_MD_init_143 1 rfl (by decide) rfl ?_
    refine x_goto C 128 d_MD_init_146 (by decide) ?_
    refine x_lv [(0, .ref (ga14 143)), (1, .int (nI (i150 + 1)))] ⟨rfl, rfl, trivial⟩ ?_
    exact ih150 h trivial
  have e150 : i150 = 30 := by omega
  subst e150
  refine x_iconst C (v := nI 0) d_MD_init_149 (by decide) ?_
  refine x_istore_n C d_MD_init_150 rfl (by decide) rfl ?_
  refine x_loop 72 (fun i => KM a E [.int 0, .double 0, .ref (ga14 144), .ref (ga14 145), .ref (ga14 146), .ref (ga14 147), .int 0, .ref (ga14 148), .ref (ga14 149), .ref (ga14 150), .ref (ga14 151), .ref (ga14 152), .ref (ga14 153), .ref (ga14 154), .ref (ga14 155), .ref (ga14 156), .ref (ga14 157), .ref (ga14 158)] (DN a 30 30) (DN a 72 i)) (fun i => [(0, .ref (ga14 143)), (1, .int (nI i))]) (fun i => True) rfl ⟨rfl, rfl, trivial⟩ trivial ?_
  intro i158 hi158 _ ih158
  refine x_iload_n C d_MD_init_151 rfl rfl ?_
  refine x_bipush C (v := nI 72) d_MD_init_152 (by decide) ?_
  refine xn_icmp_ge C (by omega) (by decide) 172 d_MD_init_154 (by decide) (fun h => ?_) (fun h => ?_)
  rotate_left
  · refine x_aload_n C d_MD_init_157 rfl rfl ?_
    refine x_get C (ci := 5) rfl i_MD 17 (by decide) kw584 (fun _ h => h) (i := 143) (by omega) KM_143 rfl d_MD_init_158 ?_
    refine x_iload_n C d_MD_init_161 rfl rfl ?_
    refine x_ldc2d C kw566 d_MD_init_162 ?_
    refine x_dast C (E' := KM a E [.int 0, .double 0, .ref (ga14 144), .ref (ga14 145), .ref (ga14 146), .ref (ga14 147), .int 0, .ref (ga14 148), .ref (ga14 149), .ref (ga14 150), .ref (ga14 151), .ref (ga14 152), .ref (ga14 153), .ref (ga14 154), .ref (ga14 155), .ref (ga14 156), .ref (ga14 157), .ref (ga14 158)] (DN a 30 30) (DN a 72 (i158 + 1))) (i := 158) (by omega) KM_158 5 rfl (vp_in_nI (show i158 < 72 by omega) (by omega)) (by rw [nI_clamp (by omega), DN_up]; exact KM_B) d_MD_init_165 ?_
    refine x_lv [(0, .ref (ga14 143)), (1, .int (nI i158))] ⟨rfl, rfl, trivial⟩ ?_
    refine xn_iinc C d_MD_init_166 1 rfl (by decide) rfl ?_
    refine x_goto C 151 d_MD_init_169 (by decide) ?_
    refine x_lv [(0, .ref (ga14 143)), (1, .int (nI (i158 + 1)))] ⟨rfl, rfl, trivial⟩ ?_
    exact ih158 h trivial
  have e158 : i158 = 72 := by omega
  subst e158
  have hgg : ∀ i, i < 144 → ga14 i = g i := fun i hi => by rw [hg14 i (by omega), hg13 i (by omega), hg12 i (by omega), hg11 i (by omega), hg10 i (by omega), hg9 i (by omega), hg8 i (by omega), hg7 i (by omega), hg6 i (by omega), hg5 i (by omega), hg4 i (by omega), hg3 i (by omega), hg2 i (by omega), hg1 i (by omega), hg0 i (by omega)]
  obtain ⟨q1, q2⟩ := hE2 ga14 hgg
  refine x_cret C hret d_MD_init_172 hgg (fun i hi => ?_)
  by_cases r : i < 143
  · refine eqE_tr (eqE_of (by unfold KM; rw [if_pos r])) (q1 i r)
  rw [q2 i (by omega) hi]
  by_cases r1 : i = 143
  · rw [r1, KM_143, MC_143]; exact eqE_rfl _
  by_cases r2 : i = 150
  · rw [r2, KM_150]; exact MC_150
  by_cases r3 : i = 158
  · rw [r3, KM_158]; exact MC_158
  rw [KM_z r r1 r2 r3]; exact eqE_of (MC_z (by omega) hi r2 r3)
end XK3
