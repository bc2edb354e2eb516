section XLC
theorem w_LW_create {p : Program} {l : Launch} (htr : xTr l) {e : Env} {R : Room} {s : State} {m : MethodId} {args : Array Value} {below : List Frame} {meth : Method} {c : Code} {Q : State → Prop} {D : va_G} {a : Nat → ClassId} {base : Nat} {g : Nat → Nat} {k z : Nat} {b L i : Nat} {xs : Nat → Int32} (C : xC p l e s m meth c b_LW_law 9 "ChunkStoreLaw" args D xcl (xty a) base) (hX : va_X b L xs s s.heap) (hb : b < s.heap.size) (hbb : b < base) (hi : i + 6 ≤ L) (hL : L < 2 ^ 30) (hRf : 12 ≤ R.frames) (hRl : 454 ≤ R.locals) (hk : k + 2 ≤ R.cells) (hz : z + 12 ≤ R.slots) {σ σ' : xSig} {w w' : xWrd} {fc q : Nat} {o : Nat → Int64} {d : Nat → UInt64} {A : Int32} (hM : ∀ Y, xM l y_CS_create b_CS_create 3 (some FieldType.int) 4 D a base g 161 (EL a g σ w Y) [.ref (g 0), .int (xs (i + 1))] (fun r E' => E' = EL a g σ' w' Y ∧ r = cr [e_IA, e_IS] q (.int A))) (hMM : ∀ X, xM l y_MD_create b_MD_create 4 (some FieldType.int) 4 D a base g 161 (EM a g σ w fc X) [.ref (g 143), .int (xs (i + 1))] (fun r E' => E' = EM a g σ' w' q X ∧ r = mr q A)) (hB : ∀ t i j, σ' t i j < 2 ^ 30) (hq : q ≤ 2) (kk : ∀ (o' : Nat → Int64) (d' : Nat → UInt64), xG p l e R s m args below meth c Q 9 D xcl base g 161 (LWE a g σ' w' q o' d') (k + 1) (z + 6) 1333 [(0, .ref b), (1, .ref (g 0)), (2, .ref (g 143)), (3, .ref (g 159)), (4, .ref (g 160)), (5, .int (nI i))] []) : xG p l e R s m args below meth c Q 9 D xcl base g 161 (LWE a g σ w fc o d) (k) (z) 132 [(0, .ref b), (1, .ref (g 0)), (2, .ref (g 143)), (3, .ref (g 159)), (4, .ref (g 160)), (5, .int (nI i))] [] := by
  refine x_aload_n C d_LW_law_132 rfl rfl ?_
  refine x_aload_n C d_LW_law_133 rfl rfl ?_
  refine x_iload C d_LW_law_134 rfl ?_
  refine x_iconst C (v := nI 1) d_LW_law_136 (by decide) ?_
  refine xn_iadd C d_LW_law_137 ?_
  refine x_sldn C hX hb hbb (show i + 1 < L by omega) hL d_LW_law_138 ?_
  refine x_aload_n C d_LW_law_139 rfl rfl ?_
  refine x_callSH C (h_LW_create htr (Nat.le_refl _) EL_cs LW_o (hM _) hq) kw146 kw145 kw0 kw144 ny_LW pl_LW_create (lw_room hRf hRl (by decide) (by decide)) (lw_roomc0 hk hz) rfl (Nat.le_of_ble_eq_true rfl) d_LW_law_140 (fun v E' h => ?_) (fun X E' h => by cases h.1)
  obtain ⟨h1, h2⟩ := h
  cases h1
  rw [h2, LW_up]
  clear h2
  refine x_istore C d_LW_law_143 (by decide) rfl ?_
  refine x_aload_n C d_LW_law_145 rfl rfl ?_
  refine x_aload_n C d_LW_law_146 rfl rfl ?_
  refine x_iload C d_LW_law_147 rfl ?_
  refine x_iconst C (v := nI 1) d_LW_law_149 (by decide) ?_
  refine xn_iadd C d_LW_law_150 ?_
  refine x_sldn C hX hb hbb (show i + 1 < L by omega) hL d_LW_law_151 ?_
  refine x_callV (Cn := R_MD) C (hMM _) (i := 143) (by decide) EM_obj (ci := 5) (r := (R_MD, F_MD, 18)) rfl kw631 kw629 kw630 kw6 kw628 ny_MD pl_MD_create (lw_room hRf hRl (by decide) (by decide)) (lw_roomc1 hk hz) rfl (Nat.le_of_ble_eq_true rfl) d_LW_law_152 (fun v E' h => ?_) (fun X E' h => by cases h.2)
  obtain ⟨h1, h2⟩ := h
  cases h2
  rw [h1]
  clear h1
  refine x_istore C d_LW_law_155 (by decide) rfl ?_
  refine x_aload_n C d_LW_law_157 rfl rfl ?_
  refine x_callV (Cn := R_MD) C (m_MD_thrown htr (by decide) hB (k := 4) (by decide)) (i := 143) (by decide) EM_obj (ci := 5) (r := (R_MD, F_MD, 18)) rfl kw627 kw625 kw626 kw6 kw624 ny_MD pl_MD_thrown (lw_room hRf hRl (by decide) (by decide)) (lw_roomc1 hk hz) rfl (Nat.le_of_ble_eq_true rfl) d_LW_law_158 (fun v E' h => ?_) (fun X E' h => by cases h.2)
  obtain ⟨h1, h2⟩ := h
  cases h2
  rw [h1]
  clear h1
  refine x_iload C d_LW_law_161 rfl ?_
  refine x_icmp_eq C 168 d_LW_law_163 (by decide) (fun _ => ?_) (fun h => absurd rfl h)
  refine x_iload C d_LW_law_168 rfl ?_
  refine xn_if_ne C (by omega) 185 d_LW_law_170 (by decide) (fun h => ?_) (fun h => ?_)
  · refine x_goto C 1333 d_LW_law_185 (by decide) ?_
    refine x_lv [(0, .ref b), (1, .ref (g 0)), (2, .ref (g 143)), (3, .ref (g 159)), (4, .ref (g 160)), (5, .int (nI i))] ⟨rfl, rfl, rfl, rfl, rfl, rfl, trivial⟩ ?_
    rw [← EL_EM]
    exact kk _ _
  · refine x_aload_n C d_LW_law_173 rfl rfl ?_
    refine x_iconst C (v := nI 0) d_LW_law_174 (by decide) ?_
    refine x_lald C (i := 159) (by decide) LM_o 7 rfl vp_in01 d_LW_law_175 ?_
    refine x_iload C d_LW_law_176 rfl ?_
    refine x_i2l C d_LW_law_178 ?_
    refine x_lcmp C d_LW_law_179 ?_
    refine x_if_eq C 185 d_LW_law_180 (by decide) (fun _ => ?_) (fun h2 => absurd (lw_cmp0 h) h2)
    refine x_goto C 1333 d_LW_law_185 (by decide) ?_
    refine x_lv [(0, .ref b), (1, .ref (g 0)), (2, .ref (g 143)), (3, .ref (g 159)), (4, .ref (g 160)), (5, .int (nI i))] ⟨rfl, rfl, rfl, rfl, rfl, rfl, trivial⟩ ?_
    rw [← EL_EM]
    exact kk _ _
theorem w_LW_remove {p : Program} {l : Launch} (htr : xTr l) {e : Env} {R : Room} {s : State} {m : MethodId} {args : Array Value} {below : List Frame} {meth : Method} {c : Code} {Q : State → Prop} {D : va_G} {a : Nat → ClassId} {base : Nat} {g : Nat → Nat} {k z : Nat} {b L i : Nat} {xs : Nat → Int32} (C : xC p l e s m meth c b_LW_law 9 "ChunkStoreLaw" args D xcl (xty a) base) (hX : va_X b L xs s s.heap) (hb : b < s.heap.size) (hbb : b < base) (hi : i + 6 ≤ L) (hL : L < 2 ^ 30) (hRf : 12 ≤ R.frames) (hRl : 454 ≤ R.locals) (hk : k + 2 ≤ R.cells) (hz : z + 12 ≤ R.slots) {σ σ' : xSig} {w w' : xWrd} {fc q : Nat} {o : Nat → Int64} {d : Nat → UInt64} {A : Int32} (hM : ∀ Y, xM l y_CS_remove b_CS_remove 3 (some FieldType.int) 4 D a base g 161 (EL a g σ w Y) [.ref (g 0), .int (xs (i + 1))] (fun r E' => E' = EL a g σ' w' Y ∧ r = cr [e_IA, e_NS] q (.int A))) (hMM : ∀ X, xM l y_MD_remove b_MD_remove 2 (some FieldType.int) 4 D a base g 161 (EM a g σ w fc X) [.ref (g 143), .int (xs (i + 1))] (fun r E' => E' = EM a g σ' w' q X ∧ r = mr q A)) (hB : ∀ t i j, σ' t i j < 2 ^ 30) (hq : q ≤ 2) (kk : ∀ (o' : Nat → Int64) (d' : Nat → UInt64), xG p l e R s m args below meth c Q 9 D xcl base g 161 (LWE a g σ' w' q o' d') (k + 1) (z + 6) 1333 [(0, .ref b), (1, .ref (g 0)), (2, .ref (g 143)), (3, .ref (g 159)), (4, .ref (g 160)), (5, .int (nI i))] []) : xG p l e R s m args below meth c Q 9 D xcl base g 161 (LWE a g σ w fc o d) (k) (z) 188 [(0, .ref b), (1, .ref (g 0)), (2, .ref (g 143)), (3, .ref (g 159)), (4, .ref (g 160)), (5, .int (nI i))] [] := by
  refine x_aload_n C d_LW_law_188 rfl rfl ?_
  refine x_aload_n C d_LW_law_189 rfl rfl ?_
  refine x_iload C d_LW_law_190 rfl ?_
  refine x_iconst C (v := nI 1) d_LW_law_192 (by decide) ?_
  refine xn_iadd C d_LW_law_193 ?_
  refine x_sldn C hX hb hbb (show i + 1 < L by omega) hL d_LW_law_194 ?_
  refine x_aload_n C d_LW_law_195 rfl rfl ?_
  refine x_callSH C (h_LW_remove htr (Nat.le_refl _) EL_cs LW_o (hM _) hq) kw253 kw252 kw0 kw251 ny_LW pl_LW_remove (lw_room hRf hRl (by decide) (by decide)) (lw_roomc0 hk hz) rfl (Nat.le_of_ble_eq_true rfl) d_LW_law_196 (fun v E' h => ?_) (fun X E' h => by cases h.1)
  obtain ⟨h1, h2⟩ := h
  cases h1
  rw [h2, LW_up]
  clear h2
  refine x_istore C d_LW_law_199 (by decide) rfl ?_
  refine x_aload_n C d_LW_law_201 rfl rfl ?_
  refine x_aload_n C d_LW_law_202 rfl rfl ?_
  refine x_iload C d_LW_law_203 rfl ?_
  refine x_iconst C (v := nI 1) d_LW_law_205 (by decide) ?_
  refine xn_iadd C d_LW_law_206 ?_
  refine x_sldn C hX hb hbb (show i + 1 < L by omega) hL d_LW_law_207 ?_
  refine x_callV (Cn := R_MD) C (hMM _) (i := 143) (by decide) EM_obj (ci := 5) (r := (R_MD, F_MD, 18)) rfl kw643 kw641 kw642 kw6 kw640 ny_MD pl_MD_remove (lw_room hRf hRl (by decide) (by decide)) (lw_roomc1 hk hz) rfl (Nat.le_of_ble_eq_true rfl) d_LW_law_208 (fun v E' h => ?_) (fun X E' h => by cases h.2)
  obtain ⟨h1, h2⟩ := h
  cases h2
  rw [h1]
  clear h1
  refine x_istore C d_LW_law_211 (by decide) rfl ?_
  refine x_aload_n C d_LW_law_213 rfl rfl ?_
  refine x_callV (Cn := R_MD) C (m_MD_thrown htr (by decide) hB (k := 4) (by decide)) (i := 143) (by decide) EM_obj (ci := 5) (r := (R_MD, F_MD, 18)) rfl kw627 kw625 kw626 kw6 kw624 ny_MD pl_MD_thrown (lw_room hRf hRl (by decide) (by decide)) (lw_roomc1 hk hz) rfl (Nat.le_of_ble_eq_true rfl) d_LW_law_214 (fun v E' h => ?_) (fun X E' h => by cases h.2)
  obtain ⟨h1, h2⟩ := h
  cases h2
  rw [h1]
  clear h1
  refine x_iload C d_LW_law_217 rfl ?_
  refine x_icmp_eq C 224 d_LW_law_219 (by decide) (fun _ => ?_) (fun h => absurd rfl h)
  refine x_iload C d_LW_law_224 rfl ?_
  refine xn_if_ne C (by omega) 241 d_LW_law_226 (by decide) (fun h => ?_) (fun h => ?_)
  · refine x_goto C 1333 d_LW_law_241 (by decide) ?_
    refine x_lv [(0, .ref b), (1, .ref (g 0)), (2, .ref (g 143)), (3, .ref (g 159)), (4, .ref (g 160)), (5, .int (nI i))] ⟨rfl, rfl, rfl, rfl, rfl, rfl, trivial⟩ ?_
    rw [← EL_EM]
    exact kk _ _
  · refine x_aload_n C d_LW_law_229 rfl rfl ?_
    refine x_iconst C (v := nI 0) d_LW_law_230 (by decide) ?_
    refine x_lald C (i := 159) (by decide) LM_o 7 rfl vp_in01 d_LW_law_231 ?_
    refine x_iload C d_LW_law_232 rfl ?_
    refine x_i2l C d_LW_law_234 ?_
    refine x_lcmp C d_LW_law_235 ?_
    refine x_if_eq C 241 d_LW_law_236 (by decide) (fun _ => ?_) (fun h2 => absurd (lw_cmp0 h) h2)
    refine x_goto C 1333 d_LW_law_241 (by decide) ?_
    refine x_lv [(0, .ref b), (1, .ref (g 0)), (2, .ref (g 143)), (3, .ref (g 159)), (4, .ref (g 160)), (5, .int (nI i))] ⟨rfl, rfl, rfl, rfl, rfl, rfl, trivial⟩ ?_
    rw [← EL_EM]
    exact kk _ _
theorem w_LW_restore {p : Program} {l : Launch} (htr : xTr l) {e : Env} {R : Room} {s : State} {m : MethodId} {args : Array Value} {below : List Frame} {meth : Method} {c : Code} {Q : State → Prop} {D : va_G} {a : Nat → ClassId} {base : Nat} {g : Nat → Nat} {k z : Nat} {b L i : Nat} {xs : Nat → Int32} (C : xC p l e s m meth c b_LW_law 9 "ChunkStoreLaw" args D xcl (xty a) base) (hX : va_X b L xs s s.heap) (hb : b < s.heap.size) (hbb : b < base) (hi : i + 6 ≤ L) (hL : L < 2 ^ 30) (hRf : 12 ≤ R.frames) (hRl : 454 ≤ R.locals) (hk : k + 2 ≤ R.cells) (hz : z + 12 ≤ R.slots) {σ σ' : xSig} {w w' : xWrd} {fc q : Nat} {o : Nat → Int64} {d : Nat → UInt64} {A : Int32} (hM : ∀ Y, xM l y_CS_restore b_CS_restore 3 (some FieldType.int) 4 D a base g 161 (EL a g σ w Y) [.ref (g 0), .int (xs (i + 1))] (fun r E' => E' = EL a g σ' w' Y ∧ r = cr [e_IA, e_NS] q (.int A))) (hMM : ∀ X, xM l y_MD_restore b_MD_restore 2 (some FieldType.int) 4 D a base g 161 (EM a g σ w fc X) [.ref (g 143), .int (xs (i + 1))] (fun r E' => E' = EM a g σ' w' q X ∧ r = mr q A)) (hB : ∀ t i j, σ' t i j < 2 ^ 30) (hq : q ≤ 2) (kk : ∀ (o' : Nat → Int64) (d' : Nat → UInt64), xG p l e R s m args below meth c Q 9 D xcl base g 161 (LWE a g σ' w' q o' d') (k + 1) (z + 6) 1333 [(0, .ref b), (1, .ref (g 0)), (2, .ref (g 143)), (3, .ref (g 159)), (4, .ref (g 160)), (5, .int (nI i))] []) : xG p l e R s m args below meth c Q 9 D xcl base g 161 (LWE a g σ w fc o d) (k) (z) 244 [(0, .ref b), (1, .ref (g 0)), (2, .ref (g 143)), (3, .ref (g 159)), (4, .ref (g 160)), (5, .int (nI i))] [] := by
  refine x_aload_n C d_LW_law_244 rfl rfl ?_
  refine x_aload_n C d_LW_law_245 rfl rfl ?_
  refine x_iload C d_LW_law_246 rfl ?_
  refine x_iconst C (v := nI 1) d_LW_law_248 (by decide) ?_
  refine xn_iadd C d_LW_law_249 ?_
  refine x_sldn C hX hb hbb (show i + 1 < L by omega) hL d_LW_law_250 ?_
  refine x_aload_n C d_LW_law_251 rfl rfl ?_
  refine x_callSH C (h_LW_restore htr (Nat.le_refl _) EL_cs LW_o (hM _) hq) kw281 kw280 kw0 kw279 ny_LW pl_LW_restore (lw_room hRf hRl (by decide) (by decide)) (lw_roomc0 hk hz) rfl (Nat.le_of_ble_eq_true rfl) d_LW_law_252 (fun v E' h => ?_) (fun X E' h => by cases h.1)
  obtain ⟨h1, h2⟩ := h
  cases h1
  rw [h2, LW_up]
  clear h2
  refine x_istore C d_LW_law_255 (by decide) rfl ?_
  refine x_aload_n C d_LW_law_257 rfl rfl ?_
  refine x_aload_n C d_LW_law_258 rfl rfl ?_
  refine x_iload C d_LW_law_259 rfl ?_
  refine x_iconst C (v := nI 1) d_LW_law_261 (by decide) ?_
  refine xn_iadd C d_LW_law_262 ?_
  refine x_sldn C hX hb hbb (show i + 1 < L by omega) hL d_LW_law_263 ?_
  refine x_callV (Cn := R_MD) C (hMM _) (i := 143) (by decide) EM_obj (ci := 5) (r := (R_MD, F_MD, 18)) rfl kw647 kw645 kw646 kw6 kw644 ny_MD pl_MD_restore (lw_room hRf hRl (by decide) (by decide)) (lw_roomc1 hk hz) rfl (Nat.le_of_ble_eq_true rfl) d_LW_law_264 (fun v E' h => ?_) (fun X E' h => by cases h.2)
  obtain ⟨h1, h2⟩ := h
  cases h2
  rw [h1]
  clear h1
  refine x_istore C d_LW_law_267 (by decide) rfl ?_
  refine x_aload_n C d_LW_law_269 rfl rfl ?_
  refine x_callV (Cn := R_MD) C (m_MD_thrown htr (by decide) hB (k := 4) (by decide)) (i := 143) (by decide) EM_obj (ci := 5) (r := (R_MD, F_MD, 18)) rfl kw627 kw625 kw626 kw6 kw624 ny_MD pl_MD_thrown (lw_room hRf hRl (by decide) (by decide)) (lw_roomc1 hk hz) rfl (Nat.le_of_ble_eq_true rfl) d_LW_law_270 (fun v E' h => ?_) (fun X E' h => by cases h.2)
  obtain ⟨h1, h2⟩ := h
  cases h2
  rw [h1]
  clear h1
  refine x_iload C d_LW_law_273 rfl ?_
  refine x_icmp_eq C 280 d_LW_law_275 (by decide) (fun _ => ?_) (fun h => absurd rfl h)
  refine x_iload C d_LW_law_280 rfl ?_
  refine xn_if_ne C (by omega) 297 d_LW_law_282 (by decide) (fun h => ?_) (fun h => ?_)
  · refine x_goto C 1333 d_LW_law_297 (by decide) ?_
    refine x_lv [(0, .ref b), (1, .ref (g 0)), (2, .ref (g 143)), (3, .ref (g 159)), (4, .ref (g 160)), (5, .int (nI i))] ⟨rfl, rfl, rfl, rfl, rfl, rfl, trivial⟩ ?_
    rw [← EL_EM]
    exact kk _ _
  · refine x_aload_n C d_LW_law_285 rfl rfl ?_
    refine x_iconst C (v := nI 0) d_LW_law_286 (by decide) ?_
    refine x_lald C (i := 159) (by decide) LM_o 7 rfl vp_in01 d_LW_law_287 ?_
    refine x_iload C d_LW_law_288 rfl ?_
    refine x_i2l C d_LW_law_290 ?_
    refine x_lcmp C d_LW_law_291 ?_
    refine x_if_eq C 297 d_LW_law_292 (by decide) (fun _ => ?_) (fun h2 => absurd (lw_cmp0 h) h2)
    refine x_goto C 1333 d_LW_law_297 (by decide) ?_
    refine x_lv [(0, .ref b), (1, .ref (g 0)), (2, .ref (g 143)), (3, .ref (g 159)), (4, .ref (g 160)), (5, .int (nI i))] ⟨rfl, rfl, rfl, rfl, rfl, rfl, trivial⟩ ?_
    rw [← EL_EM]
    exact kk _ _
theorem w_LW_copy {p : Program} {l : Launch} (htr : xTr l) {e : Env} {R : Room} {s : State} {m : MethodId} {args : Array Value} {below : List Frame} {meth : Method} {c : Code} {Q : State → Prop} {D : va_G} {a : Nat → ClassId} {base : Nat} {g : Nat → Nat} {k z : Nat} {b L i : Nat} {xs : Nat → Int32} (C : xC p l e s m meth c b_LW_law 9 "ChunkStoreLaw" args D xcl (xty a) base) (hX : va_X b L xs s s.heap) (hb : b < s.heap.size) (hbb : b < base) (hi : i + 6 ≤ L) (hL : L < 2 ^ 30) (hRf : 12 ≤ R.frames) (hRl : 454 ≤ R.locals) (hk : k + 2 ≤ R.cells) (hz : z + 12 ≤ R.slots) {σ σ' : xSig} {w w' : xWrd} {fc q : Nat} {o : Nat → Int64} {d : Nat → UInt64} {A : Int32} (hM : ∀ Y, xM l y_CS_copy b_CS_copy 7 (some FieldType.int) 4 D a base g 161 (EL a g σ w Y) [.ref (g 0), .int (xs (i + 1)), .int (xs (i + 2))] (fun r E' => E' = EL a g σ' w' Y ∧ r = cr [e_IA, e_NS, e_IS] q (.int A))) (hMM : ∀ X, xM l y_MD_copy b_MD_copy 4 (some FieldType.int) 4 D a base g 161 (EM a g σ w fc X) [.ref (g 143), .int (xs (i + 1)), .int (xs (i + 2))] (fun r E' => E' = EM a g σ' w' q X ∧ r = mr q A)) (hB : ∀ t i j, σ' t i j < 2 ^ 30) (hq : q ≤ 3) (kk : ∀ (o' : Nat → Int64) (d' : Nat → UInt64), xG p l e R s m args below meth c Q 9 D xcl base g 161 (LWE a g σ' w' q o' d') (k + 1) (z + 6) 1333 [(0, .ref b), (1, .ref (g 0)), (2, .ref (g 143)), (3, .ref (g 159)), (4, .ref (g 160)), (5, .int (nI i))] []) : xG p l e R s m args below meth c Q 9 D xcl base g 161 (LWE a g σ w fc o d) (k) (z) 300 [(0, .ref b), (1, .ref (g 0)), (2, .ref (g 143)), (3, .ref (g 159)), (4, .ref (g 160)), (5, .int (nI i))] [] := by
  refine x_aload_n C d_LW_law_300 rfl rfl ?_
  refine x_aload_n C d_LW_law_301 rfl rfl ?_
  refine x_iload C d_LW_law_302 rfl ?_
  refine x_iconst C (v := nI 1) d_LW_law_304 (by decide) ?_
  refine xn_iadd C d_LW_law_305 ?_
  refine x_sldn C hX hb hbb (show i + 1 < L by omega) hL d_LW_law_306 ?_
  refine x_aload_n C d_LW_law_307 rfl rfl ?_
  refine x_iload C d_LW_law_308 rfl ?_
  refine x_iconst C (v := nI 2) d_LW_law_310 (by decide) ?_
  refine xn_iadd C d_LW_law_311 ?_
  refine x_sldn C hX hb hbb (show i + 2 < L by omega) hL d_LW_law_312 ?_
  refine x_aload_n C d_LW_law_313 rfl rfl ?_
  refine x_callSH C (h_LW_copy htr (Nat.le_refl _) EL_cs LW_o (hM _) hq) kw289 kw288 kw0 kw287 ny_LW pl_LW_copy (lw_room hRf hRl (by decide) (by decide)) (lw_roomc0 hk hz) rfl (Nat.le_of_ble_eq_true rfl) d_LW_law_314 (fun v E' h => ?_) (fun X E' h => by cases h.1)
  obtain ⟨h1, h2⟩ := h
  cases h1
  rw [h2, LW_up]
  clear h2
  refine x_istore C d_LW_law_317 (by decide) rfl ?_
  refine x_aload_n C d_LW_law_319 rfl rfl ?_
  refine x_aload_n C d_LW_law_320 rfl rfl ?_
  refine x_iload C d_LW_law_321 rfl ?_
  refine x_iconst C (v := nI 1) d_LW_law_323 (by decide) ?_
  refine xn_iadd C d_LW_law_324 ?_
  refine x_sldn C hX hb hbb (show i + 1 < L by omega) hL d_LW_law_325 ?_
  refine x_aload_n C d_LW_law_326 rfl rfl ?_
  refine x_iload C d_LW_law_327 rfl ?_
  refine x_iconst C (v := nI 2) d_LW_law_329 (by decide) ?_
  refine xn_iadd C d_LW_law_330 ?_
  refine x_sldn C hX hb hbb (show i + 2 < L by omega) hL d_LW_law_331 ?_
  refine x_callV (Cn := R_MD) C (hMM _) (i := 143) (by decide) EM_obj (ci := 5) (r := (R_MD, F_MD, 18)) rfl kw651 kw649 kw650 kw6 kw648 ny_MD pl_MD_copy (lw_room hRf hRl (by decide) (by decide)) (lw_roomc1 hk hz) rfl (Nat.le_of_ble_eq_true rfl) d_LW_law_332 (fun v E' h => ?_) (fun X E' h => by cases h.2)
  obtain ⟨h1, h2⟩ := h
  cases h2
  rw [h1]
  clear h1
  refine x_istore C d_LW_law_335 (by decide) rfl ?_
  refine x_aload_n C d_LW_law_337 rfl rfl ?_
  refine x_callV (Cn := R_MD) C (m_MD_thrown htr (by decide) hB (k := 4) (by decide)) (i := 143) (by decide) EM_obj (ci := 5) (r := (R_MD, F_MD, 18)) rfl kw627 kw625 kw626 kw6 kw624 ny_MD pl_MD_thrown (lw_room hRf hRl (by decide) (by decide)) (lw_roomc1 hk hz) rfl (Nat.le_of_ble_eq_true rfl) d_LW_law_338 (fun v E' h => ?_) (fun X E' h => by cases h.2)
  obtain ⟨h1, h2⟩ := h
  cases h2
  rw [h1]
  clear h1
  refine x_iload C d_LW_law_341 rfl ?_
  refine x_icmp_eq C 348 d_LW_law_343 (by decide) (fun _ => ?_) (fun h => absurd rfl h)
  refine x_iload C d_LW_law_348 rfl ?_
  refine xn_if_ne C (by omega) 365 d_LW_law_350 (by decide) (fun h => ?_) (fun h => ?_)
  · refine x_goto C 1333 d_LW_law_365 (by decide) ?_
    refine x_lv [(0, .ref b), (1, .ref (g 0)), (2, .ref (g 143)), (3, .ref (g 159)), (4, .ref (g 160)), (5, .int (nI i))] ⟨rfl, rfl, rfl, rfl, rfl, rfl, trivial⟩ ?_
    rw [← EL_EM]
    exact kk _ _
  · refine x_aload_n C d_LW_law_353 rfl rfl ?_
    refine x_iconst C (v := nI 0) d_LW_law_354 (by decide) ?_
    refine x_lald C (i := 159) (by decide) LM_o 7 rfl vp_in01 d_LW_law_355 ?_
    refine x_iload C d_LW_law_356 rfl ?_
    refine x_i2l C d_LW_law_358 ?_
    refine x_lcmp C d_LW_law_359 ?_
    refine x_if_eq C 365 d_LW_law_360 (by decide) (fun _ => ?_) (fun h2 => absurd (lw_cmp0 h) h2)
    refine x_goto C 1333 d_LW_law_365 (by decide) ?_
    refine x_lv [(0, .ref b), (1, .ref (g 0)), (2, .ref (g 143)), (3, .ref (g 159)), (4, .ref (g 160)), (5, .int (nI i))] ⟨rfl, rfl, rfl, rfl, rfl, rfl, trivial⟩ ?_
    rw [← EL_EM]
    exact kk _ _
theorem w_LW_extend {p : Program} {l : Launch} (htr : xTr l) {e : Env} {R : Room} {s : State} {m : MethodId} {args : Array Value} {below : List Frame} {meth : Method} {c : Code} {Q : State → Prop} {D : va_G} {a : Nat → ClassId} {base : Nat} {g : Nat → Nat} {k z : Nat} {b L i : Nat} {xs : Nat → Int32} (C : xC p l e s m meth c b_LW_law 9 "ChunkStoreLaw" args D xcl (xty a) base) (hX : va_X b L xs s s.heap) (hb : b < s.heap.size) (hbb : b < base) (hi : i + 6 ≤ L) (hL : L < 2 ^ 30) (hRf : 12 ≤ R.frames) (hRl : 454 ≤ R.locals) (hk : k + 2 ≤ R.cells) (hz : z + 12 ≤ R.slots) {σ σ' : xSig} {w w' : xWrd} {fc q : Nat} {o : Nat → Int64} {d : Nat → UInt64} {A : Int32} (hM : ∀ Y, xM l y_CS_extend b_CS_extend 2 (some FieldType.int) 4 D a base g 161 (EL a g σ w Y) [.ref (g 0), .int (xs (i + 1))] (fun r E' => E' = EL a g σ' w' Y ∧ r = cr [e_IA, e_NS, e_IS, e_IO] q (.int A))) (hMM : ∀ X, xM l y_MD_extend b_MD_extend 3 (some FieldType.int) 4 D a base g 161 (EM a g σ w fc X) [.ref (g 143), .int (xs (i + 1))] (fun r E' => E' = EM a g σ' w' q X ∧ r = mr q A)) (hB : ∀ t i j, σ' t i j < 2 ^ 30) (hq : q ≤ 4) (kk : ∀ (o' : Nat → Int64) (d' : Nat → UInt64), xG p l e R s m args below meth c Q 9 D xcl base g 161 (LWE a g σ' w' q o' d') (k + 1) (z + 6) 1333 [(0, .ref b), (1, .ref (g 0)), (2, .ref (g 143)), (3, .ref (g 159)), (4, .ref (g 160)), (5, .int (nI i))] []) : xG p l e R s m args below meth c Q 9 D xcl base g 161 (LWE a g σ w fc o d) (k) (z) 368 [(0, .ref b), (1, .ref (g 0)), (2, .ref (g 143)), (3, .ref (g 159)), (4, .ref (g 160)), (5, .int (nI i))] [] := by
  refine x_aload_n C d_LW_law_368 rfl rfl ?_
  refine x_aload_n C d_LW_law_369 rfl rfl ?_
  refine x_iload C d_LW_law_370 rfl ?_
  refine x_iconst C (v := nI 1) d_LW_law_372 (by decide) ?_
  refine xn_iadd C d_LW_law_373 ?_
  refine x_sldn C hX hb hbb (show i + 1 < L by omega) hL d_LW_law_374 ?_
  refine x_aload_n C d_LW_law_375 rfl rfl ?_
  refine x_callSH C (h_LW_extend htr (Nat.le_refl _) EL_cs LW_o (hM _) hq) kw300 kw299 kw0 kw298 ny_LW pl_LW_extend (lw_room hRf hRl (by decide) (by decide)) (lw_roomc0 hk hz) rfl (Nat.le_of_ble_eq_true rfl) d_LW_law_376 (fun v E' h => ?_) (fun X E' h => by cases h.1)
  obtain ⟨h1, h2⟩ := h
  cases h1
  rw [h2, LW_up]
  clear h2
  refine x_istore C d_LW_law_379 (by decide) rfl ?_
  refine x_aload_n C d_LW_law_381 rfl rfl ?_
  refine x_aload_n C d_LW_law_382 rfl rfl ?_
  refine x_iload C d_LW_law_383 rfl ?_
  refine x_iconst C (v := nI 1) d_LW_law_385 (by decide) ?_
  refine xn_iadd C d_LW_law_386 ?_
  refine x_sldn C hX hb hbb (show i + 1 < L by omega) hL d_LW_law_387 ?_
  refine x_callV (Cn := R_MD) C (hMM _) (i := 143) (by decide) EM_obj (ci := 5) (r := (R_MD, F_MD, 18)) rfl kw655 kw653 kw654 kw6 kw652 ny_MD pl_MD_extend (lw_room hRf hRl (by decide) (by decide)) (lw_roomc1 hk hz) rfl (Nat.le_of_ble_eq_true rfl) d_LW_law_388 (fun v E' h => ?_) (fun X E' h => by cases h.2)
  obtain ⟨h1, h2⟩ := h
  cases h2
  rw [h1]
  clear h1
  refine x_istore C d_LW_law_391 (by decide) rfl ?_
  refine x_aload_n C d_LW_law_393 rfl rfl ?_
  refine x_callV (Cn := R_MD) C (m_MD_thrown htr (by decide) hB (k := 4) (by decide)) (i := 143) (by decide) EM_obj (ci := 5) (r := (R_MD, F_MD, 18)) rfl kw627 kw625 kw626 kw6 kw624 ny_MD pl_MD_thrown (lw_room hRf hRl (by decide) (by decide)) (lw_roomc1 hk hz) rfl (Nat.le_of_ble_eq_true rfl) d_LW_law_394 (fun v E' h => ?_) (fun X E' h => by cases h.2)
  obtain ⟨h1, h2⟩ := h
  cases h2
  rw [h1]
  clear h1
  refine x_iload C d_LW_law_397 rfl ?_
  refine x_icmp_eq C 404 d_LW_law_399 (by decide) (fun _ => ?_) (fun h => absurd rfl h)
  refine x_iload C d_LW_law_404 rfl ?_
  refine xn_if_ne C (by omega) 421 d_LW_law_406 (by decide) (fun h => ?_) (fun h => ?_)
  · refine x_goto C 1333 d_LW_law_421 (by decide) ?_
    refine x_lv [(0, .ref b), (1, .ref (g 0)), (2, .ref (g 143)), (3, .ref (g 159)), (4, .ref (g 160)), (5, .int (nI i))] ⟨rfl, rfl, rfl, rfl, rfl, rfl, trivial⟩ ?_
    rw [← EL_EM]
    exact kk _ _
  · refine x_aload_n C d_LW_law_409 rfl rfl ?_
    refine x_iconst C (v := nI 0) d_LW_law_410 (by decide) ?_
    refine x_lald C (i := 159) (by decide) LM_o 7 rfl vp_in01 d_LW_law_411 ?_
    refine x_iload C d_LW_law_412 rfl ?_
    refine x_i2l C d_LW_law_414 ?_
    refine x_lcmp C d_LW_law_415 ?_
    refine x_if_eq C 421 d_LW_law_416 (by decide) (fun _ => ?_) (fun h2 => absurd (lw_cmp0 h) h2)
    refine x_goto C 1333 d_LW_law_421 (by decide) ?_
    refine x_lv [(0, .ref b), (1, .ref (g 0)), (2, .ref (g 143)), (3, .ref (g 159)), (4, .ref (g 160)), (5, .int (nI i))] ⟨rfl, rfl, rfl, rfl, rfl, rfl, trivial⟩ ?_
    rw [← EL_EM]
    exact kk _ _
theorem w_LW_locate {p : Program} {l : Launch} (htr : xTr l) {e : Env} {R : Room} {s : State} {m : MethodId} {args : Array Value} {below : List Frame} {meth : Method} {c : Code} {Q : State → Prop} {D : va_G} {a : Nat → ClassId} {base : Nat} {g : Nat → Nat} {k z : Nat} {b L i : Nat} {xs : Nat → Int32} (C : xC p l e s m meth c b_LW_law 9 "ChunkStoreLaw" args D xcl (xty a) base) (hX : va_X b L xs s s.heap) (hb : b < s.heap.size) (hbb : b < base) (hi : i + 6 ≤ L) (hL : L < 2 ^ 30) (hRf : 12 ≤ R.frames) (hRl : 454 ≤ R.locals) (hk : k + 2 ≤ R.cells) (hz : z + 12 ≤ R.slots) {σ σ' : xSig} {w w' : xWrd} {fc q : Nat} {o : Nat → Int64} {d : Nat → UInt64} {A : Int32} (hM : ∀ Y, xM l y_CS_locate b_CS_locate 4 (some FieldType.int) 4 D a base g 161 (EL a g σ w Y) [.ref (g 0), .int (xs (i + 1)), .int (xs (i + 2)), .int (xs (i + 3))] (fun r E' => E' = EL a g σ' w' Y ∧ r = cr [e_IA, e_NS, e_IO] q (.int A))) (hMM : ∀ X, xM l y_MD_locate b_MD_locate 4 (some FieldType.int) 4 D a base g 161 (EM a g σ w fc X) [.ref (g 143), .int (xs (i + 1)), .int (xs (i + 2)), .int (xs (i + 3))] (fun r E' => E' = EM a g σ' w' q X ∧ r = mr q A)) (hB : ∀ t i j, σ' t i j < 2 ^ 30) (hq : q ≤ 3) (kk : ∀ (o' : Nat → Int64) (d' : Nat → UInt64), xG p l e R s m args below meth c Q 9 D xcl base g 161 (LWE a g σ' w' q o' d') (k + 1) (z + 6) 1333 [(0, .ref b), (1, .ref (g 0)), (2, .ref (g 143)), (3, .ref (g 159)), (4, .ref (g 160)), (5, .int (nI i))] []) : xG p l e R s m args below meth c Q 9 D xcl base g 161 (LWE a g σ w fc o d) (k) (z) 424 [(0, .ref b), (1, .ref (g 0)), (2, .ref (g 143)), (3, .ref (g 159)), (4, .ref (g 160)), (5, .int (nI i))] [] := by
  refine x_aload_n C d_LW_law_424 rfl rfl ?_
  refine x_aload_n C d_LW_law_425 rfl rfl ?_
  refine x_iload C d_LW_law_426 rfl ?_
  refine x_iconst C (v := nI 1) d_LW_law_428 (by decide) ?_
  refine xn_iadd C d_LW_law_429 ?_
  refine x_sldn C hX hb hbb (show i + 1 < L by omega) hL d_LW_law_430 ?_
  refine x_aload_n C d_LW_law_431 rfl rfl ?_
  refine x_iload C d_LW_law_432 rfl ?_
  refine x_iconst C (v := nI 2) d_LW_law_434 (by decide) ?_
  refine xn_iadd C d_LW_law_435 ?_
  refine x_sldn C hX hb hbb (show i + 2 < L by omega) hL d_LW_law_436 ?_
  refine x_aload_n C d_LW_law_437 rfl rfl ?_
  refine x_iload C d_LW_law_438 rfl ?_
  refine x_iconst C (v := nI 3) d_LW_law_440 (by decide) ?_
  refine xn_iadd C d_LW_law_441 ?_
  refine x_sldn C hX hb hbb (show i + 3 < L by omega) hL d_LW_law_442 ?_
  refine x_aload_n C d_LW_law_443 rfl rfl ?_
  refine x_callSH C (h_LW_locate htr (Nat.le_refl _) EL_cs LW_o (hM _) hq) kw356 kw355 kw0 kw354 ny_LW pl_LW_locate (lw_room hRf hRl (by decide) (by decide)) (lw_roomc0 hk hz) rfl (Nat.le_of_ble_eq_true rfl) d_LW_law_444 (fun v E' h => ?_) (fun X E' h => by cases h.1)
  obtain ⟨h1, h2⟩ := h
  cases h1
  rw [h2, LW_up]
  clear h2
  refine x_istore C d_LW_law_447 (by decide) rfl ?_
  refine x_aload_n C d_LW_law_449 rfl rfl ?_
  refine x_aload_n C d_LW_law_450 rfl rfl ?_
  refine x_iload C d_LW_law_451 rfl ?_
  refine x_iconst C (v := nI 1) d_LW_law_453 (by decide) ?_
  refine xn_iadd C d_LW_law_454 ?_
  refine x_sldn C hX hb hbb (show i + 1 < L by omega) hL d_LW_law_455 ?_
  refine x_aload_n C d_LW_law_456 rfl rfl ?_
  refine x_iload C d_LW_law_457 rfl ?_
  refine x_iconst C (v := nI 2) d_LW_law_459 (by decide) ?_
  refine xn_iadd C d_LW_law_460 ?_
  refine x_sldn C hX hb hbb (show i + 2 < L by omega) hL d_LW_law_461 ?_
  refine x_aload_n C d_LW_law_462 rfl rfl ?_
  refine x_iload C d_LW_law_463 rfl ?_
  refine x_iconst C (v := nI 3) d_LW_law_465 (by decide) ?_
  refine xn_iadd C d_LW_law_466 ?_
  refine x_sldn C hX hb hbb (show i + 3 < L by omega) hL d_LW_law_467 ?_
  refine x_callV (Cn := R_MD) C (hMM _) (i := 143) (by decide) EM_obj (ci := 5) (r := (R_MD, F_MD, 18)) rfl kw675 kw673 kw674 kw6 kw672 ny_MD pl_MD_locate (lw_room hRf hRl (by decide) (by decide)) (lw_roomc1 hk hz) rfl (Nat.le_of_ble_eq_true rfl) d_LW_law_468 (fun v E' h => ?_) (fun X E' h => by cases h.2)
  obtain ⟨h1, h2⟩ := h
  cases h2
  rw [h1]
  clear h1
  refine x_istore C d_LW_law_471 (by decide) rfl ?_
  refine x_aload_n C d_LW_law_473 rfl rfl ?_
  refine x_callV (Cn := R_MD) C (m_MD_thrown htr (by decide) hB (k := 4) (by decide)) (i := 143) (by decide) EM_obj (ci := 5) (r := (R_MD, F_MD, 18)) rfl kw627 kw625 kw626 kw6 kw624 ny_MD pl_MD_thrown (lw_room hRf hRl (by decide) (by decide)) (lw_roomc1 hk hz) rfl (Nat.le_of_ble_eq_true rfl) d_LW_law_474 (fun v E' h => ?_) (fun X E' h => by cases h.2)
  obtain ⟨h1, h2⟩ := h
  cases h2
  rw [h1]
  clear h1
  refine x_iload C d_LW_law_477 rfl ?_
  refine x_icmp_eq C 484 d_LW_law_479 (by decide) (fun _ => ?_) (fun h => absurd rfl h)
  refine x_iload C d_LW_law_484 rfl ?_
  refine xn_if_ne C (by omega) 501 d_LW_law_486 (by decide) (fun h => ?_) (fun h => ?_)
  · refine x_goto C 1333 d_LW_law_501 (by decide) ?_
    refine x_lv [(0, .ref b), (1, .ref (g 0)), (2, .ref (g 143)), (3, .ref (g 159)), (4, .ref (g 160)), (5, .int (nI i))] ⟨rfl, rfl, rfl, rfl, rfl, rfl, trivial⟩ ?_
    rw [← EL_EM]
    exact kk _ _
  · refine x_aload_n C d_LW_law_489 rfl rfl ?_
    refine x_iconst C (v := nI 0) d_LW_law_490 (by decide) ?_
    refine x_lald C (i := 159) (by decide) LM_o 7 rfl vp_in01 d_LW_law_491 ?_
    refine x_iload C d_LW_law_492 rfl ?_
    refine x_i2l C d_LW_law_494 ?_
    refine x_lcmp C d_LW_law_495 ?_
    refine x_if_eq C 501 d_LW_law_496 (by decide) (fun _ => ?_) (fun h2 => absurd (lw_cmp0 h) h2)
    refine x_goto C 1333 d_LW_law_501 (by decide) ?_
    refine x_lv [(0, .ref b), (1, .ref (g 0)), (2, .ref (g 143)), (3, .ref (g 159)), (4, .ref (g 160)), (5, .int (nI i))] ⟨rfl, rfl, rfl, rfl, rfl, rfl, trivial⟩ ?_
    rw [← EL_EM]
    exact kk _ _
end XLC
