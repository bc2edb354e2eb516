section XLH
theorem cr_inl {L : List String} {q : Nat} {x : Value} {v : Option Value} (h : (Sum.inl v : xR) = cr L q x) : q = 0 ∧ v = some x := by
  unfold cr at h
  by_cases r : q = 0
  · rw [if_pos r] at h; exact ⟨r, Sum.inl.inj h⟩
  · rw [if_neg r] at h; cases h
theorem cr_inr {L : List String} {q : Nat} {x : Value} {X : String} (h : (Sum.inr X : xR) = cr L q x) : ¬ q = 0 ∧ X = L.getD (q - 1) "" := by
  unfold cr at h
  by_cases r : q = 0
  · rw [if_pos r] at h; cases h
  · rw [if_neg r] at h; exact ⟨r, Sum.inr.inj h⟩
theorem vp_in01 : vp_in (nI 0) 1 := vp_in_nI (by decide) (by decide)
def xH (l : Launch) (y : MethodName) (b : ByteArray) (maxL : Nat) (hh : List (Nat × Nat × Nat × Nat)) (D : va_G) (a : Nat → ClassId) (base : Nat) (g : Nat → Nat) (n : Nat) (E : Nat → va_E) (av : List Value) (post : xR → (Nat → va_E) → Prop) : Prop := xMet l y [Cond.codeWith y b maxL (some FieldType.int) hh] (xrm 5) (xPc D xcl (xty a) base g n E av) (xQc D xcl base g n post) 1 6 1 6 (fun q => base ≤ q)
theorem ny_LW : "ChunkStoreLaw" ≠ "java/lang/invoke/MethodHandle" ∧ "ChunkStoreLaw" ≠ "java/lang/invoke/VarHandle" := by decide
theorem pl_LW_create : (parseMethodDescriptor y_LW_create.desc).map (fun d => d.parameters.length) = some 3 := by decide +kernel
theorem pl_LW_remove : (parseMethodDescriptor y_LW_remove.desc).map (fun d => d.parameters.length) = some 3 := by decide +kernel
theorem pl_LW_restore : (parseMethodDescriptor y_LW_restore.desc).map (fun d => d.parameters.length) = some 3 := by decide +kernel
theorem pl_LW_copy : (parseMethodDescriptor y_LW_copy.desc).map (fun d => d.parameters.length) = some 4 := by decide +kernel
theorem pl_LW_extend : (parseMethodDescriptor y_LW_extend.desc).map (fun d => d.parameters.length) = some 3 := by decide +kernel
theorem pl_LW_locate : (parseMethodDescriptor y_LW_locate.desc).map (fun d => d.parameters.length) = some 5 := by decide +kernel
theorem pl_LW_write : (parseMethodDescriptor y_LW_write.desc).map (fun d => d.parameters.length) = some 6 := by decide +kernel
theorem pl_LW_append : (parseMethodDescriptor y_LW_append.desc).map (fun d => d.parameters.length) = some 4 := by decide +kernel
theorem pl_LW_read : (parseMethodDescriptor y_LW_read.desc).map (fun d => d.parameters.length) = some 7 := by decide +kernel
theorem pl_LW_up : (parseMethodDescriptor y_LW_up.desc).map (fun d => d.parameters.length) = some 4 := by decide +kernel
theorem pl_LW_report : (parseMethodDescriptor y_LW_report.desc).map (fun d => d.parameters.length) = some 3 := by decide +kernel
theorem pl_LW_repair : (parseMethodDescriptor y_LW_repair.desc).map (fun d => d.parameters.length) = some 2 := by decide +kernel
theorem pl_LW_tick : (parseMethodDescriptor y_LW_tick.desc).map (fun d => d.parameters.length) = some 3 := by decide +kernel
theorem pl_LW_load : (parseMethodDescriptor y_LW_load.desc).map (fun d => d.parameters.length) = some 2 := by decide +kernel
theorem pl_LW_look : (parseMethodDescriptor y_LW_look.desc).map (fun d => d.parameters.length) = some 5 := by decide +kernel
theorem pl_LW_file : (parseMethodDescriptor y_LW_file.desc).map (fun d => d.parameters.length) = some 4 := by decide +kernel
theorem pl_LW_chunk : (parseMethodDescriptor y_LW_chunk.desc).map (fun d => d.parameters.length) = some 4 := by decide +kernel
theorem h_LW_create {l : Launch} (htr : xTr l) {D : va_G} {a : Nat → ClassId} {base : Nat} {g : Nat → Nat} {n : Nat} {E E1 : Nat → va_E} {fs : List Value} {f1 : Nat → Int64} (hn : 161 ≤ n) (he : E 0 = .inr (0, fs)) (ho : E1 159 = .inl (a 7, 1, .inr (.inl f1))) {q : Nat} {x0 : Int32} {A : Int32} (hM : xM l y_CS_create b_CS_create 3 (some FieldType.int) 4 D a base g n E [.ref (g 0), .int x0] (fun r E' => E' = E1 ∧ r = cr [e_IA, e_IS] q (.int A))) (hq : q ≤ 2) : xH l y_LW_create b_LW_create 4 [(0, 9, 12, 13), (0, 9, 15, 15)] D a base g n E [.ref (g 0), .int x0, .ref (g 159)] (fun r E' => r = .inl (some (.int (nI q))) ∧ E' = if q = 0 then va_up E1 159 (.inl (a 7, 1, .inr (.inl (vp_updL f1 0 A.toInt64)))) else E1) := by
  refine x_methodH (by decide) htr (Nat.le_of_ble_eq_true rfl) ?_
  intro p e s m args below meth c C hpl htab hret
  have C : xC p l e s m meth c b_LW_create 4 "ChunkStoreLaw" args D xcl (xty a) base := C
  refine x_aload_n C d_LW_create_0 rfl rfl ?_
  refine x_iconst C (v := nI 0) d_LW_create_1 (by decide) ?_
  refine x_aload_n C d_LW_create_2 rfl rfl ?_
  refine x_iload_n C d_LW_create_3 rfl rfl ?_
  refine x_callV (Cn := R_CS) C hM (i := 0) (by omega) he (ci := 0) (r := (R_CS, F_CS, 6)) rfl kw152 kw150 kw151 kw1 kw149 ny_CS pl_CS_create (x_room (by decide) (by decide)) x_roomc rfl (Nat.le_of_ble_eq_true rfl) d_LW_create_4 (fun v E' h => ?_) (fun X E' h => ?_)
  · obtain ⟨h1, h2⟩ := h
    obtain ⟨h3, h4⟩ := cr_inl h2
    subst h3
    subst h4
    rw [h1]
    refine x_i2l C d_LW_create_7 ?_
    refine x_last C (i := 159) (E' := va_up E1 159 (.inl (a 7, 1, .inr (.inl (vp_updL f1 0 A.toInt64))))) (by omega) ho 7 rfl vp_in01 (by rw [nI_clamp (by decide)]) d_LW_create_8 ?_
    refine x_goto C 18 d_LW_create_9 (by decide) ?_
    refine x_iconst C (v := nI 0) d_LW_create_18 (by decide) ?_
    exact x_iretK C hret (by decide) (by decide) d_LW_create_19 ⟨rfl, (if_pos rfl).symm⟩
  · obtain ⟨h1, h2⟩ := h
    obtain ⟨h3, h4⟩ := cr_inr h2
    rw [h1]
    have hc : q = 1 ∨ q = 2 := by omega
    rcases hc with rfl | rfl
    · have h5 : X = e_IA := h4
      subst h5
      refine x_catch C hpl htab [] (0, 9, 12, 13) [(0, 9, 15, 15)] rfl (by decide) (by decide) kw147 (fun _ h => by cases h) (fun aa => ?_)
      refine x_astore_n C d_LW_create_12 rfl (by decide) rfl ?_
      refine x_iconst C (v := nI 1) d_LW_create_13 (by decide) ?_
      exact x_iretK C hret (by decide) (by decide) d_LW_create_14 ⟨rfl, (if_neg (by decide)).symm⟩
    · have h5 : X = e_IS := h4
      subst h5
      refine x_catch C hpl htab [(0, 9, 12, 13)] (0, 9, 15, 15) [] rfl (by decide) (by decide) kw148 (List.forall_mem_cons.mpr ⟨⟨by decide, e_IA, kw147, by decide +kernel⟩, (fun _ h => by cases h)⟩) (fun aa => ?_)
      refine x_astore_n C d_LW_create_15 rfl (by decide) rfl ?_
      refine x_iconst C (v := nI 2) d_LW_create_16 (by decide) ?_
      exact x_iretK C hret (by decide) (by decide) d_LW_create_17 ⟨rfl, (if_neg (by decide)).symm⟩
theorem h_LW_remove {l : Launch} (htr : xTr l) {D : va_G} {a : Nat → ClassId} {base : Nat} {g : Nat → Nat} {n : Nat} {E E1 : Nat → va_E} {fs : List Value} {f1 : Nat → Int64} (hn : 161 ≤ n) (he : E 0 = .inr (0, fs)) (ho : E1 159 = .inl (a 7, 1, .inr (.inl f1))) {q : Nat} {x0 : Int32} {A : Int32} (hM : xM l y_CS_remove b_CS_remove 3 (some FieldType.int) 4 D a base g n E [.ref (g 0), .int x0] (fun r E' => E' = E1 ∧ r = cr [e_IA, e_NS] q (.int A))) (hq : q ≤ 2) : xH l y_LW_remove b_LW_remove 4 [(0, 9, 12, 13), (0, 9, 15, 20)] D a base g n E [.ref (g 0), .int x0, .ref (g 159)] (fun r E' => r = .inl (some (.int (nI q))) ∧ E' = if q = 0 then va_up E1 159 (.inl (a 7, 1, .inr (.inl (vp_updL f1 0 A.toInt64)))) else E1) := by
  refine x_methodH (by decide) htr (Nat.le_of_ble_eq_true rfl) ?_
  intro p e s m args below meth c C hpl htab hret
  have C : xC p l e s m meth c b_LW_remove 4 "ChunkStoreLaw" args D xcl (xty a) base := C
  refine x_aload_n C d_LW_remove_0 rfl rfl ?_
  refine x_iconst C (v := nI 0) d_LW_remove_1 (by decide) ?_
  refine x_aload_n C d_LW_remove_2 rfl rfl ?_
  refine x_iload_n C d_LW_remove_3 rfl rfl ?_
  refine x_callV (Cn := R_CS) C hM (i := 0) (by omega) he (ci := 0) (r := (R_CS, F_CS, 6)) rfl kw258 kw256 kw257 kw1 kw255 ny_CS pl_CS_remove (x_room (by decide) (by decide)) x_roomc rfl (Nat.le_of_ble_eq_true rfl) d_LW_remove_4 (fun v E' h => ?_) (fun X E' h => ?_)
  · obtain ⟨h1, h2⟩ := h
    obtain ⟨h3, h4⟩ := cr_inl h2
    subst h3
    subst h4
    rw [h1]
    refine x_i2l C d_LW_remove_7 ?_
    refine x_last C (i := 159) (E' := va_up E1 159 (.inl (a 7, 1, .inr (.inl (vp_updL f1 0 A.toInt64))))) (by omega) ho 7 rfl vp_in01 (by rw [nI_clamp (by decide)]) d_LW_remove_8 ?_
    refine x_goto C 18 d_LW_remove_9 (by decide) ?_
    refine x_iconst C (v := nI 0) d_LW_remove_18 (by decide) ?_
    exact x_iretK C hret (by decide) (by decide) d_LW_remove_19 ⟨rfl, (if_pos rfl).symm⟩
  · obtain ⟨h1, h2⟩ := h
    obtain ⟨h3, h4⟩ := cr_inr h2
    rw [h1]
    have hc : q = 1 ∨ q = 2 := by omega
    rcases hc with rfl | rfl
    · have h5 : X = e_IA := h4
      subst h5
      refine x_catch C hpl htab [] (0, 9, 12, 13) [(0, 9, 15, 20)] rfl (by decide) (by decide) kw147 (fun _ h => by cases h) (fun aa => ?_)
      refine x_astore_n C d_LW_remove_12 rfl (by decide) rfl ?_
      refine x_iconst C (v := nI 1) d_LW_remove_13 (by decide) ?_
      exact x_iretK C hret (by decide) (by decide) d_LW_remove_14 ⟨rfl, (if_neg (by decide)).symm⟩
    · have h5 : X = e_NS := h4
      subst h5
      refine x_catch C hpl htab [(0, 9, 12, 13)] (0, 9, 15, 20) [] rfl (by decide) (by decide) kw254 (List.forall_mem_cons.mpr ⟨⟨by decide, e_IA, kw147, by decide +kernel⟩, (fun _ h => by cases h)⟩) (fun aa => ?_)
      refine x_astore_n C d_LW_remove_15 rfl (by decide) rfl ?_
      refine x_iconst C (v := nI 2) d_LW_remove_16 (by decide) ?_
      exact x_iretK C hret (by decide) (by decide) d_LW_remove_17 ⟨rfl, (if_neg (by decide)).symm⟩
theorem h_LW_restore {l : Launch} (htr : xTr l) {D : va_G} {a : Nat → ClassId} {base : Nat} {g : Nat → Nat} {n : Nat} {E E1 : Nat → va_E} {fs : List Value} {f1 : Nat → Int64} (hn : 161 ≤ n) (he : E 0 = .inr (0, fs)) (ho : E1 159 = .inl (a 7, 1, .inr (.inl f1))) {q : Nat} {x0 : Int32} {A : Int32} (hM : xM l y_CS_restore b_CS_restore 3 (some FieldType.int) 4 D a base g n E [.ref (g 0), .int x0] (fun r E' => E' = E1 ∧ r = cr [e_IA, e_NS] q (.int A))) (hq : q ≤ 2) : xH l y_LW_restore b_LW_restore 4 [(0, 9, 12, 13), (0, 9, 15, 20)] D a base g n E [.ref (g 0), .int x0, .ref (g 159)] (fun r E' => r = .inl (some (.int (nI q))) ∧ E' = if q = 0 then va_up E1 159 (.inl (a 7, 1, .inr (.inl (vp_updL f1 0 A.toInt64)))) else E1) := by
  refine x_methodH (by decide) htr (Nat.le_of_ble_eq_true rfl) ?_
  intro p e s m args below meth c C hpl htab hret
  have C : xC p l e s m meth c b_LW_restore 4 "ChunkStoreLaw" args D xcl (xty a) base := C
  refine x_aload_n C d_LW_restore_0 rfl rfl ?_
  refine x_iconst C (v := nI 0) d_LW_restore_1 (by decide) ?_
  refine x_aload_n C d_LW_restore_2 rfl rfl ?_
  refine x_iload_n C d_LW_restore_3 rfl rfl ?_
  refine x_callV (Cn := R_CS) C hM (i := 0) (by omega) he (ci := 0) (r := (R_CS, F_CS, 6)) rfl kw285 kw283 kw284 kw1 kw282 ny_CS pl_CS_restore (x_room (by decide) (by decide)) x_roomc rfl (Nat.le_of_ble_eq_true rfl) d_LW_restore_4 (fun v E' h => ?_) (fun X E' h => ?_)
  · obtain ⟨h1, h2⟩ := h
    obtain ⟨h3, h4⟩ := cr_inl h2
    subst h3
    subst h4
    rw [h1]
    refine x_i2l C d_LW_restore_7 ?_
    refine x_last C (i := 159) (E' := va_up E1 159 (.inl (a 7, 1, .inr (.inl (vp_updL f1 0 A.toInt64))))) (by omega) ho 7 rfl vp_in01 (by rw [nI_clamp (by decide)]) d_LW_restore_8 ?_
    refine x_goto C 18 d_LW_restore_9 (by decide) ?_
    refine x_iconst C (v := nI 0) d_LW_restore_18 (by decide) ?_
    exact x_iretK C hret (by decide) (by decide) d_LW_restore_19 ⟨rfl, (if_pos rfl).symm⟩
  · obtain ⟨h1, h2⟩ := h
    obtain ⟨h3, h4⟩ := cr_inr h2
    rw [h1]
    have hc : q = 1 ∨ q = 2 := by omega
    rcases hc with rfl | rfl
    · have h5 : X = e_IA := h4
      subst h5
      refine x_catch C hpl htab [] (0, 9, 12, 13) [(0, 9, 15, 20)] rfl (by decide) (by decide) kw147 (fun _ h => by cases h) (fun aa => ?_)
      refine x_astore_n C d_LW_restore_12 rfl (by decide) rfl ?_
      refine x_iconst C (v := nI 1) d_LW_restore_13 (by decide) ?_
      exact x_iretK C hret (by decide) (by decide) d_LW_restore_14 ⟨rfl, (if_neg (by decide)).symm⟩
    · have h5 : X = e_NS := h4
      subst h5
      refine x_catch C hpl htab [(0, 9, 12, 13)] (0, 9, 15, 20) [] rfl (by decide) (by decide) kw254 (List.forall_mem_cons.mpr ⟨⟨by decide, e_IA, kw147, by decide +kernel⟩, (fun _ h => by cases h)⟩) (fun aa => ?_)
      refine x_astore_n C d_LW_restore_15 rfl (by decide) rfl ?_
      refine x_iconst C (v := nI 2) d_LW_restore_16 (by decide) ?_
      exact x_iretK C hret (by decide) (by decide) d_LW_restore_17 ⟨rfl, (if_neg (by decide)).symm⟩
theorem h_LW_copy {l : Launch} (htr : xTr l) {D : va_G} {a : Nat → ClassId} {base : Nat} {g : Nat → Nat} {n : Nat} {E E1 : Nat → va_E} {fs : List Value} {f1 : Nat → Int64} (hn : 161 ≤ n) (he : E 0 = .inr (0, fs)) (ho : E1 159 = .inl (a 7, 1, .inr (.inl f1))) {q : Nat} {x0 : Int32} {x1 : Int32} {A : Int32} (hM : xM l y_CS_copy b_CS_copy 7 (some FieldType.int) 4 D a base g n E [.ref (g 0), .int x0, .int x1] (fun r E' => E' = E1 ∧ r = cr [e_IA, e_NS, e_IS] q (.int A))) (hq : q ≤ 3) : xH l y_LW_copy b_LW_copy 5 [(0, 10, 13, 13), (0, 10, 17, 20), (0, 10, 21, 15)] D a base g n E [.ref (g 0), .int x0, .int x1, .ref (g 159)] (fun r E' => r = .inl (some (.int (nI q))) ∧ E' = if q = 0 then va_up E1 159 (.inl (a 7, 1, .inr (.inl (vp_updL f1 0 A.toInt64)))) else E1) := by
  refine x_methodH (by decide) htr (Nat.le_of_ble_eq_true rfl) ?_
  intro p e s m args below meth c C hpl htab hret
  have C : xC p l e s m meth c b_LW_copy 5 "ChunkStoreLaw" args D xcl (xty a) base := C
  refine x_aload_n C d_LW_copy_0 rfl rfl ?_
  refine x_iconst C (v := nI 0) d_LW_copy_1 (by decide) ?_
  refine x_aload_n C d_LW_copy_2 rfl rfl ?_
  refine x_iload_n C d_LW_copy_3 rfl rfl ?_
  refine x_iload_n C d_LW_copy_4 rfl rfl ?_
  refine x_callV (Cn := R_CS) C hM (i := 0) (by omega) he (ci := 0) (r := (R_CS, F_CS, 6)) rfl kw293 kw291 kw292 kw1 kw290 ny_CS pl_CS_copy (x_room (by decide) (by decide)) x_roomc rfl (Nat.le_of_ble_eq_true rfl) d_LW_copy_5 (fun v E' h => ?_) (fun X E' h => ?_)
  · obtain ⟨h1, h2⟩ := h
    obtain ⟨h3, h4⟩ := cr_inl h2
    subst h3
    subst h4
    rw [h1]
    refine x_i2l C d_LW_copy_8 ?_
    refine x_last C (i := 159) (E' := va_up E1 159 (.inl (a 7, 1, .inr (.inl (vp_updL f1 0 A.toInt64))))) (by omega) ho 7 rfl vp_in01 (by rw [nI_clamp (by decide)]) d_LW_copy_9 ?_
    refine x_goto C 25 d_LW_copy_10 (by decide) ?_
    refine x_iconst C (v := nI 0) d_LW_copy_25 (by decide) ?_
    exact x_iretK C hret (by decide) (by decide) d_LW_copy_26 ⟨rfl, (if_pos rfl).symm⟩
  · obtain ⟨h1, h2⟩ := h
    obtain ⟨h3, h4⟩ := cr_inr h2
    rw [h1]
    have hc : q = 1 ∨ q = 2 ∨ q = 3 := by omega
    rcases hc with rfl | rfl | rfl
    · have h5 : X = e_IA := h4
      subst h5
      refine x_catch C hpl htab [] (0, 10, 13, 13) [(0, 10, 17, 20), (0, 10, 21, 15)] rfl (by decide) (by decide) kw147 (fun _ h => by cases h) (fun aa => ?_)
      refine x_astore C d_LW_copy_13 (by decide) rfl ?_
      refine x_iconst C (v := nI 1) d_LW_copy_15 (by decide) ?_
      exact x_iretK C hret (by decide) (by decide) d_LW_copy_16 ⟨rfl, (if_neg (by decide)).symm⟩
    · have h5 : X = e_NS := h4
      subst h5
      refine x_catch C hpl htab [(0, 10, 13, 13)] (0, 10, 17, 20) [(0, 10, 21, 15)] rfl (by decide) (by decide) kw254 (List.forall_mem_cons.mpr ⟨⟨by decide, e_IA, kw147, by decide +kernel⟩, (fun _ h => by cases h)⟩) (fun aa => ?_)
      refine x_astore C d_LW_copy_17 (by decide) rfl ?_
      refine x_iconst C (v := nI 2) d_LW_copy_19 (by decide) ?_
      exact x_iretK C hret (by decide) (by decide) d_LW_copy_20 ⟨rfl, (if_neg (by decide)).symm⟩
    · have h5 : X = e_IS := h4
      subst h5
      refine x_catch C hpl htab [(0, 10, 13, 13), (0, 10, 17, 20)] (0, 10, 21, 15) [] rfl (by decide) (by decide) kw148 (List.forall_mem_cons.mpr ⟨⟨by decide, e_IA, kw147, by decide +kernel⟩, (List.forall_mem_cons.mpr ⟨⟨by decide, e_NS, kw254, by decide +kernel⟩, (fun _ h => by cases h)⟩)⟩) (fun aa => ?_)
      refine x_astore C d_LW_copy_21 (by decide) rfl ?_
      refine x_iconst C (v := nI 3) d_LW_copy_23 (by decide) ?_
      exact x_iretK C hret (by decide) (by decide) d_LW_copy_24 ⟨rfl, (if_neg (by decide)).symm⟩
theorem h_LW_extend {l : Launch} (htr : xTr l) {D : va_G} {a : Nat → ClassId} {base : Nat} {g : Nat → Nat} {n : Nat} {E E1 : Nat → va_E} {fs : List Value} {f1 : Nat → Int64} (hn : 161 ≤ n) (he : E 0 = .inr (0, fs)) (ho : E1 159 = .inl (a 7, 1, .inr (.inl f1))) {q : Nat} {x0 : Int32} {A : Int32} (hM : xM l y_CS_extend b_CS_extend 2 (some FieldType.int) 4 D a base g n E [.ref (g 0), .int x0] (fun r E' => E' = E1 ∧ r = cr [e_IA, e_NS, e_IS, e_IO] q (.int A))) (hq : q ≤ 4) : xH l y_LW_extend b_LW_extend 4 [(0, 9, 12, 13), (0, 9, 15, 20), (0, 9, 18, 15), (0, 9, 21, 32)] D a base g n E [.ref (g 0), .int x0, .ref (g 159)] (fun r E' => r = .inl (some (.int (nI q))) ∧ E' = if q = 0 then va_up E1 159 (.inl (a 7, 1, .inr (.inl (vp_updL f1 0 A.toInt64)))) else E1) := by
  refine x_methodH (by decide) htr (Nat.le_of_ble_eq_true rfl) ?_
  intro p e s m args below meth c C hpl htab hret
  have C : xC p l e s m meth c b_LW_extend 4 "ChunkStoreLaw" args D xcl (xty a) base := C
  refine x_aload_n C d_LW_extend_0 rfl rfl ?_
  refine x_iconst C (v := nI 0) d_LW_extend_1 (by decide) ?_
  refine x_aload_n C d_LW_extend_2 rfl rfl ?_
  refine x_iload_n C d_LW_extend_3 rfl rfl ?_
  refine x_callV (Cn := R_CS) C hM (i := 0) (by omega) he (ci := 0) (r := (R_CS, F_CS, 6)) rfl kw305 kw303 kw304 kw1 kw302 ny_CS pl_CS_extend (x_room (by decide) (by decide)) x_roomc rfl (Nat.le_of_ble_eq_true rfl) d_LW_extend_4 (fun v E' h => ?_) (fun X E' h => ?_)
  · obtain ⟨h1, h2⟩ := h
    obtain ⟨h3, h4⟩ := cr_inl h2
    subst h3
    subst h4
    rw [h1]
    refine x_i2l C d_LW_extend_7 ?_
    refine x_last C (i := 159) (E' := va_up E1 159 (.inl (a 7, 1, .inr (.inl (vp_updL f1 0 A.toInt64))))) (by omega) ho 7 rfl vp_in01 (by rw [nI_clamp (by decide)]) d_LW_extend_8 ?_
    refine x_goto C 24 d_LW_extend_9 (by decide) ?_
    refine x_iconst C (v := nI 0) d_LW_extend_24 (by decide) ?_
    exact x_iretK C hret (by decide) (by decide) d_LW_extend_25 ⟨rfl, (if_pos rfl).symm⟩
  · obtain ⟨h1, h2⟩ := h
    obtain ⟨h3, h4⟩ := cr_inr h2
    rw [h1]
    have hc : q = 1 ∨ q = 2 ∨ q = 3 ∨ q = 4 := by omega
    rcases hc with rfl | rfl | rfl | rfl
    · have h5 : X = e_IA := h4
      subst h5
      refine x_catch C hpl htab [] (0, 9, 12, 13) [(0, 9, 15, 20), (0, 9, 18, 15), (0, 9, 21, 32)] rfl (by decide) (by decide) kw147 (fun _ h => by cases h) (fun aa => ?_)
      refine x_astore_n C d_LW_extend_12 rfl (by decide) rfl ?_
      refine x_iconst C (v := nI 1) d_LW_extend_13 (by decide) ?_
      exact x_iretK C hret (by decide) (by decide) d_LW_extend_14 ⟨rfl, (if_neg (by decide)).symm⟩
    · have h5 : X = e_NS := h4
      subst h5
      refine x_catch C hpl htab [(0, 9, 12, 13)] (0, 9, 15, 20) [(0, 9, 18, 15), (0, 9, 21, 32)] rfl (by decide) (by decide) kw254 (List.forall_mem_cons.mpr ⟨⟨by decide, e_IA, kw147, by decide +kernel⟩, (fun _ h => by cases h)⟩) (fun aa => ?_)
      refine x_astore_n C d_LW_extend_15 rfl (by decide) rfl ?_
      refine x_iconst C (v := nI 2) d_LW_extend_16 (by decide) ?_
      exact x_iretK C hret (by decide) (by decide) d_LW_extend_17 ⟨rfl, (if_neg (by decide)).symm⟩
    · have h5 : X = e_IS := h4
      subst h5
      refine x_catch C hpl htab [(0, 9, 12, 13), (0, 9, 15, 20)] (0, 9, 18, 15) [(0, 9, 21, 32)] rfl (by decide) (by decide) kw148 (List.forall_mem_cons.mpr ⟨⟨by decide, e_IA, kw147, by decide +kernel⟩, (List.forall_mem_cons.mpr ⟨⟨by decide, e_NS, kw254, by decide +kernel⟩, (fun _ h => by cases h)⟩)⟩) (fun aa => ?_)
      refine x_astore_n C d_LW_extend_18 rfl (by decide) rfl ?_
      refine x_iconst C (v := nI 3) d_LW_extend_19 (by decide) ?_
      exact x_iretK C hret (by decide) (by decide) d_LW_extend_20 ⟨rfl, (if_neg (by decide)).symm⟩
    · have h5 : X = e_IO := h4
      subst h5
      refine x_catch C hpl htab [(0, 9, 12, 13), (0, 9, 15, 20), (0, 9, 18, 15)] (0, 9, 21, 32) [] rfl (by decide) (by decide) kw301 (List.forall_mem_cons.mpr ⟨⟨by decide, e_IA, kw147, by decide +kernel⟩, (List.forall_mem_cons.mpr ⟨⟨by decide, e_NS, kw254, by decide +kernel⟩, (List.forall_mem_cons.mpr ⟨⟨by decide, e_IS, kw148, by decide +kernel⟩, (fun _ h => by cases h)⟩)⟩)⟩) (fun aa => ?_)
      refine x_astore_n C d_LW_extend_21 rfl (by decide) rfl ?_
      refine x_iconst C (v := nI 4) d_LW_extend_22 (by decide) ?_
      exact x_iretK C hret (by decide) (by decide) d_LW_extend_23 ⟨rfl, (if_neg (by decide)).symm⟩
theorem h_LW_locate {l : Launch} (htr : xTr l) {D : va_G} {a : Nat → ClassId} {base : Nat} {g : Nat → Nat} {n : Nat} {E E1 : Nat → va_E} {fs : List Value} {f1 : Nat → Int64} (hn : 161 ≤ n) (he : E 0 = .inr (0, fs)) (ho : E1 159 = .inl (a 7, 1, .inr (.inl f1))) {q : Nat} {x0 : Int32} {x1 : Int32} {x2 : Int32} {A : Int32} (hM : xM l y_CS_locate b_CS_locate 4 (some FieldType.int) 4 D a base g n E [.ref (g 0), .int x0, .int x1, .int x2] (fun r E' => E' = E1 ∧ r = cr [e_IA, e_NS, e_IO] q (.int A))) (hq : q ≤ 3) : xH l y_LW_locate b_LW_locate 6 [(0, 12, 15, 13), (0, 12, 19, 20), (0, 12, 23, 32)] D a base g n E [.ref (g 0), .int x0, .int x1, .int x2, .ref (g 159)] (fun r E' => r = .inl (some (.int (nI q))) ∧ E' = if q = 0 then va_up E1 159 (.inl (a 7, 1, .inr (.inl (vp_updL f1 0 A.toInt64)))) else E1) := by
  refine x_methodH (by decide) htr (Nat.le_of_ble_eq_true rfl) ?_
  intro p e s m args below meth c C hpl htab hret
  have C : xC p l e s m meth c b_LW_locate 6 "ChunkStoreLaw" args D xcl (xty a) base := C
  refine x_aload C d_LW_locate_0 rfl ?_
  refine x_iconst C (v := nI 0) d_LW_locate_2 (by decide) ?_
  refine x_aload_n C d_LW_locate_3 rfl rfl ?_
  refine x_iload_n C d_LW_locate_4 rfl rfl ?_
  refine x_iload_n C d_LW_locate_5 rfl rfl ?_
  refine x_iload_n C d_LW_locate_6 rfl rfl ?_
  refine x_callV (Cn := R_CS) C hM (i := 0) (by omega) he (ci := 0) (r := (R_CS, F_CS, 6)) rfl kw360 kw358 kw359 kw1 kw357 ny_CS pl_CS_locate (x_room (by decide) (by decide)) x_roomc rfl (Nat.le_of_ble_eq_true rfl) d_LW_locate_7 (fun v E' h => ?_) (fun X E' h => ?_)
  · obtain ⟨h1, h2⟩ := h
    obtain ⟨h3, h4⟩ := cr_inl h2
    subst h3
    subst h4
    rw [h1]
    refine x_i2l C d_LW_locate_10 ?_
    refine x_last C (i := 159) (E' := va_up E1 159 (.inl (a 7, 1, .inr (.inl (vp_updL f1 0 A.toInt64))))) (by omega) ho 7 rfl vp_in01 (by rw [nI_clamp (by decide)]) d_LW_locate_11 ?_
    refine x_goto C 27 d_LW_locate_12 (by decide) ?_
    refine x_iconst C (v := nI 0) d_LW_locate_27 (by decide) ?_
    exact x_iretK C hret (by decide) (by decide) d_LW_locate_28 ⟨rfl, (if_pos rfl).symm⟩
  · obtain ⟨h1, h2⟩ := h
    obtain ⟨h3, h4⟩ := cr_inr h2
    rw [h1]
    have hc : q = 1 ∨ q = 2 ∨ q = 3 := by omega
    rcases hc with rfl | rfl | rfl
    · have h5 : X = e_IA := h4
      subst h5
      refine x_catch C hpl htab [] (0, 12, 15, 13) [(0, 12, 19, 20), (0, 12, 23, 32)] rfl (by decide) (by decide) kw147 (fun _ h => by cases h) (fun aa => ?_)
      refine x_astore C d_LW_locate_15 (by decide) rfl ?_
      refine x_iconst C (v := nI 1) d_LW_locate_17 (by decide) ?_
      exact x_iretK C hret (by decide) (by decide) d_LW_locate_18 ⟨rfl, (if_neg (by decide)).symm⟩
    · have h5 : X = e_NS := h4
      subst h5
      refine x_catch C hpl htab [(0, 12, 15, 13)] (0, 12, 19, 20) [(0, 12, 23, 32)] rfl (by decide) (by decide) kw254 (List.forall_mem_cons.mpr ⟨⟨by decide, e_IA, kw147, by decide +kernel⟩, (fun _ h => by cases h)⟩) (fun aa => ?_)
      refine x_astore C d_LW_locate_19 (by decide) rfl ?_
      refine x_iconst C (v := nI 2) d_LW_locate_21 (by decide) ?_
      exact x_iretK C hret (by decide) (by decide) d_LW_locate_22 ⟨rfl, (if_neg (by decide)).symm⟩
    · have h5 : X = e_IO := h4
      subst h5
      refine x_catch C hpl htab [(0, 12, 15, 13), (0, 12, 19, 20)] (0, 12, 23, 32) [] rfl (by decide) (by decide) kw301 (List.forall_mem_cons.mpr ⟨⟨by decide, e_IA, kw147, by decide +kernel⟩, (List.forall_mem_cons.mpr ⟨⟨by decide, e_NS, kw254, by decide +kernel⟩, (fun _ h => by cases h)⟩)⟩) (fun aa => ?_)
      refine x_astore C d_LW_locate_23 (by decide) rfl ?_
      refine x_iconst C (v := nI 3) d_LW_locate_25 (by decide) ?_
      exact x_iretK C hret (by decide) (by decide) d_LW_locate_26 ⟨rfl, (if_neg (by decide)).symm⟩
theorem h_LW_write {l : Launch} (htr : xTr l) {D : va_G} {a : Nat → ClassId} {base : Nat} {g : Nat → Nat} {n : Nat} {E E1 : Nat → va_E} {fs : List Value} {f1 : Nat → Int64} (hn : 161 ≤ n) (he : E 0 = .inr (0, fs)) (ho : E1 159 = .inl (a 7, 1, .inr (.inl f1))) {q : Nat} {x0 : Int32} {x1 : Int32} {x2 : Int32} {x3 : Int32} {A : Int32} (hM : xM l y_CS_write b_CS_write 7 (some FieldType.int) 4 D a base g n E [.ref (g 0), .int x0, .int x1, .int x2, .int x3] (fun r E' => E' = E1 ∧ r = cr [e_IA, e_NS, e_IS, e_UO, e_IO] q (.int A))) (hq : q ≤ 5) : xH l y_LW_write b_LW_write 7 [(0, 14, 17, 13), (0, 14, 21, 20), (0, 14, 25, 15), (0, 14, 29, 42), (0, 14, 33, 32)] D a base g n E [.ref (g 0), .int x0, .int x1, .int x2, .int x3, .ref (g 159)] (fun r E' => r = .inl (some (.int (nI q))) ∧ E' = if q = 0 then va_up E1 159 (.inl (a 7, 1, .inr (.inl (vp_updL f1 0 A.toInt64)))) else E1) := by
  refine x_methodH (by decide) htr (Nat.le_of_ble_eq_true rfl) ?_
  intro p e s m args below meth c C hpl htab hret
  have C : xC p l e s m meth c b_LW_write 7 "ChunkStoreLaw" args D xcl (xty a) base := C
  refine x_aload C d_LW_write_0 rfl ?_
  refine x_iconst C (v := nI 0) d_LW_write_2 (by decide) ?_
  refine x_aload_n C d_LW_write_3 rfl rfl ?_
  refine x_iload_n C d_LW_write_4 rfl rfl ?_
  refine x_iload_n C d_LW_write_5 rfl rfl ?_
  refine x_iload_n C d_LW_write_6 rfl rfl ?_
  refine x_iload C d_LW_write_7 rfl ?_
  refine x_callV (Cn := R_CS) C hM (i := 0) (by omega) he (ci := 0) (r := (R_CS, F_CS, 6)) rfl kw377 kw375 kw376 kw1 kw374 ny_CS pl_CS_write (x_room (by decide) (by decide)) x_roomc rfl (Nat.le_of_ble_eq_true rfl) d_LW_write_9 (fun v E' h => ?_) (fun X E' h => ?_)
  · obtain ⟨h1, h2⟩ := h
    obtain ⟨h3, h4⟩ := cr_inl h2
    subst h3
    subst h4
    rw [h1]
    refine x_i2l C d_LW_write_12 ?_
    refine x_last C (i := 159) (E' := va_up E1 159 (.inl (a 7, 1, .inr (.inl (vp_updL f1 0 A.toInt64))))) (by omega) ho 7 rfl vp_in01 (by rw [nI_clamp (by decide)]) d_LW_write_13 ?_
    refine x_goto C 37 d_LW_write_14 (by decide) ?_
    refine x_iconst C (v := nI 0) d_LW_write_37 (by decide) ?_
    exact x_iretK C hret (by decide) (by decide) d_LW_write_38 ⟨rfl, (if_pos rfl).symm⟩
  · obtain ⟨h1, h2⟩ := h
    obtain ⟨h3, h4⟩ := cr_inr h2
    rw [h1]
    have hc : q = 1 ∨ q = 2 ∨ q = 3 ∨ q = 4 ∨ q = 5 := by omega
    rcases hc with rfl | rfl | rfl | rfl | rfl
    · have h5 : X = e_IA := h4
      subst h5
      refine x_catch C hpl htab [] (0, 14, 17, 13) [(0, 14, 21, 20), (0, 14, 25, 15), (0, 14, 29, 42), (0, 14, 33, 32)] rfl (by decide) (by decide) kw147 (fun _ h => by cases h) (fun aa => ?_)
      refine x_astore C d_LW_write_17 (by decide) rfl ?_
      refine x_iconst C (v := nI 1) d_LW_write_19 (by decide) ?_
      exact x_iretK C hret (by decide) (by decide) d_LW_write_20 ⟨rfl, (if_neg (by decide)).symm⟩
    · have h5 : X = e_NS := h4
      subst h5
      refine x_catch C hpl htab [(0, 14, 17, 13)] (0, 14, 21, 20) [(0, 14, 25, 15), (0, 14, 29, 42), (0, 14, 33, 32)] rfl (by decide) (by decide) kw254 (List.forall_mem_cons.mpr ⟨⟨by decide, e_IA, kw147, by decide +kernel⟩, (fun _ h => by cases h)⟩) (fun aa => ?_)
      refine x_astore C d_LW_write_21 (by decide) rfl ?_
      refine x_iconst C (v := nI 2) d_LW_write_23 (by decide) ?_
      exact x_iretK C hret (by decide) (by decide) d_LW_write_24 ⟨rfl, (if_neg (by decide)).symm⟩
    · have h5 : X = e_IS := h4
      subst h5
      refine x_catch C hpl htab [(0, 14, 17, 13), (0, 14, 21, 20)] (0, 14, 25, 15) [(0, 14, 29, 42), (0, 14, 33, 32)] rfl (by decide) (by decide) kw148 (List.forall_mem_cons.mpr ⟨⟨by decide, e_IA, kw147, by decide +kernel⟩, (List.forall_mem_cons.mpr ⟨⟨by decide, e_NS, kw254, by decide +kernel⟩, (fun _ h => by cases h)⟩)⟩) (fun aa => ?_)
      refine x_astore C d_LW_write_25 (by decide) rfl ?_
      refine x_iconst C (v := nI 3) d_LW_write_27 (by decide) ?_
      exact x_iretK C hret (by decide) (by decide) d_LW_write_28 ⟨rfl, (if_neg (by decide)).symm⟩
    · have h5 : X = e_UO := h4
      subst h5
      refine x_catch C hpl htab [(0, 14, 17, 13), (0, 14, 21, 20), (0, 14, 25, 15)] (0, 14, 29, 42) [(0, 14, 33, 32)] rfl (by decide) (by decide) kw373 (List.forall_mem_cons.mpr ⟨⟨by decide, e_IA, kw147, by decide +kernel⟩, (List.forall_mem_cons.mpr ⟨⟨by decide, e_NS, kw254, by decide +kernel⟩, (List.forall_mem_cons.mpr ⟨⟨by decide, e_IS, kw148, by decide +kernel⟩, (fun _ h => by cases h)⟩)⟩)⟩) (fun aa => ?_)
      refine x_astore C d_LW_write_29 (by decide) rfl ?_
      refine x_iconst C (v := nI 4) d_LW_write_31 (by decide) ?_
      exact x_iretK C hret (by decide) (by decide) d_LW_write_32 ⟨rfl, (if_neg (by decide)).symm⟩
    · have h5 : X = e_IO := h4
      subst h5
      refine x_catch C hpl htab [(0, 14, 17, 13), (0, 14, 21, 20), (0, 14, 25, 15), (0, 14, 29, 42)] (0, 14, 33, 32) [] rfl (by decide) (by decide) kw301 (List.forall_mem_cons.mpr ⟨⟨by decide, e_IA, kw147, by decide +kernel⟩, (List.forall_mem_cons.mpr ⟨⟨by decide, e_NS, kw254, by decide +kernel⟩, (List.forall_mem_cons.mpr ⟨⟨by decide, e_IS, kw148, by decide +kernel⟩, (List.forall_mem_cons.mpr ⟨⟨by decide, e_UO, kw373, by decide +kernel⟩, (fun _ h => by cases h)⟩)⟩)⟩)⟩) (fun aa => ?_)
      refine x_astore C d_LW_write_33 (by decide) rfl ?_
      refine x_iconst C (v := nI 5) d_LW_write_35 (by decide) ?_
      exact x_iretK C hret (by decide) (by decide) d_LW_write_36 ⟨rfl, (if_neg (by decide)).symm⟩
theorem h_LW_append {l : Launch} (htr : xTr l) {D : va_G} {a : Nat → ClassId} {base : Nat} {g : Nat → Nat} {n : Nat} {E E1 : Nat → va_E} {fs : List Value} {f1 : Nat → Int64} (hn : 161 ≤ n) (he : E 0 = .inr (0, fs)) (ho : E1 159 = .inl (a 7, 1, .inr (.inl f1))) {q : Nat} {x0 : Int32} {x1 : Int32} {A : Int32} (hM : xM l y_CS_append b_CS_append 7 (some FieldType.int) 4 D a base g n E [.ref (g 0), .int x0, .int x1] (fun r E' => E' = E1 ∧ r = cr [e_IA, e_NS, e_IS, e_UO, e_IO] q (.int A))) (hq : q ≤ 5) : xH l y_LW_append b_LW_append 5 [(0, 10, 13, 13), (0, 10, 17, 20), (0, 10, 21, 15), (0, 10, 25, 42), (0, 10, 29, 32)] D a base g n E [.ref (g 0), .int x0, .int x1, .ref (g 159)] (fun r E' => r = .inl (some (.int (nI q))) ∧ E' = if q = 0 then va_up E1 159 (.inl (a 7, 1, .inr (.inl (vp_updL f1 0 A.toInt64)))) else E1) := by
  refine x_methodH (by decide) htr (Nat.le_of_ble_eq_true rfl) ?_
  intro p e s m args below meth c C hpl htab hret
  have C : xC p l e s m meth c b_LW_append 5 "ChunkStoreLaw" args D xcl (xty a) base := C
  refine x_aload_n C d_LW_append_0 rfl rfl ?_
  refine x_iconst C (v := nI 0) d_LW_append_1 (by decide) ?_
  refine x_aload_n C d_LW_append_2 rfl rfl ?_
  refine x_iload_n C d_LW_append_3 rfl rfl ?_
  refine x_iload_n C d_LW_append_4 rfl rfl ?_
  refine x_callV (Cn := R_CS) C hM (i := 0) (by omega) he (ci := 0) (r := (R_CS, F_CS, 6)) rfl kw442 kw440 kw441 kw1 kw439 ny_CS pl_CS_append (x_room (by decide) (by decide)) x_roomc rfl (Nat.le_of_ble_eq_true rfl) d_LW_append_5 (fun v E' h => ?_) (fun X E' h => ?_)
  · obtain ⟨h1, h2⟩ := h
    obtain ⟨h3, h4⟩ := cr_inl h2
    subst h3
    subst h4
    rw [h1]
    refine x_i2l C d_LW_append_8 ?_
    refine x_last C (i := 159) (E' := va_up E1 159 (.inl (a 7, 1, .inr (.inl (vp_updL f1 0 A.toInt64))))) (by omega) ho 7 rfl vp_in01 (by rw [nI_clamp (by decide)]) d_LW_append_9 ?_
    refine x_goto C 33 d_LW_append_10 (by decide) ?_
    refine x_iconst C (v := nI 0) d_LW_append_33 (by decide) ?_
    exact x_iretK C hret (by decide) (by decide) d_LW_append_34 ⟨rfl, (if_pos rfl).symm⟩
  · obtain ⟨h1, h2⟩ := h
    obtain ⟨h3, h4⟩ := cr_inr h2
    rw [h1]
    have hc : q = 1 ∨ q = 2 ∨ q = 3 ∨ q = 4 ∨ q = 5 := by omega
    rcases hc with rfl | rfl | rfl | rfl | rfl
    · have h5 : X = e_IA := h4
      subst h5
      refine x_catch C hpl htab [] (0, 10, 13, 13) [(0, 10, 17, 20), (0, 10, 21, 15), (0, 10, 25, 42), (0, 10, 29, 32)] rfl (by decide) (by decide) kw147 (fun _ h => by cases h) (fun aa => ?_)
      refine x_astore C d_LW_append_13 (by decide) rfl ?_
      refine x_iconst C (v := nI 1) d_LW_append_15 (by decide) ?_
      exact x_iretK C hret (by decide) (by decide) d_LW_append_16 ⟨rfl, (if_neg (by decide)).symm⟩
    · have h5 : X = e_NS := h4
      subst h5
      refine x_catch C hpl htab [(0, 10, 13, 13)] (0, 10, 17, 20) [(0, 10, 21, 15), (0, 10, 25, 42), (0, 10, 29, 32)] rfl (by decide) (by decide) kw254 (List.forall_mem_cons.mpr ⟨⟨by decide, e_IA, kw147, by decide +kernel⟩, (fun _ h => by cases h)⟩) (fun aa => ?_)
      refine x_astore C d_LW_append_17 (by decide) rfl ?_
      refine x_iconst C (v := nI 2) d_LW_append_19 (by decide) ?_
      exact x_iretK C hret (by decide) (by decide) d_LW_append_20 ⟨rfl, (if_neg (by decide)).symm⟩
    · have h5 : X = e_IS := h4
      subst h5
      refine x_catch C hpl htab [(0, 10, 13, 13), (0, 10, 17, 20)] (0, 10, 21, 15) [(0, 10, 25, 42), (0, 10, 29, 32)] rfl (by decide) (by decide) kw148 (List.forall_mem_cons.mpr ⟨⟨by decide, e_IA, kw147, by decide +kernel⟩, (List.forall_mem_cons.mpr ⟨⟨by decide, e_NS, kw254, by decide +kernel⟩, (fun _ h => by cases h)⟩)⟩) (fun aa => ?_)
      refine x_astore C d_LW_append_21 (by decide) rfl ?_
      refine x_iconst C (v := nI 3) d_LW_append_23 (by decide) ?_
      exact x_iretK C hret (by decide) (by decide) d_LW_append_24 ⟨rfl, (if_neg (by decide)).symm⟩
    · have h5 : X = e_UO := h4
      subst h5
      refine x_catch C hpl htab [(0, 10, 13, 13), (0, 10, 17, 20), (0, 10, 21, 15)] (0, 10, 25, 42) [(0, 10, 29, 32)] rfl (by decide) (by decide) kw373 (List.forall_mem_cons.mpr ⟨⟨by decide, e_IA, kw147, by decide +kernel⟩, (List.forall_mem_cons.mpr ⟨⟨by decide, e_NS, kw254, by decide +kernel⟩, (List.forall_mem_cons.mpr ⟨⟨by decide, e_IS, kw148, by decide +kernel⟩, (fun _ h => by cases h)⟩)⟩)⟩) (fun aa => ?_)
      refine x_astore C d_LW_append_25 (by decide) rfl ?_
      refine x_iconst C (v := nI 4) d_LW_append_27 (by decide) ?_
      exact x_iretK C hret (by decide) (by decide) d_LW_append_28 ⟨rfl, (if_neg (by decide)).symm⟩
    · have h5 : X = e_IO := h4
      subst h5
      refine x_catch C hpl htab [(0, 10, 13, 13), (0, 10, 17, 20), (0, 10, 21, 15), (0, 10, 25, 42)] (0, 10, 29, 32) [] rfl (by decide) (by decide) kw301 (List.forall_mem_cons.mpr ⟨⟨by decide, e_IA, kw147, by decide +kernel⟩, (List.forall_mem_cons.mpr ⟨⟨by decide, e_NS, kw254, by decide +kernel⟩, (List.forall_mem_cons.mpr ⟨⟨by decide, e_IS, kw148, by decide +kernel⟩, (List.forall_mem_cons.mpr ⟨⟨by decide, e_UO, kw373, by decide +kernel⟩, (fun _ h => by cases h)⟩)⟩)⟩)⟩) (fun aa => ?_)
      refine x_astore C d_LW_append_29 (by decide) rfl ?_
      refine x_iconst C (v := nI 5) d_LW_append_31 (by decide) ?_
      exact x_iretK C hret (by decide) (by decide) d_LW_append_32 ⟨rfl, (if_neg (by decide)).symm⟩
theorem h_LW_read {l : Launch} (htr : xTr l) {D : va_G} {a : Nat → ClassId} {base : Nat} {g : Nat → Nat} {n : Nat} {E E1 : Nat → va_E} {fs : List Value} {f1 : Nat → Int64} (hn : 161 ≤ n) (he : E 0 = .inr (0, fs)) (ho : E1 159 = .inl (a 7, 1, .inr (.inl f1))) {q : Nat} {x0 : Int32} {x1 : Int32} {x2 : Int32} {x3 : Int32} {x4 : Int32} {A : Int32} (hM : xM l y_CS_read b_CS_read 8 (some FieldType.int) 4 D a base g n E [.ref (g 0), .int x0, .int x1, .int x2, .int x3, .int x4] (fun r E' => E' = E1 ∧ r = cr [e_IA, e_NS, e_IS, e_UO, e_IO] q (.int A))) (hq : q ≤ 5) : xH l y_LW_read b_LW_read 8 [(0, 16, 19, 13), (0, 16, 23, 20), (0, 16, 27, 15), (0, 16, 31, 42), (0, 16, 35, 32)] D a base g n E [.ref (g 0), .int x0, .int x1, .int x2, .int x3, .int x4, .ref (g 159)] (fun r E' => r = .inl (some (.int (nI q))) ∧ E' = if q = 0 then va_up E1 159 (.inl (a 7, 1, .inr (.inl (vp_updL f1 0 A.toInt64)))) else E1) := by
  refine x_methodH (by decide) htr (Nat.le_of_ble_eq_true rfl) ?_
  intro p e s m args below meth c C hpl htab hret
  have C : xC p l e s m meth c b_LW_read 8 "ChunkStoreLaw" args D xcl (xty a) base := C
  refine x_aload C d_LW_read_0 rfl ?_
  refine x_iconst C (v := nI 0) d_LW_read_2 (by decide) ?_
  refine x_aload_n C d_LW_read_3 rfl rfl ?_
  refine x_iload_n C d_LW_read_4 rfl rfl ?_
  refine x_iload_n C d_LW_read_5 rfl rfl ?_
  refine x_iload_n C d_LW_read_6 rfl rfl ?_
  refine x_iload C d_LW_read_7 rfl ?_
  refine x_iload C d_LW_read_9 rfl ?_
  refine x_callV (Cn := R_CS) C hM (i := 0) (by omega) he (ci := 0) (r := (R_CS, F_CS, 6)) rfl kw456 kw454 kw455 kw1 kw453 ny_CS pl_CS_read (x_room (by decide) (by decide)) x_roomc rfl (Nat.le_of_ble_eq_true rfl) d_LW_read_11 (fun v E' h => ?_) (fun X E' h => ?_)
  · obtain ⟨h1, h2⟩ := h
    obtain ⟨h3, h4⟩ := cr_inl h2
    subst h3
    subst h4
    rw [h1]
    refine x_i2l C d_LW_read_14 ?_
    refine x_last C (i := 159) (E' := va_up E1 159 (.inl (a 7, 1, .inr (.inl (vp_updL f1 0 A.toInt64))))) (by omega) ho 7 rfl vp_in01 (by rw [nI_clamp (by decide)]) d_LW_read_15 ?_
    refine x_goto C 39 d_LW_read_16 (by decide) ?_
    refine x_iconst C (v := nI 0) d_LW_read_39 (by decide) ?_
    exact x_iretK C hret (by decide) (by decide) d_LW_read_40 ⟨rfl, (if_pos rfl).symm⟩
  · obtain ⟨h1, h2⟩ := h
    obtain ⟨h3, h4⟩ := cr_inr h2
    rw [h1]
    have hc : q = 1 ∨ q = 2 ∨ q = 3 ∨ q = 4 ∨ q = 5 := by omega
    rcases hc with rfl | rfl | rfl | rfl | rfl
    · have h5 : X = e_IA := h4
      subst h5
      refine x_catch C hpl htab [] (0, 16, 19, 13) [(0, 16, 23, 20), (0, 16, 27, 15), (0, 16, 31, 42), (0, 16, 35, 32)] rfl (by decide) (by decide) kw147 (fun _ h => by cases h) (fun aa => ?_)
      refine x_astore C d_LW_read_19 (by decide) rfl ?_
      refine x_iconst C (v := nI 1) d_LW_read_21 (by decide) ?_
      exact x_iretK C hret (by decide) (by decide) d_LW_read_22 ⟨rfl, (if_neg (by decide)).symm⟩
    · have h5 : X = e_NS := h4
      subst h5
      refine x_catch C hpl htab [(0, 16, 19, 13)] (0, 16, 23, 20) [(0, 16, 27, 15), (0, 16, 31, 42), (0, 16, 35, 32)] rfl (by decide) (by decide) kw254 (List.forall_mem_cons.mpr ⟨⟨by decide, e_IA, kw147, by decide +kernel⟩, (fun _ h => by cases h)⟩) (fun aa => ?_)
      refine x_astore C d_LW_read_23 (by decide) rfl ?_
      refine x_iconst C (v := nI 2) d_LW_read_25 (by decide) ?_
      exact x_iretK C hret (by decide) (by decide) d_LW_read_26 ⟨rfl, (if_neg (by decide)).symm⟩
    · have h5 : X = e_IS := h4
      subst h5
      refine x_catch C hpl htab [(0, 16, 19, 13), (0, 16, 23, 20)] (0, 16, 27, 15) [(0, 16, 31, 42), (0, 16, 35, 32)] rfl (by decide) (by decide) kw148 (List.forall_mem_cons.mpr ⟨⟨by decide, e_IA, kw147, by decide +kernel⟩, (List.forall_mem_cons.mpr ⟨⟨by decide, e_NS, kw254, by decide +kernel⟩, (fun _ h => by cases h)⟩)⟩) (fun aa => ?_)
      refine x_astore C d_LW_read_27 (by decide) rfl ?_
      refine x_iconst C (v := nI 3) d_LW_read_29 (by decide) ?_
      exact x_iretK C hret (by decide) (by decide) d_LW_read_30 ⟨rfl, (if_neg (by decide)).symm⟩
    · have h5 : X = e_UO := h4
      subst h5
      refine x_catch C hpl htab [(0, 16, 19, 13), (0, 16, 23, 20), (0, 16, 27, 15)] (0, 16, 31, 42) [(0, 16, 35, 32)] rfl (by decide) (by decide) kw373 (List.forall_mem_cons.mpr ⟨⟨by decide, e_IA, kw147, by decide +kernel⟩, (List.forall_mem_cons.mpr ⟨⟨by decide, e_NS, kw254, by decide +kernel⟩, (List.forall_mem_cons.mpr ⟨⟨by decide, e_IS, kw148, by decide +kernel⟩, (fun _ h => by cases h)⟩)⟩)⟩) (fun aa => ?_)
      refine x_astore C d_LW_read_31 (by decide) rfl ?_
      refine x_iconst C (v := nI 4) d_LW_read_33 (by decide) ?_
      exact x_iretK C hret (by decide) (by decide) d_LW_read_34 ⟨rfl, (if_neg (by decide)).symm⟩
    · have h5 : X = e_IO := h4
      subst h5
      refine x_catch C hpl htab [(0, 16, 19, 13), (0, 16, 23, 20), (0, 16, 27, 15), (0, 16, 31, 42)] (0, 16, 35, 32) [] rfl (by decide) (by decide) kw301 (List.forall_mem_cons.mpr ⟨⟨by decide, e_IA, kw147, by decide +kernel⟩, (List.forall_mem_cons.mpr ⟨⟨by decide, e_NS, kw254, by decide +kernel⟩, (List.forall_mem_cons.mpr ⟨⟨by decide, e_IS, kw148, by decide +kernel⟩, (List.forall_mem_cons.mpr ⟨⟨by decide, e_UO, kw373, by decide +kernel⟩, (fun _ h => by cases h)⟩)⟩)⟩)⟩) (fun aa => ?_)
      refine x_astore C d_LW_read_35 (by decide) rfl ?_
      refine x_iconst C (v := nI 5) d_LW_read_37 (by decide) ?_
      exact x_iretK C hret (by decide) (by decide) d_LW_read_38 ⟨rfl, (if_neg (by decide)).symm⟩
theorem h_LW_up {l : Launch} (htr : xTr l) {D : va_G} {a : Nat → ClassId} {base : Nat} {g : Nat → Nat} {n : Nat} {E E1 : Nat → va_E} {fs : List Value} {f1 : Nat → Int64} (hn : 161 ≤ n) (he : E 0 = .inr (0, fs)) (ho : E1 159 = .inl (a 7, 1, .inr (.inl f1))) {q : Nat} {x0 : Int32} {x1 : Int32} {A : Int32} (hM : xM l y_CS_up b_CS_up 3 (some FieldType.int) 4 D a base g n E [.ref (g 0), .int x0, .int x1] (fun r E' => E' = E1 ∧ r = cr [e_IA] q (.int A))) (hq : q ≤ 1) : xH l y_LW_up b_LW_up 5 [(0, 10, 13, 13)] D a base g n E [.ref (g 0), .int x0, .int x1, .ref (g 159)] (fun r E' => r = .inl (some (.int (nI q))) ∧ E' = if q = 0 then va_up E1 159 (.inl (a 7, 1, .inr (.inl (vp_updL f1 0 A.toInt64)))) else E1) := by
  refine x_methodH (by decide) htr (Nat.le_of_ble_eq_true rfl) ?_
  intro p e s m args below meth c C hpl htab hret
  have C : xC p l e s m meth c b_LW_up 5 "ChunkStoreLaw" args D xcl (xty a) base := C
  refine x_aload_n C d_LW_up_0 rfl rfl ?_
  refine x_iconst C (v := nI 0) d_LW_up_1 (by decide) ?_
  refine x_aload_n C d_LW_up_2 rfl rfl ?_
  refine x_iload_n C d_LW_up_3 rfl rfl ?_
  refine x_iload_n C d_LW_up_4 rfl rfl ?_
  refine x_callV (Cn := R_CS) C hM (i := 0) (by omega) he (ci := 0) (r := (R_CS, F_CS, 6)) rfl kw469 kw467 kw468 kw1 kw466 ny_CS pl_CS_up (x_room (by decide) (by decide)) x_roomc rfl (Nat.le_of_ble_eq_true rfl) d_LW_up_5 (fun v E' h => ?_) (fun X E' h => ?_)
  · obtain ⟨h1, h2⟩ := h
    obtain ⟨h3, h4⟩ := cr_inl h2
    subst h3
    subst h4
    rw [h1]
    refine x_i2l C d_LW_up_8 ?_
    refine x_last C (i := 159) (E' := va_up E1 159 (.inl (a 7, 1, .inr (.inl (vp_updL f1 0 A.toInt64))))) (by omega) ho 7 rfl vp_in01 (by rw [nI_clamp (by decide)]) d_LW_up_9 ?_
    refine x_goto C 17 d_LW_up_10 (by decide) ?_
    refine x_iconst C (v := nI 0) d_LW_up_17 (by decide) ?_
    exact x_iretK C hret (by decide) (by decide) d_LW_up_18 ⟨rfl, (if_pos rfl).symm⟩
  · obtain ⟨h1, h2⟩ := h
    obtain ⟨h3, h4⟩ := cr_inr h2
    rw [h1]
    have hc : q = 1 := by omega
    rcases hc with rfl
    · have h5 : X = e_IA := h4
      subst h5
      refine x_catch C hpl htab [] (0, 10, 13, 13) [] rfl (by decide) (by decide) kw147 (fun _ h => by cases h) (fun aa => ?_)
      refine x_astore C d_LW_up_13 (by decide) rfl ?_
      refine x_iconst C (v := nI 1) d_LW_up_15 (by decide) ?_
      exact x_iretK C hret (by decide) (by decide) d_LW_up_16 ⟨rfl, (if_neg (by decide)).symm⟩
theorem h_LW_report {l : Launch} (htr : xTr l) {D : va_G} {a : Nat → ClassId} {base : Nat} {g : Nat → Nat} {n : Nat} {E E1 : Nat → va_E} {fs : List Value} {f1 : Nat → Int64} (hn : 161 ≤ n) (he : E 0 = .inr (0, fs)) (ho : E1 159 = .inl (a 7, 1, .inr (.inl f1))) {q : Nat} {x0 : Int32} {A : Int32} (hM : xM l y_CS_report b_CS_report 4 (some FieldType.int) 4 D a base g n E [.ref (g 0), .int x0] (fun r E' => E' = E1 ∧ r = cr [e_IA, e_IS] q (.int A))) (hq : q ≤ 2) : xH l y_LW_report b_LW_report 4 [(0, 9, 12, 13), (0, 9, 15, 15)] D a base g n E [.ref (g 0), .int x0, .ref (g 159)] (fun r E' => r = .inl (some (.int (nI q))) ∧ E' = if q = 0 then va_up E1 159 (.inl (a 7, 1, .inr (.inl (vp_updL f1 0 A.toInt64)))) else E1) := by
  refine x_methodH (by decide) htr (Nat.le_of_ble_eq_true rfl) ?_
  intro p e s m args below meth c C hpl htab hret
  have C : xC p l e s m meth c b_LW_report 4 "ChunkStoreLaw" args D xcl (xty a) base := C
  refine x_aload_n C d_LW_report_0 rfl rfl ?_
  refine x_iconst C (v := nI 0) d_LW_report_1 (by decide) ?_
  refine x_aload_n C d_LW_report_2 rfl rfl ?_
  refine x_iload_n C d_LW_report_3 rfl rfl ?_
  refine x_callV (Cn := R_CS) C hM (i := 0) (by omega) he (ci := 0) (r := (R_CS, F_CS, 6)) rfl kw476 kw474 kw475 kw1 kw473 ny_CS pl_CS_report (x_room (by decide) (by decide)) x_roomc rfl (Nat.le_of_ble_eq_true rfl) d_LW_report_4 (fun v E' h => ?_) (fun X E' h => ?_)
  · obtain ⟨h1, h2⟩ := h
    obtain ⟨h3, h4⟩ := cr_inl h2
    subst h3
    subst h4
    rw [h1]
    refine x_i2l C d_LW_report_7 ?_
    refine x_last C (i := 159) (E' := va_up E1 159 (.inl (a 7, 1, .inr (.inl (vp_updL f1 0 A.toInt64))))) (by omega) ho 7 rfl vp_in01 (by rw [nI_clamp (by decide)]) d_LW_report_8 ?_
    refine x_goto C 18 d_LW_report_9 (by decide) ?_
    refine x_iconst C (v := nI 0) d_LW_report_18 (by decide) ?_
    exact x_iretK C hret (by decide) (by decide) d_LW_report_19 ⟨rfl, (if_pos rfl).symm⟩
  · obtain ⟨h1, h2⟩ := h
    obtain ⟨h3, h4⟩ := cr_inr h2
    rw [h1]
    have hc : q = 1 ∨ q = 2 := by omega
    rcases hc with rfl | rfl
    · have h5 : X = e_IA := h4
      subst h5
      refine x_catch C hpl htab [] (0, 9, 12, 13) [(0, 9, 15, 15)] rfl (by decide) (by decide) kw147 (fun _ h => by cases h) (fun aa => ?_)
      refine x_astore_n C d_LW_report_12 rfl (by decide) rfl ?_
      refine x_iconst C (v := nI 1) d_LW_report_13 (by decide) ?_
      exact x_iretK C hret (by decide) (by decide) d_LW_report_14 ⟨rfl, (if_neg (by decide)).symm⟩
    · have h5 : X = e_IS := h4
      subst h5
      refine x_catch C hpl htab [(0, 9, 12, 13)] (0, 9, 15, 15) [] rfl (by decide) (by decide) kw148 (List.forall_mem_cons.mpr ⟨⟨by decide, e_IA, kw147, by decide +kernel⟩, (fun _ h => by cases h)⟩) (fun aa => ?_)
      refine x_astore_n C d_LW_report_15 rfl (by decide) rfl ?_
      refine x_iconst C (v := nI 2) d_LW_report_16 (by decide) ?_
      exact x_iretK C hret (by decide) (by decide) d_LW_report_17 ⟨rfl, (if_neg (by decide)).symm⟩
theorem h_LW_repair {l : Launch} (htr : xTr l) {D : va_G} {a : Nat → ClassId} {base : Nat} {g : Nat → Nat} {n : Nat} {E E1 : Nat → va_E} {fs : List Value} {f1 : Nat → Int64} (hn : 161 ≤ n) (he : E 0 = .inr (0, fs)) (ho : E1 159 = .inl (a 7, 1, .inr (.inl f1))) {q : Nat}  {A : Int32} (hM : xM l y_CS_repair b_CS_repair 4 (some FieldType.int) 4 D a base g n E [.ref (g 0)] (fun r E' => E' = E1 ∧ r = cr [e_NS] q (.int A))) (hq : q ≤ 1) : xH l y_LW_repair b_LW_repair 3 [(0, 8, 11, 20)] D a base g n E [.ref (g 0), .ref (g 159)] (fun r E' => r = .inl (some (.int (nI q))) ∧ E' = if q = 0 then va_up E1 159 (.inl (a 7, 1, .inr (.inl (vp_updL f1 0 A.toInt64)))) else E1) := by
  refine x_methodH (by decide) htr (Nat.le_of_ble_eq_true rfl) ?_
  intro p e s m args below meth c C hpl htab hret
  have C : xC p l e s m meth c b_LW_repair 3 "ChunkStoreLaw" args D xcl (xty a) base := C
  refine x_aload_n C d_LW_repair_0 rfl rfl ?_
  refine x_iconst C (v := nI 0) d_LW_repair_1 (by decide) ?_
  refine x_aload_n C d_LW_repair_2 rfl rfl ?_
  refine x_callV (Cn := R_CS) C hM (i := 0) (by omega) he (ci := 0) (r := (R_CS, F_CS, 6)) rfl kw492 kw490 kw491 kw1 kw489 ny_CS pl_CS_repair (x_room (by decide) (by decide)) x_roomc rfl (Nat.le_of_ble_eq_true rfl) d_LW_repair_3 (fun v E' h => ?_) (fun X E' h => ?_)
  · obtain ⟨h1, h2⟩ := h
    obtain ⟨h3, h4⟩ := cr_inl h2
    subst h3
    subst h4
    rw [h1]
    refine x_i2l C d_LW_repair_6 ?_
    refine x_last C (i := 159) (E' := va_up E1 159 (.inl (a 7, 1, .inr (.inl (vp_updL f1 0 A.toInt64))))) (by omega) ho 7 rfl vp_in01 (by rw [nI_clamp (by decide)]) d_LW_repair_7 ?_
    refine x_goto C 14 d_LW_repair_8 (by decide) ?_
    refine x_iconst C (v := nI 0) d_LW_repair_14 (by decide) ?_
    exact x_iretK C hret (by decide) (by decide) d_LW_repair_15 ⟨rfl, (if_pos rfl).symm⟩
  · obtain ⟨h1, h2⟩ := h
    obtain ⟨h3, h4⟩ := cr_inr h2
    rw [h1]
    have hc : q = 1 := by omega
    rcases hc with rfl
    · have h5 : X = e_NS := h4
      subst h5
      refine x_catch C hpl htab [] (0, 8, 11, 20) [] rfl (by decide) (by decide) kw254 (fun _ h => by cases h) (fun aa => ?_)
      refine x_astore_n C d_LW_repair_11 rfl (by decide) rfl ?_
      refine x_iconst C (v := nI 1) d_LW_repair_12 (by decide) ?_
      exact x_iretK C hret (by decide) (by decide) d_LW_repair_13 ⟨rfl, (if_neg (by decide)).symm⟩
theorem h_LW_tick {l : Launch} (htr : xTr l) {D : va_G} {a : Nat → ClassId} {base : Nat} {g : Nat → Nat} {n : Nat} {E E1 : Nat → va_E} {fs : List Value} {f1 : Nat → UInt64} (hn : 161 ≤ n) (he : E 0 = .inr (0, fs)) (ho : E1 160 = .inl (a 5, 1, .inr (.inr (.inr (.inl f1))))) {q : Nat} {x0 : UInt64} {A : UInt64} (hM : xM l y_CS_tick b_CS_tick 3 (some FieldType.double) 4 D a base g n E [.ref (g 0), .double x0] (fun r E' => E' = E1 ∧ r = cr [e_IA] q (.double A))) (hq : q ≤ 1) : xH l y_LW_tick b_LW_tick 5 [(0, 8, 11, 13)] D a base g n E [.ref (g 0), .double x0, .ref (g 160)] (fun r E' => r = .inl (some (.int (nI q))) ∧ E' = if q = 0 then va_up E1 160 (.inl (a 5, 1, .inr (.inr (.inr (.inl (vf_upd f1 0 A)))))) else E1) := by
  refine x_methodH (by decide) htr (Nat.le_of_ble_eq_true rfl) ?_
  intro p e s m args below meth c C hpl htab hret
  have C : xC p l e s m meth c b_LW_tick 5 "ChunkStoreLaw" args D xcl (xty a) base := C
  refine x_aload_n C d_LW_tick_0 rfl rfl ?_
  refine x_iconst C (v := nI 0) d_LW_tick_1 (by decide) ?_
  refine x_aload_n C d_LW_tick_2 rfl rfl ?_
  refine x_dload_n C d_LW_tick_3 rfl rfl ?_
  refine x_callV (Cn := R_CS) C hM (i := 0) (by omega) he (ci := 0) (r := (R_CS, F_CS, 6)) rfl kw510 kw508 kw509 kw1 kw507 ny_CS pl_CS_tick (x_room (by decide) (by decide)) x_roomc rfl (Nat.le_of_ble_eq_true rfl) d_LW_tick_4 (fun v E' h => ?_) (fun X E' h => ?_)
  · obtain ⟨h1, h2⟩ := h
    obtain ⟨h3, h4⟩ := cr_inl h2
    subst h3
    subst h4
    rw [h1]
    refine x_dast C (i := 160) (E' := va_up E1 160 (.inl (a 5, 1, .inr (.inr (.inr (.inl (vf_upd f1 0 A))))))) (by omega) ho 5 rfl vp_in01 (by rw [nI_clamp (by decide)]) d_LW_tick_7 ?_
    refine x_goto C 15 d_LW_tick_8 (by decide) ?_
    refine x_iconst C (v := nI 0) d_LW_tick_15 (by decide) ?_
    exact x_iretK C hret (by decide) (by decide) d_LW_tick_16 ⟨rfl, (if_pos rfl).symm⟩
  · obtain ⟨h1, h2⟩ := h
    obtain ⟨h3, h4⟩ := cr_inr h2
    rw [h1]
    have hc : q = 1 := by omega
    rcases hc with rfl
    · have h5 : X = e_IA := h4
      subst h5
      refine x_catch C hpl htab [] (0, 8, 11, 13) [] rfl (by decide) (by decide) kw147 (fun _ h => by cases h) (fun aa => ?_)
      refine x_astore C d_LW_tick_11 (by decide) rfl ?_
      refine x_iconst C (v := nI 1) d_LW_tick_13 (by decide) ?_
      exact x_iretK C hret (by decide) (by decide) d_LW_tick_14 ⟨rfl, (if_neg (by decide)).symm⟩
theorem h_LW_load {l : Launch} (htr : xTr l) {D : va_G} {a : Nat → ClassId} {base : Nat} {g : Nat → Nat} {n : Nat} {E E1 : Nat → va_E} {fs : List Value} {f1 : Nat → UInt64} (hn : 161 ≤ n) (he : E 0 = .inr (0, fs)) (ho : E1 160 = .inl (a 5, 1, .inr (.inr (.inr (.inl f1))))) {q : Nat}  {A : UInt64} (hM : xM l y_CS_load b_CS_load 4 (some FieldType.double) 4 D a base g n E [.ref (g 0)] (fun r E' => E' = E1 ∧ r = cr [e_AR] q (.double A))) (hq : q ≤ 1) : xH l y_LW_load b_LW_load 3 [(0, 7, 10, 70)] D a base g n E [.ref (g 0), .ref (g 160)] (fun r E' => r = .inl (some (.int (nI q))) ∧ E' = if q = 0 then va_up E1 160 (.inl (a 5, 1, .inr (.inr (.inr (.inl (vf_upd f1 0 A)))))) else E1) := by
  refine x_methodH (by decide) htr (Nat.le_of_ble_eq_true rfl) ?_
  intro p e s m args below meth c C hpl htab hret
  have C : xC p l e s m meth c b_LW_load 3 "ChunkStoreLaw" args D xcl (xty a) base := C
  refine x_aload_n C d_LW_load_0 rfl rfl ?_
  refine x_iconst C (v := nI 0) d_LW_load_1 (by decide) ?_
  refine x_aload_n C d_LW_load_2 rfl rfl ?_
  refine x_callV (Cn := R_CS) C hM (i := 0) (by omega) he (ci := 0) (r := (R_CS, F_CS, 6)) rfl kw520 kw518 kw519 kw1 kw517 ny_CS pl_CS_load (x_room (by decide) (by decide)) x_roomc rfl (Nat.le_of_ble_eq_true rfl) d_LW_load_3 (fun v E' h => ?_) (fun X E' h => ?_)
  · obtain ⟨h1, h2⟩ := h
    obtain ⟨h3, h4⟩ := cr_inl h2
    subst h3
    subst h4
    rw [h1]
    refine x_dast C (i := 160) (E' := va_up E1 160 (.inl (a 5, 1, .inr (.inr (.inr (.inl (vf_upd f1 0 A))))))) (by omega) ho 5 rfl vp_in01 (by rw [nI_clamp (by decide)]) d_LW_load_6 ?_
    refine x_goto C 13 d_LW_load_7 (by decide) ?_
    refine x_iconst C (v := nI 0) d_LW_load_13 (by decide) ?_
    exact x_iretK C hret (by decide) (by decide) d_LW_load_14 ⟨rfl, (if_pos rfl).symm⟩
  · obtain ⟨h1, h2⟩ := h
    obtain ⟨h3, h4⟩ := cr_inr h2
    rw [h1]
    have hc : q = 1 := by omega
    rcases hc with rfl
    · have h5 : X = e_AR := h4
      subst h5
      refine x_catch C hpl htab [] (0, 7, 10, 70) [] rfl (by decide) (by decide) kw516 (fun _ h => by cases h) (fun aa => ?_)
      refine x_astore_n C d_LW_load_10 rfl (by decide) rfl ?_
      refine x_iconst C (v := nI 1) d_LW_load_11 (by decide) ?_
      exact x_iretK C hret (by decide) (by decide) d_LW_load_12 ⟨rfl, (if_neg (by decide)).symm⟩
theorem h_LW_look {l : Launch} (htr : xTr l) {D : va_G} {a : Nat → ClassId} {base : Nat} {g : Nat → Nat} {n : Nat} {E E1 : Nat → va_E} {fs : List Value} {f1 : Nat → Int64} (hn : 161 ≤ n) (he : E 0 = .inr (0, fs)) (ho : E1 159 = .inl (a 7, 1, .inr (.inl f1))) {q : Nat} {x0 : Int32} {x1 : Int32} {x2 : Int32} {A : Int32} (hM : xM l y_CS_look b_CS_look 5 (some FieldType.int) 4 D a base g n E [.ref (g 0), .int x0, .int x1, .int x2] (fun r E' => E' = E1 ∧ r = cr [e_IA, e_NS] q (.int A))) (hq : q ≤ 2) : xH l y_LW_look b_LW_look 6 [(0, 12, 15, 13), (0, 12, 19, 20)] D a base g n E [.ref (g 0), .int x0, .int x1, .int x2, .ref (g 159)] (fun r E' => r = .inl (some (.int (nI q))) ∧ E' = if q = 0 then va_up E1 159 (.inl (a 7, 1, .inr (.inl (vp_updL f1 0 A.toInt64)))) else E1) := by
  refine x_methodH (by decide) htr (Nat.le_of_ble_eq_true rfl) ?_
  intro p e s m args below meth c C hpl htab hret
  have C : xC p l e s m meth c b_LW_look 6 "ChunkStoreLaw" args D xcl (xty a) base := C
  refine x_aload C d_LW_look_0 rfl ?_
  refine x_iconst C (v := nI 0) d_LW_look_2 (by decide) ?_
  refine x_aload_n C d_LW_look_3 rfl rfl ?_
  refine x_iload_n C d_LW_look_4 rfl rfl ?_
  refine x_iload_n C d_LW_look_5 rfl rfl ?_
  refine x_iload_n C d_LW_look_6 rfl rfl ?_
  refine x_callV (Cn := R_CS) C hM (i := 0) (by omega) he (ci := 0) (r := (R_CS, F_CS, 6)) rfl kw543 kw541 kw542 kw1 kw540 ny_CS pl_CS_look (x_room (by decide) (by decide)) x_roomc rfl (Nat.le_of_ble_eq_true rfl) d_LW_look_7 (fun v E' h => ?_) (fun X E' h => ?_)
  · obtain ⟨h1, h2⟩ := h
    obtain ⟨h3, h4⟩ := cr_inl h2
    subst h3
    subst h4
    rw [h1]
    refine x_i2l C d_LW_look_10 ?_
    refine x_last C (i := 159) (E' := va_up E1 159 (.inl (a 7, 1, .inr (.inl (vp_updL f1 0 A.toInt64))))) (by omega) ho 7 rfl vp_in01 (by rw [nI_clamp (by decide)]) d_LW_look_11 ?_
    refine x_goto C 23 d_LW_look_12 (by decide) ?_
    refine x_iconst C (v := nI 0) d_LW_look_23 (by decide) ?_
    exact x_iretK C hret (by decide) (by decide) d_LW_look_24 ⟨rfl, (if_pos rfl).symm⟩
  · obtain ⟨h1, h2⟩ := h
    obtain ⟨h3, h4⟩ := cr_inr h2
    rw [h1]
    have hc : q = 1 ∨ q = 2 := by omega
    rcases hc with rfl | rfl
    · have h5 : X = e_IA := h4
      subst h5
      refine x_catch C hpl htab [] (0, 12, 15, 13) [(0, 12, 19, 20)] rfl (by decide) (by decide) kw147 (fun _ h => by cases h) (fun aa => ?_)
      refine x_astore C d_LW_look_15 (by decide) rfl ?_
      refine x_iconst C (v := nI 1) d_LW_look_17 (by decide) ?_
      exact x_iretK C hret (by decide) (by decide) d_LW_look_18 ⟨rfl, (if_neg (by decide)).symm⟩
    · have h5 : X = e_NS := h4
      subst h5
      refine x_catch C hpl htab [(0, 12, 15, 13)] (0, 12, 19, 20) [] rfl (by decide) (by decide) kw254 (List.forall_mem_cons.mpr ⟨⟨by decide, e_IA, kw147, by decide +kernel⟩, (fun _ h => by cases h)⟩) (fun aa => ?_)
      refine x_astore C d_LW_look_19 (by decide) rfl ?_
      refine x_iconst C (v := nI 2) d_LW_look_21 (by decide) ?_
      exact x_iretK C hret (by decide) (by decide) d_LW_look_22 ⟨rfl, (if_neg (by decide)).symm⟩
theorem h_LW_file {l : Launch} (htr : xTr l) {D : va_G} {a : Nat → ClassId} {base : Nat} {g : Nat → Nat} {n : Nat} {E E1 : Nat → va_E} {fs : List Value} {f1 : Nat → Int64} (hn : 161 ≤ n) (he : E 0 = .inr (0, fs)) (ho : E1 159 = .inl (a 7, 1, .inr (.inl f1))) {q : Nat} {x0 : Int32} {x1 : Int32} {A : Int32} (hM : xM l y_CS_file b_CS_file 4 (some FieldType.int) 4 D a base g n E [.ref (g 0), .int x0, .int x1] (fun r E' => E' = E1 ∧ r = cr [e_IA] q (.int A))) (hq : q ≤ 1) : xH l y_LW_file b_LW_file 5 [(0, 10, 13, 13)] D a base g n E [.ref (g 0), .int x0, .int x1, .ref (g 159)] (fun r E' => r = .inl (some (.int (nI q))) ∧ E' = if q = 0 then va_up E1 159 (.inl (a 7, 1, .inr (.inl (vp_updL f1 0 A.toInt64)))) else E1) := by
  refine x_methodH (by decide) htr (Nat.le_of_ble_eq_true rfl) ?_
  intro p e s m args below meth c C hpl htab hret
  have C : xC p l e s m meth c b_LW_file 5 "ChunkStoreLaw" args D xcl (xty a) base := C
  refine x_aload_n C d_LW_file_0 rfl rfl ?_
  refine x_iconst C (v := nI 0) d_LW_file_1 (by decide) ?_
  refine x_aload_n C d_LW_file_2 rfl rfl ?_
  refine x_iload_n C d_LW_file_3 rfl rfl ?_
  refine x_iload_n C d_LW_file_4 rfl rfl ?_
  refine x_callV (Cn := R_CS) C hM (i := 0) (by omega) he (ci := 0) (r := (R_CS, F_CS, 6)) rfl kw551 kw549 kw550 kw1 kw548 ny_CS pl_CS_file (x_room (by decide) (by decide)) x_roomc rfl (Nat.le_of_ble_eq_true rfl) d_LW_file_5 (fun v E' h => ?_) (fun X E' h => ?_)
  · obtain ⟨h1, h2⟩ := h
    obtain ⟨h3, h4⟩ := cr_inl h2
    subst h3
    subst h4
    rw [h1]
    refine x_i2l C d_LW_file_8 ?_
    refine x_last C (i := 159) (E' := va_up E1 159 (.inl (a 7, 1, .inr (.inl (vp_updL f1 0 A.toInt64))))) (by omega) ho 7 rfl vp_in01 (by rw [nI_clamp (by decide)]) d_LW_file_9 ?_
    refine x_goto C 17 d_LW_file_10 (by decide) ?_
    refine x_iconst C (v := nI 0) d_LW_file_17 (by decide) ?_
    exact x_iretK C hret (by decide) (by decide) d_LW_file_18 ⟨rfl, (if_pos rfl).symm⟩
  · obtain ⟨h1, h2⟩ := h
    obtain ⟨h3, h4⟩ := cr_inr h2
    rw [h1]
    have hc : q = 1 := by omega
    rcases hc with rfl
    · have h5 : X = e_IA := h4
      subst h5
      refine x_catch C hpl htab [] (0, 10, 13, 13) [] rfl (by decide) (by decide) kw147 (fun _ h => by cases h) (fun aa => ?_)
      refine x_astore C d_LW_file_13 (by decide) rfl ?_
      refine x_iconst C (v := nI 1) d_LW_file_15 (by decide) ?_
      exact x_iretK C hret (by decide) (by decide) d_LW_file_16 ⟨rfl, (if_neg (by decide)).symm⟩
theorem h_LW_chunk {l : Launch} (htr : xTr l) {D : va_G} {a : Nat → ClassId} {base : Nat} {g : Nat → Nat} {n : Nat} {E E1 : Nat → va_E} {fs : List Value} {f1 : Nat → Int64} (hn : 161 ≤ n) (he : E 0 = .inr (0, fs)) (ho : E1 159 = .inl (a 7, 1, .inr (.inl f1))) {q : Nat} {x0 : Int32} {x1 : Int32} {A : Int32} (hM : xM l y_CS_chunk b_CS_chunk 4 (some FieldType.int) 4 D a base g n E [.ref (g 0), .int x0, .int x1] (fun r E' => E' = E1 ∧ r = cr [e_IA, e_NS] q (.int A))) (hq : q ≤ 2) : xH l y_LW_chunk b_LW_chunk 5 [(0, 10, 13, 13), (0, 10, 17, 20)] D a base g n E [.ref (g 0), .int x0, .int x1, .ref (g 159)] (fun r E' => r = .inl (some (.int (nI q))) ∧ E' = if q = 0 then va_up E1 159 (.inl (a 7, 1, .inr (.inl (vp_updL f1 0 A.toInt64)))) else E1) := by
  refine x_methodH (by decide) htr (Nat.le_of_ble_eq_true rfl) ?_
  intro p e s m args below meth c C hpl htab hret
  have C : xC p l e s m meth c b_LW_chunk 5 "ChunkStoreLaw" args D xcl (xty a) base := C
  refine x_aload_n C d_LW_chunk_0 rfl rfl ?_
  refine x_iconst C (v := nI 0) d_LW_chunk_1 (by decide) ?_
  refine x_aload_n C d_LW_chunk_2 rfl rfl ?_
  refine x_iload_n C d_LW_chunk_3 rfl rfl ?_
  refine x_iload_n C d_LW_chunk_4 rfl rfl ?_
  refine x_callV (Cn := R_CS) C hM (i := 0) (by omega) he (ci := 0) (r := (R_CS, F_CS, 6)) rfl kw558 kw556 kw557 kw1 kw555 ny_CS pl_CS_chunk (x_room (by decide) (by decide)) x_roomc rfl (Nat.le_of_ble_eq_true rfl) d_LW_chunk_5 (fun v E' h => ?_) (fun X E' h => ?_)
  · obtain ⟨h1, h2⟩ := h
    obtain ⟨h3, h4⟩ := cr_inl h2
    subst h3
    subst h4
    rw [h1]
    refine x_i2l C d_LW_chunk_8 ?_
    refine x_last C (i := 159) (E' := va_up E1 159 (.inl (a 7, 1, .inr (.inl (vp_updL f1 0 A.toInt64))))) (by omega) ho 7 rfl vp_in01 (by rw [nI_clamp (by decide)]) d_LW_chunk_9 ?_
    refine x_goto C 21 d_LW_chunk_10 (by decide) ?_
    refine x_iconst C (v := nI 0) d_LW_chunk_21 (by decide) ?_
    exact x_iretK C hret (by decide) (by decide) d_LW_chunk_22 ⟨rfl, (if_pos rfl).symm⟩
  · obtain ⟨h1, h2⟩ := h
    obtain ⟨h3, h4⟩ := cr_inr h2
    rw [h1]
    have hc : q = 1 ∨ q = 2 := by omega
    rcases hc with rfl | rfl
    · have h5 : X = e_IA := h4
      subst h5
      refine x_catch C hpl htab [] (0, 10, 13, 13) [(0, 10, 17, 20)] rfl (by decide) (by decide) kw147 (fun _ h => by cases h) (fun aa => ?_)
      refine x_astore C d_LW_chunk_13 (by decide) rfl ?_
      refine x_iconst C (v := nI 1) d_LW_chunk_15 (by decide) ?_
      exact x_iretK C hret (by decide) (by decide) d_LW_chunk_16 ⟨rfl, (if_neg (by decide)).symm⟩
    · have h5 : X = e_NS := h4
      subst h5
      refine x_catch C hpl htab [(0, 10, 13, 13)] (0, 10, 17, 20) [] rfl (by decide) (by decide) kw254 (List.forall_mem_cons.mpr ⟨⟨by decide, e_IA, kw147, by decide +kernel⟩, (fun _ h => by cases h)⟩) (fun aa => ?_)
      refine x_astore C d_LW_chunk_17 (by decide) rfl ?_
      refine x_iconst C (v := nI 2) d_LW_chunk_19 (by decide) ?_
      exact x_iretK C hret (by decide) (by decide) d_LW_chunk_20 ⟨rfl, (if_neg (by decide)).symm⟩
end XLH
