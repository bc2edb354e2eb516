section XST
variable {s : State} {A : Array Value}
theorem st_arr {ty : FieldType} (hno : ∀ C, ty ≠ .object C) (h : (Cond.arrayClass ty).before A s = true) : ∃ cA, ArrOfT s cA ty ∧ va_RA s cA ty := by
  obtain ⟨c, k, comp, h1, h2, h3⟩ := Cond.arrayClass_spec h
  refine ⟨c, fun n z => ⟨fun k h => (by cases h), k, h2, comp, h3⟩, ?_⟩
  cases ty <;> first | exact absurd rfl (hno _) | exact h1
theorem st_ovr {C : String} (h : va_AO C s) : ∃ cA, ArrOfT s cA (.object C) ∧ va_RA s cA (.object C) := by
  obtain ⟨comp, c, k, h1, -, h2, h3, h4⟩ := Cond.arrayOver_spec (va_AO.use (A := #[]) h)
  exact ⟨c, fun n z => ⟨fun k h => (by cases h), k, h2, comp, h3⟩, k, comp, h2, h3, h1, h4⟩
theorem st_str {own tx : String} {k N : Nat} (h : (Cond.stringRef own k tx).before A s = true) (hi : (Cond.instantiable own N).before A s = true) : ∃ a, vk_R own k tx a s := by
  obtain ⟨cX, -, h1, -⟩ := Cond.instantiable_spec hi
  obtain ⟨-, -, -, a, -, -, -, -, -, h2⟩ := Cond.stringRef_spec h1 h
  exact ⟨a, vk_R.of (A := A) h h2⟩
theorem st_T (hts : ∀ w ∈ lw_tbl, w.before A s = true) : ∀ w ∈ xT, w.before A s = true := fun w hw => hts w (List.mem_filter.mp hw).1
theorem st_strs (hts : ∀ w ∈ lw_tbl, w.before A s = true) : ∀ q ∈ xStr, ∃ a, vk_R q.1 q.2.1 q.2.2 a s := List.forall_mem_cons.mpr ⟨st_str (hts _ (List.mem_append_right _ (List.mem_append_left _ (List.mem_of_getElem? (i := 200) rfl)) : _ ∈ lw_tbl)) (st_T hts _ kw19), List.forall_mem_cons.mpr ⟨st_str (hts _ (List.mem_append_right _ (List.mem_append_right _ (List.mem_append_left _ (List.mem_of_getElem? (i := 0) rfl))) : _ ∈ lw_tbl)) (st_T hts _ kw19), List.forall_mem_cons.mpr ⟨st_str (hts _ (List.mem_append_right _ (List.mem_append_right _ (List.mem_append_left _ (List.mem_of_getElem? (i := 32) rfl))) : _ ∈ lw_tbl)) (st_T hts _ kw19), List.forall_mem_cons.mpr ⟨st_str (hts _ (List.mem_append_right _ (List.mem_append_right _ (List.mem_append_left _ (List.mem_of_getElem? (i := 46) rfl))) : _ ∈ lw_tbl)) (st_T hts _ kw19), List.forall_mem_cons.mpr ⟨st_str (hts _ (List.mem_append_right _ (List.mem_append_right _ (List.mem_append_left _ (List.mem_of_getElem? (i := 79) rfl))) : _ ∈ lw_tbl)) (st_T hts _ kw19), List.forall_mem_cons.mpr ⟨st_str (hts _ (List.mem_append_right _ (List.mem_append_right _ (List.mem_append_left _ (List.mem_of_getElem? (i := 105) rfl))) : _ ∈ lw_tbl)) (st_T hts _ kw19), List.forall_mem_cons.mpr ⟨st_str (hts _ (List.mem_append_right _ (List.mem_append_right _ (List.mem_append_left _ (List.mem_of_getElem? (i := 128) rfl))) : _ ∈ lw_tbl)) (st_T hts _ kw19), List.forall_mem_cons.mpr ⟨st_str (hts _ (List.mem_append_right _ (List.mem_append_right _ (List.mem_append_left _ (List.mem_of_getElem? (i := 150) rfl))) : _ ∈ lw_tbl)) (st_T hts _ kw19), List.forall_mem_cons.mpr ⟨st_str (hts _ (List.mem_append_right _ (List.mem_append_right _ (List.mem_append_left _ (List.mem_of_getElem? (i := 155) rfl))) : _ ∈ lw_tbl)) (st_T hts _ kw19), List.forall_mem_cons.mpr ⟨st_str (hts _ (List.mem_append_right _ (List.mem_append_right _ (List.mem_append_left _ (List.mem_of_getElem? (i := 169) rfl))) : _ ∈ lw_tbl)) (st_T hts _ kw19), List.forall_mem_cons.mpr ⟨st_str (hts _ (List.mem_append_right _ (List.mem_append_right _ (List.mem_append_left _ (List.mem_of_getElem? (i := 217) rfl))) : _ ∈ lw_tbl)) (st_T hts _ kw19), List.forall_mem_cons.mpr ⟨st_str (hts _ (List.mem_append_right _ (List.mem_append_right _ (List.mem_append_left _ (List.mem_of_getElem? (i := 218) rfl))) : _ ∈ lw_tbl)) (st_T hts _ kw19), List.forall_mem_cons.mpr ⟨st_str (hts _ (List.mem_append_right _ (List.mem_append_right _ (List.mem_append_left _ (List.mem_of_getElem? (i := 237) rfl))) : _ ∈ lw_tbl)) (st_T hts _ kw19), List.forall_mem_cons.mpr ⟨st_str (hts _ (List.mem_append_right _ (List.mem_append_right _ (List.mem_append_right _ (List.mem_append_left _ (List.mem_of_getElem? (i := 23) rfl)))) : _ ∈ lw_tbl)) (st_T hts _ kw19), List.forall_mem_cons.mpr ⟨st_str (hts _ (List.mem_append_right _ (List.mem_append_right _ (List.mem_append_right _ (List.mem_append_left _ (List.mem_of_getElem? (i := 32) rfl)))) : _ ∈ lw_tbl)) (st_T hts _ kw19), List.forall_mem_cons.mpr ⟨st_str (hts _ (List.mem_append_right _ (List.mem_append_right _ (List.mem_append_right _ (List.mem_append_left _ (List.mem_of_getElem? (i := 50) rfl)))) : _ ∈ lw_tbl)) (st_T hts _ kw19), List.forall_mem_cons.mpr ⟨st_str (hts _ (List.mem_append_right _ (List.mem_append_right _ (List.mem_append_right _ (List.mem_append_left _ (List.mem_of_getElem? (i := 64) rfl)))) : _ ∈ lw_tbl)) (st_T hts _ kw19), List.forall_mem_cons.mpr ⟨st_str (hts _ (List.mem_append_right _ (List.mem_append_right _ (List.mem_append_right _ (List.mem_append_left _ (List.mem_of_getElem? (i := 79) rfl)))) : _ ∈ lw_tbl)) (st_T hts _ kw19), fun _ h => by cases h⟩⟩⟩⟩⟩⟩⟩⟩⟩⟩⟩⟩⟩⟩⟩⟩⟩⟩
theorem st_arrs (hts : ∀ w ∈ lw_tbl, w.before A s = true) : ∀ ty ∈ xArr, (Cond.arrayClass ty).before #[] s = true := List.forall_mem_cons.mpr ⟨word_at (State.WarmedH.refl s) (Or.inr ⟨_, rfl⟩) (hts _ (List.mem_append_right _ (List.mem_append_left _ (List.mem_of_getElem? (i := 48) rfl)) : _ ∈ lw_tbl)), List.forall_mem_cons.mpr ⟨word_at (State.WarmedH.refl s) (Or.inr ⟨_, rfl⟩) (hts _ (List.mem_append_right _ (List.mem_append_left _ (List.mem_of_getElem? (i := 226) rfl)) : _ ∈ lw_tbl)), List.forall_mem_cons.mpr ⟨word_at (State.WarmedH.refl s) (Or.inr ⟨_, rfl⟩) (hts _ (List.mem_append_right _ (List.mem_append_right _ (List.mem_append_right _ (List.mem_append_left _ (List.mem_of_getElem? (i := 142) rfl)))) : _ ∈ lw_tbl)), List.forall_mem_cons.mpr ⟨word_at (State.WarmedH.refl s) (Or.inr ⟨_, rfl⟩) (hts _ (List.mem_append_right _ (List.mem_append_right _ (List.mem_append_right _ (List.mem_append_left _ (List.mem_of_getElem? (i := 143) rfl)))) : _ ∈ lw_tbl)), List.forall_mem_cons.mpr ⟨word_at (State.WarmedH.refl s) (Or.inr ⟨_, rfl⟩) (hts _ (List.mem_append_right _ (List.mem_append_right _ (List.mem_append_right _ (List.mem_append_right _ (List.mem_of_getElem? (i := 41) rfl)))) : _ ∈ lw_tbl)), fun _ h => by cases h⟩⟩⟩⟩⟩
theorem st_ovrs (hts : ∀ w ∈ lw_tbl, w.before A s = true) : ∀ C ∈ xOvr, va_AO C s := List.forall_mem_cons.mpr ⟨va_AO.of (hts _ (List.mem_append_right _ (List.mem_append_left _ (List.mem_of_getElem? (i := 27) rfl)) : _ ∈ lw_tbl)), List.forall_mem_cons.mpr ⟨va_AO.of (hts _ (List.mem_append_right _ (List.mem_append_left _ (List.mem_of_getElem? (i := 50) rfl)) : _ ∈ lw_tbl)), List.forall_mem_cons.mpr ⟨va_AO.of (hts _ (List.mem_append_right _ (List.mem_append_left _ (List.mem_of_getElem? (i := 70) rfl)) : _ ∈ lw_tbl)), List.forall_mem_cons.mpr ⟨va_AO.of (hts _ (List.mem_append_right _ (List.mem_append_left _ (List.mem_of_getElem? (i := 97) rfl)) : _ ∈ lw_tbl)), fun _ h => by cases h⟩⟩⟩⟩
theorem st_K (hts : ∀ w ∈ lw_tbl, w.before A s = true) : ∃ (D : va_G) (a : Nat → ClassId), va_K D xcl (xty a) s := by
  obtain ⟨c0, i0, k0⟩ := u_known (st_T hts) i_CS (st_T hts _ kw19)
  obtain ⟨c1, i1, k1⟩ := u_known (st_T hts) i_CH (st_T hts _ kw51)
  obtain ⟨c2, i2, k2⟩ := u_known (st_T hts) i_FE (st_T hts _ kw28)
  obtain ⟨c3, i3, k3⟩ := u_known (st_T hts) i_KP (st_T hts _ kw98)
  obtain ⟨c4, i4, k4⟩ := u_known (st_T hts) i_SV (st_T hts _ kw71)
  obtain ⟨c5, i5, k5⟩ := u_known (st_T hts) i_MD (st_T hts _ kw561)
  obtain ⟨a0, u0⟩ := st_arr (A := #[]) (ty := .int) (fun _ h => by cases h) (st_arrs hts _ (by decide))
  obtain ⟨a1, u1⟩ := st_ovr (st_ovrs hts "ChunkStore$FileEntry" (by decide))
  obtain ⟨a2, u2⟩ := st_ovr (st_ovrs hts "ChunkStore$Chunk" (by decide))
  obtain ⟨a3, u3⟩ := st_ovr (st_ovrs hts "ChunkStore$Server" (by decide))
  obtain ⟨a4, u4⟩ := st_ovr (st_ovrs hts "ChunkStore$Kept" (by decide))
  obtain ⟨a5, u5⟩ := st_arr (A := #[]) (ty := .double) (fun _ h => by cases h) (st_arrs hts _ (by decide))
  obtain ⟨a6, u6⟩ := st_arr (A := #[]) (ty := .boolean) (fun _ h => by cases h) (st_arrs hts _ (by decide))
  obtain ⟨a7, u7⟩ := st_arr (A := #[]) (ty := .long) (fun _ h => by cases h) (st_arrs hts _ (by decide))
  refine ⟨(fun c => [c0, c1, c2, c3, c4, c5].getD c c0, fun c => [i0, i1, i2, i3, i4, i5].getD c i0), fun c => [a0, a1, a2, a3, a4, a5, a6, a7].getD c a0, fun c q hq => ?_, fun k q hq => ?_⟩
  · match c, hq with
    | 0, hq => cases hq; exact k0
    | 1, hq => cases hq; exact k1
    | 2, hq => cases hq; exact k2
    | 3, hq => cases hq; exact k3
    | 4, hq => cases hq; exact k4
    | 5, hq => cases hq; exact k5
    | c + 6, hq => cases hq
  · match k, hq with
    | 0, hq => cases hq; exact u0
    | 1, hq => cases hq; exact u1
    | 2, hq => cases hq; exact u2
    | 3, hq => cases hq; exact u3
    | 4, hq => cases hq; exact u4
    | 5, hq => cases hq; exact u5
    | 6, hq => cases hq; exact u6
    | 7, hq => cases hq; exact u7
    | k + 8, hq => cases hq
theorem st_not (hg : ∀ c ∈ flatC (Jvm.Cond.and given_1 narrow_1), c.before A s = true) : ∀ q ∈ xNot, va_Nc q.1 q.2 s := List.forall_mem_cons.mpr ⟨va_Nc.of (hg (.not (.castable "java/lang/ArithmeticException" "java/lang/IllegalArgumentException")) (by decide +kernel)), List.forall_mem_cons.mpr ⟨va_Nc.of (hg (.not (.castable "java/lang/ArithmeticException" "java/lang/IllegalStateException")) (by decide +kernel)), List.forall_mem_cons.mpr ⟨va_Nc.of (hg (.not (.castable "java/lang/ArithmeticException" "java/lang/IndexOutOfBoundsException")) (by decide +kernel)), List.forall_mem_cons.mpr ⟨va_Nc.of (hg (.not (.castable "java/lang/ArithmeticException" "java/lang/UnsupportedOperationException")) (by decide +kernel)), List.forall_mem_cons.mpr ⟨va_Nc.of (hg (.not (.castable "java/lang/ArithmeticException" "java/util/NoSuchElementException")) (by decide +kernel)), List.forall_mem_cons.mpr ⟨va_Nc.of (hg (.not (.castable "java/lang/IllegalArgumentException" "java/lang/ArithmeticException")) (by decide +kernel)), List.forall_mem_cons.mpr ⟨va_Nc.of (hg (.not (.castable "java/lang/IllegalArgumentException" "java/lang/IllegalStateException")) (by decide +kernel)), List.forall_mem_cons.mpr ⟨va_Nc.of (hg (.not (.castable "java/lang/IllegalArgumentException" "java/lang/IndexOutOfBoundsException")) (by decide +kernel)), List.forall_mem_cons.mpr ⟨va_Nc.of (hg (.not (.castable "java/lang/IllegalArgumentException" "java/lang/UnsupportedOperationException")) (by decide +kernel)), List.forall_mem_cons.mpr ⟨va_Nc.of (hg (.not (.castable "java/lang/IllegalArgumentException" "java/util/NoSuchElementException")) (by decide +kernel)), List.forall_mem_cons.mpr ⟨va_Nc.of (hg (.not (.castable "java/lang/IllegalStateException" "java/lang/ArithmeticException")) (by decide +kernel)), List.forall_mem_cons.mpr ⟨va_Nc.of (hg (.not (.castable "java/lang/IllegalStateException" "java/lang/IllegalArgumentException")) (by decide +kernel)), List.forall_mem_cons.mpr ⟨va_Nc.of (hg (.not (.castable "java/lang/IllegalStateException" "java/lang/IndexOutOfBoundsException")) (by decide +kernel)), List.forall_mem_cons.mpr ⟨va_Nc.of (hg (.not (.castable "java/lang/IllegalStateException" "java/lang/UnsupportedOperationException")) (by decide +kernel)), List.forall_mem_cons.mpr ⟨va_Nc.of (hg (.not (.castable "java/lang/IllegalStateException" "java/util/NoSuchElementException")) (by decide +kernel)), List.forall_mem_cons.mpr ⟨va_Nc.of (hg (.not (.castable "java/lang/IndexOutOfBoundsException" "java/lang/ArithmeticException")) (by decide +kernel)), List.forall_mem_cons.mpr ⟨va_Nc.of (hg (.not (.castable "java/lang/IndexOutOfBoundsException" "java/lang/IllegalArgumentException")) (by decide +kernel)), List.forall_mem_cons.mpr ⟨va_Nc.of (hg (.not (.castable "java/lang/IndexOutOfBoundsException" "java/lang/IllegalStateException")) (by decide +kernel)), List.forall_mem_cons.mpr ⟨va_Nc.of (hg (.not (.castable "java/lang/IndexOutOfBoundsException" "java/lang/UnsupportedOperationException")) (by decide +kernel)), List.forall_mem_cons.mpr ⟨va_Nc.of (hg (.not (.castable "java/lang/IndexOutOfBoundsException" "java/util/NoSuchElementException")) (by decide +kernel)), List.forall_mem_cons.mpr ⟨va_Nc.of (hg (.not (.castable "java/lang/UnsupportedOperationException" "java/lang/ArithmeticException")) (by decide +kernel)), List.forall_mem_cons.mpr ⟨va_Nc.of (hg (.not (.castable "java/lang/UnsupportedOperationException" "java/lang/IllegalArgumentException")) (by decide +kernel)), List.forall_mem_cons.mpr ⟨va_Nc.of (hg (.not (.castable "java/lang/UnsupportedOperationException" "java/lang/IllegalStateException")) (by decide +kernel)), List.forall_mem_cons.mpr ⟨va_Nc.of (hg (.not (.castable "java/lang/UnsupportedOperationException" "java/lang/IndexOutOfBoundsException")) (by decide +kernel)), List.forall_mem_cons.mpr ⟨va_Nc.of (hg (.not (.castable "java/lang/UnsupportedOperationException" "java/util/NoSuchElementException")) (by decide +kernel)), List.forall_mem_cons.mpr ⟨va_Nc.of (hg (.not (.castable "java/util/NoSuchElementException" "java/lang/ArithmeticException")) (by decide +kernel)), List.forall_mem_cons.mpr ⟨va_Nc.of (hg (.not (.castable "java/util/NoSuchElementException" "java/lang/IllegalArgumentException")) (by decide +kernel)), List.forall_mem_cons.mpr ⟨va_Nc.of (hg (.not (.castable "java/util/NoSuchElementException" "java/lang/IllegalStateException")) (by decide +kernel)), List.forall_mem_cons.mpr ⟨va_Nc.of (hg (.not (.castable "java/util/NoSuchElementException" "java/lang/IndexOutOfBoundsException")) (by decide +kernel)), List.forall_mem_cons.mpr ⟨va_Nc.of (hg (.not (.castable "java/util/NoSuchElementException" "java/lang/UnsupportedOperationException")) (by decide +kernel)), fun _ h => by cases h⟩⟩⟩⟩⟩⟩⟩⟩⟩⟩⟩⟩⟩⟩⟩⟩⟩⟩⟩⟩⟩⟩⟩⟩⟩⟩⟩⟩⟩⟩
theorem st_env (hts : ∀ w ∈ lw_tbl, w.before A s = true) (hg : ∀ c ∈ flatC (Jvm.Cond.and given_1 narrow_1), c.before A s = true) : xEnv s.heap.size s s.heap :=
  ⟨fun w hw => va_any (xGood_tab hw) (st_T hts w hw), fun w hw => va_Nw.of (xIsN_tab (List.mem_filter.mp hw).2) (hts w (List.mem_filter.mp hw).1), st_strs hts, st_arrs hts, st_ovrs hts, st_not hg, xSt.of (hts _ (List.mem_append_right _ (List.mem_append_left _ (List.mem_of_getElem? (i := 183) rfl)) : _ ∈ lw_tbl)) (hg (.isRef (.static "java/lang/Throwable" "UNASSIGNED_STACK" "[Ljava/lang/StackTraceElement;")) (by decide +kernel)) (Nat.le_refl _), xSt.of (hts _ (List.mem_append_right _ (List.mem_append_left _ (List.mem_of_getElem? (i := 185) rfl)) : _ ∈ lw_tbl)) (hg (.isRef (.static "java/lang/Throwable" "SUPPRESSED_SENTINEL" "Ljava/util/List;")) (by decide +kernel)) (Nat.le_refl _), Nat.le_refl _⟩
theorem Inv_0 : Inv σ0 w0 1000 := by
  have hr : ∀ c n, rL σ0 c n = 0 := by
    intro c n
    induction n with
    | zero => rfl
    | succ n ih => simp [rL, ih, σ0, pL]
  have hc : ∀ s n, cntV (σ0 12 s) n = 0 := by
    intro s n
    induction n with
    | zero => rfl
    | succ n ih => simp [cntV, ih, σ0]
  refine ⟨fun t i j => by unfold σ0; split <;> omega, ?_⟩
  simp [σ0, w0, hr, hc]
theorem LW_g {a : Nat → ClassId} {g g' : Nat → Nat} {n : Nat} {o : Nat → Int64} {d : Nat → UInt64} (h1 : 159 ≤ n) (h2 : n ≤ 161) (hg : ∀ i, i < n → g' i = g i) : ∀ i, i < n → eqE (EL a g σ0 w0 (EM a g σ0 w0 0 (EO a o d)) i) (EL a g' σ0 w0 (EM a g' σ0 w0 0 (EO a o d)) i) := by
  intro i hi
  unfold EL
  by_cases r : i < 143
  · rw [if_pos r, if_pos r]
    exact EC_geq hg hi r (by omega) (by omega) (by omega) (by omega) (by omega) (by omega) (by omega)
  rw [if_neg r, if_neg r]
  unfold EM
  by_cases r2 : 143 ≤ i ∧ i < 159
  · rw [if_pos r2, if_pos r2]
    apply eqE_of
    by_cases r3 : i = 143
    · subst r3
      rw [MC_143, MC_143]
      simp only [hg 144 (by omega), hg 145 (by omega), hg 146 (by omega), hg 147 (by omega), hg 148 (by omega), hg 149 (by omega), hg 150 (by omega), hg 151 (by omega), hg 152 (by omega), hg 153 (by omega), hg 154 (by omega), hg 155 (by omega), hg 156 (by omega), hg 157 (by omega), hg 158 (by omega)]
    · unfold MC
      rw [if_neg r3, if_neg r3]
      rfl
  · rw [if_neg r2, if_neg r2]; exact eqE_rfl _
end XST
