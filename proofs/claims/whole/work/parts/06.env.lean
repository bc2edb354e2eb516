/-! A walk by numbered cells: the cell number k lies at the address g k and holds E k; all of them lie at base or above. -/
section XH0
def xlk (lv : List (Nat × Value)) (i : Nat) : Option Value := match lv with
  | [] => none
  | q :: r => if q.1 == i then some q.2 else xlk r i
theorem xlk_mem {lv : List (Nat × Value)} {i : Nat} {v : Value} (hx : xlk lv i = some v) : (i, v) ∈ lv := by
  induction lv with
  | nil => cases hx
  | cons q r ih =>
    unfold xlk at hx
    split at hx
    · rename_i hq
      have h1 : q.1 = i := by simpa using hq
      have h2 : q.2 = v := Option.some.inj hx
      rw [← h1, ← h2]
      exact List.mem_cons_self
    · exact List.mem_cons_of_mem _ (ih hx)
theorem xlk_at {ls : Array Slot} {nL : Nat} {lv : List (Nat × Value)} (h : lv_has ls nL lv) {i : Nat} {v : Value} (hx : xlk lv i = some v) : ls[i]? = some (.val v) := h.2.2 (i, v) (xlk_mem hx)
/-- fewer locals, in any order -/
theorem xlk_sub {ls : Array Slot} {nL : Nat} {lv lv' : List (Nat × Value)} (h : lv_has ls nL lv) (hs : lv'.all (fun q => (xlk lv q.1).isSome) = true) (he : ∀ q ∈ lv', xlk lv q.1 = some q.2) : lv_has ls nL lv' := ⟨h.1, h.2.1, fun q hq => xlk_at h (he q hq)⟩
def xWL (g : Nat → Nat) (n : Nat) (E : Nat → va_E) : va_W := (List.range n).map fun k => (g k, E k)
theorem xWL_get {g : Nat → Nat} {n : Nat} {E : Nat → va_E} {k : Nat} (h : k < n) : (xWL g n E)[k]? = some (g k, E k) := by simp [xWL, h]
theorem xWL_none {g : Nat → Nat} {n : Nat} {E : Nat → va_E} {k : Nat} (h : ¬ k < n) : (xWL g n E)[k]? = none := by simp [xWL]; omega
theorem xWL_len {g : Nat → Nat} {n : Nat} {E : Nat → va_E} : (xWL g n E).length = n := by simp [xWL]
theorem xWL_set {g : Nat → Nat} {n : Nat} {E : Nat → va_E} {k : Nat} {e : va_E} : (xWL g n E).set k (g k, e) = xWL g n (va_up E k e) := by
  apply List.ext_getElem?
  intro j
  by_cases hn : j < n
  · by_cases hj : j = k
    · subst hj
      rw [List.getElem?_set_self (by rw [xWL_len]; exact hn), xWL_get hn, va_up_self]
    · rw [List.getElem?_set_ne (Ne.symm hj), xWL_get hn, xWL_get hn, va_up_ne _ _ hj]
  · rw [xWL_none hn, List.getElem?_eq_none (by rw [List.length_set, xWL_len]; omega)]
theorem xWL_push {g : Nat → Nat} {n : Nat} {E : Nat → va_E} {q : Nat} {e : va_E} : xWL g n E ++ [(q, e)] = xWL (va_up g n q) (n + 1) (va_up E n e) := by
  simp only [xWL, List.range_succ, List.map_append, List.map_cons, List.map_nil, va_up_self]
  congr 1
  apply List.map_congr_left
  intro a ha
  have : a ≠ n := Nat.ne_of_lt (List.mem_range.mp ha)
  rw [va_up_ne _ _ this, va_up_ne _ _ this]
def xWd (D : va_G) (cl : List vw_C) (base : Nat) (g : Nat → Nat) (n : Nat) (E : Nat → va_E) (H : Heap) : Prop := va_P D cl (xWL g n E) H ∧ va_D (fun q => base ≤ q) (xWL g n E)
theorem xWd_set {D : va_G} {cl : List vw_C} {base : Nat} {g : Nat → Nat} {n i : Nat} {E E' : Nat → va_E} {e : va_E} {H : Heap} (hE : va_up E i e = E') (hP : va_P D cl ((xWL g n E).set i (g i, e)) H) (hD : va_D (fun q => base ≤ q) ((xWL g n E).set i (g i, e))) : xWd D cl base g n E' H := by
  subst hE
  rw [xWL_set] at hP hD
  exact ⟨hP, hD⟩
theorem xWd_push {D : va_G} {cl : List vw_C} {base : Nat} {g g' : Nat → Nat} {n q : Nat} {E E' : Nat → va_E} {e : va_E} {H : Heap} (hg : va_up g n q = g') (hE : va_up E n e = E') (hP : va_P D cl (xWL g n E ++ [(q, e)]) H) (hD : va_D (fun q => base ≤ q) (xWL g n E ++ [(q, e)])) : xWd D cl base g' (n + 1) E' H := by
  subst hE
  subst hg
  rw [xWL_push] at hP hD
  exact ⟨hP, hD⟩
/-- the cells stay where the heap stays from base on -/
theorem xWd.kept {D : va_G} {cl : List vw_C} {base : Nat} {g : Nat → Nat} {n : Nat} {E : Nat → va_E} {H H1 : Heap} (h : xWd D cl base g n E H) (hq : ∀ q : Nat, q < H.size → H1[q]? = H[q]?) : xWd D cl base g n E H1 := ⟨h.1.kept (fun k q hk => hq q.1 ((h.1 k q hk).lt)), h.2⟩
end XH0
/-! What every method of the system needs of the tables, the constants and Throwable's statics, and how it goes along. -/
section XE
/-- a static of Throwable that holds a reference or null, in a cell below base -/
def xSt (base : Nat) (n d : String) (U : State) (H : Heap) : Prop := ∃ (c : ClassId) (k : Class) (i : Nat) (f : Field) (a : Nat) (cell : Cell) (v : Value), U.vm.findClass "java/lang/Throwable" = some c ∧ U.fieldFound? "java/lang/Throwable" n d = some (c, k, i, f) ∧ f.isStatic = true ∧ k.statics = some a ∧ H[a]? = some cell ∧ cell.vm.isStatics = true ∧ cell.cls = c ∧ f.slot < cell.slots.size ∧ k.staticTypes[f.slot]? = some f.type ∧ cell.slots[f.slot]? = some v ∧ v.isRef = true ∧ a < base
theorem xSt.go {base : Nat} {n d : String} {s U : State} {H H1 : Heap} (h : xSt base n d s H) (hvm : s.vm.Alike U.vm) (hH : ∀ q, q < base → H1[q]? = H[q]?) : xSt base n d U H1 := by
  obtain ⟨c, k, i, f, a, cell, v, h1, h2, h3, h4, h5, h6, h7, h8, h9, h10, h11, h12⟩ := h
  obtain ⟨k', hi', he⟩ := State.fieldFound?_setVm hvm h2
  exact ⟨c, k', i, f, a, cell, v, by rw [hvm.findClass]; exact h1, hi', h3, by rw [he]; exact h4, by rw [hH a h12]; exact h5, h6, h7, h8, by rw [he]; exact h9, h10, h11, h12⟩
theorem xSt.lays {base : Nat} {n d : String} {U : State} {args : Array Value} (h : xSt base n d U U.heap) : (Cond.laysStatic "java/lang/Throwable" n d).before args U = true := by
  obtain ⟨c, k, i, f, a, cell, v, h1, h2, h3, h4, h5, h6, h7, h8, h9, -⟩ := h
  exact Cond.laysStatic_of h1 h2 h3 h4 h5 h6 h7 h8 h9
theorem xSt.isRef {base : Nat} {n d : String} {U : State} {args : Array Value} (h : xSt base n d U U.heap) : (Cond.isRef (.static "java/lang/Throwable" n d)).before args U = true := by
  obtain ⟨c, k, i, f, a, cell, v, h1, h2, h3, h4, h5, h6, h7, h8, h9, h10, h11, -⟩ := h
  have : (Term.static "java/lang/Throwable" n d).eval args U none [] U = some v := by
    simp [Term.eval, State.fieldNamed?, h2, h3, h4, h5, h6, h10]
  cases v <;> simp_all [Cond.before, Cond.holds, Cond.value, Value.isRef]
theorem xSt.of {base : Nat} {n d : String} {s : State} {args : Array Value} (hl : (Cond.laysStatic "java/lang/Throwable" n d).before args s = true) (hr : (Cond.isRef (.static "java/lang/Throwable" n d)).before args s = true) (hb : s.heap.size ≤ base) : xSt base n d s s.heap := by
  obtain ⟨c, k, i, f, a, cell, h1, h2, h3, h4, h5, h6, h7, h8, h9⟩ := Cond.laysStatic_spec hl
  obtain ⟨v, hv⟩ : ∃ v, cell.slots[f.slot]? = some v := ⟨_, Array.getElem?_eq_getElem h8⟩
  have he : (Term.static "java/lang/Throwable" n d).eval args s none [] s = some v := by
    simp [Term.eval, State.fieldNamed?, h2, h3, h4, h5, h6, hv]
  have hi : v.isRef = true := by
    cases v <;> simp_all [Cond.before, Cond.holds, Cond.value, Value.isRef]
  exact ⟨c, k, i, f, a, cell, v, h1, h2, h3, h4, h5, h6, h7, h8, h9, hv, hi, Nat.lt_of_lt_of_le (Array.getElem?_eq_some_iff.mp h5).1 hb⟩
abbrev xUN : String := "UNASSIGNED_STACK"
abbrev xSN : String := "SUPPRESSED_SENTINEL"
abbrev xUD : String := "[Ljava/lang/StackTraceElement;"
abbrev xSD : String := "Ljava/util/List;"
def xEnv (base : Nat) (U : State) (H : Heap) : Prop := (∀ w ∈ xT, w.before #[] U = true) ∧ (∀ w ∈ xN, va_Nw w U) ∧ (∀ q ∈ xStr, ∃ a, vk_R q.1 q.2.1 q.2.2 a U) ∧ (∀ ty ∈ xArr, (Cond.arrayClass ty).before #[] U = true) ∧ (∀ C ∈ xOvr, va_AO C U) ∧ (∀ q ∈ xNot, va_Nc q.1 q.2 U) ∧ xSt base xUN xUD U H ∧ xSt base xSN xSD U H ∧ base ≤ H.size
theorem xEnv.go {base : Nat} {s U : State} {H H1 : Heap} (h : xEnv base s H) (hW : s.WarmedH U.vm) (hH : ∀ q, q < base → H1[q]? = H[q]?) (hs : base ≤ H1.size) : xEnv base U H1 := by
  obtain ⟨h1, h2, h3, h4, h5, h6, h7, h8, -⟩ := h
  refine ⟨fun w hw => ?_, fun w hw => ?_, fun q hq => ?_, fun ty hty => word_at hW (Or.inr ⟨ty, rfl⟩) (h4 ty hty), fun C hC => (h5 C hC).moved hW.alike, fun q hq => (h6 q hq).moved hW.alike, h7.go hW.alike hH, h8.go hW.alike hH, hs⟩
  · exact word_at hW (Or.inl (List.mem_filter.mp hw).2) (h1 w hw)
  · have hg := (List.mem_filter.mp hw).2
    have hz := h2 w hw
    cases w <;> first | exact va_Nw.warmF hW hz | exact va_Nw.warmM hW hz | exact va_Nw.warmD hW hz | exact va_Nw.warmC hW hz | simp [xIsN] at hg
  · obtain ⟨a, ha⟩ := h3 q hq
    exact ⟨a, ha.warm hW⟩
theorem xEnv.blind {base : Nat} {U : State} {g : JFrame} {mk : MethodId} {a : Array Value} (h : xEnv base U U.heap) : xEnv base (U.calling g mk a) (U.calling g mk a).heap := h.go (U := U.calling g mk a) (State.WarmedH.refl U) (fun _ _ => rfl) h.2.2.2.2.2.2.2.2
def xStatics : List Cond := [.laysStatic xTN xUN xUD, .laysStatic xTN xSN xSD, .isRef (.static xTN xUN xUD), .isRef (.static xTN xSN xSD)]
theorem xStatics_ok {base : Nat} {U : State} {args : Array Value} (h : xEnv base U U.heap) : ∀ a ∈ xStatics, a.before args U = true := by
  obtain ⟨-, -, -, -, -, -, h7, h8, -⟩ := h
  intro a ha
  simp only [xStatics, List.mem_cons, List.not_mem_nil, or_false] at ha
  rcases ha with rfl | rfl | rfl | rfl
  · exact h7.lays
  · exact h8.lays
  · exact h7.isRef
  · exact h8.isRef
end XE
section XC
/-- what holds throughout a method: by its start s -/
def xC (p : Program) (l : Launch) (e : Env) (s : State) (m : MethodId) (meth : Method) (c : Code) (cc : ByteArray) (nL : Nat) (own : String) (args : Array Value) (D : va_G) (cl : List vw_C) (tys : List (ClassId × FieldType)) (base : Nat) : Prop :=
  p.tables.exec = Jvm.exec ∧ c.code = cc ∧ c.maxLocals = nL ∧ s.vm.findClass own = some m.cls ∧ meth.locks = false ∧ va_K D cl tys s ∧ xEnv base s s.heap ∧ e.platform.stackTraces = false
variable {p : Program} {l : Launch} {e : Env} {R : Room} {s : State} {m : MethodId} {args : Array Value} {below : List Frame} {meth : Method} {c : Code} {Q : State → Prop} {nL : Nat} {D : va_G} {cl : List vw_C} {tys : List (ClassId × FieldType)} {base : Nat} {g : Nat → Nat} {cc : ByteArray} {own : String}
theorem xC.ow (C : xC p l e s m meth c cc nL own args D cl tys base) : s.vm.findClass own = some m.cls := C.2.2.2.1
theorem xC.K (C : xC p l e s m meth c cc nL own args D cl tys base) : va_K D cl tys s := C.2.2.2.2.2.1
theorem xC.env (C : xC p l e s m meth c cc nL own args D cl tys base) : xEnv base s s.heap := C.2.2.2.2.2.2.1
theorem xGood_tab {w : Cond} (h : w ∈ xT) : w.onTables = true := by
  have := (List.mem_filter.mp h).2
  simp only [xGood, Bool.and_eq_true] at this
  exact this.1
theorem xEnv.words {base : Nat} {U : State} {H : Heap} (h : xEnv base U H) {args : Array Value} : ∀ w ∈ xT, w.before args U = true := fun w hw => va_any (xGood_tab hw) (h.1 w hw)
theorem xC.words (C : xC p l e s m meth c cc nL own args D cl tys base) : ∀ w ∈ xT, w.before args s = true := C.env.words
theorem xC.word (C : xC p l e s m meth c cc nL own args D cl tys base) {w : Cond} (h : w ∈ xT) : w.before args s = true := C.words w h
theorem xIsN_tab {w : Cond} (h : xIsN w = true) : w.onTables = true := by cases w <;> first | rfl | simp [xIsN] at h
theorem xC.nest (C : xC p l e s m meth c cc nL own args D cl tys base) {w : Cond} (h : w ∈ xN) : w.before args s = true := va_Nw.use (xIsN_tab (List.mem_filter.mp h).2) (C.env.2.1 w h)
/-- the walk, by the contents of the cells -/
def xG (p : Program) (l : Launch) (e : Env) (R : Room) (s : State) (m : MethodId) (args : Array Value) (below : List Frame) (meth : Method) (c : Code) (Q : State → Prop) (nL : Nat) (D : va_G) (cl : List vw_C) (base : Nat) (g : Nat → Nat) (n : Nat) (E : Nat → va_E) (k z pc : Nat) (lv : List (Nat × Value)) (st : List Value) : Prop :=
  ∀ (H : Heap) (locs : List Loc) (ls : Array Slot), xWd D cl base g n E H → va_S (fun q => base ≤ q) s.heap H locs → lv_has ls nL lv → W p l e R s m args below meth c H locs k z Q (F0 m pc ls st)
end XC
