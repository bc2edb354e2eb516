/-! Contracts over numbered cells; calls; the throw of a new exception. -/
section XK0
/-- how a method ended: with a value, or with a new object of the class X thrown -/
abbrev xR : Type := Option Value ⊕ String
def xRes (r : xR) (o : Outcome) (t : State) : Prop := match r with
  | .inl v => o = .returned v
  | .inr X => ∃ (a : Addr) (ce : Cell), o = .threw a ∧ t.heap[a]? = some ce ∧ ce.vm = .none ∧ t.vm.findClass X = some ce.cls
def xPc (D : va_G) (cl : List vw_C) (tys : List (ClassId × FieldType)) (base : Nat) (g : Nat → Nat) (n : Nat) (E : Nat → va_E) (av : List Value) : Array Value → State → Prop := va_Pc av (fun U => xEnv base U U.heap ∧ va_K D cl tys U ∧ xWd D cl base g n E U.heap)
def xQc (D : va_G) (cl : List vw_C) (base : Nat) (g : Nat → Nat) (n : Nat) (post : xR → (Nat → va_E) → Prop) : Array Value → State → Outcome → State → Prop := fun _ st o t => (∃ (r : xR) (E' : Nat → va_E), xRes r o t ∧ post r E' ∧ xWd D cl base g n E' t.heap) ∧ va_F (fun q => base ≤ q) st t
theorem xPc_blind {D : va_G} {cl : List vw_C} {tys : List (ClassId × FieldType)} {base : Nat} {g : Nat → Nat} {n : Nat} {E : Nat → va_E} {av : List Value} : FrameBlind (xPc D cl tys base g n E av) := fun a U g' mk h => ⟨h.1, h.2.1.blind, va_K.moved (u := U) (U := U.calling g' mk a) (Vm.Alike.refl U.vm) h.2.2.1, h.2.2.2⟩
end XK0
section XK1
variable {p : Program} {l : Launch} {e : Env} {R : Room} {s : State} {m : MethodId} {args : Array Value} {below : List Frame} {meth : Method} {c : Code} {Q : State → Prop} {nL : Nat} {D : va_G} {cl : List vw_C} {tys : List (ClassId × FieldType)} {base : Nat} {g : Nat → Nat} {cc : ByteArray} {own : String} {n k z pc : Nat} {E : Nat → va_E} {lv : List (Nat × Value)} {st rest : List Value} {post post' : xR → (Nat → va_E) → Prop} {kT nT : Nat}
theorem xC.locks (C : xC p l e s m meth c cc nL own args D cl tys base) : meth.locks = false := C.2.2.2.2.1
/-- an exception of class X on its way out of the frame -/
def xGT (p : Program) (l : Launch) (e : Env) (R : Room) (s : State) (m : MethodId) (args : Array Value) (below : List Frame) (meth : Method) (c : Code) (Q : State → Prop) (nL : Nat) (D : va_G) (cl : List vw_C) (base : Nat) (g : Nat → Nat) (n : Nat) (E : Nat → va_E) (k z pc : Nat) (lv : List (Nat × Value)) (st : List Value) (X : String) : Prop :=
  ∀ (H : Heap) (locs : List Loc) (ls : Array Slot) (a : Addr) (ce : Cell), xWd D cl base g n E H → va_S (fun q => base ≤ q) s.heap H locs → lv_has ls nL lv → H[a]? = some ce → ce.vm = .none → s.vm.findClass X = some ce.cls → WT p l e R s m args below meth c H locs k z Q (F0 m pc ls st) a
/-- a method's contract out of a walk from its first instruction -/
theorem x_method {y : MethodName} {maxL : Nat} {ret : Option FieldType} {rm : Room} {av : List Value} (hy : plainName y.cls = true) (htr : ∀ e : Env, l.admits e → e.platform.stackTraces = false) (hlen : (lg_sl av).length ≤ maxL)
    (body : ∀ (p : Program) (e : Env) (s : State) (m : MethodId) (args : Array Value) (below : List Frame) (meth : Method) (c : Code), xC p l e s m meth c cc maxL y.cls args D cl tys base → c.exceptionTable.isEmpty = true → meth.sig.returnType = ret → meth.name = y.name →
      xG p l e rm s m args below meth c (xMQ below (xQc D cl base g n post) args s 0 0 kT nT (fun q => base ≤ q)) maxL D cl base g n E 0 0 0 (lv_args 0 av) []) :
    xMet l y [Cond.code y cc maxL ret] rm (xPc D cl tys base g n E av) (xQc D cl base g n post) 0 0 kT nT (fun q => base ≤ q) := by
  refine xMet_ofW hy rfl ?_
  intro p e s m args below meth c s₁ B hml hv
  obtain ⟨rfl, hE, hK, hw⟩ := hv
  have hcode : (Cond.code y cc maxL ret).before av.toArray s = true := atoms_spec (ws := [Cond.code y cc maxL ret]) B.pre _ List.mem_cons_self
  have C : xC p l e s m meth c cc maxL y.cls av.toArray D cl tys base := ⟨B.exec, B.bytes, hml, findClass_of_methodNamed B.named, B.notSynchronized, hK, hE, htr e (Stand.of_body B).admits⟩
  have hl := lv_entry av (n := maxL) hlen
  rw [lg_entry_eq]
  generalize (lg_sl av ++ List.replicate (maxL - (lg_sl av).length) Slot.unset).toArray = ls at hl ⊢
  exact body p e s m _ below meth c C (B.noHandlers hcode) B.returns (name_of_methodNamed B.named B.method).1 s.heap [] ls hw va_S.rf hl
theorem x_iret {R : Room} (C : xC p l e s m meth c cc nL own args D cl tys base) (hr : meth.sig.returnType = some .int) {v : Int32} (hdg : decode cc pc = .ok (.ireturn, 1)) (hp : post (.inl (some (.int v))) E) : xG p l e R s m args below meth c (xMQ below (xQc D cl base g n post) args s 0 0 kT nT (fun q => base ≤ q)) nL D cl base g n E 0 0 pc lv [.int v] :=
  fun H locs ls hw hS hl => xW_mono (fun t h => xMQ.of h) (W.iret C.1 C.2.1 hr (fun t ht hW => ⟨⟨.inl (some (.int v)), E, rfl, hp, by rw [ht]; exact hw⟩, hS.F ht⟩) hS.2.2 hdg C.locks)
theorem x_zret {R : Room} (C : xC p l e s m meth c cc nL own args D cl tys base) (hr : meth.sig.returnType = some .boolean) {v : Int32} (hn : narrow .boolean (.int v) = .int v) (hdg : decode cc pc = .ok (.ireturn, 1)) (hp : post (.inl (some (.int v))) E) : xG p l e R s m args below meth c (xMQ below (xQc D cl base g n post) args s 0 0 kT nT (fun q => base ≤ q)) nL D cl base g n E 0 0 pc lv [.int v] :=
  fun H locs ls hw hS hl => xW_mono (fun t h => xMQ.of h) (W.zret C.1 C.2.1 hr hn (fun t ht hW => ⟨⟨.inl (some (.int v)), E, rfl, hp, by rw [ht]; exact hw⟩, hS.F ht⟩) hS.2.2 hdg C.locks)
theorem x_vret {R : Room} (C : xC p l e s m meth c cc nL own args D cl tys base) (hr : meth.sig.returnType = none) (hdg : decode cc pc = .ok (.return_, 1)) (hp : post (.inl none) E) : xG p l e R s m args below meth c (xMQ below (xQc D cl base g n post) args s 0 0 kT nT (fun q => base ≤ q)) nL D cl base g n E 0 0 pc lv [] :=
  fun H locs ls hw hS hl => xW_mono (fun t h => xMQ.of h) (W.vret C.1 C.2.1 hr (fun t ht hW => ⟨⟨.inl none, E, rfl, hp, by rw [ht]; exact hw⟩, hS.F ht⟩) hS.2.2 hdg C.locks)
theorem x_aret {R : Room} (C : xC p l e s m meth c cc nL own args D cl tys base) {rt : FieldType} (hr : meth.sig.returnType = some rt) (hrt : (∃ n, rt = .object n) ∨ ∃ t, rt = .array t) {a : Nat} (hdg : decode cc pc = .ok (.areturn, 1)) (hp : post (.inl (some (.ref a))) E) : xG p l e R s m args below meth c (xMQ below (xQc D cl base g n post) args s 0 0 kT nT (fun q => base ≤ q)) nL D cl base g n E 0 0 pc lv [.ref a] :=
  fun H locs ls hw hS hl => xW_mono (fun t h => xMQ.of h) (W.aret C.1 C.2.1 hr hrt (Or.inr ⟨a, rfl⟩) (fun t ht hW => ⟨⟨.inl (some (.ref a)), E, rfl, hp, by rw [ht]; exact hw⟩, hS.F ht⟩) hS.2.2 hdg C.locks)
theorem x_dret {R : Room} (C : xC p l e s m meth c cc nL own args D cl tys base) (hr : meth.sig.returnType = some .double) {v : UInt64} (hdg : decode cc pc = .ok (.dreturn, 1)) (hp : post (.inl (some (.double v))) E) : xG p l e R s m args below meth c (xMQ below (xQc D cl base g n post) args s 0 0 kT nT (fun q => base ≤ q)) nL D cl base g n E 0 0 pc lv [.double v] :=
  fun H locs ls hw hS hl => xW_mono (fun t h => xMQ.of h) (W.dret C.1 C.2.1 hr (fun t ht hW => ⟨⟨.inl (some (.double v)), E, rfl, hp, by rw [ht]; exact hw⟩, hS.F ht⟩) hS.2.2 hdg C.locks)
/-- the exception goes on to the caller -/
theorem x_prop {R : Room} {X : String} (C : xC p l e s m meth c cc nL own args D cl tys base) (hne : c.exceptionTable.isEmpty = true) (hk : k ≤ kT) (hz : z ≤ nT) (hp : post (.inr X) E) : xGT p l e R s m args below meth c (xMQ below (xQc D cl base g n post) args s 0 0 kT nT (fun q => base ≤ q)) nL D cl base g n E k z pc lv st X :=
  fun H locs ls a ce hw hS hl h1 h2 h3 => xT_out rfl rfl rfl (covers_of_empty hne _) C.locks hk hz (fun t ht hW => ⟨⟨.inr X, E, ⟨a, ce, rfl, by rw [ht]; exact h1, h2, by rw [hW.alike.findClass]; exact h3⟩, hp, by rw [ht]; exact hw⟩, hS.F ht⟩) hS.2.2
theorem x_vaS {A : Nat → Prop} {H0 H : Heap} {locs L : List Loc} {st0 t : State} (hS : va_S A H0 H locs) (h0 : st0.heap = H) (hF : va_F A st0 t) (hL : ∀ q ∈ L, A q.base) : va_S A H0 t.heap (locs ++ L) := by
  subst h0
  refine ⟨Nat.le_trans hS.1 hF.1, fun q h1 h2 => (hF.2 q (Nat.lt_of_lt_of_le h1 hS.1) h2).trans (hS.2.1 q h1 h2), fun q hq => ?_⟩
  rcases List.mem_append.mp hq with h | h
  · exact hS.2.2 q h
  · exact hL q h
/-- the environment at a callee's start -/
theorem xC.at (C : xC p l e s m meth c cc nL own args D cl tys base) {H : Heap} {locs : List Loc} (hS : va_S (fun q => base ≤ q) s.heap H locs) {U : State} (hU : U.heap = H) (hW : s.WarmedH U.vm) : xEnv base U U.heap := by
  have hb : base ≤ s.heap.size := C.env.2.2.2.2.2.2.2.2
  refine C.env.go hW (fun q hq => ?_) (by rw [hU]; exact Nat.le_trans hb hS.1)
  rw [hU]
  exact hS.2.1 q (Nat.lt_of_lt_of_le hq hb) (Nat.not_le.mpr hq)
theorem x_after {R : Room} (hr : ∀ (H : Heap) (locs : List Loc) (ls : Array Slot), xWd D cl base g n E H → va_S (fun q => base ≤ q) s.heap H locs → lv_has ls nL lv → xRun p l e R s m args below meth c H locs k z 0 0 kT nT (F0 m pc ls st) rest (xQc D cl base g n post' #[]) (fun q => base ≤ q))
    (kR : ∀ (v : Option Value) (E' : Nat → va_E), post' (.inl v) E' → xG p l e R s m args below meth c Q nL D cl base g n E' k z (pc + 3) lv (v.toList ++ rest))
    (kX : ∀ (X : String) (E' : Nat → va_E), post' (.inr X) E' → xGT p l e R s m args below meth c Q nL D cl base g n E' (k + kT) (z + nT) pc lv rest X) : xG p l e R s m args below meth c Q nL D cl base g n E k z pc lv st := by
  intro H locs ls hw hS hl
  refine x_behind (hr H locs ls hw hS hl) ?_ ?_
  · intro v st₀ t H1 L ht hW h0 hL hq
    obtain ⟨⟨r, E', hr, hp, hw'⟩, hF⟩ := hq
    subst ht
    cases r with
    | inl v' => cases hr; exact kR _ E' hp _ _ ls hw' (x_vaS hS h0 hF hL) hl
    | inr X => obtain ⟨a, ce, h, -⟩ := hr; cases h
  · intro x st₀ t H1 L ht hW h0 hL hq
    obtain ⟨⟨r, E', hr, hp, hw'⟩, hF⟩ := hq
    subst ht
    cases r with
    | inl v' => cases hr
    | inr X =>
      obtain ⟨a, ce, h, h1, h2, h3⟩ := hr
      cases h
      exact kX X E' hp _ _ ls x ce hw' (x_vaS hS h0 hF hL) hl h1 h2 (by rw [← hW.alike.findClass]; exact h3)
theorem x_hws {w : Cond} (hw : w ∈ xT) (h : w.before args s = true) : ∀ w' ∈ [w], ∀ (a' : Array Value) (U : State), s.WarmedH U.vm → w'.before a' U = true := fun w' hw' a' U hW => by
  rw [List.mem_singleton.mp hw']
  exact word_at hW (Or.inl (List.mem_filter.mp hw).2) h
variable {y : MethodName} {b2 : ByteArray} {maxL2 idx : Nat} {ret2 : Option FieldType} {rm : Room} {As : List Value}
theorem x_callS {R : Room} (C : xC p l e s m meth c cc nL own args D cl tys base) (hM : xMet l y [Cond.code y b2 maxL2 ret2] rm (xPc D cl tys base g n E As) (xQc D cl base g n post') 0 0 kT nT (fun q => base ≤ q)) (hcode : Cond.code y b2 maxL2 ret2 ∈ xT) (hst : Cond.static y ∈ xT) (hini : Cond.initialized y.cls ∈ xT) (hlink : Cond.methodLink own idx y ∈ xT)
    (hy : y.cls ≠ "java/lang/invoke/MethodHandle" ∧ y.cls ≠ "java/lang/invoke/VarHandle") (hlen : (parseMethodDescriptor y.desc).map (fun d => d.parameters.length) = some As.length) (hR : rm.frames + 1 ≤ R.frames ∧ 8 + (maxL2 + 11) + rm.locals ≤ R.locals) (hf : k + rm.cells ≤ R.cells ∧ z + rm.slots ≤ R.slots) (hstk : st = As.reverse ++ rest) (hcat : (rest.map fun v => v.category).sum ≤ 8) (hdg : decode cc pc = .ok (.invokestatic idx, 3))
    (kR : ∀ (v : Option Value) (E' : Nat → va_E), post' (.inl v) E' → xG p l e R s m args below meth c Q nL D cl base g n E' k z (pc + 3) lv (v.toList ++ rest))
    (kX : ∀ (X : String) (E' : Nat → va_E), post' (.inr X) E' → xGT p l e R s m args below meth c Q nL D cl base g n E' (k + kT) (z + nT) pc lv rest X) : xG p l e R s m args below meth c Q nL D cl base g n E k z pc lv st := by
  refine x_after (post' := post') (fun H locs ls hw hS hl => ?_) kR kX
  have h := x_runS (p := p) (e := e) (below := below) (meth := meth) (As := As) (rest := rest) (locs := locs) (cells := k) (slots := z) C.1 C.2.1 C.2.2.1 C.ow hM xPc_blind hR (x_hws hcode (C.word hcode)) (C.word hcode) (C.word hst) (C.word hini) (C.word hlink) hy hlen (fun U hU hW => ⟨rfl, C.at hS hU hW, va_K.moved hW.alike C.K, by rw [hU]; exact hw⟩) (g := F0 m pc ls st) rfl hl.1 hstk (lv_room hcat) hdg hf
  exact h
theorem x_callV {R : Room} {Cn : String} {r : vw_C} {i ci : Nat} {fs : List Value} (C : xC p l e s m meth c cc nL own args D cl tys base) (hM : xMet l y [Cond.code y b2 maxL2 ret2] rm (xPc D cl tys base g n E (.ref (g i) :: As)) (xQc D cl base g n post') 0 0 kT nT (fun q => base ≤ q)) (hi : i < n) (he : E i = .inr (ci, fs)) (hci : cl[ci]? = some r) (hcode : Cond.code y b2 maxL2 ret2 ∈ xT) (hinst : Cond.instanceMethod y ∈ xT) (hsel : Cond.selects r.1 y y ∈ xT) (hini : Cond.initialized y.cls ∈ xT) (hlink : Cond.methodLink own idx y ∈ xT)
    (hy : y.cls ≠ "java/lang/invoke/MethodHandle" ∧ y.cls ≠ "java/lang/invoke/VarHandle") (hlen : (parseMethodDescriptor y.desc).map (fun d => d.parameters.length) = some As.length) (hR : rm.frames + 1 ≤ R.frames ∧ 8 + (maxL2 + 11) + rm.locals ≤ R.locals) (hf : k + rm.cells ≤ R.cells ∧ z + rm.slots ≤ R.slots) (hstk : st = As.reverse ++ .ref (g i) :: rest) (hcat : (rest.map fun v => v.category).sum ≤ 8) (hdg : decode cc pc = .ok (.invokevirtual idx, 3))
    (kR : ∀ (v : Option Value) (E' : Nat → va_E), post' (.inl v) E' → xG p l e R s m args below meth c Q nL D cl base g n E' k z (pc + 3) lv (v.toList ++ rest))
    (kX : ∀ (X : String) (E' : Nat → va_E), post' (.inr X) E' → xGT p l e R s m args below meth c Q nL D cl base g n E' (k + kT) (z + nT) pc lv rest X) : xG p l e R s m args below meth c Q nL D cl base g n E k z pc lv st := by
  refine x_after (post' := post') (fun H locs ls hw hS hl => ?_) kR kX
  have h := x_runV (p := p) (e := e) (below := below) (meth := meth) (As := As) (rest := rest) (locs := locs) (cells := k) (slots := z) C.1 C.2.1 C.2.2.1 C.ow hM xPc_blind hR (x_hws hcode (C.word hcode)) (C.word hcode) (C.word hinst) (C.word hsel) (C.word hini) (C.word hlink) hy hlen (va_recv C.K hw.1 hci (q0 := i) (by rw [xWL_get hi, he])) (fun U hU hW => ⟨rfl, C.at hS hU hW, va_K.moved hW.alike C.K, by rw [hU]; exact hw⟩) (g := F0 m pc ls st) rfl hl.1 hstk (lv_room hcat) hdg hf
  exact h
theorem x_callVN {R : Room} {host : String} {r : vw_C} {i ci : Nat} {fs : List Value} (C : xC p l e s m meth c cc nL own args D cl tys base) (hM : xMet l y [Cond.code y b2 maxL2 ret2] rm (xPc D cl tys base g n E (.ref (g i) :: As)) (xQc D cl base g n post') 0 0 kT nT (fun q => base ≤ q)) (hi : i < n) (he : E i = .inr (ci, fs)) (hci : cl[ci]? = some r) (hcode : Cond.code y b2 maxL2 ret2 ∈ xT) (hinst : Cond.instanceMethod y ∈ xT) (hsel : Cond.selects r.1 y y ∈ xT) (hini : Cond.initialized y.cls ∈ xT) (hlink : Cond.methodLinkNest own idx y host ∈ xN)
    (hy : y.cls ≠ "java/lang/invoke/MethodHandle" ∧ y.cls ≠ "java/lang/invoke/VarHandle") (hlen : (parseMethodDescriptor y.desc).map (fun d => d.parameters.length) = some As.length) (hR : rm.frames + 1 ≤ R.frames ∧ 8 + (maxL2 + 11) + rm.locals ≤ R.locals) (hf : k + rm.cells ≤ R.cells ∧ z + rm.slots ≤ R.slots) (hstk : st = As.reverse ++ .ref (g i) :: rest) (hcat : (rest.map fun v => v.category).sum ≤ 8) (hdg : decode cc pc = .ok (.invokevirtual idx, 3))
    (kR : ∀ (v : Option Value) (E' : Nat → va_E), post' (.inl v) E' → xG p l e R s m args below meth c Q nL D cl base g n E' k z (pc + 3) lv (v.toList ++ rest))
    (kX : ∀ (X : String) (E' : Nat → va_E), post' (.inr X) E' → xGT p l e R s m args below meth c Q nL D cl base g n E' (k + kT) (z + nT) pc lv rest X) : xG p l e R s m args below meth c Q nL D cl base g n E k z pc lv st := by
  refine x_after (post' := post') (fun H locs ls hw hS hl => ?_) kR kX
  have h := x_runVN (p := p) (e := e) (below := below) (meth := meth) (As := As) (rest := rest) (locs := locs) (cells := k) (slots := z) C.1 C.2.1 C.2.2.1 C.ow hM xPc_blind hR (x_hws hcode (C.word hcode)) (C.word hcode) (C.word hinst) (C.word hsel) (C.word hini) (C.env.2.1 _ hlink) hy hlen (va_recv C.K hw.1 hci (q0 := i) (by rw [xWL_get hi, he])) (fun U hU hW => ⟨rfl, C.at hS hU hW, va_K.moved hW.alike C.K, by rw [hU]; exact hw⟩) (g := F0 m pc ls st) rfl hl.1 hstk (lv_room hcat) hdg hf
  exact h
end XK1
