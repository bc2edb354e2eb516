/-! Rows of the law: calls that leave a cell behind, handlers, the script. -/
section XLR
variable {p : Program} {l : Launch} {e : Env} {R : Room} {s : State} {m : MethodId} {args : Array Value} {below : List Frame} {meth : Method} {c : Code} {Q : State → Prop} {nL : Nat} {D : va_G} {cl : List vw_C} {tys : List (ClassId × FieldType)} {base : Nat} {g : Nat → Nat} {cc : ByteArray} {own : String} {n k z pc : Nat} {E : Nat → va_E} {lv : List (Nat × Value)} {st rest : List Value} {post post' : xR → (Nat → va_E) → Prop} {kR nR kT nT : Nat}
theorem x_wide {k' z' : Nat} (h1 : k ≤ k') (h2 : z ≤ z') (kk : xG p l e R s m args below meth c Q nL D cl base g n E k' z' pc lv st) : xG p l e R s m args below meth c Q nL D cl base g n E k z pc lv st := fun H locs ls hw hS hl => W.widen h1 h2 (kk H locs ls hw hS hl)
theorem x_afterK {R : Room} (hr : ∀ (H : Heap) (locs : List Loc) (ls : Array Slot), xWd D cl base g n E H → va_S (fun q => base ≤ q) s.heap H locs → lv_has ls nL lv → xRun p l e R s m args below meth c H locs k z kR nR kT nT (F0 m pc ls st) rest (xQc D cl base g n post' #[]) (fun q => base ≤ q))
    (kR' : ∀ (v : Option Value) (E' : Nat → va_E), post' (.inl v) E' → xG p l e R s m args below meth c Q nL D cl base g n E' (k + kR) (z + nR) (pc + 3) lv (v.toList ++ rest))
    (kX : ∀ (X : String) (E' : Nat → va_E), post' (.inr X) E' → xGT p l e R s m args below meth c Q nL D cl base g n E' (k + kT) (z + nT) pc lv rest X) : xG p l e R s m args below meth c Q nL D cl base g n E k z pc lv st := by
  intro H locs ls hw hS hl
  refine x_behind (hr H locs ls hw hS hl) ?_ ?_
  · intro v st₀ t H1 L ht hW h0 hL hq
    obtain ⟨⟨r, E', hr, hp, hw'⟩, hF⟩ := hq
    subst ht
    cases r with
    | inl v' => cases hr; exact kR' _ E' hp _ _ ls hw' (x_vaS hS h0 hF hL) hl
    | inr X => obtain ⟨a, ce, h, -⟩ := hr; cases h
  · intro x st₀ t H1 L ht hW h0 hL hq
    obtain ⟨⟨r, E', hr, hp, hw'⟩, hF⟩ := hq
    subst ht
    cases r with
    | inl v' => cases hr
    | inr X =>
      obtain ⟨a, ce, h, h1, h2, h3⟩ := hr
      cases h
      exact kX X E' hp _ _ ls x ce hw' (x_vaS hS h0 hF hL) hl h1 h2 (by rw [← hW.alike.findClass]; exact h3)
theorem x_runSH {H : Heap} {locs : List Loc} {y : MethodName} {ws : List Cond} {rm : Room} {Pc : Array Value → State → Prop} {Qc : Array Value → State → Outcome → State → Prop} {free : Addr → Prop} {bytes : ByteArray} {maxL index : Nat} {ret : Option FieldType} {hh : List (Nat × Nat × Nat × Nat)} {As : List Value} {g : JFrame} (hx : p.tables.exec = Jvm.exec) (hb : c.code = cc) (hml : c.maxLocals = nL) (hown : s.vm.findClass own = some m.cls) (hM : xMet l y ws rm Pc Qc kR nR kT nT free) (hbl : FrameBlind Pc) (hR : rm.frames + 1 ≤ R.frames ∧ 8 + (maxL + 11) + rm.locals ≤ R.locals)
    (hws : ∀ w ∈ ws, ∀ (a' : Array Value) (U : State), s.WarmedH U.vm → w.before a' U = true) (hcode : (Cond.codeWith y bytes maxL ret hh).before args s = true) (hst : (Cond.static y).before args s = true) (hini : (Cond.initialized y.cls).before args s = true) (hlink : (Cond.methodLink own index y).before args s = true)
    (hy : y.cls ≠ "java/lang/invoke/MethodHandle" ∧ y.cls ≠ "java/lang/invoke/VarHandle") (hlen : (parseMethodDescriptor y.desc).map (fun d => d.parameters.length) = some As.length)
    (hp : ∀ U : State, U.heap = H → s.WarmedH U.vm → Pc As.toArray U) (hg : g.method = m) (hsize : g.locals.size = nL) (hstack : g.stack = As.reverse ++ rest) (hW : 2 * g.monitorRoom + (rest.map fun v => v.category).sum ≤ 8) (hdg : decode cc g.pc = .ok (.invokestatic index, 3)) (hf : k + rm.cells ≤ R.cells ∧ z + rm.slots ≤ R.slots) :
    xRun p l e R s m args below meth c H locs k z kR nR kT nT g rest (Qc As.toArray) free := by
  intro T hT X
  obtain ⟨mk, methM, cM, hnamed, hmethM, hcM, -, hlM, -, -, -, hsigM⟩ := Cond.codeWith_spec hcode
  have hstatic : methM.isStatic = true := Cond.static_spec hnamed hmethM hst
  obtain ⟨kP, hkP, -⟩ := className_of_methodNamed hnamed
  have hinitP : kP.init = .initialized := Cond.initialized_spec (findClass_of_methodNamed hnamed) hkP hini
  obtain ⟨vm₁, X₁, hstep₁⟩ := X.invokestatic hx hown hlink hnamed hmethM hstatic hkP hinitP hy (g := g) hg (argsL := As) (rest := rest) (x_plen hlen _ hsigM) hstack (by rw [hb]; exact hdg)
  obtain ⟨o, t, T', L, X', hL, e1, e2, hq, hsteps⟩ := x_into X₁ hM hbl (maxL := maxL) (W' := 8) hR.1 hR.2 hf.1 hf.2 (a := As.toArray) (fun w hw => hws w hw _ _ X₁.warmed) (X₁.named hnamed) (by rw [X₁.warmed.alike.method?]; exact hmethM) hcM hlM
    (word_at X₁.warmed (Or.inl (by first | rfl | simp [Cond.onTables, Cond.keeps, Cond.steady])) hini) (g := { g with stack := rest }) hg (hsize.trans hml.symm) (ig := .invokestatic index) (len := 3) (by rw [hb]; exact hdg) hW (hp (T.setVm vm₁) hT X₁.warmed)
  exact ⟨o, (T.setVm vm₁).calling { g with stack := rest } mk As.toArray, t, T', L, hT, X', hL, e1, e2, hq, fun target h => hstep₁ _ fun acts => by rw [doInvoke_state]; exact hsteps.trans h⟩
theorem x_callSH {R : Room} {y : MethodName} {b2 : ByteArray} {maxL2 idx : Nat} {ret2 : Option FieldType} {hh : List (Nat × Nat × Nat × Nat)} {rm : Room} {As : List Value} (C : xC p l e s m meth c cc nL own args D cl tys base) (hM : xMet l y [Cond.codeWith y b2 maxL2 ret2 hh] rm (xPc D cl tys base g n E As) (xQc D cl base g n post') kR nR kT nT (fun q => base ≤ q)) (hcode : Cond.codeWith y b2 maxL2 ret2 hh ∈ xT) (hst : Cond.static y ∈ xT) (hini : Cond.initialized y.cls ∈ xT) (hlink : Cond.methodLink own idx y ∈ xT)
    (hy : y.cls ≠ "java/lang/invoke/MethodHandle" ∧ y.cls ≠ "java/lang/invoke/VarHandle") (hlen : (parseMethodDescriptor y.desc).map (fun d => d.parameters.length) = some As.length) (hR : rm.frames + 1 ≤ R.frames ∧ 8 + (maxL2 + 11) + rm.locals ≤ R.locals) (hf : k + rm.cells ≤ R.cells ∧ z + rm.slots ≤ R.slots) (hstk : st = As.reverse ++ rest) (hcat : (rest.map fun v => v.category).sum ≤ 8) (hdg : decode cc pc = .ok (.invokestatic idx, 3))
    (kR' : ∀ (v : Option Value) (E' : Nat → va_E), post' (.inl v) E' → xG p l e R s m args below meth c Q nL D cl base g n E' (k + kR) (z + nR) (pc + 3) lv (v.toList ++ rest))
    (kX : ∀ (X : String) (E' : Nat → va_E), post' (.inr X) E' → xGT p l e R s m args below meth c Q nL D cl base g n E' (k + kT) (z + nT) pc lv rest X) : xG p l e R s m args below meth c Q nL D cl base g n E k z pc lv st := by
  refine x_afterK (post' := post') (fun H locs ls hw hS hl => ?_) kR' kX
  have h := x_runSH (p := p) (e := e) (below := below) (meth := meth) (As := As) (rest := rest) (locs := locs) (k := k) (z := z) C.1 C.2.1 C.2.2.1 C.ow hM xPc_blind hR (x_hws hcode (C.word hcode)) (C.word hcode) (C.word hst) (C.word hini) (C.word hlink) hy hlen (fun U hU hW => ⟨rfl, C.at hS hU hW, va_K.moved hW.alike C.K, by rw [hU]; exact hw⟩) (g := F0 m pc ls st) rfl hl.1 hstk (lv_room hcat) hdg hf
  exact h
abbrev xTab (c : Code) : List (Nat × Nat × Nat × Nat) := c.exceptionTable.toList.map (fun h => (h.startPc, h.endPc, h.handlerPc, h.catchType))
/-- a method with handlers, out of a walk -/
theorem x_methodH {y : MethodName} {maxL : Nat} {ret : Option FieldType} {hh : List (Nat × Nat × Nat × Nat)} {rm : Room} {av : List Value} (hy : plainName y.cls = true) (htr : ∀ e : Env, l.admits e → e.platform.stackTraces = false) (hlen : (lg_sl av).length ≤ maxL)
    (body : ∀ (p : Program) (e : Env) (s : State) (m : MethodId) (args : Array Value) (below : List Frame) (meth : Method) (c : Code), xC p l e s m meth c cc maxL y.cls args D cl tys base → e.platform.magicAccessors = ({} : Platform).magicAccessors → xTab c = hh → meth.sig.returnType = ret →
      xG p l e rm s m args below meth c (xMQ below (xQc D cl base g n post) args s kR nR kT nT (fun q => base ≤ q)) maxL D cl base g n E 0 0 0 (lv_args 0 av) []) :
    xMet l y [Cond.codeWith y cc maxL ret hh] rm (xPc D cl tys base g n E av) (xQc D cl base g n post) kR nR kT nT (fun q => base ≤ q) := by
  refine xMet_ofWH hy rfl ?_
  intro p e s m args below meth c s₁ B hml hv
  obtain ⟨rfl, hE, hK, hw⟩ := hv
  have hcode : (Cond.codeWith y cc maxL ret hh).before av.toArray s = true := atoms_spec (ws := [Cond.codeWith y cc maxL ret hh]) B.pre _ List.mem_cons_self
  have htab : xTab c = hh := by
    obtain ⟨m9, meth9, c9, h1, h2, h3, -, -, h4, -⟩ := Cond.codeWith_spec hcode
    cases B.named.symm.trans h1
    cases B.method.symm.trans h2
    cases (Stand.of_body B).code.symm.trans h3
    exact h4
  have C : xC p l e s m meth c cc maxL y.cls av.toArray D cl tys base := ⟨B.exec, B.bytes, hml, findClass_of_methodNamed B.named, B.notSynchronized, hK, hE, htr e (Stand.of_body B).admits⟩
  have hl := lv_entry av (n := maxL) hlen
  rw [lg_entry_eq]
  generalize (lg_sl av ++ List.replicate (maxL - (lg_sl av).length) Slot.unset).toArray = ls at hl ⊢
  exact body p e s m _ below meth c C (by rw [(Stand.of_body B).admits.platform]) htab B.returns s.heap [] ls hw va_S.rf hl
/-- caught behind handlers that are passed -/
theorem x_catch {X : String} {hh : List (Nat × Nat × Nat × Nat)} (C : xC p l e s m meth c cc nL own args D cl tys base) (hpl : e.platform.magicAccessors = ({} : Platform).magicAccessors) (htab : xTab c = hh) (pre : List (Nat × Nat × Nat × Nat)) (q : Nat × Nat × Nat × Nat) (rs : List (Nat × Nat × Nat × Nat)) (hsp : hh = pre ++ q :: rs) (hcov : q.1 ≤ pc ∧ pc < q.2.1) (h0 : q.2.2.2 ≠ 0) (hlink : Cond.classLink own q.2.2.2 X ∈ xT) (hpre : ∀ r ∈ pre, r.2.2.2 ≠ 0 ∧ ∃ nm, Cond.classLink own r.2.2.2 nm ∈ xT ∧ (X, nm) ∈ xNot)
    (kk : ∀ a : Nat, xG p l e R s m args below meth c Q nL D cl base g n E k z q.2.2.1 lv [.ref a]) : xGT p l e R s m args below meth c Q nL D cl base g n E k z pc lv st X := by
  intro H locs ls a ce hw hS hl h1 h2 h3 T hT St
  have hsp' : c.exceptionTable.toList.map (fun h => (h.startPc, h.endPc, h.handlerPc, h.catchType)) = pre ++ q :: rs := htab.trans hsp
  obtain ⟨pre', r2, e1, e2, e3⟩ := List.map_eq_append_iff.mp hsp'
  obtain ⟨x, r3, e4, e5, e6⟩ := List.map_eq_cons_iff.mp e3
  subst e4
  subst e5
  subst e2
  obtain ⟨c', hc', hcl⟩ := Cond.classLink_spec C.ow (C.word hlink) e.platform hpl
  cases h3.symm.trans hc'
  have hk0 : ∃ k, s.vm.classes[ce.cls]? = some k := by
    obtain ⟨dk, _, _, kt, hd, _, _, _, _, hkt, _, hopen⟩ := hcl.here
    exact ⟨kt, hkt⟩
  have hpass : ∀ y ∈ pre', RowPassed e.platform s m.cls pc ce.cls y := by
    intro y hy
    obtain ⟨g0, nm, g1, g2⟩ := hpre (y.startPc, y.endPc, y.handlerPc, y.catchType) (List.mem_map.mpr ⟨y, hy, rfl⟩)
    obtain ⟨c1, t1, f1, f2, f3⟩ := C.env.2.2.2.2.2.1 _ g2
    obtain ⟨c2, hc2, hcl2⟩ := Cond.classLink_spec C.ow (C.word g1) e.platform hpl
    cases h3.symm.trans f1
    cases f2.symm.trans hc2
    exact Or.inr ⟨g0, _, hcl2, f3⟩
  obtain ⟨vm', XV, go⟩ := St.caughtThrough a (g := F0 m pc ls st) rfl (cell := ce) (by rw [hT]; exact h1) (by rw [h2]; rfl) hk0 pre' x r3 e1 hpass (by simp only [covers, Bool.and_eq_true, decide_eq_true_eq]; exact hcov) (Or.inr ⟨h0, _, hcl, Jvm.Free.SB.assignable_self _ _⟩)
  obtain ⟨t, a1, b1⟩ := kk a H locs ls hw hS hl (T.setVm vm') hT XV
  refine ⟨t, ?_, b1⟩
  rw [St.pushThrowing_eq]
  exact go _ a1
/-- the end of a method that may leave cells -/
theorem x_iretK {R : Room} (C : xC p l e s m meth c cc nL own args D cl tys base) (hr : meth.sig.returnType = some .int) {v : Int32} (hk : k ≤ kR) (hz : z ≤ nR) (hdg : decode cc pc = .ok (.ireturn, 1)) (hp : post (.inl (some (.int v))) E) : xG p l e R s m args below meth c (xMQ below (xQc D cl base g n post) args s kR nR kT nT (fun q => base ≤ q)) nL D cl base g n E k z pc lv [.int v] :=
  x_wide hk hz (fun H locs ls hw hS hl => xW_mono (fun t h => xMQ.of h) (W.iret C.1 C.2.1 hr (fun t ht hW => ⟨⟨.inl (some (.int v)), E, rfl, hp, by rw [ht]; exact hw⟩, hS.F ht⟩) hS.2.2 hdg C.locks))
theorem x_lcmp (C : xC p l e s m meth c cc nL own args D cl tys base) {x y : Int64} (hdg : decode cc pc = .ok (.lcmp, 1)) (kk : xG p l e R s m args below meth c Q nL D cl base g n E k z (pc + 1) lv (.int (lg_cmp x y) :: st)) : xG p l e R s m args below meth c Q nL D cl base g n E k z pc lv (.long y :: .long x :: st) := fun H locs ls hw hS hl => W.lcmp C.1 C.2.1 hdg (kk H locs ls hw hS hl)
theorem x_sld (C : xC p l e s m meth c cc nL own args D cl tys base) {b L : Nat} {xs : Nat → Int32} {x : Int32} (hX : va_X b L xs s s.heap) (hb : b < s.heap.size) (hbb : b < base) (hin : vp_in x L) (hdg : decode cc pc = .ok (.iaload, 1)) (kk : xG p l e R s m args below meth c Q nL D cl base g n E k z (pc + 1) lv (.int (xs x.toNatClampNeg) :: st)) : xG p l e R s m args below meth c Q nL D cl base g n E k z pc lv (.int x :: .ref b :: st) := fun H locs ls hw hS hl => va_sld C.1 C.2.1 hX hb (Nat.not_le.mpr hbb) hS hin hdg (kk H locs ls hw hS hl)
theorem x_slen (C : xC p l e s m meth c cc nL own args D cl tys base) {b L : Nat} {xs : Nat → Int32} (hX : va_X b L xs s s.heap) (hb : b < s.heap.size) (hbb : b < base) (hdg : decode cc pc = .ok (.arraylength, 1)) (kk : xG p l e R s m args below meth c Q nL D cl base g n E k z (pc + 1) lv (.int (nI L) :: st)) : xG p l e R s m args below meth c Q nL D cl base g n E k z pc lv (.ref b :: st) := fun H locs ls hw hS hl => va_slen C.1 C.2.1 hX hb (Nat.not_le.mpr hbb) hS hdg (kk H locs ls hw hS hl)
end XLR
