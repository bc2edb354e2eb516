/-! Rows for what is made anew: objects, arrays, constructors, and a loop that makes cells. -/
section XNW0
/-- the same cell, as far as the machine sees it -/
def eqE (e e' : va_E) : Prop := ∀ (D : va_G) (cl : List vw_C) (q : Nat) (H : Heap), va_at D cl (q, e) H → va_at D cl (q, e') H
theorem eqE_rfl (e : va_E) : eqE e e := fun _ _ _ _ h => h
theorem eqE_of {e e' : va_E} (h : e = e') : eqE e e' := by rw [h]; exact eqE_rfl _
theorem arrV_cg {cA : ClassId} {N : Nat} {f f' : Nat → Value} (h : ∀ j, j < N → f j = f' j) : arrV cA N f = arrV cA N f' := by
  unfold arrV
  congr 1
  congr 1
  funext j
  exact h j.val j.isLt
theorem eqE_refs {cA : ClassId} {N : Nat} {f f' : Nat → Option Nat} (h : ∀ j, j < N → f j = f' j) : eqE (.inl (cA, N, .inr (.inr (.inr (.inr f))))) (.inl (cA, N, .inr (.inr (.inr (.inr f'))))) := by
  intro D cl q H hh
  have e : vp_cell cA (N, .inr (.inr (.inr (.inr f)))) = vp_cell cA (N, .inr (.inr (.inr (.inr f')))) := show arrV cA N (fun j => va_rf (f j)) = arrV cA N (fun j => va_rf (f' j)) from arrV_cg (fun j hj => by rw [h j hj])
  have hh' : H[q]? = some (vp_cell cA (N, .inr (.inr (.inr (.inr f))))) := hh
  rw [e] at hh'
  exact hh'
theorem eqE_dbl {cA : ClassId} {N : Nat} {f f' : Nat → UInt64} (h : ∀ j, j < N → f j = f' j) : eqE (.inl (cA, N, .inr (.inr (.inr (.inl f))))) (.inl (cA, N, .inr (.inr (.inr (.inl f'))))) := by
  intro D cl q H hh
  have e : vp_cell cA (N, .inr (.inr (.inr (.inl f)))) = vp_cell cA (N, .inr (.inr (.inr (.inl f')))) := show arrV cA N (fun j => .double (f j)) = arrV cA N (fun j => .double (f' j)) from arrV_cg (fun j hj => by rw [h j hj])
  have hh' : H[q]? = some (vp_cell cA (N, .inr (.inr (.inr (.inl f))))) := hh
  rw [e] at hh'
  exact hh'
theorem xWd_cg {D : va_G} {cl : List vw_C} {base : Nat} {g g' : Nat → Nat} {n : Nat} {E E' : Nat → va_E} {H : Heap} (hg : ∀ i, i < n → g' i = g i) (hE : ∀ i, i < n → eqE (E i) (E' i)) (h : xWd D cl base g n E H) : xWd D cl base g' n E' H := by
  obtain ⟨hP, hD1, hD2⟩ := h
  have back : ∀ (k : Nat) (q : Nat × va_E), (xWL g' n E')[k]? = some q → k < n ∧ q = (g' k, E' k) := by
    intro k q hq
    by_cases hk : k < n
    · rw [xWL_get hk] at hq; exact ⟨hk, (Option.some.inj hq).symm⟩
    · rw [xWL_none hk] at hq; cases hq
  refine ⟨fun k q hq => ?_, fun i j p q hp hq e => ?_, fun k q hq => ?_⟩
  · obtain ⟨hk, rfl⟩ := back k q hq
    rw [hg k hk]
    exact hE k hk D cl (g k) H (hP k (g k, E k) (xWL_get hk))
  · obtain ⟨hi, rfl⟩ := back i p hp
    obtain ⟨hj, rfl⟩ := back j q hq
    exact hD1 i j (g i, E i) (g j, E j) (xWL_get hi) (xWL_get hj) (by have e' : g' i = g' j := e; rw [hg i hi, hg j hj] at e'; exact e')
  · obtain ⟨hk, rfl⟩ := back k q hq
    show base ≤ g' k
    rw [hg k hk]
    exact hD2 k (g k, E k) (xWL_get hk)
/-- one more cell -/
theorem xWd_more {D : va_G} {cl : List vw_C} {base : Nat} {g : Nat → Nat} {n q : Nat} {E : Nat → va_E} {e : va_E} {E2 : Nat → va_E} {H : Heap} (h1 : ∀ i, i < n → eqE (E i) (E2 i)) (h2 : E2 n = e) (hP : va_P D cl (xWL g n E ++ [(q, e)]) H) (hD : va_D (fun q => base ≤ q) (xWL g n E ++ [(q, e)])) : xWd D cl base (va_up g n q) (n + 1) E2 H := by
  refine xWd_cg (g := va_up g n q) (E := va_up E n e) (fun _ _ => rfl) (fun i hi => ?_) (xWd_push rfl rfl hP hD)
  by_cases hk : i = n
  · rw [hk, va_up_self, h2]; exact eqE_rfl _
  · rw [va_up_ne _ _ hk]; exact h1 i (by omega)
end XNW0
section XNW1
variable {p : Program} {l : Launch} {e : Env} {R : Room} {s : State} {m : MethodId} {args : Array Value} {below : List Frame} {meth : Method} {c : Code} {Q : State → Prop} {nL : Nat} {D : va_G} {cl : List vw_C} {tys : List (ClassId × FieldType)} {base : Nat} {g : Nat → Nat} {cc : ByteArray} {own : String} {n k z pc : Nat} {E : Nat → va_E} {lv : List (Nat × Value)} {st : List Value}
theorem x_Eq {E' : Nat → va_E} (h : ∀ i, i < n → eqE (E i) (E' i)) (kk : xG p l e R s m args below meth c Q nL D cl base g n E' k z pc lv st) : xG p l e R s m args below meth c Q nL D cl base g n E k z pc lv st := fun H locs ls hw hS hl => kk H locs ls (xWd_cg (fun _ _ => rfl) h hw) hS hl
theorem xC.hA (C : xC p l e s m meth c cc nL own args D cl tys base) : ∀ q, s.heap.size ≤ q → base ≤ q := fun q hq => Nat.le_trans C.env.2.2.2.2.2.2.2.2 hq
theorem x_newo (C : xC p l e s m meth c cc nL own args D cl tys base) {Cn : String} {T : u_T} {N ci idx : Nat} {fs : List Value} (ty : Nat → FieldType) (hcl : Cond.classLink own idx Cn ∈ xT) (hinst : Cond.instantiable Cn N ∈ xT) (hini : Cond.initialized Cn ∈ xT) (hin : ∀ w ∈ u_ws Cn T N, w ∈ xT) (hty : ∀ k, k < N → parseFieldDescriptor (T k).2.2.1 = some (ty k)) (hc : cl[ci]? = some (Cn, T, N)) (hfs : ∀ j, j < N → defaultValue (ty j) = vp_V fs j) (hcells : k + 1 ≤ R.cells) (hslots : z + N ≤ R.slots) (hdg : decode cc pc = .ok (.new idx, 3))
    (E2 : (Nat → Nat) → Nat → va_E) (hE : ∀ g', (∀ i, i < n → g' i = g i) → (∀ i, i < n → eqE (E i) (E2 g' i)) ∧ E2 g' n = .inr (ci, fs))
    (kk : ∀ g', (∀ i, i < n → g' i = g i) → xG p l e R s m args below meth c Q nL D cl base g' (n + 1) (E2 g') (k + 1) (z + N) (pc + 3) lv (.ref (g' n) :: st)) : xG p l e R s m args below meth c Q nL D cl base g n E k z pc lv st := by
  intro H locs ls hw hS hl
  refine va_new C.1 C.2.1 C.words hin ty hty C.ow (C.word hcl) (C.word hinst) (C.word hini) C.K hw.1 hw.2 hS C.hA hc hfs hcells hslots hdg (fun q H1 hP hD hS1 => ?_)
  have ha : ∀ i, i < n → va_up g n q i = g i := fun i hi => va_up_ne _ _ (by omega)
  have h := kk (va_up g n q) ha H1 locs ls (xWd_more (hE _ ha).1 (hE _ ha).2 hP hD) hS1 hl
  rw [va_up_self] at h
  exact h
theorem x_newa (C : xC p l e s m meth c cc nL own args D cl tys base) {atype : ArrayType} {ty : FieldType} {cA : ClassId} (harr : ty ∈ xArr) (hty : newarray.typeOf atype = ty) (t0 : Nat) (ht : tys[t0]? = some (cA, ty)) (hno : ∀ C', ty ≠ .object C') {x : Int32} {N : Nat} {a0 : vp_A} (ha : ∀ cA : ClassId, vp_cell cA a0 = arrV cA N (fun _ => defaultValue ty)) (hx : ¬ x < 0) (hN : x.toNatClampNeg = N) (hbytes : N * componentBytes ty ≤ 536870912) (hcells : k + 1 ≤ R.cells) (hslots : z + N ≤ R.slots) (hdg : decode cc pc = .ok (.newarray atype, 2))
    (E2 : (Nat → Nat) → Nat → va_E) (hE : ∀ g', (∀ i, i < n → g' i = g i) → (∀ i, i < n → eqE (E i) (E2 g' i)) ∧ E2 g' n = .inl (cA, a0))
    (kk : ∀ g', (∀ i, i < n → g' i = g i) → xG p l e R s m args below meth c Q nL D cl base g' (n + 1) (E2 g') (k + 1) (z + N) (pc + 2) lv (.ref (g' n) :: st)) : xG p l e R s m args below meth c Q nL D cl base g n E k z pc lv (.int x :: st) := by
  intro H locs ls hw hS hl
  refine va_newa C.1 C.2.1 (by rw [hty]; exact word_at (State.WarmedH.refl s) (Or.inr ⟨ty, rfl⟩) (C.env.2.2.2.1 ty harr)) hty C.K hw.1 hw.2 hS C.hA ha hx hN hbytes hcells hslots hdg (fun q cB H1 hK' hP hD hS1 => ?_)
  have e1 : va_RA s cB ty := (hK'.2 tys.length (cB, ty) (by simp)).2
  have e2 : va_RA s cA ty := (C.K.2 t0 (cA, ty) ht).2
  have e3 : cB = cA := by
    cases ty <;> first | exact absurd rfl (hno _) | exact Option.some.inj (e1.symm.trans e2)
  subst e3
  have ha' : ∀ i, i < n → va_up g n q i = g i := fun i hi => va_up_ne _ _ (by omega)
  have h := kk (va_up g n q) ha' H1 locs ls (xWd_more (hE _ ha').1 (hE _ ha').2 hP hD) hS1 hl
  rw [va_up_self] at h
  exact h
theorem x_newr (C : xC p l e s m meth c cc nL own args D cl tys base) {Cn : String} {idx : Nat} {cA : ClassId} (hcl : Cond.classLink own idx Cn ∈ xT) (hov : Cn ∈ xOvr) (t0 : Nat) (ht : tys[t0]? = some (cA, .object Cn)) {x : Int32} {N : Nat} (hx : ¬ x < 0) (hN : x.toNatClampNeg = N) (hbytes : N * 4 ≤ 536870912) (hcells : k + 1 ≤ R.cells) (hslots : z + N ≤ R.slots) (hdg : decode cc pc = .ok (.anewarray idx, 3))
    (E2 : (Nat → Nat) → Nat → va_E) (hE : ∀ g', (∀ i, i < n → g' i = g i) → (∀ i, i < n → eqE (E i) (E2 g' i)) ∧ E2 g' n = .inl (cA, N, .inr (.inr (.inr (.inr (fun _ => none))))))
    (kk : ∀ g', (∀ i, i < n → g' i = g i) → xG p l e R s m args below meth c Q nL D cl base g' (n + 1) (E2 g') (k + 1) (z + N) (pc + 3) lv (.ref (g' n) :: st)) : xG p l e R s m args below meth c Q nL D cl base g n E k z pc lv (.int x :: st) := by
  intro H locs ls hw hS hl
  refine va_newq C.1 C.2.1 C.ow (C.word hcl) (C.env.2.2.2.2.1 Cn hov) C.K hw.1 hw.2 hS C.hA hx hN hbytes hcells hslots hdg (fun q cB H1 hK' hP hD hS1 => ?_)
  have e1 : va_RA s cB (.object Cn) := (hK'.2 tys.length (cB, .object Cn) (by simp)).2
  have e2 : va_RA s cA (.object Cn) := (C.K.2 t0 (cA, .object Cn) ht).2
  have e3 : cB = cA := by
    obtain ⟨_, _, _, _, _, f1⟩ := e1
    obtain ⟨_, _, _, _, _, f2⟩ := e2
    exact Option.some.inj (f1.symm.trans f2)
  subst e3
  have ha' : ∀ i, i < n → va_up g n q i = g i := fun i hi => va_up_ne _ _ (by omega)
  have h := kk (va_up g n q) ha' H1 locs ls (xWd_more (hE _ ha').1 (hE _ ha').2 hP hD) hS1 hl
  rw [va_up_self] at h
  exact h
theorem x_obj (C : xC p l e s m meth c cc nL own args D cl tys base) {idx x : Nat} (hlink : Cond.methodLink own idx Lib.objectInit ∈ xT) (hinst : Cond.instanceMethod Lib.objectInit ∈ xT) (hcode : Cond.code Lib.objectInit ⟨#[0xb1]⟩ 1 none ∈ xT) (hf : 1 ≤ R.frames) (hlo : (st.map fun v => v.category).sum + 12 ≤ R.locals) (hdg : decode cc pc = .ok (.invokespecial idx, 3)) (kk : xG p l e R s m args below meth c Q nL D cl base g n E k z (pc + 3) lv st) : xG p l e R s m args below meth c Q nL D cl base g n E k z pc lv (.ref x :: st) :=
  fun H locs ls hw hS hl => W.objInit C.1 C.2.1 C.ow (C.word hlink) (C.word hinst) (C.word hcode) (g := F0 m pc ls (.ref x :: st)) rfl (by rw [C.2.2.1]; exact hl.1) rfl hdg hf (by show 2 * 0 + _ + 12 ≤ _; omega) (kk H locs ls hw hS hl)
/-- a constructor's end -/
def xQn (D : va_G) (cl : List vw_C) (base : Nat) (g : Nat → Nat) (n n2 : Nat) (E2 : (Nat → Nat) → Nat → va_E) : Array Value → State → Outcome → State → Prop := fun _ st o t => (o = .returned none ∧ ∃ g', (∀ i, i < n → g' i = g i) ∧ xWd D cl base g' n2 (E2 g') t.heap) ∧ va_F (fun q => base ≤ q) st t
theorem x_ctor {y : MethodName} {maxL : Nat} {rm : Room} {av : List Value} {Qc : Array Value → State → Outcome → State → Prop} {mc ms : Nat} (hy : plainName y.cls = true) (htr : ∀ e : Env, l.admits e → e.platform.stackTraces = false) (hlen : (lg_sl av).length ≤ maxL)
    (body : ∀ (p : Program) (e : Env) (s : State) (m : MethodId) (args : Array Value) (below : List Frame) (meth : Method) (c : Code), xC p l e s m meth c cc maxL y.cls args D cl tys base → meth.sig.returnType = none → meth.name = y.name →
      xG p l e rm s m args below meth c (MQ below Qc args s mc ms (fun q => base ≤ q)) maxL D cl base g n E 0 0 0 (lv_args 0 av) []) :
    Met l y [Cond.code y cc maxL none] rm (xPc D cl tys base g n E av) Qc mc ms (fun q => base ≤ q) := by
  refine Met.ofW hy rfl ?_
  intro p e s m args below meth c s₁ B hml hv
  obtain ⟨rfl, hE, hK, hw⟩ := hv
  have C : xC p l e s m meth c cc maxL y.cls av.toArray D cl tys base := ⟨B.exec, B.bytes, hml, findClass_of_methodNamed B.named, B.notSynchronized, hK, hE, htr e (Stand.of_body B).admits⟩
  have hl := lv_entry av (n := maxL) hlen
  rw [lg_entry_eq]
  generalize (lg_sl av ++ List.replicate (maxL - (lg_sl av).length) Slot.unset).toArray = ls at hl ⊢
  exact body p e s m _ below meth c C B.returns (name_of_methodNamed B.named B.method).1 s.heap [] ls hw va_S.rf hl
theorem x_cret {g0 : Nat → Nat} {n0 : Nat} {E2 : (Nat → Nat) → Nat → va_E} (C : xC p l e s m meth c cc nL own args D cl tys base) (hr : meth.sig.returnType = none) (hdg : decode cc pc = .ok (.return_, 1)) (hg : ∀ i, i < n0 → g i = g0 i) (hE : ∀ i, i < n → eqE (E i) (E2 g i)) : xG p l e R s m args below meth c (MQ below (xQn D cl base g0 n0 n E2) args s k z (fun q => base ≤ q)) nL D cl base g n E k z pc lv [] :=
  fun H locs ls hw hS hl => W.vret C.1 C.2.1 hr (fun t ht hW => ⟨⟨rfl, g, hg, by rw [ht]; exact xWd_cg (fun _ _ => rfl) hE hw⟩, hS.F ht⟩) hS.2.2 hdg C.locks
theorem x_afterI {y : MethodName} {b : Nat} {mc ms n2 : Nat} {E2 : (Nat → Nat) → Nat → va_E} {rest : List Value} (hr : ∀ (H : Heap) (locs : List Loc) (ls : Array Slot), xWd D cl base g n E H → va_S (fun q => base ≤ q) s.heap H locs → lv_has ls nL lv → va_Run p l e R s m args below meth c H locs k z mc ms (F0 m pc ls st) rest (xQn D cl base g n n2 E2 #[]) (fun q => base ≤ q))
    (kk : ∀ g', (∀ i, i < n → g' i = g i) → xG p l e R s m args below meth c Q nL D cl base g' n2 (E2 g') (k + mc) (z + ms) (pc + 3) lv rest) : xG p l e R s m args below meth c Q nL D cl base g n E k z pc lv st := by
  intro H locs ls hw hS hl T hT X
  obtain ⟨v, st₀, t, T', L, h0, X', hL, e1, e2, ⟨⟨hv, g', hg, hw'⟩, hF⟩, go⟩ := hr H locs ls hw hS hl T hT X
  cases hv
  obtain ⟨t2, a1, b1⟩ := kk g' hg t.heap (locs ++ L) ls hw' (x_vaS hS h0 hF hL) hl T' e1 X'
  exact ⟨t2, go t2 a1, b1⟩
theorem x_callI {y : MethodName} {b2 : ByteArray} {maxL2 idx t mc ms n2 : Nat} {rm : Room} {E2 : (Nat → Nat) → Nat → va_E} (C : xC p l e s m meth c cc nL own args D cl tys base) (hM : Met l y [Cond.code y b2 maxL2 none] rm (xPc D cl tys base g n E [.ref (g t)]) (xQn D cl base g n n2 E2) mc ms (fun q => base ≤ q)) (hcode : Cond.code y b2 maxL2 none ∈ xT) (hinst : Cond.instanceMethod y ∈ xT) (hini : Cond.initialized y.cls ∈ xT) (hlink : Cond.methodLink own idx y ∈ xT) (hnm : y.name = "<init>") (hy : y.cls ≠ "java/lang/invoke/MethodHandle" ∧ y.cls ≠ "java/lang/invoke/VarHandle") (hlen : (parseMethodDescriptor y.desc).map (fun d => d.parameters.length) = some 0) (hrm : rm.cells = mc ∧ rm.slots = ms) (hR : rm.frames + 1 ≤ R.frames ∧ 8 + (maxL2 + 11) + rm.locals ≤ R.locals) (hf : k + mc ≤ R.cells ∧ z + ms ≤ R.slots) (hcat : (st.map fun v => v.category).sum ≤ 8) (hdg : decode cc pc = .ok (.invokespecial idx, 3))
    (kk : ∀ g', (∀ i, i < n → g' i = g i) → xG p l e R s m args below meth c Q nL D cl base g' n2 (E2 g') (k + mc) (z + ms) (pc + 3) lv st) : xG p l e R s m args below meth c Q nL D cl base g n E k z pc lv (.ref (g t) :: st) := by
  refine x_afterI (y := y) (b := g t) (rest := st) (fun H locs ls hw hS hl => ?_) kk
  exact va_runI (Ts := xT) (As := []) (rest := st) (n := 0) ⟨C.1, C.2.1, C.2.2.1, C.ow, C.words⟩ hM ⟨⟨hrm.1, hrm.2, hR.1, hR.2, x_hws hcode (C.word hcode), List.mem_cons_self, C.word hcode, C.word hini, hy, x_plen hlen, C.word hlink⟩, hnm, C.word hinst⟩ ⟨xPc_blind, fun U hU hW => ⟨rfl, C.at hS hU hW, va_K.moved hW.alike C.K, by rw [hU]; exact hw⟩⟩ rfl rfl hl.1 rfl (lv_room hcat) hdg hf
theorem x_callIN {y : MethodName} {b2 : ByteArray} {maxL2 idx t mc ms n2 : Nat} {rm : Room} {host : String} {E2 : (Nat → Nat) → Nat → va_E} (C : xC p l e s m meth c cc nL own args D cl tys base) (hM : Met l y [Cond.code y b2 maxL2 none] rm (xPc D cl tys base g n E [.ref (g t)]) (xQn D cl base g n n2 E2) mc ms (fun q => base ≤ q)) (hcode : Cond.code y b2 maxL2 none ∈ xT) (hinst : Cond.instanceMethod y ∈ xT) (hini : Cond.initialized y.cls ∈ xT) (hlink : Cond.methodLinkNest own idx y host ∈ xN) (hnm : y.name = "<init>") (hy : y.cls ≠ "java/lang/invoke/MethodHandle" ∧ y.cls ≠ "java/lang/invoke/VarHandle") (hlen : (parseMethodDescriptor y.desc).map (fun d => d.parameters.length) = some 0) (hrm : rm.cells = mc ∧ rm.slots = ms) (hR : rm.frames + 1 ≤ R.frames ∧ 8 + (maxL2 + 11) + rm.locals ≤ R.locals) (hf : k + mc ≤ R.cells ∧ z + ms ≤ R.slots) (hcat : (st.map fun v => v.category).sum ≤ 8) (hdg : decode cc pc = .ok (.invokespecial idx, 3))
    (kk : ∀ g', (∀ i, i < n → g' i = g i) → xG p l e R s m args below meth c Q nL D cl base g' n2 (E2 g') (k + mc) (z + ms) (pc + 3) lv st) : xG p l e R s m args below meth c Q nL D cl base g n E k z pc lv (.ref (g t) :: st) := by
  refine x_afterI (y := y) (b := g t) (rest := st) (fun H locs ls hw hS hl => ?_) kk
  exact va_runIN (Ts := xT) (As := []) (rest := st) (n := 0) ⟨C.1, C.2.1, C.2.2.1, C.ow, C.words⟩ hM ⟨⟨⟨hrm.1, hrm.2, hR.1, hR.2, x_hws hcode (C.word hcode), List.mem_cons_self⟩, C.word hcode, C.word hini, hy, x_plen hlen, C.nest hlink⟩, hnm, C.word hinst⟩ ⟨xPc_blind, fun U hU hW => ⟨rfl, C.at hS hU hW, va_K.moved hW.alike C.K, by rw [hU]; exact hw⟩⟩ rfl rfl hl.1 rfl (lv_room hcat) hdg hf
theorem x_loopG (N : Nat) (P : (Nat → Nat) → Prop) (nn kx zx : Nat → Nat) (EE : (Nat → Nat) → Nat → Nat → va_E) (LV : (Nat → Nat) → Nat → List (Nat × Value)) (hn : n = nn 0) (hk : k = kx 0) (hz : z = zx 0) (hE : ∀ i, i < n → eqE (E i) (EE g 0 i)) (hlv : xall (LV g 0) lv) (hP : P g)
    (step : ∀ i g, i ≤ N → P g → (i < N → ∀ g', P g' → xG p l e R s m args below meth c Q nL D cl base g' (nn (i + 1)) (EE g' (i + 1)) (kx (i + 1)) (zx (i + 1)) pc (LV g' (i + 1)) st) → xG p l e R s m args below meth c Q nL D cl base g (nn i) (EE g i) (kx i) (zx i) pc (LV g i) st) : xG p l e R s m args below meth c Q nL D cl base g n E k z pc lv st := by
  have h : ∀ d i g, d + i = N → P g → xG p l e R s m args below meth c Q nL D cl base g (nn i) (EE g i) (kx i) (zx i) pc (LV g i) st := by
    intro d
    induction d with
    | zero => intro i g hi hP; exact step i g (by omega) hP (fun h => absurd h (by omega))
    | succ d ih => intro i g hi hP; exact step i g (by omega) hP (fun h g' hP' => ih (i + 1) g' (by omega) hP')
  refine x_Eq hE (x_lv (LV g 0) hlv ?_)
  subst hn hk hz
  exact h N 0 g rfl hP
end XNW1
