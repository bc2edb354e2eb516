section XNT
variable {p : Program} {l : Launch} {e : Env} {R : Room} {s : State} {m : MethodId} {args : Array Value} {below : List Frame} {meth : Method} {c : Code} {nL : Nat} {D : va_G} {cl : List vw_C} {tys : List (ClassId × FieldType)} {base : Nat} {g : Nat → Nat} {cc : ByteArray} {own : String} {n pc : Nat} {E : Nat → va_E} {lv : List (Nat × Value)} {st : List Value} {post : xR → (Nat → va_E) → Prop} {kT nT : Nat}
theorem x_throwN {X tx sup : String} {names : List String} {ix is ic iy : Nat} {b : ByteArray} (C : xC p l e s m meth c cc nL own args D cl tys base) (hne : c.exceptionTable.isEmpty = true)
    (hd0 : decode cc pc = .ok (.new ix, 3)) (hd3 : decode cc (pc + 3) = .ok (.dup, 1)) (hd4 : decode cc (pc + 4) = .ok (.ldc is, 2)) (hd6 : decode cc (pc + 6) = .ok (.invokespecial ic, 3)) (hd9 : decode cc (pc + 9) = .ok (.athrow, 1))
    (hcl : Cond.classLink own ix X ∈ xT) (hinst : Cond.instantiable X 6 ∈ xT) (hini : Cond.initialized X ∈ xT) (hstr : (own, is, tx) ∈ xStr) (hX : Bundle.fit X = true) (hsup : Bundle.fit sup = true) (hnames : ∀ n ∈ names, Bundle.fit n = true) (b0 : decode b 0 = .ok (.aload_n 0, 1)) (b1 : decode b 1 = .ok (.aload_n 1, 1)) (b2 : decode b 2 = .ok (.invokespecial iy, 3)) (b5 : decode b 5 = .ok (.return_, 1))
    (hats : ∀ a ∈ xNA own ic X sup names iy b, a ∈ xT ∨ a ∈ xN ∨ a ∈ xStatics) (hRf : names.length + 4 < R.frames) (hRl : ((Value.ref 0 :: st).map fun v => v.category).sum + (13 * (names.length + 2) + 42) ≤ R.locals) (hRc : 1 ≤ R.cells) (hRs : 6 ≤ R.slots) (hkT : 1 ≤ kT) (hnT : 6 ≤ nT)
    (hp : post (.inr X) E) : xG p l e R s m args below meth c (xMQ below (xQc D cl base g n post) args s 0 0 kT nT (fun q => base ≤ q)) nL D cl base g n E 0 0 pc lv st := by
  intro H locs ls hw hS hl T hT X0
  have X' := x_rebase X0 (Nat.zero_le _) (Nat.zero_le _)
  generalize hs' : T.setFrames (.invoking m args :: below) = s' at X'
  have hvm : s'.vm = T.vm := by rw [← hs']; rfl
  have hheap : s'.heap = H := by rw [← hs']; exact hT
  have hW : s.WarmedH s'.vm := by rw [hvm]; exact X0.warmed
  have hE : xEnv base s' s'.heap := C.at hS hheap hW
  have hown' : s'.vm.findClass own = some m.cls := by rw [hW.alike.findClass]; exact C.ow
  obtain ⟨sa, hsa⟩ := hE.2.2.1 _ hstr
  obtain ⟨cX, hcX⟩ : ∃ cX, s'.vm.findClass X = some cX := by
    obtain ⟨cX, -, h, -⟩ := Cond.instantiable_spec (hE.words (args := args) _ hinst)
    exact ⟨cX, h⟩
  have hatoms : ∀ a ∈ xNA own ic X sup names iy b, a.before args s' = true := by
    intro a ha
    rcases hats a ha with h | h | h
    · exact hE.words a h
    · exact va_Nw.use (xIsN_tab (List.mem_filter.mp h).2) (hE.2.1 a h)
    · exact xStatics_ok hE a h
  have hrl : (Value.ref 0 :: st).map (fun v => v.category) = (Value.ref H.size :: st).map (fun v => v.category) := rfl
  have K : W p l e ({ R with cells := R.cells - 0, slots := R.slots - 0 } : Room) s' m args below meth c H [] 0 0 (fun t => ∃ a : Addr, t.status = .running ∧ Ended t below (.threw a) ∧ s'.WarmedH t.vm ∧ s'.sameButNew ({ t with vm := s'.vm } : State) [] 1 6 ∧ ∃ ce, t.heap[a]? = some ce ∧ ce.vm = .none ∧ s'.vm.findClass X = some ce.cls) (F0 m pc ls st) := by
    refine W.newcK C.1 C.2.1 hown' (hE.words _ hcl) (hE.words _ hinst) (hE.words _ hini) rfl hd0 (by show 0 + 1 ≤ R.cells - 0; omega) (by show 0 + 6 ≤ R.slots - 0; omega) hcX rfl fun H1 kC hkC e1 z1 o1 => ?_
    refine lv_dup (pc := pc + 3) (ls := ls) C.1 C.2.1 hd3 rfl ?_
    refine va_ldcS (pc := pc + 4) (ls := ls) C.1 C.2.1 hown' hsa hd4 ?_
    intro T2 hT2 X2
    obtain ⟨U, u1, u2, u3, u4, u5, ce, u6, u7, u8⟩ := x_ctorThrowN X2 C.1 C.2.2.2.2.2.2.2 (own := own) (cls := X) (sup := sup) (names := names) (ic := ic) hown' hX hsup hnames b0 b1 b2 b5 hatoms (fun x hx => by cases hx) (a := H.size) hcX hkC (by rw [hT2]; exact e1) (by rw [hheap]; exact Nat.le_refl _) (msg := .ref sa) rfl
      (g := F0 m (pc + 6) ls (.ref sa :: .ref H.size :: .ref H.size :: st)) rfl (by rw [C.2.2.1]; exact hl.1) rfl rfl (rest := st) rfl (by rw [C.2.1]; exact hd6) (by rw [C.2.1]; exact hd9) (covers_of_empty hne _) hRf (by show 2 * 0 + _ + _ ≤ R.locals; rw [← hrl]; omega) C.locks
    exact ⟨U, u1, H.size, u2, u3, u4, u5, ce, u6, u7, u8⟩
  obtain ⟨U, u1, a, u2, u3, u4, u5, ce, u6, u7, u8⟩ := K T hT X'
  have hWU : s.WarmedH U.vm := State.WarmedH.trans hW u4
  have hsz : s'.heap.size ≤ U.heap.size := u5.2.1
  have hk : ∀ q : Nat, q < H.size → U.heap[q]? = H[q]? := fun q hq => by
    have := x_sameHeap u5 q (by rw [hheap]; exact hq)
    rw [this, hheap]
  have hsame : s.sameButNew ({ U with vm := s.vm } : State) locs 1 6 := by
    have h2 : (T.setVm s.vm).sameButNew ({ U with vm := s.vm } : State) [] 1 6 := by
      obtain ⟨a1, a2⟩ := u5
      subst hs'
      refine ⟨?_, a2⟩
      have a3 := congrArg (fun z : State => z.setVm s.vm) a1
      have a4 : ({ U with vm := s.vm } : State) = ({ (T.setFrames (.invoking m args :: below)).setFrames U.frames with heap := U.heap, slotsUsed := U.slotsUsed } : State).setVm s.vm := a3
      rw [State.setFrames_setFrames] at a4
      exact a4
    have h3 := X0.same.trans h2
    simpa using h3
  refine ⟨U, u1, .threw a, u2, u3, ⟨⟨.inr X, E, ⟨a, ce, rfl, u6, u7, by rw [u4.alike.findClass]; exact u8⟩, hp, hw.kept hk⟩, ?_⟩, locs, ⟨hWU, hsame.mono hkT hnT⟩, hS.2.2⟩
  refine ⟨Nat.le_trans hS.1 (by rw [← hheap]; exact hsz), fun q h1 h2 => ?_⟩
  rw [hk q (Nat.lt_of_lt_of_le h1 hS.1)]
  exact hS.2.1 q h1 h2
theorem nb0 : decode prog_19_method_4_code 0 = .ok (.aload_n 0, 1) := by decide +kernel
theorem nb1 : decode prog_19_method_4_code 1 = .ok (.aload_n 1, 1) := by decide +kernel
theorem nb2 : decode prog_19_method_4_code 2 = .ok (.invokespecial 13, 3) := by decide +kernel
theorem nb5 : decode prog_19_method_4_code 5 = .ok (.return_, 1) := by decide +kernel
theorem at_NS : ∀ a ∈ xNA "ChunkStore" 70 "java/util/NoSuchElementException" "java/lang/RuntimeException" ["java/lang/Exception"] 13 prog_19_method_4_code, a ∈ xT ∨ a ∈ xN ∨ a ∈ xStatics := by decide +kernel
theorem th_NS {is j : Nat} {tx : String} (C : xC p l e s m meth c cc nL "ChunkStore" args D cl tys base) (hne : c.exceptionTable.isEmpty = true) (hst : (st.map fun v => v.category).sum ≤ 8) (hd0 : decode cc pc = .ok (.new 66, 3)) (hd3 : decode cc (pc + 3) = .ok (.dup, 1)) (hd4 : decode cc (pc + 4) = .ok (.ldc is, 2)) (hd6 : decode cc (pc + 6) = .ok (.invokespecial 70, 3)) (hd9 : decode cc (pc + 9) = .ok (.athrow, 1)) (hstr : ("ChunkStore", is, tx) ∈ xStr) (hp : post (.inr e_NS) E) : xG p l e (xrm j) s m args below meth c (xMQ below (xQc D cl base g n post) args s 0 0 1 6 (fun q => base ≤ q)) nL D cl base g n E 0 0 pc lv st :=
  x_throwN C hne hd0 hd3 hd4 hd6 hd9 kw263 kw264 kw12 hstr (by decide +kernel) (by decide +kernel) (by decide +kernel) nb0 nb1 nb2 nb5 at_NS (by show 1 + 4 < 6 + j; omega) (by show 1 + (st.map fun v => v.category).sum + (13 * 3 + 42) ≤ 100 + 30 * j; omega) (Nat.le_refl _) (Nat.le_refl _) (Nat.le_refl _) (Nat.le_refl _) hp
end XNT
