/-! The throw of a new exception whose text lies beyond the first 255 constants. -/
section XTW
theorem x_ldcSW {p : Program} {l : Launch} {e : Env} {R : Room} {s : State} {m : MethodId} {args : Array Value} {below : List Frame} {meth : Method} {c : Code} {H : Heap} {locs : List Loc} {cells slots : Nat} {Q : State → Prop} {cc : ByteArray} {pc : Nat} {ls : Array Slot} {rest : List Value} (hexec : p.tables.exec = Jvm.exec) (hb : c.code = cc) {own tx : String} {index q : Nat} (hown : s.vm.findClass own = some m.cls) (hZ : vk_R own index tx q s) (hdg : decode cc pc = .ok (.ldc_w index, 3))
    (k : W p l e R s m args below meth c H locs cells slots Q (F0 m (pc + 3) ls (.ref q :: rest))) : W p l e R s m args below meth c H locs cells slots Q (F0 m pc ls rest) := by
  intro T hT X
  obtain ⟨t, a1, b1⟩ := k T hT X
  exact ⟨t, Jvm.Stand.ldcStringW X hexec hown (text := tx) (a := q) (vk_R.same (u := s) rfl hZ |>.1) (vk_R.same (u := s) rfl hZ |>.2) (g := F0 m pc ls rest) rfl (by rw [hb]; exact hdg) t a1, b1⟩
variable {p : Program} {l : Launch} {e : Env} {R : Room} {s : State} {m : MethodId} {args : Array Value} {below : List Frame} {meth : Method} {c : Code} {nL : Nat} {D : va_G} {cl : List vw_C} {tys : List (ClassId × FieldType)} {base : Nat} {g : Nat → Nat} {cc : ByteArray} {own : String} {n pc : Nat} {E : Nat → va_E} {lv : List (Nat × Value)} {st : List Value} {post : xR → (Nat → va_E) → Prop} {kT nT : Nat}
/-- new X("..") and athrow -/
theorem x_throwW {X tx : String} {names : List String} {ix is ic : Nat} (C : xC p l e s m meth c cc nL own args D cl tys base) (hne : c.exceptionTable.isEmpty = true)
    (hd0 : decode cc pc = .ok (.new ix, 3)) (hd3 : decode cc (pc + 3) = .ok (.dup, 1)) (hd4 : decode cc (pc + 4) = .ok (.ldc_w is, 3)) (hd6 : decode cc (pc + 7) = .ok (.invokespecial ic, 3)) (hd9 : decode cc (pc + 10) = .ok (.athrow, 1))
    (hcl : Cond.classLink own ix X ∈ xT) (hinst : Cond.instantiable X 6 ∈ xT) (hini : Cond.initialized X ∈ xT) (hstr : (own, is, tx) ∈ xStr) (hX : Bundle.fit X = true) (hnames : ∀ n ∈ names, Bundle.fit n = true)
    (hats : ∀ a ∈ Bundle.ownAtoms own ic X names, a ∈ xT ∨ a ∈ xN ∨ a ∈ xStatics) (hRf : names.length + 3 < R.frames) (hRl : ((Value.ref 0 :: st).map fun v => v.category).sum + (13 * (names.length + 1) + 42) ≤ R.locals) (hRc : 1 ≤ R.cells) (hRs : 6 ≤ R.slots) (hkT : 1 ≤ kT) (hnT : 6 ≤ nT)
    (hp : post (.inr X) E) : xG p l e R s m args below meth c (xMQ below (xQc D cl base g n post) args s 0 0 kT nT (fun q => base ≤ q)) nL D cl base g n E 0 0 pc lv st := by
  intro H locs ls hw hS hl T hT X0
  have X' := x_rebase X0 (Nat.zero_le _) (Nat.zero_le _)
  generalize hs' : T.setFrames (.invoking m args :: below) = s' at X'
  have hvm : s'.vm = T.vm := by rw [← hs']; rfl
  have hheap : s'.heap = H := by rw [← hs']; exact hT
  have hW : s.WarmedH s'.vm := by rw [hvm]; exact X0.warmed
  have hE : xEnv base s' s'.heap := C.at hS hheap hW
  have hown' : s'.vm.findClass own = some m.cls := by rw [hW.alike.findClass]; exact C.ow
  obtain ⟨sa, hsa⟩ := hE.2.2.1 _ hstr
  obtain ⟨cX, hcX⟩ : ∃ cX, s'.vm.findClass X = some cX := by
    obtain ⟨cX, -, h, -⟩ := Cond.instantiable_spec (hE.words (args := args) _ hinst)
    exact ⟨cX, h⟩
  have hatoms : ∀ a ∈ Bundle.ownAtoms own ic X names, a.before args s' = true := by
    intro a ha
    rcases hats a ha with h | h | h
    · exact hE.words a h
    · exact va_Nw.use (xIsN_tab (List.mem_filter.mp h).2) (hE.2.1 a h)
    · exact xStatics_ok hE a h
  have hrl : (Value.ref 0 :: st).map (fun v => v.category) = (Value.ref H.size :: st).map (fun v => v.category) := rfl
  have K : W p l e ({ R with cells := R.cells - 0, slots := R.slots - 0 } : Room) s' m args below meth c H [] 0 0 (fun t => ∃ a : Addr, t.status = .running ∧ Ended t below (.threw a) ∧ s'.WarmedH t.vm ∧ s'.sameButNew ({ t with vm := s'.vm } : State) [] 1 6 ∧ ∃ ce, t.heap[a]? = some ce ∧ Bundle.OwnCell args s' X a (.ref sa) ce) (F0 m pc ls st) := by
    refine W.newcK C.1 C.2.1 hown' (hE.words _ hcl) (hE.words _ hinst) (hE.words _ hini) rfl hd0 (by show 0 + 1 ≤ R.cells - 0; omega) (by show 0 + 6 ≤ R.slots - 0; omega) hcX rfl fun H1 kC hkC e1 z1 o1 => ?_
    refine lv_dup (pc := pc + 3) (ls := ls) C.1 C.2.1 hd3 rfl ?_
    refine x_ldcSW (pc := pc + 4) (ls := ls) C.1 C.2.1 hown' hsa hd4 ?_
    intro T2 hT2 X2
    obtain ⟨U, u1, u2, u3, u4, u5, ce, u6, u7⟩ := X2.ctorThrowS C.1 C.2.2.2.2.2.2.2 (own := own) (cls := X) (names := names) (ic := ic) hown' hX hnames hatoms (fun x hx => by cases hx) (a := H.size) hcX hkC (by rw [hT2]; exact e1) (by rw [hheap]; exact Nat.le_refl _) (msg := .ref sa) rfl
      (g := F0 m (pc + 7) ls (.ref sa :: .ref H.size :: .ref H.size :: st)) rfl (by rw [C.2.2.1]; exact hl.1) rfl rfl (rest := st) rfl (by rw [C.2.1]; exact hd6) (by rw [C.2.1]; exact hd9) (covers_of_empty hne _) hRf (by show 2 * 0 + _ + _ ≤ R.locals; rw [← hrl]; omega) C.locks
    exact ⟨U, u1, H.size, u2, u3, u4, u5, ce, u6, u7⟩
  obtain ⟨U, u1, a, u2, u3, u4, u5, ce, u6, u7⟩ := K T hT X'
  have hWU : s.WarmedH U.vm := State.WarmedH.trans hW u4
  have hsz : s'.heap.size ≤ U.heap.size := u5.2.1
  have hk : ∀ q : Nat, q < H.size → U.heap[q]? = H[q]? := fun q hq => by
    have := x_sameHeap u5 q (by rw [hheap]; exact hq)
    rw [this, hheap]
  have hsame : s.sameButNew ({ U with vm := s.vm } : State) locs 1 6 := by
    have h2 : (T.setVm s.vm).sameButNew ({ U with vm := s.vm } : State) [] 1 6 := by
      obtain ⟨a1, a2⟩ := u5
      subst hs'
      refine ⟨?_, a2⟩
      have a3 := congrArg (fun z : State => z.setVm s.vm) a1
      have a4 : ({ U with vm := s.vm } : State) = ({ (T.setFrames (.invoking m args :: below)).setFrames U.frames with heap := U.heap, slotsUsed := U.slotsUsed } : State).setVm s.vm := a3
      rw [State.setFrames_setFrames] at a4
      exact a4
    have h3 := X0.same.trans h2
    simpa using h3
  refine ⟨U, u1, .threw a, u2, u3, ⟨⟨.inr X, E, ⟨a, ce, rfl, u6, u7.vm, by rw [u4.alike.findClass]; exact u7.cls⟩, hp, hw.kept hk⟩, ?_⟩, locs, ⟨hWU, hsame.mono hkT hnT⟩, hS.2.2⟩
  refine ⟨Nat.le_trans hS.1 (by rw [← hheap]; exact hsz), fun q h1 h2 => ?_⟩
  rw [hk q (Nat.lt_of_lt_of_le h1 hS.1)]
  exact hS.2.1 q h1 h2
end XTW
section XTW2
variable {p : Program} {l : Launch} {e : Env} {s : State} {m : MethodId} {args : Array Value} {below : List Frame} {meth : Method} {c : Code} {nL : Nat} {D : va_G} {cl : List vw_C} {tys : List (ClassId × FieldType)} {base : Nat} {g : Nat → Nat} {cc : ByteArray} {n pc : Nat} {E : Nat → va_E} {lv : List (Nat × Value)} {st : List Value} {post : xR → (Nat → va_E) → Prop}
theorem th_IOw {is j : Nat} {tx : String} (C : xC p l e s m meth c cc nL "ChunkStore" args D cl tys base) (hne : c.exceptionTable.isEmpty = true) (hst : (st.map fun v => v.category).sum ≤ 8) (hd0 : decode cc pc = .ok (.new 216, 3)) (hd3 : decode cc (pc + 3) = .ok (.dup, 1)) (hd4 : decode cc (pc + 4) = .ok (.ldc_w is, 3)) (hd6 : decode cc (pc + 7) = .ok (.invokespecial 220, 3)) (hd9 : decode cc (pc + 10) = .ok (.athrow, 1)) (hstr : ("ChunkStore", is, tx) ∈ xStr) (hp : post (.inr e_IO) E) : xG p l e (xrm j) s m args below meth c (xMQ below (xQc D cl base g n post) args s 0 0 1 6 (fun q => base ≤ q)) nL D cl base g n E 0 0 pc lv st :=
  x_throwW C hne hd0 hd3 hd4 hd6 hd9 kw310 kw311 kw13 hstr (by decide +kernel) (by decide +kernel) at_IO (by show 2 + 3 < 6 + j; omega) (by show 1 + (st.map fun v => v.category).sum + (13 * 3 + 42) ≤ 100 + 30 * j; omega) (Nat.le_refl _) (Nat.le_refl _) (Nat.le_refl _) (Nat.le_refl _) hp
theorem th_UOw {is j : Nat} {tx : String} (C : xC p l e s m meth c cc nL "ChunkStore" args D cl tys base) (hne : c.exceptionTable.isEmpty = true) (hst : (st.map fun v => v.category).sum ≤ 8) (hd0 : decode cc pc = .ok (.new 122, 3)) (hd3 : decode cc (pc + 3) = .ok (.dup, 1)) (hd4 : decode cc (pc + 4) = .ok (.ldc_w is, 3)) (hd6 : decode cc (pc + 7) = .ok (.invokespecial 126, 3)) (hd9 : decode cc (pc + 10) = .ok (.athrow, 1)) (hstr : ("ChunkStore", is, tx) ∈ xStr) (hp : post (.inr e_UO) E) : xG p l e (xrm j) s m args below meth c (xMQ below (xQc D cl base g n post) args s 0 0 1 6 (fun q => base ≤ q)) nL D cl base g n E 0 0 pc lv st :=
  x_throwW C hne hd0 hd3 hd4 hd6 hd9 kw400 kw401 kw14 hstr (by decide +kernel) (by decide +kernel) at_UO (by show 2 + 3 < 6 + j; omega) (by show 1 + (st.map fun v => v.category).sum + (13 * 3 + 42) ≤ 100 + 30 * j; omega) (Nat.le_refl _) (Nat.le_refl _) (Nat.le_refl _) (Nat.le_refl _) hp
end XTW2
