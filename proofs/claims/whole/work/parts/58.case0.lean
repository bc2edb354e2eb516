section XLC
def EO (a : Nat → ClassId) (o : Nat → Int64) (d : Nat → UInt64) (k : Nat) : va_E := if k = 159 then .inl (a 7, 1, .inr (.inl o)) else if k = 160 then .inl (a 5, 1, .inr (.inr (.inr (.inl d)))) else .inr (0, [])
abbrev LWE (a : Nat → ClassId) (g : Nat → Nat) (σ : xSig) (w : xWrd) (fc : Nat) (o : Nat → Int64) (d : Nat → UInt64) : Nat → va_E := EL a g σ w (EM a g σ w fc (EO a o d))
theorem lw_room {R : Room} {j maxL : Nat} (hRf : 12 ≤ R.frames) (hRl : 454 ≤ R.locals) (hj : j ≤ 5) (hm : maxL ≤ 20) : (xrm j).frames + 1 ≤ R.frames ∧ 8 + (maxL + 11) + (xrm j).locals ≤ R.locals := by simp only [xrm]; omega
theorem lw_roomc0 {R : Room} {j k z : Nat} (hk : k + 2 ≤ R.cells) (hz : z + 12 ≤ R.slots) : k + (xrm j).cells ≤ R.cells ∧ z + (xrm j).slots ≤ R.slots := by simp only [xrm]; omega
theorem lw_roomc1 {R : Room} {j k z : Nat} (hk : k + 2 ≤ R.cells) (hz : z + 12 ≤ R.slots) : (k + 1) + (xrm j).cells ≤ R.cells ∧ (z + 6) + (xrm j).slots ≤ R.slots := by simp only [xrm]; omega
section
variable {a : Nat → ClassId} {g : Nat → Nat} {σ σ' : xSig} {w w' : xWrd} {fc q : Nat} {o o1 : Nat → Int64} {d d1 : Nat → UInt64}
theorem LW_o : EL a g σ' w' (EM a g σ w fc (EO a o d)) 159 = .inl (a 7, 1, .inr (.inl o)) := rfl
theorem LW_d : EL a g σ' w' (EM a g σ w fc (EO a o d)) 160 = .inl (a 5, 1, .inr (.inr (.inr (.inl d)))) := rfl
theorem LM_o : EM a g σ' w' fc (EL a g σ w (EO a o d)) 159 = .inl (a 7, 1, .inr (.inl o)) := rfl
theorem LM_d : EM a g σ' w' fc (EL a g σ w (EO a o d)) 160 = .inl (a 5, 1, .inr (.inr (.inr (.inl d)))) := rfl
theorem EO_up : va_up (EL a g σ' w' (EM a g σ w fc (EO a o d))) 159 (.inl (a 7, 1, .inr (.inl o1))) = EM a g σ w fc (EL a g σ' w' (EO a o1 d)) := by
  rw [← EL_EM]
  funext k
  by_cases r : k = 159
  · subst r; rw [va_up_self]; rfl
  · rw [va_up_ne _ _ r]
    unfold EL EM EO
    rw [if_neg r, if_neg r]
theorem EO_upD : va_up (EL a g σ' w' (EM a g σ w fc (EO a o d))) 160 (.inl (a 5, 1, .inr (.inr (.inr (.inl d1))))) = EM a g σ w fc (EL a g σ' w' (EO a o d1)) := by
  rw [← EL_EM]
  funext k
  by_cases r : k = 160
  · subst r; rw [va_up_self]; rfl
  · rw [va_up_ne _ _ r]
    unfold EL EM EO
    rw [if_neg r, if_neg r]
theorem LW_up : (if q = 0 then va_up (EL a g σ' w' (EM a g σ w fc (EO a o d))) 159 (.inl (a 7, 1, .inr (.inl o1))) else EL a g σ' w' (EM a g σ w fc (EO a o d))) = EM a g σ w fc (EL a g σ' w' (EO a (if q = 0 then o1 else o) d)) := by
  by_cases r : q = 0
  · rw [if_pos r, if_pos r]; exact EO_up
  · rw [if_neg r, if_neg r]; exact EL_EM
theorem LW_upD : (if q = 0 then va_up (EL a g σ' w' (EM a g σ w fc (EO a o d))) 160 (.inl (a 5, 1, .inr (.inr (.inr (.inl d1))))) else EL a g σ' w' (EM a g σ w fc (EO a o d))) = EM a g σ w fc (EL a g σ' w' (EO a o (if q = 0 then d1 else d))) := by
  by_cases r : q = 0
  · rw [if_pos r, if_pos r]; exact EO_upD
  · rw [if_neg r, if_neg r]; exact EL_EM
end
theorem lg_self (x : Int64) : lg_cmp x x = 0 := by
  unfold lg_cmp
  rw [if_neg (by simp), if_pos rfl]
theorem lw_cmp0 {o : Nat → Int64} {A : Int32} {q : Nat} (h : q = 0) : lg_cmp ((if q = 0 then vp_updL o 0 A.toInt64 else o) (nI 0).toNatClampNeg) (if q = 0 then A else nI 0).toInt64 = 0 := by
  rw [if_pos h, if_pos h, nI_clamp (by decide)]
  have : vp_updL o 0 A.toInt64 0 = A.toInt64 := by simp [vp_updL]
  rw [this]
  exact lg_self _
section
variable {p : Program} {l : Launch} {e : Env} {R : Room} {s : State} {m : MethodId} {args : Array Value} {below : List Frame} {meth : Method} {c : Code} {Q : State → Prop} {nL : Nat} {D : va_G} {cl : List vw_C} {tys : List (ClassId × FieldType)} {base : Nat} {g : Nat → Nat} {cc : ByteArray} {own : String} {n k z pc : Nat} {E : Nat → va_E} {lv : List (Nat × Value)} {st rest : List Value}
theorem x_sldn (C : xC p l e s m meth c cc nL own args D cl tys base) {b L j : Nat} {xs : Nat → Int32} (hX : va_X b L xs s s.heap) (hb : b < s.heap.size) (hbb : b < base) (hj : j < L) (hL : L < 2 ^ 30) (hdg : decode cc pc = .ok (.iaload, 1)) (kk : xG p l e R s m args below meth c Q nL D cl base g n E k z (pc + 1) lv (.int (xs j) :: st)) : xG p l e R s m args below meth c Q nL D cl base g n E k z pc lv (.int (nI j) :: .ref b :: st) :=
  x_sld C hX hb hbb (vp_in_nI hj (by omega)) hdg (x_topi (congrArg xs (nI_clamp (by omega))) kk)
end
end XLC
