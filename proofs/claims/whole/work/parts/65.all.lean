section XSW
/-- from the entry to the loop and to the end -/
theorem law_all {p : Program} {l : Launch} (htr : xTr l) {e : Env} {s : State} {m : MethodId} {args : Array Value} {below : List Frame} {meth : Method} {c : Code} {Q : State → Prop} {D : va_G} {a : Nat → ClassId} {g : Nat → Nat} {b L : Nat} {xs : Nat → Int32} (C : xC p l e s m meth c b_LW_law 9 "ChunkStoreLaw" args D xcl (xty a) s.heap.size) (hX : va_X b L xs s s.heap) (hb : b < s.heap.size) (hL : L ≤ 3072)
    (hend : ∀ (g : Nat → Nat) (E : Nat → va_E) (k z : Nat) (lv : List (Nat × Value)), k ≤ 700 → z ≤ 6000 → xG p l e room_1 s m args below meth c Q 9 D xcl s.heap.size g 161 E k z 1339 lv []) : xG p l e room_1 s m args below meth c Q 9 D xcl s.heap.size g 0 (fun _ => .inr (0, [])) 0 0 0 [(0, .ref b)] [] := by
  refine x_newo C (ci := 0) (fs := [.null, .null, .null, .null, .int 0, .double 0]) t_CS kw18 kw19 kw1 i_CS t_CS_ok rfl (by intro j hj; have : j = 0 ∨ j = 1 ∨ j = 2 ∨ j = 3 ∨ j = 4 ∨ j = 5 := (by omega); rcases this with rfl | rfl | rfl | rfl | rfl | rfl <;> rfl) (by decide) (by decide) d_LW_law_0 (fun _ _ => .inr (0, [.null, .null, .null, .null, .int 0, .double 0])) (fun g' hg => ⟨fun i hi => absurd hi (by omega), rfl⟩) ?_
  intro g1 _
  refine x_dup C d_LW_law_3 rfl ?_
  refine x_callI C (k_CS htr rfl) kw22 kw21 kw1 kw20 rfl ny_CS pl_CS_init ⟨rfl, rfl⟩ (by decide) (by decide) (Nat.le_of_ble_eq_true rfl) d_LW_law_4 ?_
  intro g2 hg2
  rw [← hg2 0 (by omega)]
  refine x_astore_n C d_LW_law_7 rfl (by decide) rfl ?_
  refine x_newo C (ci := 5) (fs := [.int 0, .double 0, .null, .null, .null, .null, .int 0, .null, .null, .null, .null, .null, .null, .null, .null, .null, .null, .null]) t_MD kw560 kw561 kw6 i_MD t_MD_ok rfl (by intro j hj; have : j = 0 ∨ j = 1 ∨ j = 2 ∨ j = 3 ∨ j = 4 ∨ j = 5 ∨ j = 6 ∨ j = 7 ∨ j = 8 ∨ j = 9 ∨ j = 10 ∨ j = 11 ∨ j = 12 ∨ j = 13 ∨ j = 14 ∨ j = 15 ∨ j = 16 ∨ j = 17 := (by omega); rcases this with rfl | rfl | rfl | rfl | rfl | rfl | rfl | rfl | rfl | rfl | rfl | rfl | rfl | rfl | rfl | rfl | rfl | rfl <;> rfl) (by decide) (by decide) d_LW_law_8 (fun g' => (fun k => if k < 143 then EC a g' σ0 w0 k else if k = 143 then .inr (5, [.int 0, .double 0, .null, .null, .null, .null, .int 0, .null, .null, .null, .null, .null, .null, .null, .null, .null, .null, .null]) else .inr (0, []))) (fun g' hg => ⟨fun i hi => eqE_tr (EC_geq hg hi hi (by omega) (by omega) (by omega) (by omega) (by omega) (by omega) (by omega)) (eqE_of (by rw [if_pos hi])), by rw [if_neg (by decide), if_pos rfl]⟩) ?_
  intro g3 hg3
  rw [← hg3 0 (by omega)]
  refine x_dup C d_LW_law_11 rfl ?_
  refine x_callI C (k_MD htr (E := _) (by rw [if_neg (by decide), if_pos rfl]) (fun g' k => EL a g' σ0 w0 (EM a g' σ0 w0 0 (EO a (fun _ => 0) (fun _ => 0))) k) (fun g' hg => ⟨fun i hi => eqE_tr (eqE_of (by rw [if_pos hi])) (eqE_tr (EC_geq (n := 144) hg (by omega) hi (by omega) (by omega) (by omega) (by omega) (by omega) (by omega) (by omega)) (eqE_of (by unfold EL; rw [if_pos hi]))), fun i h1 h2 => by unfold EL EM; rw [if_neg (by omega), if_pos ⟨h1, h2⟩]⟩)) kw564 kw563 kw6 kw562 rfl ny_MD pl_MD_init ⟨rfl, rfl⟩ (by decide) (by decide) (Nat.le_of_ble_eq_true rfl) d_LW_law_12 ?_
  intro g4 hg4
  rw [← hg4 143 (by omega), ← hg4 0 (by omega)]
  refine x_astore_n C d_LW_law_15 rfl (by decide) rfl ?_
  refine x_iconst C (v := nI 1) d_LW_law_16 (by decide) ?_
  refine x_newa C (ty := .long) (a0 := (1, .inr (.inl (fun _ => 0)))) (by decide) rfl 7 rfl (fun _ h => by cases h) (fun _ => rfl) (by decide) rfl (by decide) (by decide) (by decide) d_LW_law_17 (fun g' => (fun k => EL a g' σ0 w0 (EM a g' σ0 w0 0 (EO a (fun _ => 0) (fun _ => 0))) k)) (fun g' hg => ⟨fun i hi => LW_g (n := 159) (by decide) (by decide) hg i hi, rfl⟩) ?_
  intro g5 hg5
  rw [← hg5 0 (by omega), ← hg5 143 (by omega)]
  refine x_astore_n C d_LW_law_19 rfl (by decide) rfl ?_
  refine x_iconst C (v := nI 1) d_LW_law_20 (by decide) ?_
  refine x_newa C (ty := .double) (a0 := (1, .inr (.inr (.inr (.inl (fun _ => 0)))))) (by decide) rfl 5 rfl (fun _ h => by cases h) (fun _ => rfl) (by decide) rfl (by decide) (by decide) (by decide) d_LW_law_21 (fun g' => (fun k => EL a g' σ0 w0 (EM a g' σ0 w0 0 (EO a (fun _ => 0) (fun _ => 0))) k)) (fun g' hg => ⟨fun i hi => LW_g (n := 160) (by decide) (by decide) hg i hi, rfl⟩) ?_
  intro g6 hg6
  rw [← hg6 0 (by omega), ← hg6 143 (by omega), ← hg6 159 (by omega)]
  refine x_astore C d_LW_law_23 (by decide) rfl ?_
  refine x_iconst C (v := nI 0) d_LW_law_25 (by decide) ?_
  refine x_istore C d_LW_law_26 (by decide) rfl ?_
  refine x_lv [(0, .ref b), (1, .ref (g6 0)), (2, .ref (g6 143)), (3, .ref (g6 159)), (4, .ref (g6 160)), (5, .int (nI (6 * 0)))] ⟨rfl, rfl, rfl, rfl, rfl, rfl, trivial⟩ ?_
  refine x_wide (k' := 161 + 0) (z' := 2861 + 6 * 0) (by decide) (by decide) ?_
  exact law_loop htr C hX hb hb hL (by decide) (by decide) (by decide) (by decide) (fun E j hj => hend g6 E _ _ _ (by omega) (by omega)) 513 0 rfl Inv_0
end XSW
