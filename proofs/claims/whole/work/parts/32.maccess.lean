section XMA
variable {p : Program} {l : Launch} {e : Env} {R : Room} {s : State} {m : MethodId} {args : Array Value} {below : List Frame} {meth : Method} {c : Code} {Q : State → Prop} {nL : Nat} {D : va_G} {base : Nat} {g : Nat → Nat} {cc : ByteArray} {n k z pc : Nat} {lv : List (Nat × Value)} {st : List Value} {a : Nat → ClassId} {τ : xSig} {v : xWrd} {fc : Nat} {X : Nat → va_E} {own : String}
theorem i_MD : ∀ w ∈ u_ws R_MD F_MD 18, w ∈ xT := by
  have h1 : ∀ w ∈ u_ws R_MD F_MD 18, w ∈ lw_tbl := by decide +kernel
  have h2 : ∀ w ∈ u_ws R_MD F_MD 18, xGood w = true := by decide +kernel
  exact fun w hw => xT_in (h1 w hw) (h2 w hw)
theorem g_MD_failed (C : xC p l e s m meth c cc nL "ChunkStoreModel" args D xcl (xty a) base) (hn : 159 ≤ n) (hdg : decode cc pc = .ok (.getfield 59, 3)) (kk : xG p l e R s m args below meth c Q nL D xcl base g n (EM a g τ v fc X) k z (pc + 3) lv (.int (nI fc) :: st)) : xG p l e R s m args below meth c Q nL D xcl base g n (EM a g τ v fc X) k z pc lv (.ref (g 143) :: st) :=
  x_get C (ci := 5) rfl i_MD 0 (by decide) kw567 (fun _ h => h) (by omega) (EM_obj) rfl hdg kk
theorem p_MD_failed (C : xC p l e s m meth c cc nL "ChunkStoreModel" args D xcl (xty a) base) {x : Nat} (hn : 159 ≤ n) (hdg : decode cc pc = .ok (.putfield 59, 3)) (kk : xG p l e R s m args below meth c Q nL D xcl base g n (EM a g τ v x X) k z (pc + 3) lv st) : xG p l e R s m args below meth c Q nL D xcl base g n (EM a g τ v fc X) k z pc lv (.int (nI x) :: .ref (g 143) :: st) :=
  x_put C (ci := 5) (ty := .int) (ty0 := t_MD) rfl i_MD 0 (by decide) kw567 (fun _ h => h) (by omega) (EM_obj) t_MD_ok n_MD rfl rfl rfl rfl (by simp) (EM_sfailed) hdg kk
theorem g_MD_time (C : xC p l e s m meth c cc nL "ChunkStoreModel" args D xcl (xty a) base) (hn : 159 ≤ n) (hdg : decode cc pc = .ok (.getfield 71, 3)) (kk : xG p l e R s m args below meth c Q nL D xcl base g n (EM a g τ v fc X) k z (pc + 3) lv (.double (dT (τ 1 0 0)) :: st)) : xG p l e R s m args below meth c Q nL D xcl base g n (EM a g τ v fc X) k z pc lv (.ref (g 143) :: st) :=
  x_get C (ci := 5) rfl i_MD 1 (by decide) kw568 (fun _ h => h) (by omega) (EM_obj) rfl hdg kk
theorem p_MD_time (C : xC p l e s m meth c cc nL "ChunkStoreModel" args D xcl (xty a) base) {x : Nat} (hn : 159 ≤ n) (hdg : decode cc pc = .ok (.putfield 71, 3)) (kk : xG p l e R s m args below meth c Q nL D xcl base g n (EM a g (up3 τ 1 0 0 x) v fc X) k z (pc + 3) lv st) : xG p l e R s m args below meth c Q nL D xcl base g n (EM a g τ v fc X) k z pc lv (.double (dT x) :: .ref (g 143) :: st) :=
  x_put C (ci := 5) (ty := .double) (ty0 := t_MD) rfl i_MD 1 (by decide) kw568 (fun _ h => h) (by omega) (EM_obj) t_MD_ok n_MD rfl rfl rfl rfl (by simp) (EM_stime) hdg kk
theorem g_MD_state (C : xC p l e s m meth c cc nL "ChunkStoreModel" args D xcl (xty a) base) (hn : 159 ≤ n) (hdg : decode cc pc = .ok (.getfield 7, 3)) (kk : xG p l e R s m args below meth c Q nL D xcl base g n (EM a g τ v fc X) k z (pc + 3) lv (.ref (g 144) :: st)) : xG p l e R s m args below meth c Q nL D xcl base g n (EM a g τ v fc X) k z pc lv (.ref (g 143) :: st) :=
  x_get C (ci := 5) rfl i_MD 2 (by decide) kw569 (fun _ h => h) (by omega) (EM_obj) rfl hdg kk
theorem g_MD_hidden (C : xC p l e s m meth c cc nL "ChunkStoreModel" args D xcl (xty a) base) (hn : 159 ≤ n) (hdg : decode cc pc = .ok (.getfield 13, 3)) (kk : xG p l e R s m args below meth c Q nL D xcl base g n (EM a g τ v fc X) k z (pc + 3) lv (.ref (g 145) :: st)) : xG p l e R s m args below meth c Q nL D xcl base g n (EM a g τ v fc X) k z pc lv (.ref (g 143) :: st) :=
  x_get C (ci := 5) rfl i_MD 3 (by decide) kw570 (fun _ h => h) (by omega) (EM_obj) rfl hdg kk
theorem g_MD_row (C : xC p l e s m meth c cc nL "ChunkStoreModel" args D xcl (xty a) base) (hn : 159 ≤ n) (hdg : decode cc pc = .ok (.getfield 17, 3)) (kk : xG p l e R s m args below meth c Q nL D xcl base g n (EM a g τ v fc X) k z (pc + 3) lv (.ref (g 146) :: st)) : xG p l e R s m args below meth c Q nL D xcl base g n (EM a g τ v fc X) k z pc lv (.ref (g 143) :: st) :=
  x_get C (ci := 5) rfl i_MD 4 (by decide) kw571 (fun _ h => h) (by omega) (EM_obj) rfl hdg kk
theorem g_MD_length (C : xC p l e s m meth c cc nL "ChunkStoreModel" args D xcl (xty a) base) (hn : 159 ≤ n) (hdg : decode cc pc = .ok (.getfield 20, 3)) (kk : xG p l e R s m args below meth c Q nL D xcl base g n (EM a g τ v fc X) k z (pc + 3) lv (.ref (g 147) :: st)) : xG p l e R s m args below meth c Q nL D xcl base g n (EM a g τ v fc X) k z pc lv (.ref (g 143) :: st) :=
  x_get C (ci := 5) rfl i_MD 5 (by decide) kw572 (fun _ h => h) (by omega) (EM_obj) rfl hdg kk
theorem g_MD_chunks (C : xC p l e s m meth c cc nL "ChunkStoreModel" args D xcl (xty a) base) (hn : 159 ≤ n) (hdg : decode cc pc = .ok (.getfield 78, 3)) (kk : xG p l e R s m args below meth c Q nL D xcl base g n (EM a g τ v fc X) k z (pc + 3) lv (.int (nI (τ 0 0 0)) :: st)) : xG p l e R s m args below meth c Q nL D xcl base g n (EM a g τ v fc X) k z pc lv (.ref (g 143) :: st) :=
  x_get C (ci := 5) rfl i_MD 6 (by decide) kw573 (fun _ h => h) (by omega) (EM_obj) rfl hdg kk
theorem p_MD_chunks (C : xC p l e s m meth c cc nL "ChunkStoreModel" args D xcl (xty a) base) {x : Nat} (hn : 159 ≤ n) (hdg : decode cc pc = .ok (.putfield 78, 3)) (kk : xG p l e R s m args below meth c Q nL D xcl base g n (EM a g (up3 τ 0 0 0 x) v fc X) k z (pc + 3) lv st) : xG p l e R s m args below meth c Q nL D xcl base g n (EM a g τ v fc X) k z pc lv (.int (nI x) :: .ref (g 143) :: st) :=
  x_put C (ci := 5) (ty := .int) (ty0 := t_MD) rfl i_MD 6 (by decide) kw573 (fun _ h => h) (by omega) (EM_obj) t_MD_ok n_MD rfl rfl rfl rfl (by simp) (EM_schunks) hdg kk
theorem g_MD_version (C : xC p l e s m meth c cc nL "ChunkStoreModel" args D xcl (xty a) base) (hn : 159 ≤ n) (hdg : decode cc pc = .ok (.getfield 23, 3)) (kk : xG p l e R s m args below meth c Q nL D xcl base g n (EM a g τ v fc X) k z (pc + 3) lv (.ref (g 148) :: st)) : xG p l e R s m args below meth c Q nL D xcl base g n (EM a g τ v fc X) k z pc lv (.ref (g 143) :: st) :=
  x_get C (ci := 5) rfl i_MD 7 (by decide) kw574 (fun _ h => h) (by omega) (EM_obj) rfl hdg kk
theorem g_MD_holders (C : xC p l e s m meth c cc nL "ChunkStoreModel" args D xcl (xty a) base) (hn : 159 ≤ n) (hdg : decode cc pc = .ok (.getfield 26, 3)) (kk : xG p l e R s m args below meth c Q nL D xcl base g n (EM a g τ v fc X) k z (pc + 3) lv (.ref (g 149) :: st)) : xG p l e R s m args below meth c Q nL D xcl base g n (EM a g τ v fc X) k z pc lv (.ref (g 143) :: st) :=
  x_get C (ci := 5) rfl i_MD 8 (by decide) kw575 (fun _ h => h) (by omega) (EM_obj) rfl hdg kk
theorem g_MD_lease (C : xC p l e s m meth c cc nL "ChunkStoreModel" args D xcl (xty a) base) (hn : 159 ≤ n) (hdg : decode cc pc = .ok (.getfield 29, 3)) (kk : xG p l e R s m args below meth c Q nL D xcl base g n (EM a g τ v fc X) k z (pc + 3) lv (.ref (g 150) :: st)) : xG p l e R s m args below meth c Q nL D xcl base g n (EM a g τ v fc X) k z pc lv (.ref (g 143) :: st) :=
  x_get C (ci := 5) rfl i_MD 9 (by decide) kw576 (fun _ h => h) (by omega) (EM_obj) rfl hdg kk
theorem g_MD_down (C : xC p l e s m meth c cc nL "ChunkStoreModel" args D xcl (xty a) base) (hn : 159 ≤ n) (hdg : decode cc pc = .ok (.getfield 32, 3)) (kk : xG p l e R s m args below meth c Q nL D xcl base g n (EM a g τ v fc X) k z (pc + 3) lv (.ref (g 151) :: st)) : xG p l e R s m args below meth c Q nL D xcl base g n (EM a g τ v fc X) k z pc lv (.ref (g 143) :: st) :=
  x_get C (ci := 5) rfl i_MD 10 (by decide) kw577 (fun _ h => h) (by omega) (EM_obj) rfl hdg kk
theorem g_MD_replica (C : xC p l e s m meth c cc nL "ChunkStoreModel" args D xcl (xty a) base) (hn : 159 ≤ n) (hdg : decode cc pc = .ok (.getfield 36, 3)) (kk : xG p l e R s m args below meth c Q nL D xcl base g n (EM a g τ v fc X) k z (pc + 3) lv (.ref (g 152) :: st)) : xG p l e R s m args below meth c Q nL D xcl base g n (EM a g τ v fc X) k z pc lv (.ref (g 143) :: st) :=
  x_get C (ci := 5) rfl i_MD 11 (by decide) kw578 (fun _ h => h) (by omega) (EM_obj) rfl hdg kk
theorem g_MD_used (C : xC p l e s m meth c cc nL "ChunkStoreModel" args D xcl (xty a) base) (hn : 159 ≤ n) (hdg : decode cc pc = .ok (.getfield 39, 3)) (kk : xG p l e R s m args below meth c Q nL D xcl base g n (EM a g τ v fc X) k z (pc + 3) lv (.ref (g 153) :: st)) : xG p l e R s m args below meth c Q nL D xcl base g n (EM a g τ v fc X) k z pc lv (.ref (g 143) :: st) :=
  x_get C (ci := 5) rfl i_MD 12 (by decide) kw579 (fun _ h => h) (by omega) (EM_obj) rfl hdg kk
theorem g_MD_word (C : xC p l e s m meth c cc nL "ChunkStoreModel" args D xcl (xty a) base) (hn : 159 ≤ n) (hdg : decode cc pc = .ok (.getfield 42, 3)) (kk : xG p l e R s m args below meth c Q nL D xcl base g n (EM a g τ v fc X) k z (pc + 3) lv (.ref (g 154) :: st)) : xG p l e R s m args below meth c Q nL D xcl base g n (EM a g τ v fc X) k z pc lv (.ref (g 143) :: st) :=
  x_get C (ci := 5) rfl i_MD 13 (by decide) kw580 (fun _ h => h) (by omega) (EM_obj) rfl hdg kk
theorem g_MD_keptChunk (C : xC p l e s m meth c cc nL "ChunkStoreModel" args D xcl (xty a) base) (hn : 159 ≤ n) (hdg : decode cc pc = .ok (.getfield 45, 3)) (kk : xG p l e R s m args below meth c Q nL D xcl base g n (EM a g τ v fc X) k z (pc + 3) lv (.ref (g 155) :: st)) : xG p l e R s m args below meth c Q nL D xcl base g n (EM a g τ v fc X) k z pc lv (.ref (g 143) :: st) :=
  x_get C (ci := 5) rfl i_MD 14 (by decide) kw581 (fun _ h => h) (by omega) (EM_obj) rfl hdg kk
theorem g_MD_keptVersion (C : xC p l e s m meth c cc nL "ChunkStoreModel" args D xcl (xty a) base) (hn : 159 ≤ n) (hdg : decode cc pc = .ok (.getfield 48, 3)) (kk : xG p l e R s m args below meth c Q nL D xcl base g n (EM a g τ v fc X) k z (pc + 3) lv (.ref (g 156) :: st)) : xG p l e R s m args below meth c Q nL D xcl base g n (EM a g τ v fc X) k z pc lv (.ref (g 143) :: st) :=
  x_get C (ci := 5) rfl i_MD 15 (by decide) kw582 (fun _ h => h) (by omega) (EM_obj) rfl hdg kk
theorem g_MD_keptHolders (C : xC p l e s m meth c cc nL "ChunkStoreModel" args D xcl (xty a) base) (hn : 159 ≤ n) (hdg : decode cc pc = .ok (.getfield 51, 3)) (kk : xG p l e R s m args below meth c Q nL D xcl base g n (EM a g τ v fc X) k z (pc + 3) lv (.ref (g 157) :: st)) : xG p l e R s m args below meth c Q nL D xcl base g n (EM a g τ v fc X) k z pc lv (.ref (g 143) :: st) :=
  x_get C (ci := 5) rfl i_MD 16 (by decide) kw583 (fun _ h => h) (by omega) (EM_obj) rfl hdg kk
theorem g_MD_keptEnd (C : xC p l e s m meth c cc nL "ChunkStoreModel" args D xcl (xty a) base) (hn : 159 ≤ n) (hdg : decode cc pc = .ok (.getfield 54, 3)) (kk : xG p l e R s m args below meth c Q nL D xcl base g n (EM a g τ v fc X) k z (pc + 3) lv (.ref (g 158) :: st)) : xG p l e R s m args below meth c Q nL D xcl base g n (EM a g τ v fc X) k z pc lv (.ref (g 143) :: st) :=
  x_get C (ci := 5) rfl i_MD 17 (by decide) kw584 (fun _ h => h) (by omega) (EM_obj) rfl hdg kk
theorem e_mstate (C : xC p l e s m meth c cc nL own args D xcl (xty a) base) {j : Nat} (hj : j < 8) (hn : 159 ≤ n) (hdg : decode cc pc = .ok (.iaload, 1)) (kk : xG p l e R s m args below meth c Q nL D xcl base g n (EM a g τ v fc X) k z (pc + 1) lv (.int (nI (τ 2 j 0)) :: st)) : xG p l e R s m args below meth c Q nL D xcl base g n (EM a g τ v fc X) k z pc lv (.int (nI (j)) :: .ref (g 144) :: st) := by
  refine x_iald C (by omega) EM_state 0 rfl (vp_in_nI hj (by omega)) hdg ?_
  rw [nI_clamp (by omega)]
  exact kk
theorem a_mstate (C : xC p l e s m meth c cc nL own args D xcl (xty a) base) {j x : Nat} (hj : j < 8) (hn : 159 ≤ n) (hdg : decode cc pc = .ok (.iastore, 1)) (kk : xG p l e R s m args below meth c Q nL D xcl base g n (EM a g (up3 τ 2 j 0 x) v fc X) k z (pc + 1) lv st) : xG p l e R s m args below meth c Q nL D xcl base g n (EM a g τ v fc X) k z pc lv (.int (nI x) :: .int (nI (j)) :: .ref (g 144) :: st) :=
  x_iast C (by omega) EM_state 0 rfl (vp_in_nI hj (by omega)) (by rw [nI_clamp (by omega)]; exact EM_sstate) hdg kk
theorem e_mhidden (C : xC p l e s m meth c cc nL own args D xcl (xty a) base) {j : Nat} (hj : j < 8) (hn : 159 ≤ n) (hdg : decode cc pc = .ok (.daload, 1)) (kk : xG p l e R s m args below meth c Q nL D xcl base g n (EM a g τ v fc X) k z (pc + 1) lv (.double (dT (τ 5 j 0)) :: st)) : xG p l e R s m args below meth c Q nL D xcl base g n (EM a g τ v fc X) k z pc lv (.int (nI (j)) :: .ref (g 145) :: st) := by
  refine x_dald C (by omega) EM_hidden 5 rfl (vp_in_nI hj (by omega)) hdg ?_
  rw [nI_clamp (by omega)]
  exact kk
theorem a_mhidden (C : xC p l e s m meth c cc nL own args D xcl (xty a) base) {j x : Nat} (hj : j < 8) (hn : 159 ≤ n) (hdg : decode cc pc = .ok (.dastore, 1)) (kk : xG p l e R s m args below meth c Q nL D xcl base g n (EM a g (up3 τ 5 j 0 x) v fc X) k z (pc + 1) lv st) : xG p l e R s m args below meth c Q nL D xcl base g n (EM a g τ v fc X) k z pc lv (.double (dT x) :: .int (nI (j)) :: .ref (g 145) :: st) :=
  x_dast C (by omega) EM_hidden 5 rfl (vp_in_nI hj (by omega)) (by rw [nI_clamp (by omega)]; exact EM_shidden) hdg kk
theorem e_mrow (C : xC p l e s m meth c cc nL own args D xcl (xty a) base) {i j : Nat} (hi : i < 8) (hj : j < 3) (hn : 159 ≤ n) (hdg : decode cc pc = .ok (.iaload, 1)) (kk : xG p l e R s m args below meth c Q nL D xcl base g n (EM a g τ v fc X) k z (pc + 1) lv (.int (nI (τ 4 i j)) :: st)) : xG p l e R s m args below meth c Q nL D xcl base g n (EM a g τ v fc X) k z pc lv (.int (nI (3 * i + j)) :: .ref (g 146) :: st) := by
  refine x_iald C (by omega) EM_row 0 rfl (vp_in_nI (show 3 * i + j < 24 by omega) (by omega)) hdg ?_
  rw [nI_clamp (by omega)]
  rw [show (3 * i + j) / 3 = i by omega, show (3 * i + j) % 3 = j by omega]
  exact kk
theorem a_mrow (C : xC p l e s m meth c cc nL own args D xcl (xty a) base) {i j x : Nat} (hi : i < 8) (hj : j < 3) (hn : 159 ≤ n) (hdg : decode cc pc = .ok (.iastore, 1)) (kk : xG p l e R s m args below meth c Q nL D xcl base g n (EM a g (up3 τ 4 i j x) v fc X) k z (pc + 1) lv st) : xG p l e R s m args below meth c Q nL D xcl base g n (EM a g τ v fc X) k z pc lv (.int (nI x) :: .int (nI (3 * i + j)) :: .ref (g 146) :: st) :=
  x_iast C (by omega) EM_row 0 rfl (vp_in_nI (show 3 * i + j < 24 by omega) (by omega)) (by rw [nI_clamp (by omega)]; exact EM_srow hj) hdg kk
theorem e_mlength (C : xC p l e s m meth c cc nL own args D xcl (xty a) base) {j : Nat} (hj : j < 8) (hn : 159 ≤ n) (hdg : decode cc pc = .ok (.iaload, 1)) (kk : xG p l e R s m args below meth c Q nL D xcl base g n (EM a g τ v fc X) k z (pc + 1) lv (.int (nI (τ 3 j 0)) :: st)) : xG p l e R s m args below meth c Q nL D xcl base g n (EM a g τ v fc X) k z pc lv (.int (nI (j)) :: .ref (g 147) :: st) := by
  refine x_iald C (by omega) EM_length 0 rfl (vp_in_nI hj (by omega)) hdg ?_
  rw [nI_clamp (by omega)]
  exact kk
theorem a_mlength (C : xC p l e s m meth c cc nL own args D xcl (xty a) base) {j x : Nat} (hj : j < 8) (hn : 159 ≤ n) (hdg : decode cc pc = .ok (.iastore, 1)) (kk : xG p l e R s m args below meth c Q nL D xcl base g n (EM a g (up3 τ 3 j 0 x) v fc X) k z (pc + 1) lv st) : xG p l e R s m args below meth c Q nL D xcl base g n (EM a g τ v fc X) k z pc lv (.int (nI x) :: .int (nI (j)) :: .ref (g 147) :: st) :=
  x_iast C (by omega) EM_length 0 rfl (vp_in_nI hj (by omega)) (by rw [nI_clamp (by omega)]; exact EM_slength) hdg kk
theorem e_mversion (C : xC p l e s m meth c cc nL own args D xcl (xty a) base) {j : Nat} (hj : j < 30) (hn : 159 ≤ n) (hdg : decode cc pc = .ok (.iaload, 1)) (kk : xG p l e R s m args below meth c Q nL D xcl base g n (EM a g τ v fc X) k z (pc + 1) lv (.int (nI (τ 6 j 0)) :: st)) : xG p l e R s m args below meth c Q nL D xcl base g n (EM a g τ v fc X) k z pc lv (.int (nI (j)) :: .ref (g 148) :: st) := by
  refine x_iald C (by omega) EM_version 0 rfl (vp_in_nI hj (by omega)) hdg ?_
  rw [nI_clamp (by omega)]
  exact kk
theorem a_mversion (C : xC p l e s m meth c cc nL own args D xcl (xty a) base) {j x : Nat} (hj : j < 30) (hn : 159 ≤ n) (hdg : decode cc pc = .ok (.iastore, 1)) (kk : xG p l e R s m args below meth c Q nL D xcl base g n (EM a g (up3 τ 6 j 0 x) v fc X) k z (pc + 1) lv st) : xG p l e R s m args below meth c Q nL D xcl base g n (EM a g τ v fc X) k z pc lv (.int (nI x) :: .int (nI (j)) :: .ref (g 148) :: st) :=
  x_iast C (by omega) EM_version 0 rfl (vp_in_nI hj (by omega)) (by rw [nI_clamp (by omega)]; exact EM_sversion) hdg kk
theorem e_mholders (C : xC p l e s m meth c cc nL own args D xcl (xty a) base) {j : Nat} (hj : j < 30) (hn : 159 ≤ n) (hdg : decode cc pc = .ok (.iaload, 1)) (kk : xG p l e R s m args below meth c Q nL D xcl base g n (EM a g τ v fc X) k z (pc + 1) lv (.int (nI (τ 8 j 0)) :: st)) : xG p l e R s m args below meth c Q nL D xcl base g n (EM a g τ v fc X) k z pc lv (.int (nI (j)) :: .ref (g 149) :: st) := by
  refine x_iald C (by omega) EM_holders 0 rfl (vp_in_nI hj (by omega)) hdg ?_
  rw [nI_clamp (by omega)]
  exact kk
theorem a_mholders (C : xC p l e s m meth c cc nL own args D xcl (xty a) base) {j x : Nat} (hj : j < 30) (hn : 159 ≤ n) (hdg : decode cc pc = .ok (.iastore, 1)) (kk : xG p l e R s m args below meth c Q nL D xcl base g n (EM a g (up3 τ 8 j 0 x) v fc X) k z (pc + 1) lv st) : xG p l e R s m args below meth c Q nL D xcl base g n (EM a g τ v fc X) k z pc lv (.int (nI x) :: .int (nI (j)) :: .ref (g 149) :: st) :=
  x_iast C (by omega) EM_holders 0 rfl (vp_in_nI hj (by omega)) (by rw [nI_clamp (by omega)]; exact EM_sholders) hdg kk
theorem e_mlease (C : xC p l e s m meth c cc nL own args D xcl (xty a) base) {j : Nat} (hj : j < 30) (hn : 159 ≤ n) (hdg : decode cc pc = .ok (.daload, 1)) (kk : xG p l e R s m args below meth c Q nL D xcl base g n (EM a g τ v fc X) k z (pc + 1) lv (.double (eT (τ 9 j 0)) :: st)) : xG p l e R s m args below meth c Q nL D xcl base g n (EM a g τ v fc X) k z pc lv (.int (nI (j)) :: .ref (g 150) :: st) := by
  refine x_dald C (by omega) EM_lease 5 rfl (vp_in_nI hj (by omega)) hdg ?_
  rw [nI_clamp (by omega)]
  exact kk
theorem a_mlease (C : xC p l e s m meth c cc nL own args D xcl (xty a) base) {j x : Nat} (hj : j < 30) (hx : ¬ x = 0) (hn : 159 ≤ n) (hdg : decode cc pc = .ok (.dastore, 1)) (kk : xG p l e R s m args below meth c Q nL D xcl base g n (EM a g (up3 τ 9 j 0 x) v fc X) k z (pc + 1) lv st) : xG p l e R s m args below meth c Q nL D xcl base g n (EM a g τ v fc X) k z pc lv (.double (dT x) :: .int (nI (j)) :: .ref (g 150) :: st) :=
  x_dast C (by omega) EM_lease 5 rfl (vp_in_nI hj (by omega)) (by rw [nI_clamp (by omega)]; rw [show dT x = eT x by rw [eT, if_neg hx]]; exact EM_slease) hdg kk
theorem a_mlease0 (C : xC p l e s m meth c cc nL own args D xcl (xty a) base) {j : Nat} (hj : j < 30) (hn : 159 ≤ n) (hdg : decode cc pc = .ok (.dastore, 1)) (kk : xG p l e R s m args below meth c Q nL D xcl base g n (EM a g (up3 τ 9 j 0 0) v fc X) k z (pc + 1) lv st) : xG p l e R s m args below meth c Q nL D xcl base g n (EM a g τ v fc X) k z pc lv (.double 13830554455654793216 :: .int (nI (j)) :: .ref (g 150) :: st) :=
  x_dast C (by omega) EM_lease 5 rfl (vp_in_nI hj (by omega)) (by rw [nI_clamp (by omega)]; rw [show (13830554455654793216 : UInt64) = eT 0 from rfl]; exact EM_slease) hdg kk
theorem e_mdown (C : xC p l e s m meth c cc nL own args D xcl (xty a) base) {j : Nat} (hj : j < 5) (hn : 159 ≤ n) (hdg : decode cc pc = .ok (.baload, 1)) (kk : xG p l e R s m args below meth c Q nL D xcl base g n (EM a g τ v fc X) k z (pc + 1) lv (.int (nI (b01 (decide (τ 10 j 0 = 0)))) :: st)) : xG p l e R s m args below meth c Q nL D xcl base g n (EM a g τ v fc X) k z pc lv (.int (nI (j)) :: .ref (g 151) :: st) := by
  refine x_zald C (by omega) EM_down 6 rfl (vp_in_nI hj (by omega)) hdg ?_
  rw [nI_clamp (by omega)]
  exact kk
theorem a_mdown0 (C : xC p l e s m meth c cc nL own args D xcl (xty a) base) {j : Nat} (hj : j < 5) (hn : 159 ≤ n) (hdg : decode cc pc = .ok (.bastore, 1)) (kk : xG p l e R s m args below meth c Q nL D xcl base g n (EM a g (up3 τ 10 j 0 1) v fc X) k z (pc + 1) lv st) : xG p l e R s m args below meth c Q nL D xcl base g n (EM a g τ v fc X) k z pc lv (.int (nI 0) :: .int (nI (j)) :: .ref (g 151) :: st) :=
  x_zast C (by omega) EM_down 6 rfl (vp_in_nI hj (by omega)) (by rw [nI_clamp (by omega)]; exact EM_sdown (x := 1)) hdg kk
theorem a_mdown1 (C : xC p l e s m meth c cc nL own args D xcl (xty a) base) {j : Nat} (hj : j < 5) (hn : 159 ≤ n) (hdg : decode cc pc = .ok (.bastore, 1)) (kk : xG p l e R s m args below meth c Q nL D xcl base g n (EM a g (up3 τ 10 j 0 0) v fc X) k z (pc + 1) lv st) : xG p l e R s m args below meth c Q nL D xcl base g n (EM a g τ v fc X) k z pc lv (.int (nI 1) :: .int (nI (j)) :: .ref (g 151) :: st) :=
  x_zast C (by omega) EM_down 6 rfl (vp_in_nI hj (by omega)) (by rw [nI_clamp (by omega)]; exact EM_sdown (x := 0)) hdg kk
theorem e_mreplica (C : xC p l e s m meth c cc nL own args D xcl (xty a) base) {i j : Nat} (hi : i < 5) (hj : j < 30) (hn : 159 ≤ n) (hdg : decode cc pc = .ok (.iaload, 1)) (kk : xG p l e R s m args below meth c Q nL D xcl base g n (EM a g τ v fc X) k z (pc + 1) lv (.int (nI (τ 12 i j)) :: st)) : xG p l e R s m args below meth c Q nL D xcl base g n (EM a g τ v fc X) k z pc lv (.int (nI (30 * i + j)) :: .ref (g 152) :: st) := by
  refine x_iald C (by omega) EM_replica 0 rfl (vp_in_nI (show 30 * i + j < 150 by omega) (by omega)) hdg ?_
  rw [nI_clamp (by omega)]
  rw [show (30 * i + j) / 30 = i by omega, show (30 * i + j) % 30 = j by omega]
  exact kk
theorem a_mreplica (C : xC p l e s m meth c cc nL own args D xcl (xty a) base) {i j x : Nat} (hi : i < 5) (hj : j < 30) (hn : 159 ≤ n) (hdg : decode cc pc = .ok (.iastore, 1)) (kk : xG p l e R s m args below meth c Q nL D xcl base g n (EM a g (up3 τ 12 i j x) v fc X) k z (pc + 1) lv st) : xG p l e R s m args below meth c Q nL D xcl base g n (EM a g τ v fc X) k z pc lv (.int (nI x) :: .int (nI (30 * i + j)) :: .ref (g 152) :: st) :=
  x_iast C (by omega) EM_replica 0 rfl (vp_in_nI (show 30 * i + j < 150 by omega) (by omega)) (by rw [nI_clamp (by omega)]; exact EM_sreplica hj) hdg kk
theorem e_mused (C : xC p l e s m meth c cc nL own args D xcl (xty a) base) {i j : Nat} (hi : i < 5) (hj : j < 30) (hn : 159 ≤ n) (hdg : decode cc pc = .ok (.iaload, 1)) (kk : xG p l e R s m args below meth c Q nL D xcl base g n (EM a g τ v fc X) k z (pc + 1) lv (.int (nI (τ 13 i j)) :: st)) : xG p l e R s m args below meth c Q nL D xcl base g n (EM a g τ v fc X) k z pc lv (.int (nI (30 * i + j)) :: .ref (g 153) :: st) := by
  refine x_iald C (by omega) EM_used 0 rfl (vp_in_nI (show 30 * i + j < 150 by omega) (by omega)) hdg ?_
  rw [nI_clamp (by omega)]
  rw [show (30 * i + j) / 30 = i by omega, show (30 * i + j) % 30 = j by omega]
  exact kk
theorem a_mused (C : xC p l e s m meth c cc nL own args D xcl (xty a) base) {i j x : Nat} (hi : i < 5) (hj : j < 30) (hn : 159 ≤ n) (hdg : decode cc pc = .ok (.iastore, 1)) (kk : xG p l e R s m args below meth c Q nL D xcl base g n (EM a g (up3 τ 13 i j x) v fc X) k z (pc + 1) lv st) : xG p l e R s m args below meth c Q nL D xcl base g n (EM a g τ v fc X) k z pc lv (.int (nI x) :: .int (nI (30 * i + j)) :: .ref (g 153) :: st) :=
  x_iast C (by omega) EM_used 0 rfl (vp_in_nI (show 30 * i + j < 150 by omega) (by omega)) (by rw [nI_clamp (by omega)]; exact EM_sused hj) hdg kk
theorem e_mword (C : xC p l e s m meth c cc nL own args D xcl (xty a) base) {i j u : Nat} (hi : i < 5) (hj : j < 30) (hu : u < 4) (hn : 159 ≤ n) (hdg : decode cc pc = .ok (.iaload, 1)) (kk : xG p l e R s m args below meth c Q nL D xcl base g n (EM a g τ v fc X) k z (pc + 1) lv (.int (v i (j * 4 + u)) :: st)) : xG p l e R s m args below meth c Q nL D xcl base g n (EM a g τ v fc X) k z pc lv (.int (nI (4 * (30 * i + j) + u)) :: .ref (g 154) :: st) := by
  refine x_iald C (by omega) EM_word 0 rfl (vp_in_nI (show 4 * (30 * i + j) + u < 600 by omega) (by omega)) hdg ?_
  rw [nI_clamp (by omega)]
  rw [show (4 * (30 * i + j) + u) / 120 = i by omega, show (4 * (30 * i + j) + u) % 120 = j * 4 + u by omega]
  exact kk
theorem a_mword (C : xC p l e s m meth c cc nL own args D xcl (xty a) base) {i j u : Nat} {x : Int32} (hi : i < 5) (hj : j < 30) (hu : u < 4) (hn : 159 ≤ n) (hdg : decode cc pc = .ok (.iastore, 1)) (kk : xG p l e R s m args below meth c Q nL D xcl base g n (EM a g τ (up2 v i (j * 4 + u) x) fc X) k z (pc + 1) lv st) : xG p l e R s m args below meth c Q nL D xcl base g n (EM a g τ v fc X) k z pc lv (.int x :: .int (nI (4 * (30 * i + j) + u)) :: .ref (g 154) :: st) :=
  x_iast C (by omega) EM_word 0 rfl (vp_in_nI (show 4 * (30 * i + j) + u < 600 by omega) (by omega)) (by rw [nI_clamp (by omega)]; rw [show 4 * (30 * i + j) + u = 120 * i + (j * 4 + u) by omega]; exact EM_sword (by omega)) hdg kk
theorem e_mkeptChunk (C : xC p l e s m meth c cc nL own args D xcl (xty a) base) {j : Nat} (hj : j < 72) (hn : 159 ≤ n) (hdg : decode cc pc = .ok (.iaload, 1)) (kk : xG p l e R s m args below meth c Q nL D xcl base g n (EM a g τ v fc X) k z (pc + 1) lv (.int (nI (τ 14 j 0)) :: st)) : xG p l e R s m args below meth c Q nL D xcl base g n (EM a g τ v fc X) k z pc lv (.int (nI (j)) :: .ref (g 155) :: st) := by
  refine x_iald C (by omega) EM_keptChunk 0 rfl (vp_in_nI hj (by omega)) hdg ?_
  rw [nI_clamp (by omega)]
  exact kk
theorem a_mkeptChunk (C : xC p l e s m meth c cc nL own args D xcl (xty a) base) {j x : Nat} (hj : j < 72) (hn : 159 ≤ n) (hdg : decode cc pc = .ok (.iastore, 1)) (kk : xG p l e R s m args below meth c Q nL D xcl base g n (EM a g (up3 τ 14 j 0 x) v fc X) k z (pc + 1) lv st) : xG p l e R s m args below meth c Q nL D xcl base g n (EM a g τ v fc X) k z pc lv (.int (nI x) :: .int (nI (j)) :: .ref (g 155) :: st) :=
  x_iast C (by omega) EM_keptChunk 0 rfl (vp_in_nI hj (by omega)) (by rw [nI_clamp (by omega)]; exact EM_skeptChunk) hdg kk
theorem e_mkeptVersion (C : xC p l e s m meth c cc nL own args D xcl (xty a) base) {j : Nat} (hj : j < 72) (hn : 159 ≤ n) (hdg : decode cc pc = .ok (.iaload, 1)) (kk : xG p l e R s m args below meth c Q nL D xcl base g n (EM a g τ v fc X) k z (pc + 1) lv (.int (nI (τ 15 j 0)) :: st)) : xG p l e R s m args below meth c Q nL D xcl base g n (EM a g τ v fc X) k z pc lv (.int (nI (j)) :: .ref (g 156) :: st) := by
  refine x_iald C (by omega) EM_keptVersion 0 rfl (vp_in_nI hj (by omega)) hdg ?_
  rw [nI_clamp (by omega)]
  exact kk
theorem a_mkeptVersion (C : xC p l e s m meth c cc nL own args D xcl (xty a) base) {j x : Nat} (hj : j < 72) (hn : 159 ≤ n) (hdg : decode cc pc = .ok (.iastore, 1)) (kk : xG p l e R s m args below meth c Q nL D xcl base g n (EM a g (up3 τ 15 j 0 x) v fc X) k z (pc + 1) lv st) : xG p l e R s m args below meth c Q nL D xcl base g n (EM a g τ v fc X) k z pc lv (.int (nI x) :: .int (nI (j)) :: .ref (g 156) :: st) :=
  x_iast C (by omega) EM_keptVersion 0 rfl (vp_in_nI hj (by omega)) (by rw [nI_clamp (by omega)]; exact EM_skeptVersion) hdg kk
theorem e_mkeptHolders (C : xC p l e s m meth c cc nL own args D xcl (xty a) base) {j : Nat} (hj : j < 72) (hn : 159 ≤ n) (hdg : decode cc pc = .ok (.iaload, 1)) (kk : xG p l e R s m args below meth c Q nL D xcl base g n (EM a g τ v fc X) k z (pc + 1) lv (.int (nI (τ 16 j 0)) :: st)) : xG p l e R s m args below meth c Q nL D xcl base g n (EM a g τ v fc X) k z pc lv (.int (nI (j)) :: .ref (g 157) :: st) := by
  refine x_iald C (by omega) EM_keptHolders 0 rfl (vp_in_nI hj (by omega)) hdg ?_
  rw [nI_clamp (by omega)]
  exact kk
theorem a_mkeptHolders (C : xC p l e s m meth c cc nL own args D xcl (xty a) base) {j x : Nat} (hj : j < 72) (hn : 159 ≤ n) (hdg : decode cc pc = .ok (.iastore, 1)) (kk : xG p l e R s m args below meth c Q nL D xcl base g n (EM a g (up3 τ 16 j 0 x) v fc X) k z (pc + 1) lv st) : xG p l e R s m args below meth c Q nL D xcl base g n (EM a g τ v fc X) k z pc lv (.int (nI x) :: .int (nI (j)) :: .ref (g 157) :: st) :=
  x_iast C (by omega) EM_keptHolders 0 rfl (vp_in_nI hj (by omega)) (by rw [nI_clamp (by omega)]; exact EM_skeptHolders) hdg kk
theorem e_mkeptEnd (C : xC p l e s m meth c cc nL own args D xcl (xty a) base) {j : Nat} (hj : j < 72) (hn : 159 ≤ n) (hdg : decode cc pc = .ok (.daload, 1)) (kk : xG p l e R s m args below meth c Q nL D xcl base g n (EM a g τ v fc X) k z (pc + 1) lv (.double (eT (τ 17 j 0)) :: st)) : xG p l e R s m args below meth c Q nL D xcl base g n (EM a g τ v fc X) k z pc lv (.int (nI (j)) :: .ref (g 158) :: st) := by
  refine x_dald C (by omega) EM_keptEnd 5 rfl (vp_in_nI hj (by omega)) hdg ?_
  rw [nI_clamp (by omega)]
  exact kk
theorem a_mkeptEnd (C : xC p l e s m meth c cc nL own args D xcl (xty a) base) {j x : Nat} (hj : j < 72) (hx : ¬ x = 0) (hn : 159 ≤ n) (hdg : decode cc pc = .ok (.dastore, 1)) (kk : xG p l e R s m args below meth c Q nL D xcl base g n (EM a g (up3 τ 17 j 0 x) v fc X) k z (pc + 1) lv st) : xG p l e R s m args below meth c Q nL D xcl base g n (EM a g τ v fc X) k z pc lv (.double (dT x) :: .int (nI (j)) :: .ref (g 158) :: st) :=
  x_dast C (by omega) EM_keptEnd 5 rfl (vp_in_nI hj (by omega)) (by rw [nI_clamp (by omega)]; rw [show dT x = eT x by rw [eT, if_neg hx]]; exact EM_skeptEnd) hdg kk
theorem a_mkeptEnd0 (C : xC p l e s m meth c cc nL own args D xcl (xty a) base) {j : Nat} (hj : j < 72) (hn : 159 ≤ n) (hdg : decode cc pc = .ok (.dastore, 1)) (kk : xG p l e R s m args below meth c Q nL D xcl base g n (EM a g (up3 τ 17 j 0 0) v fc X) k z (pc + 1) lv st) : xG p l e R s m args below meth c Q nL D xcl base g n (EM a g τ v fc X) k z pc lv (.double 13830554455654793216 :: .int (nI (j)) :: .ref (g 158) :: st) :=
  x_dast C (by omega) EM_keptEnd 5 rfl (vp_in_nI hj (by omega)) (by rw [nI_clamp (by omega)]; rw [show (13830554455654793216 : UInt64) = eT 0 from rfl]; exact EM_skeptEnd) hdg kk
end XMA
