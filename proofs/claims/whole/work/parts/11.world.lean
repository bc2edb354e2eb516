section XEC
def up3 (σ : Nat → Nat → Nat → Nat) (t i j v : Nat) : Nat → Nat → Nat → Nat := fun x y z => if x = t ∧ y = i ∧ z = j then v else σ x y z
def up2 (w : Nat → Nat → Int32) (i j : Nat) (v : Int32) : Nat → Nat → Int32 := fun x y => if x = i ∧ y = j then v else w x y
def xty (a : Nat → ClassId) : List (ClassId × FieldType) := [(a 0, .int), (a 1, .object "ChunkStore$FileEntry"), (a 2, .object "ChunkStore$Chunk"), (a 3, .object "ChunkStore$Server"), (a 4, .object "ChunkStore$Kept"), (a 5, .double), (a 6, .boolean), (a 7, .long)]
def cc_cs (a : Nat → ClassId) (g : Nat → Nat) (σ : Nat → Nat → Nat → Nat) (w : Nat → Nat → Int32) (i : Nat) : va_E := .inr (0, [.ref (g (1)), .ref (g (18)), .ref (g (49)), .ref (g (70)), .int (nI (σ 0 0 0)), .double (dT (σ 1 0 0))])
def cc_arrF (a : Nat → ClassId) (g : Nat → Nat) (σ : Nat → Nat → Nat → Nat) (w : Nat → Nat → Int32) (i : Nat) : va_E := .inl (a 1, 8, .inr (.inr (.inr (.inr (fun j => some (g (2 + 2 * j)))))))
def cc_file (a : Nat → ClassId) (g : Nat → Nat) (σ : Nat → Nat → Nat → Nat) (w : Nat → Nat → Int32) (i : Nat) : va_E := .inr (2, [.ref (g (3 + 2 * i)), .int (nI (σ 3 i 0)), .int (nI (σ 2 i 0)), .double (dT (σ 5 i 0))])
def cc_row (a : Nat → ClassId) (g : Nat → Nat) (σ : Nat → Nat → Nat → Nat) (w : Nat → Nat → Int32) (i : Nat) : va_E := .inl (a 0, 3, .inl (fun j => nI (σ 4 i j)))
def cc_arrC (a : Nat → ClassId) (g : Nat → Nat) (σ : Nat → Nat → Nat → Nat) (w : Nat → Nat → Int32) (i : Nat) : va_E := .inl (a 2, 30, .inr (.inr (.inr (.inr (fun j => some (g (19 + j)))))))
def cc_chunk (a : Nat → ClassId) (g : Nat → Nat) (σ : Nat → Nat → Nat → Nat) (w : Nat → Nat → Int32) (i : Nat) : va_E := .inr (1, [.int (nI (σ 6 i 0)), .int (nI (σ 7 i 0)), .int (nI (σ 8 i 0)), .double (dT (σ 9 i 0))])
def cc_arrS (a : Nat → ClassId) (g : Nat → Nat) (σ : Nat → Nat → Nat → Nat) (w : Nat → Nat → Int32) (i : Nat) : va_E := .inl (a 3, 5, .inr (.inr (.inr (.inr (fun j => some (g (50 + 4 * j)))))))
def cc_server (a : Nat → ClassId) (g : Nat → Nat) (σ : Nat → Nat → Nat → Nat) (w : Nat → Nat → Int32) (i : Nat) : va_E := .inr (4, [.ref (g (51 + 4 * i)), .ref (g (52 + 4 * i)), .ref (g (53 + 4 * i)), .int (nI (σ 10 i 0)), .int (nI (σ 11 i 0))])
def cc_vers (a : Nat → ClassId) (g : Nat → Nat) (σ : Nat → Nat → Nat → Nat) (w : Nat → Nat → Int32) (i : Nat) : va_E := .inl (a 0, 30, .inl (fun j => nI (σ 12 i j)))
def cc_used (a : Nat → ClassId) (g : Nat → Nat) (σ : Nat → Nat → Nat → Nat) (w : Nat → Nat → Int32) (i : Nat) : va_E := .inl (a 0, 30, .inl (fun j => nI (σ 13 i j)))
def cc_wrds (a : Nat → ClassId) (g : Nat → Nat) (σ : Nat → Nat → Nat → Nat) (w : Nat → Nat → Int32) (i : Nat) : va_E := .inl (a 0, 120, .inl (fun j => w i j))
def cc_arrK (a : Nat → ClassId) (g : Nat → Nat) (σ : Nat → Nat → Nat → Nat) (w : Nat → Nat → Int32) (i : Nat) : va_E := .inl (a 4, 72, .inr (.inr (.inr (.inr (fun j => some (g (71 + j)))))))
def cc_kept (a : Nat → ClassId) (g : Nat → Nat) (σ : Nat → Nat → Nat → Nat) (w : Nat → Nat → Int32) (i : Nat) : va_E := .inr (3, [.int (nI (σ 14 i 0)), .int (nI (σ 15 i 0)), .int (nI (σ 16 i 0)), .double (dT (σ 17 i 0))])
def EC (a : Nat → ClassId) (g : Nat → Nat) (σ : Nat → Nat → Nat → Nat) (w : Nat → Nat → Int32) (k : Nat) : va_E :=
  if k = 0 then cc_cs a g σ w 0 else if k = 1 then cc_arrF a g σ w 0 else if k < 18 then (if k % 2 = 0 then cc_file a g σ w ((k - 2) / 2) else cc_row a g σ w ((k - 3) / 2))
  else if k = 18 then cc_arrC a g σ w 0 else if k < 49 then cc_chunk a g σ w (k - 19) else if k = 49 then cc_arrS a g σ w 0
  else if k < 70 then (if (k - 50) % 4 = 0 then cc_server a g σ w ((k - 50) / 4) else if (k - 50) % 4 = 1 then cc_vers a g σ w ((k - 51) / 4) else if (k - 50) % 4 = 2 then cc_used a g σ w ((k - 52) / 4) else cc_wrds a g σ w ((k - 53) / 4))
  else if k = 70 then cc_arrK a g σ w 0 else cc_kept a g σ w (k - 71)
def EL (a : Nat → ClassId) (g : Nat → Nat) (σ : Nat → Nat → Nat → Nat) (w : Nat → Nat → Int32) (Y : Nat → va_E) (k : Nat) : va_E := if k < 143 then EC a g σ w k else Y k
theorem EL_cs {a : Nat → ClassId} {g : Nat → Nat} {σ : Nat → Nat → Nat → Nat} {w : Nat → Nat → Int32} {Y : Nat → va_E} : EL a g σ w Y (0) = .inr (0, [.ref (g (1)), .ref (g (18)), .ref (g (49)), .ref (g (70)), .int (nI (σ 0 0 0)), .double (dT (σ 1 0 0))]) := rfl
theorem EC_cs {a : Nat → ClassId} {g : Nat → Nat} {σ : Nat → Nat → Nat → Nat} {w : Nat → Nat → Int32} {Y : Nat → va_E} : EC a g σ w (0) = cc_cs a g σ w 0 := rfl
theorem EL_arrF {a : Nat → ClassId} {g : Nat → Nat} {σ : Nat → Nat → Nat → Nat} {w : Nat → Nat → Int32} {Y : Nat → va_E} : EL a g σ w Y (1) = .inl (a 1, 8, .inr (.inr (.inr (.inr (fun j => some (g (2 + 2 * j))))))) := rfl
theorem EC_arrF {a : Nat → ClassId} {g : Nat → Nat} {σ : Nat → Nat → Nat → Nat} {w : Nat → Nat → Int32} {Y : Nat → va_E} : EC a g σ w (1) = cc_arrF a g σ w 0 := rfl
theorem EC_file {a : Nat → ClassId} {g : Nat → Nat} {σ : Nat → Nat → Nat → Nat} {w : Nat → Nat → Int32} {Y : Nat → va_E} {i : Nat} (hi : i < 8) : EC a g σ w (2 + 2 * i) = cc_file a g σ w i := by
  unfold EC
  rw [if_neg (by omega), if_neg (by omega), if_pos (by omega), if_pos (by omega)]
  congr 1
  all_goals omega
theorem EL_file {a : Nat → ClassId} {g : Nat → Nat} {σ : Nat → Nat → Nat → Nat} {w : Nat → Nat → Int32} {Y : Nat → va_E} {i : Nat} (hi : i < 8) : EL a g σ w Y (2 + 2 * i) = .inr (2, [.ref (g (3 + 2 * i)), .int (nI (σ 3 i 0)), .int (nI (σ 2 i 0)), .double (dT (σ 5 i 0))]) := by
  unfold EL
  rw [if_pos (by omega), EC_file (Y := Y) hi]; rfl
theorem EC_row {a : Nat → ClassId} {g : Nat → Nat} {σ : Nat → Nat → Nat → Nat} {w : Nat → Nat → Int32} {Y : Nat → va_E} {i : Nat} (hi : i < 8) : EC a g σ w (3 + 2 * i) = cc_row a g σ w i := by
  unfold EC
  rw [if_neg (by omega), if_neg (by omega), if_pos (by omega), if_neg (by omega)]
  congr 1
  all_goals omega
theorem EL_row {a : Nat → ClassId} {g : Nat → Nat} {σ : Nat → Nat → Nat → Nat} {w : Nat → Nat → Int32} {Y : Nat → va_E} {i : Nat} (hi : i < 8) : EL a g σ w Y (3 + 2 * i) = .inl (a 0, 3, .inl (fun j => nI (σ 4 i j))) := by
  unfold EL
  rw [if_pos (by omega), EC_row (Y := Y) hi]; rfl
theorem EL_arrC {a : Nat → ClassId} {g : Nat → Nat} {σ : Nat → Nat → Nat → Nat} {w : Nat → Nat → Int32} {Y : Nat → va_E} : EL a g σ w Y (18) = .inl (a 2, 30, .inr (.inr (.inr (.inr (fun j => some (g (19 + j))))))) := rfl
theorem EC_arrC {a : Nat → ClassId} {g : Nat → Nat} {σ : Nat → Nat → Nat → Nat} {w : Nat → Nat → Int32} {Y : Nat → va_E} : EC a g σ w (18) = cc_arrC a g σ w 0 := rfl
theorem EC_chunk {a : Nat → ClassId} {g : Nat → Nat} {σ : Nat → Nat → Nat → Nat} {w : Nat → Nat → Int32} {Y : Nat → va_E} {i : Nat} (hi : i < 30) : EC a g σ w (19 + i) = cc_chunk a g σ w i := by
  unfold EC
  rw [if_neg (by omega), if_neg (by omega), if_neg (by omega), if_neg (by omega), if_pos (by omega)]
  congr 1
  all_goals omega
theorem EL_chunk {a : Nat → ClassId} {g : Nat → Nat} {σ : Nat → Nat → Nat → Nat} {w : Nat → Nat → Int32} {Y : Nat → va_E} {i : Nat} (hi : i < 30) : EL a g σ w Y (19 + i) = .inr (1, [.int (nI (σ 6 i 0)), .int (nI (σ 7 i 0)), .int (nI (σ 8 i 0)), .double (dT (σ 9 i 0))]) := by
  unfold EL
  rw [if_pos (by omega), EC_chunk (Y := Y) hi]; rfl
theorem EL_arrS {a : Nat → ClassId} {g : Nat → Nat} {σ : Nat → Nat → Nat → Nat} {w : Nat → Nat → Int32} {Y : Nat → va_E} : EL a g σ w Y (49) = .inl (a 3, 5, .inr (.inr (.inr (.inr (fun j => some (g (50 + 4 * j))))))) := rfl
theorem EC_arrS {a : Nat → ClassId} {g : Nat → Nat} {σ : Nat → Nat → Nat → Nat} {w : Nat → Nat → Int32} {Y : Nat → va_E} : EC a g σ w (49) = cc_arrS a g σ w 0 := rfl
theorem EC_server {a : Nat → ClassId} {g : Nat → Nat} {σ : Nat → Nat → Nat → Nat} {w : Nat → Nat → Int32} {Y : Nat → va_E} {i : Nat} (hi : i < 5) : EC a g σ w (50 + 4 * i) = cc_server a g σ w i := by
  unfold EC
  rw [if_neg (by omega), if_neg (by omega), if_neg (by omega), if_neg (by omega), if_neg (by omega), if_neg (by omega), if_pos (by omega), if_pos (by omega)]
  congr 1
  all_goals omega
theorem EL_server {a : Nat → ClassId} {g : Nat → Nat} {σ : Nat → Nat → Nat → Nat} {w : Nat → Nat → Int32} {Y : Nat → va_E} {i : Nat} (hi : i < 5) : EL a g σ w Y (50 + 4 * i) = .inr (4, [.ref (g (51 + 4 * i)), .ref (g (52 + 4 * i)), .ref (g (53 + 4 * i)), .int (nI (σ 10 i 0)), .int (nI (σ 11 i 0))]) := by
  unfold EL
  rw [if_pos (by omega), EC_server (Y := Y) hi]; rfl
theorem EC_vers {a : Nat → ClassId} {g : Nat → Nat} {σ : Nat → Nat → Nat → Nat} {w : Nat → Nat → Int32} {Y : Nat → va_E} {i : Nat} (hi : i < 5) : EC a g σ w (51 + 4 * i) = cc_vers a g σ w i := by
  unfold EC
  rw [if_neg (by omega), if_neg (by omega), if_neg (by omega), if_neg (by omega), if_neg (by omega), if_neg (by omega), if_pos (by omega), if_neg (by omega), if_pos (by omega)]
  congr 1
  all_goals omega
theorem EL_vers {a : Nat → ClassId} {g : Nat → Nat} {σ : Nat → Nat → Nat → Nat} {w : Nat → Nat → Int32} {Y : Nat → va_E} {i : Nat} (hi : i < 5) : EL a g σ w Y (51 + 4 * i) = .inl (a 0, 30, .inl (fun j => nI (σ 12 i j))) := by
  unfold EL
  rw [if_pos (by omega), EC_vers (Y := Y) hi]; rfl
theorem EC_used {a : Nat → ClassId} {g : Nat → Nat} {σ : Nat → Nat → Nat → Nat} {w : Nat → Nat → Int32} {Y : Nat → va_E} {i : Nat} (hi : i < 5) : EC a g σ w (52 + 4 * i) = cc_used a g σ w i := by
  unfold EC
  rw [if_neg (by omega), if_neg (by omega), if_neg (by omega), if_neg (by omega), if_neg (by omega), if_neg (by omega), if_pos (by omega), if_neg (by omega), if_neg (by omega), if_pos (by omega)]
  congr 1
  all_goals omega
theorem EL_used {a : Nat → ClassId} {g : Nat → Nat} {σ : Nat → Nat → Nat → Nat} {w : Nat → Nat → Int32} {Y : Nat → va_E} {i : Nat} (hi : i < 5) : EL a g σ w Y (52 + 4 * i) = .inl (a 0, 30, .inl (fun j => nI (σ 13 i j))) := by
  unfold EL
  rw [if_pos (by omega), EC_used (Y := Y) hi]; rfl
theorem EC_wrds {a : Nat → ClassId} {g : Nat → Nat} {σ : Nat → Nat → Nat → Nat} {w : Nat → Nat → Int32} {Y : Nat → va_E} {i : Nat} (hi : i < 5) : EC a g σ w (53 + 4 * i) = cc_wrds a g σ w i := by
  unfold EC
  rw [if_neg (by omega), if_neg (by omega), if_neg (by omega), if_neg (by omega), if_neg (by omega), if_neg (by omega), if_pos (by omega), if_neg (by omega), if_neg (by omega), if_neg (by omega)]
  congr 1
  all_goals omega
theorem EL_wrds {a : Nat → ClassId} {g : Nat → Nat} {σ : Nat → Nat → Nat → Nat} {w : Nat → Nat → Int32} {Y : Nat → va_E} {i : Nat} (hi : i < 5) : EL a g σ w Y (53 + 4 * i) = .inl (a 0, 120, .inl (fun j => w i j)) := by
  unfold EL
  rw [if_pos (by omega), EC_wrds (Y := Y) hi]; rfl
theorem EL_arrK {a : Nat → ClassId} {g : Nat → Nat} {σ : Nat → Nat → Nat → Nat} {w : Nat → Nat → Int32} {Y : Nat → va_E} : EL a g σ w Y (70) = .inl (a 4, 72, .inr (.inr (.inr (.inr (fun j => some (g (71 + j))))))) := rfl
theorem EC_arrK {a : Nat → ClassId} {g : Nat → Nat} {σ : Nat → Nat → Nat → Nat} {w : Nat → Nat → Int32} {Y : Nat → va_E} : EC a g σ w (70) = cc_arrK a g σ w 0 := rfl
theorem EC_kept {a : Nat → ClassId} {g : Nat → Nat} {σ : Nat → Nat → Nat → Nat} {w : Nat → Nat → Int32} {Y : Nat → va_E} {i : Nat} (hi : i < 72) : EC a g σ w (71 + i) = cc_kept a g σ w i := by
  unfold EC
  rw [if_neg (by omega), if_neg (by omega), if_neg (by omega), if_neg (by omega), if_neg (by omega), if_neg (by omega), if_neg (by omega), if_neg (by omega)]
  congr 1
  all_goals omega
theorem EL_kept {a : Nat → ClassId} {g : Nat → Nat} {σ : Nat → Nat → Nat → Nat} {w : Nat → Nat → Int32} {Y : Nat → va_E} {i : Nat} (hi : i < 72) : EL a g σ w Y (71 + i) = .inr (3, [.int (nI (σ 14 i 0)), .int (nI (σ 15 i 0)), .int (nI (σ 16 i 0)), .double (dT (σ 17 i 0))]) := by
  unfold EL
  rw [if_pos (by omega), EC_kept (Y := Y) hi]; rfl
theorem EL_ext {a : Nat → ClassId} {g : Nat → Nat} {σ : Nat → Nat → Nat → Nat} {w : Nat → Nat → Int32} {Y : Nat → va_E} {σ' : Nat → Nat → Nat → Nat} {w' : Nat → Nat → Int32} {c : Nat} {e : va_E} (hc : c < 143) (h1 : EC a g σ' w' c = e) (h2 : ∀ k, k < 143 → k ≠ c → EC a g σ' w' k = EC a g σ w k) : va_up (EL a g σ w Y) c e = EL a g σ' w' Y := by
  funext k
  by_cases hk : k = c
  · subst hk
    rw [va_up_self]
    unfold EL
    rw [if_pos hc, h1]
  · rw [va_up_ne _ _ hk]
    unfold EL
    split
    · rename_i h; exact (h2 k h hk).symm
    · rfl
theorem EC_congr {a : Nat → ClassId} {g : Nat → Nat} {σ σ' : Nat → Nat → Nat → Nat} {w w' : Nat → Nat → Int32} {k : Nat} (hk : k < 143) (h_cs : k = 0 → cc_cs a g σ' w' 0 = cc_cs a g σ w 0) (h_file : ∀ i, i < 8 → k = 2 + 2 * i → cc_file a g σ' w' i = cc_file a g σ w i) (h_row : ∀ i, i < 8 → k = 3 + 2 * i → cc_row a g σ' w' i = cc_row a g σ w i) (h_chunk : ∀ i, i < 30 → k = 19 + i → cc_chunk a g σ' w' i = cc_chunk a g σ w i) (h_server : ∀ i, i < 5 → k = 50 + 4 * i → cc_server a g σ' w' i = cc_server a g σ w i) (h_vers : ∀ i, i < 5 → k = 51 + 4 * i → cc_vers a g σ' w' i = cc_vers a g σ w i) (h_used : ∀ i, i < 5 → k = 52 + 4 * i → cc_used a g σ' w' i = cc_used a g σ w i) (h_wrds : ∀ i, i < 5 → k = 53 + 4 * i → cc_wrds a g σ' w' i = cc_wrds a g σ w i) (h_kept : ∀ i, i < 72 → k = 71 + i → cc_kept a g σ' w' i = cc_kept a g σ w i) : EC a g σ' w' k = EC a g σ w k := by
  unfold EC
  by_cases c1 : k = 0
  · rw [if_pos c1, if_pos c1]; exact h_cs c1
  rw [if_neg c1, if_neg c1]
  by_cases c2 : k = 1
  · rw [if_pos c2, if_pos c2]; rfl
  rw [if_neg c2, if_neg c2]
  by_cases c3 : k < 18
  · rw [if_pos c3, if_pos c3]
    by_cases c4 : k % 2 = 0
    · rw [if_pos c4, if_pos c4]; exact h_file _ (by omega) (by omega)
    · rw [if_neg c4, if_neg c4]; exact h_row _ (by omega) (by omega)
  rw [if_neg c3, if_neg c3]
  by_cases c5 : k = 18
  · rw [if_pos c5, if_pos c5]; rfl
  rw [if_neg c5, if_neg c5]
  by_cases c6 : k < 49
  · rw [if_pos c6, if_pos c6]; exact h_chunk _ (by omega) (by omega)
  rw [if_neg c6, if_neg c6]
  by_cases c7 : k = 49
  · rw [if_pos c7, if_pos c7]; rfl
  rw [if_neg c7, if_neg c7]
  by_cases c8 : k < 70
  · rw [if_pos c8, if_pos c8]
    by_cases d1 : (k - 50) % 4 = 0
    · rw [if_pos d1, if_pos d1]; exact h_server _ (by omega) (by omega)
    rw [if_neg d1, if_neg d1]
    by_cases d2 : (k - 50) % 4 = 1
    · rw [if_pos d2, if_pos d2]; exact h_vers _ (by omega) (by omega)
    rw [if_neg d2, if_neg d2]
    by_cases d3 : (k - 50) % 4 = 2
    · rw [if_pos d3, if_pos d3]; exact h_used _ (by omega) (by omega)
    · rw [if_neg d3, if_neg d3]; exact h_wrds _ (by omega) (by omega)
  rw [if_neg c8, if_neg c8]
  by_cases c9 : k = 70
  · rw [if_pos c9, if_pos c9]; rfl
  · rw [if_neg c9, if_neg c9]; exact h_kept _ (by omega) (by omega)
theorem EC_o0 {a : Nat → ClassId} {g : Nat → Nat} {σ : Nat → Nat → Nat → Nat} {w : Nat → Nat → Int32} {i v k : Nat} (hk : k < 143) (hne : k ≠ 0) : EC a g (up3 σ 0 0 0 v) w k = EC a g σ w k := by
  exact EC_congr hk (fun h => absurd h hne) (fun _ _ _ => by simp [cc_file, up3]) (fun _ _ _ => by simp [cc_row, up3]) (fun _ _ _ => by simp [cc_chunk, up3]) (fun _ _ _ => by simp [cc_server, up3]) (fun _ _ _ => by simp [cc_vers, up3]) (fun _ _ _ => by simp [cc_used, up3]) (fun _ _ _ => rfl) (fun _ _ _ => by simp [cc_kept, up3])
theorem EL_s0 {a : Nat → ClassId} {g : Nat → Nat} {σ : Nat → Nat → Nat → Nat} {w : Nat → Nat → Int32} {Y : Nat → va_E} {v : Nat} : va_up (EL a g σ w Y) (0) (.inr (0, [.ref (g (1)), .ref (g (18)), .ref (g (49)), .ref (g (70)), .int (nI v), .double (dT (σ 1 0 0))])) = EL a g (up3 σ 0 0 0 v) w Y := by
  refine EL_ext (by omega) ?_ (fun k hk hne => EC_o0 (i := 0) hk hne)
  rw [EC_cs (Y := Y)]
  simp [cc_cs, up3]
theorem EC_o1 {a : Nat → ClassId} {g : Nat → Nat} {σ : Nat → Nat → Nat → Nat} {w : Nat → Nat → Int32} {i v k : Nat} (hk : k < 143) (hne : k ≠ 0) : EC a g (up3 σ 1 0 0 v) w k = EC a g σ w k := by
  exact EC_congr hk (fun h => absurd h hne) (fun _ _ _ => by simp [cc_file, up3]) (fun _ _ _ => by simp [cc_row, up3]) (fun _ _ _ => by simp [cc_chunk, up3]) (fun _ _ _ => by simp [cc_server, up3]) (fun _ _ _ => by simp [cc_vers, up3]) (fun _ _ _ => by simp [cc_used, up3]) (fun _ _ _ => rfl) (fun _ _ _ => by simp [cc_kept, up3])
theorem EL_s1 {a : Nat → ClassId} {g : Nat → Nat} {σ : Nat → Nat → Nat → Nat} {w : Nat → Nat → Int32} {Y : Nat → va_E} {v : Nat} : va_up (EL a g σ w Y) (0) (.inr (0, [.ref (g (1)), .ref (g (18)), .ref (g (49)), .ref (g (70)), .int (nI (σ 0 0 0)), .double (dT v)])) = EL a g (up3 σ 1 0 0 v) w Y := by
  refine EL_ext (by omega) ?_ (fun k hk hne => EC_o1 (i := 0) hk hne)
  rw [EC_cs (Y := Y)]
  simp [cc_cs, up3]
theorem EC_o3 {a : Nat → ClassId} {g : Nat → Nat} {σ : Nat → Nat → Nat → Nat} {w : Nat → Nat → Int32} {i v k : Nat} (hk : k < 143) (hne : k ≠ 2 + 2 * i) : EC a g (up3 σ 3 i 0 v) w k = EC a g σ w k := by
  exact EC_congr hk (fun _ => by simp [cc_cs, up3]) (fun q hq h => by have hx : q ≠ i := fun z => hne (by rw [h, z]); simp [cc_file, up3, hx]) (fun _ _ _ => by simp [cc_row, up3]) (fun _ _ _ => by simp [cc_chunk, up3]) (fun _ _ _ => by simp [cc_server, up3]) (fun _ _ _ => by simp [cc_vers, up3]) (fun _ _ _ => by simp [cc_used, up3]) (fun _ _ _ => rfl) (fun _ _ _ => by simp [cc_kept, up3])
theorem EL_s3 {a : Nat → ClassId} {g : Nat → Nat} {σ : Nat → Nat → Nat → Nat} {w : Nat → Nat → Int32} {Y : Nat → va_E} {i : Nat} (hi : i < 8) {v : Nat} : va_up (EL a g σ w Y) (2 + 2 * i) (.inr (2, [.ref (g (3 + 2 * i)), .int (nI v), .int (nI (σ 2 i 0)), .double (dT (σ 5 i 0))])) = EL a g (up3 σ 3 i 0 v) w Y := by
  refine EL_ext (by omega) ?_ (fun k hk hne => EC_o3 hk hne)
  rw [EC_file (Y := Y) hi]
  simp [cc_file, up3]
theorem EC_o2 {a : Nat → ClassId} {g : Nat → Nat} {σ : Nat → Nat → Nat → Nat} {w : Nat → Nat → Int32} {i v k : Nat} (hk : k < 143) (hne : k ≠ 2 + 2 * i) : EC a g (up3 σ 2 i 0 v) w k = EC a g σ w k := by
  exact EC_congr hk (fun _ => by simp [cc_cs, up3]) (fun q hq h => by have hx : q ≠ i := fun z => hne (by rw [h, z]); simp [cc_file, up3, hx]) (fun _ _ _ => by simp [cc_row, up3]) (fun _ _ _ => by simp [cc_chunk, up3]) (fun _ _ _ => by simp [cc_server, up3]) (fun _ _ _ => by simp [cc_vers, up3]) (fun _ _ _ => by simp [cc_used, up3]) (fun _ _ _ => rfl) (fun _ _ _ => by simp [cc_kept, up3])
theorem EL_s2 {a : Nat → ClassId} {g : Nat → Nat} {σ : Nat → Nat → Nat → Nat} {w : Nat → Nat → Int32} {Y : Nat → va_E} {i : Nat} (hi : i < 8) {v : Nat} : va_up (EL a g σ w Y) (2 + 2 * i) (.inr (2, [.ref (g (3 + 2 * i)), .int (nI (σ 3 i 0)), .int (nI v), .double (dT (σ 5 i 0))])) = EL a g (up3 σ 2 i 0 v) w Y := by
  refine EL_ext (by omega) ?_ (fun k hk hne => EC_o2 hk hne)
  rw [EC_file (Y := Y) hi]
  simp [cc_file, up3]
theorem EC_o5 {a : Nat → ClassId} {g : Nat → Nat} {σ : Nat → Nat → Nat → Nat} {w : Nat → Nat → Int32} {i v k : Nat} (hk : k < 143) (hne : k ≠ 2 + 2 * i) : EC a g (up3 σ 5 i 0 v) w k = EC a g σ w k := by
  exact EC_congr hk (fun _ => by simp [cc_cs, up3]) (fun q hq h => by have hx : q ≠ i := fun z => hne (by rw [h, z]); simp [cc_file, up3, hx]) (fun _ _ _ => by simp [cc_row, up3]) (fun _ _ _ => by simp [cc_chunk, up3]) (fun _ _ _ => by simp [cc_server, up3]) (fun _ _ _ => by simp [cc_vers, up3]) (fun _ _ _ => by simp [cc_used, up3]) (fun _ _ _ => rfl) (fun _ _ _ => by simp [cc_kept, up3])
theorem EL_s5 {a : Nat → ClassId} {g : Nat → Nat} {σ : Nat → Nat → Nat → Nat} {w : Nat → Nat → Int32} {Y : Nat → va_E} {i : Nat} (hi : i < 8) {v : Nat} : va_up (EL a g σ w Y) (2 + 2 * i) (.inr (2, [.ref (g (3 + 2 * i)), .int (nI (σ 3 i 0)), .int (nI (σ 2 i 0)), .double (dT v)])) = EL a g (up3 σ 5 i 0 v) w Y := by
  refine EL_ext (by omega) ?_ (fun k hk hne => EC_o5 hk hne)
  rw [EC_file (Y := Y) hi]
  simp [cc_file, up3]
theorem EC_o4 {a : Nat → ClassId} {g : Nat → Nat} {σ : Nat → Nat → Nat → Nat} {w : Nat → Nat → Int32} {i j v k : Nat} (hk : k < 143) (hne : k ≠ 3 + 2 * i) : EC a g (up3 σ 4 i j v) w k = EC a g σ w k := by
  exact EC_congr hk (fun _ => by simp [cc_cs, up3]) (fun _ _ _ => by simp [cc_file, up3]) (fun q hq h => by have hx : q ≠ i := fun z => hne (by rw [h, z]); simp [cc_row, up3, hx]) (fun _ _ _ => by simp [cc_chunk, up3]) (fun _ _ _ => by simp [cc_server, up3]) (fun _ _ _ => by simp [cc_vers, up3]) (fun _ _ _ => by simp [cc_used, up3]) (fun _ _ _ => rfl) (fun _ _ _ => by simp [cc_kept, up3])
theorem EL_s4 {a : Nat → ClassId} {g : Nat → Nat} {σ : Nat → Nat → Nat → Nat} {w : Nat → Nat → Int32} {Y : Nat → va_E} {i : Nat} (hi : i < 8) {j v : Nat} : va_up (EL a g σ w Y) (3 + 2 * i) (.inl (a 0, 3, .inl (upd (fun j => nI (σ 4 i j)) j (nI v)))) = EL a g (up3 σ 4 i j v) w Y := by
  refine EL_ext (by omega) ?_ (fun k hk hne => EC_o4 hk hne)
  rw [EC_row (Y := Y) hi]
  unfold cc_row
  congr 4
  funext q
  simp only [upd, up3]
  by_cases hq : q = j <;> simp [hq]
theorem EC_o6 {a : Nat → ClassId} {g : Nat → Nat} {σ : Nat → Nat → Nat → Nat} {w : Nat → Nat → Int32} {i v k : Nat} (hk : k < 143) (hne : k ≠ 19 + i) : EC a g (up3 σ 6 i 0 v) w k = EC a g σ w k := by
  exact EC_congr hk (fun _ => by simp [cc_cs, up3]) (fun _ _ _ => by simp [cc_file, up3]) (fun _ _ _ => by simp [cc_row, up3]) (fun q hq h => by have hx : q ≠ i := fun z => hne (by rw [h, z]); simp [cc_chunk, up3, hx]) (fun _ _ _ => by simp [cc_server, up3]) (fun _ _ _ => by simp [cc_vers, up3]) (fun _ _ _ => by simp [cc_used, up3]) (fun _ _ _ => rfl) (fun _ _ _ => by simp [cc_kept, up3])
theorem EL_s6 {a : Nat → ClassId} {g : Nat → Nat} {σ : Nat → Nat → Nat → Nat} {w : Nat → Nat → Int32} {Y : Nat → va_E} {i : Nat} (hi : i < 30) {v : Nat} : va_up (EL a g σ w Y) (19 + i) (.inr (1, [.int (nI v), .int (nI (σ 7 i 0)), .int (nI (σ 8 i 0)), .double (dT (σ 9 i 0))])) = EL a g (up3 σ 6 i 0 v) w Y := by
  refine EL_ext (by omega) ?_ (fun k hk hne => EC_o6 hk hne)
  rw [EC_chunk (Y := Y) hi]
  simp [cc_chunk, up3]
theorem EC_o7 {a : Nat → ClassId} {g : Nat → Nat} {σ : Nat → Nat → Nat → Nat} {w : Nat → Nat → Int32} {i v k : Nat} (hk : k < 143) (hne : k ≠ 19 + i) : EC a g (up3 σ 7 i 0 v) w k = EC a g σ w k := by
  exact EC_congr hk (fun _ => by simp [cc_cs, up3]) (fun _ _ _ => by simp [cc_file, up3]) (fun _ _ _ => by simp [cc_row, up3]) (fun q hq h => by have hx : q ≠ i := fun z => hne (by rw [h, z]); simp [cc_chunk, up3, hx]) (fun _ _ _ => by simp [cc_server, up3]) (fun _ _ _ => by simp [cc_vers, up3]) (fun _ _ _ => by simp [cc_used, up3]) (fun _ _ _ => rfl) (fun _ _ _ => by simp [cc_kept, up3])
theorem EL_s7 {a : Nat → ClassId} {g : Nat → Nat} {σ : Nat → Nat → Nat → Nat} {w : Nat → Nat → Int32} {Y : Nat → va_E} {i : Nat} (hi : i < 30) {v : Nat} : va_up (EL a g σ w Y) (19 + i) (.inr (1, [.int (nI (σ 6 i 0)), .int (nI v), .int (nI (σ 8 i 0)), .double (dT (σ 9 i 0))])) = EL a g (up3 σ 7 i 0 v) w Y := by
  refine EL_ext (by omega) ?_ (fun k hk hne => EC_o7 hk hne)
  rw [EC_chunk (Y := Y) hi]
  simp [cc_chunk, up3]
theorem EC_o8 {a : Nat → ClassId} {g : Nat → Nat} {σ : Nat → Nat → Nat → Nat} {w : Nat → Nat → Int32} {i v k : Nat} (hk : k < 143) (hne : k ≠ 19 + i) : EC a g (up3 σ 8 i 0 v) w k = EC a g σ w k := by
  exact EC_congr hk (fun _ => by simp [cc_cs, up3]) (fun _ _ _ => by simp [cc_file, up3]) (fun _ _ _ => by simp [cc_row, up3]) (fun q hq h => by have hx : q ≠ i := fun z => hne (by rw [h, z]); simp [cc_chunk, up3, hx]) (fun _ _ _ => by simp [cc_server, up3]) (fun _ _ _ => by simp [cc_vers, up3]) (fun _ _ _ => by simp [cc_used, up3]) (fun _ _ _ => rfl) (fun _ _ _ => by simp [cc_kept, up3])
theorem EL_s8 {a : Nat → ClassId} {g : Nat → Nat} {σ : Nat → Nat → Nat → Nat} {w : Nat → Nat → Int32} {Y : Nat → va_E} {i : Nat} (hi : i < 30) {v : Nat} : va_up (EL a g σ w Y) (19 + i) (.inr (1, [.int (nI (σ 6 i 0)), .int (nI (σ 7 i 0)), .int (nI v), .double (dT (σ 9 i 0))])) = EL a g (up3 σ 8 i 0 v) w Y := by
  refine EL_ext (by omega) ?_ (fun k hk hne => EC_o8 hk hne)
  rw [EC_chunk (Y := Y) hi]
  simp [cc_chunk, up3]
theorem EC_o9 {a : Nat → ClassId} {g : Nat → Nat} {σ : Nat → Nat → Nat → Nat} {w : Nat → Nat → Int32} {i v k : Nat} (hk : k < 143) (hne : k ≠ 19 + i) : EC a g (up3 σ 9 i 0 v) w k = EC a g σ w k := by
  exact EC_congr hk (fun _ => by simp [cc_cs, up3]) (fun _ _ _ => by simp [cc_file, up3]) (fun _ _ _ => by simp [cc_row, up3]) (fun q hq h => by have hx : q ≠ i := fun z => hne (by rw [h, z]); simp [cc_chunk, up3, hx]) (fun _ _ _ => by simp [cc_server, up3]) (fun _ _ _ => by simp [cc_vers, up3]) (fun _ _ _ => by simp [cc_used, up3]) (fun _ _ _ => rfl) (fun _ _ _ => by simp [cc_kept, up3])
theorem EL_s9 {a : Nat → ClassId} {g : Nat → Nat} {σ : Nat → Nat → Nat → Nat} {w : Nat → Nat → Int32} {Y : Nat → va_E} {i : Nat} (hi : i < 30) {v : Nat} : va_up (EL a g σ w Y) (19 + i) (.inr (1, [.int (nI (σ 6 i 0)), .int (nI (σ 7 i 0)), .int (nI (σ 8 i 0)), .double (dT v)])) = EL a g (up3 σ 9 i 0 v) w Y := by
  refine EL_ext (by omega) ?_ (fun k hk hne => EC_o9 hk hne)
  rw [EC_chunk (Y := Y) hi]
  simp [cc_chunk, up3]
theorem EC_o10 {a : Nat → ClassId} {g : Nat → Nat} {σ : Nat → Nat → Nat → Nat} {w : Nat → Nat → Int32} {i v k : Nat} (hk : k < 143) (hne : k ≠ 50 + 4 * i) : EC a g (up3 σ 10 i 0 v) w k = EC a g σ w k := by
  exact EC_congr hk (fun _ => by simp [cc_cs, up3]) (fun _ _ _ => by simp [cc_file, up3]) (fun _ _ _ => by simp [cc_row, up3]) (fun _ _ _ => by simp [cc_chunk, up3]) (fun q hq h => by have hx : q ≠ i := fun z => hne (by rw [h, z]); simp [cc_server, up3, hx]) (fun _ _ _ => by simp [cc_vers, up3]) (fun _ _ _ => by simp [cc_used, up3]) (fun _ _ _ => rfl) (fun _ _ _ => by simp [cc_kept, up3])
theorem EL_s10 {a : Nat → ClassId} {g : Nat → Nat} {σ : Nat → Nat → Nat → Nat} {w : Nat → Nat → Int32} {Y : Nat → va_E} {i : Nat} (hi : i < 5) {v : Nat} : va_up (EL a g σ w Y) (50 + 4 * i) (.inr (4, [.ref (g (51 + 4 * i)), .ref (g (52 + 4 * i)), .ref (g (53 + 4 * i)), .int (nI v), .int (nI (σ 11 i 0))])) = EL a g (up3 σ 10 i 0 v) w Y := by
  refine EL_ext (by omega) ?_ (fun k hk hne => EC_o10 hk hne)
  rw [EC_server (Y := Y) hi]
  simp [cc_server, up3]
theorem EC_o11 {a : Nat → ClassId} {g : Nat → Nat} {σ : Nat → Nat → Nat → Nat} {w : Nat → Nat → Int32} {i v k : Nat} (hk : k < 143) (hne : k ≠ 50 + 4 * i) : EC a g (up3 σ 11 i 0 v) w k = EC a g σ w k := by
  exact EC_congr hk (fun _ => by simp [cc_cs, up3]) (fun _ _ _ => by simp [cc_file, up3]) (fun _ _ _ => by simp [cc_row, up3]) (fun _ _ _ => by simp [cc_chunk, up3]) (fun q hq h => by have hx : q ≠ i := fun z => hne (by rw [h, z]); simp [cc_server, up3, hx]) (fun _ _ _ => by simp [cc_vers, up3]) (fun _ _ _ => by simp [cc_used, up3]) (fun _ _ _ => rfl) (fun _ _ _ => by simp [cc_kept, up3])
theorem EL_s11 {a : Nat → ClassId} {g : Nat → Nat} {σ : Nat → Nat → Nat → Nat} {w : Nat → Nat → Int32} {Y : Nat → va_E} {i : Nat} (hi : i < 5) {v : Nat} : va_up (EL a g σ w Y) (50 + 4 * i) (.inr (4, [.ref (g (51 + 4 * i)), .ref (g (52 + 4 * i)), .ref (g (53 + 4 * i)), .int (nI (σ 10 i 0)), .int (nI v)])) = EL a g (up3 σ 11 i 0 v) w Y := by
  refine EL_ext (by omega) ?_ (fun k hk hne => EC_o11 hk hne)
  rw [EC_server (Y := Y) hi]
  simp [cc_server, up3]
theorem EC_o12 {a : Nat → ClassId} {g : Nat → Nat} {σ : Nat → Nat → Nat → Nat} {w : Nat → Nat → Int32} {i j v k : Nat} (hk : k < 143) (hne : k ≠ 51 + 4 * i) : EC a g (up3 σ 12 i j v) w k = EC a g σ w k := by
  exact EC_congr hk (fun _ => by simp [cc_cs, up3]) (fun _ _ _ => by simp [cc_file, up3]) (fun _ _ _ => by simp [cc_row, up3]) (fun _ _ _ => by simp [cc_chunk, up3]) (fun _ _ _ => by simp [cc_server, up3]) (fun q hq h => by have hx : q ≠ i := fun z => hne (by rw [h, z]); simp [cc_vers, up3, hx]) (fun _ _ _ => by simp [cc_used, up3]) (fun _ _ _ => rfl) (fun _ _ _ => by simp [cc_kept, up3])
theorem EL_s12 {a : Nat → ClassId} {g : Nat → Nat} {σ : Nat → Nat → Nat → Nat} {w : Nat → Nat → Int32} {Y : Nat → va_E} {i : Nat} (hi : i < 5) {j v : Nat} : va_up (EL a g σ w Y) (51 + 4 * i) (.inl (a 0, 30, .inl (upd (fun j => nI (σ 12 i j)) j (nI v)))) = EL a g (up3 σ 12 i j v) w Y := by
  refine EL_ext (by omega) ?_ (fun k hk hne => EC_o12 hk hne)
  rw [EC_vers (Y := Y) hi]
  unfold cc_vers
  congr 4
  funext q
  simp only [upd, up3]
  by_cases hq : q = j <;> simp [hq]
theorem EC_o13 {a : Nat → ClassId} {g : Nat → Nat} {σ : Nat → Nat → Nat → Nat} {w : Nat → Nat → Int32} {i j v k : Nat} (hk : k < 143) (hne : k ≠ 52 + 4 * i) : EC a g (up3 σ 13 i j v) w k = EC a g σ w k := by
  exact EC_congr hk (fun _ => by simp [cc_cs, up3]) (fun _ _ _ => by simp [cc_file, up3]) (fun _ _ _ => by simp [cc_row, up3]) (fun _ _ _ => by simp [cc_chunk, up3]) (fun _ _ _ => by simp [cc_server, up3]) (fun _ _ _ => by simp [cc_vers, up3]) (fun q hq h => by have hx : q ≠ i := fun z => hne (by rw [h, z]); simp [cc_used, up3, hx]) (fun _ _ _ => rfl) (fun _ _ _ => by simp [cc_kept, up3])
theorem EL_s13 {a : Nat → ClassId} {g : Nat → Nat} {σ : Nat → Nat → Nat → Nat} {w : Nat → Nat → Int32} {Y : Nat → va_E} {i : Nat} (hi : i < 5) {j v : Nat} : va_up (EL a g σ w Y) (52 + 4 * i) (.inl (a 0, 30, .inl (upd (fun j => nI (σ 13 i j)) j (nI v)))) = EL a g (up3 σ 13 i j v) w Y := by
  refine EL_ext (by omega) ?_ (fun k hk hne => EC_o13 hk hne)
  rw [EC_used (Y := Y) hi]
  unfold cc_used
  congr 4
  funext q
  simp only [upd, up3]
  by_cases hq : q = j <;> simp [hq]
theorem EC_ow {a : Nat → ClassId} {g : Nat → Nat} {σ : Nat → Nat → Nat → Nat} {w : Nat → Nat → Int32} {i j k : Nat} {v : Int32} (hk : k < 143) (hne : k ≠ 53 + 4 * i) : EC a g σ (up2 w i j v) k = EC a g σ w k := by
  exact EC_congr hk (fun _ => rfl) (fun _ _ _ => rfl) (fun _ _ _ => rfl) (fun _ _ _ => rfl) (fun _ _ _ => rfl) (fun _ _ _ => rfl) (fun _ _ _ => rfl) (fun q hq h => by have hx : q ≠ i := fun z => hne (by rw [h, z]); simp [cc_wrds, up2, hx]) (fun _ _ _ => rfl)
theorem EL_sw {a : Nat → ClassId} {g : Nat → Nat} {σ : Nat → Nat → Nat → Nat} {w : Nat → Nat → Int32} {Y : Nat → va_E} {i : Nat} (hi : i < 5) {j : Nat} {v : Int32} : va_up (EL a g σ w Y) (53 + 4 * i) (.inl (a 0, 120, .inl (upd (fun j => w i j) j v))) = EL a g σ (up2 w i j v) Y := by
  refine EL_ext (by omega) ?_ (fun k hk hne => EC_ow hk hne)
  rw [EC_wrds (Y := Y) hi]
  unfold cc_wrds
  congr 4
  funext q
  simp only [upd, up2]
  by_cases hq : q = j <;> simp [hq]
theorem EC_o14 {a : Nat → ClassId} {g : Nat → Nat} {σ : Nat → Nat → Nat → Nat} {w : Nat → Nat → Int32} {i v k : Nat} (hk : k < 143) (hne : k ≠ 71 + i) : EC a g (up3 σ 14 i 0 v) w k = EC a g σ w k := by
  exact EC_congr hk (fun _ => by simp [cc_cs, up3]) (fun _ _ _ => by simp [cc_file, up3]) (fun _ _ _ => by simp [cc_row, up3]) (fun _ _ _ => by simp [cc_chunk, up3]) (fun _ _ _ => by simp [cc_server, up3]) (fun _ _ _ => by simp [cc_vers, up3]) (fun _ _ _ => by simp [cc_used, up3]) (fun _ _ _ => rfl) (fun q hq h => by have hx : q ≠ i := fun z => hne (by rw [h, z]); simp [cc_kept, up3, hx])
theorem EL_s14 {a : Nat → ClassId} {g : Nat → Nat} {σ : Nat → Nat → Nat → Nat} {w : Nat → Nat → Int32} {Y : Nat → va_E} {i : Nat} (hi : i < 72) {v : Nat} : va_up (EL a g σ w Y) (71 + i) (.inr (3, [.int (nI v), .int (nI (σ 15 i 0)), .int (nI (σ 16 i 0)), .double (dT (σ 17 i 0))])) = EL a g (up3 σ 14 i 0 v) w Y := by
  refine EL_ext (by omega) ?_ (fun k hk hne => EC_o14 hk hne)
  rw [EC_kept (Y := Y) hi]
  simp [cc_kept, up3]
theorem EC_o15 {a : Nat → ClassId} {g : Nat → Nat} {σ : Nat → Nat → Nat → Nat} {w : Nat → Nat → Int32} {i v k : Nat} (hk : k < 143) (hne : k ≠ 71 + i) : EC a g (up3 σ 15 i 0 v) w k = EC a g σ w k := by
  exact EC_congr hk (fun _ => by simp [cc_cs, up3]) (fun _ _ _ => by simp [cc_file, up3]) (fun _ _ _ => by simp [cc_row, up3]) (fun _ _ _ => by simp [cc_chunk, up3]) (fun _ _ _ => by simp [cc_server, up3]) (fun _ _ _ => by simp [cc_vers, up3]) (fun _ _ _ => by simp [cc_used, up3]) (fun _ _ _ => rfl) (fun q hq h => by have hx : q ≠ i := fun z => hne (by rw [h, z]); simp [cc_kept, up3, hx])
theorem EL_s15 {a : Nat → ClassId} {g : Nat → Nat} {σ : Nat → Nat → Nat → Nat} {w : Nat → Nat → Int32} {Y : Nat → va_E} {i : Nat} (hi : i < 72) {v : Nat} : va_up (EL a g σ w Y) (71 + i) (.inr (3, [.int (nI (σ 14 i 0)), .int (nI v), .int (nI (σ 16 i 0)), .double (dT (σ 17 i 0))])) = EL a g (up3 σ 15 i 0 v) w Y := by
  refine EL_ext (by omega) ?_ (fun k hk hne => EC_o15 hk hne)
  rw [EC_kept (Y := Y) hi]
  simp [cc_kept, up3]
theorem EC_o16 {a : Nat → ClassId} {g : Nat → Nat} {σ : Nat → Nat → Nat → Nat} {w : Nat → Nat → Int32} {i v k : Nat} (hk : k < 143) (hne : k ≠ 71 + i) : EC a g (up3 σ 16 i 0 v) w k = EC a g σ w k := by
  exact EC_congr hk (fun _ => by simp [cc_cs, up3]) (fun _ _ _ => by simp [cc_file, up3]) (fun _ _ _ => by simp [cc_row, up3]) (fun _ _ _ => by simp [cc_chunk, up3]) (fun _ _ _ => by simp [cc_server, up3]) (fun _ _ _ => by simp [cc_vers, up3]) (fun _ _ _ => by simp [cc_used, up3]) (fun _ _ _ => rfl) (fun q hq h => by have hx : q ≠ i := fun z => hne (by rw [h, z]); simp [cc_kept, up3, hx])
theorem EL_s16 {a : Nat → ClassId} {g : Nat → Nat} {σ : Nat → Nat → Nat → Nat} {w : Nat → Nat → Int32} {Y : Nat → va_E} {i : Nat} (hi : i < 72) {v : Nat} : va_up (EL a g σ w Y) (71 + i) (.inr (3, [.int (nI (σ 14 i 0)), .int (nI (σ 15 i 0)), .int (nI v), .double (dT (σ 17 i 0))])) = EL a g (up3 σ 16 i 0 v) w Y := by
  refine EL_ext (by omega) ?_ (fun k hk hne => EC_o16 hk hne)
  rw [EC_kept (Y := Y) hi]
  simp [cc_kept, up3]
theorem EC_o17 {a : Nat → ClassId} {g : Nat → Nat} {σ : Nat → Nat → Nat → Nat} {w : Nat → Nat → Int32} {i v k : Nat} (hk : k < 143) (hne : k ≠ 71 + i) : EC a g (up3 σ 17 i 0 v) w k = EC a g σ w k := by
  exact EC_congr hk (fun _ => by simp [cc_cs, up3]) (fun _ _ _ => by simp [cc_file, up3]) (fun _ _ _ => by simp [cc_row, up3]) (fun _ _ _ => by simp [cc_chunk, up3]) (fun _ _ _ => by simp [cc_server, up3]) (fun _ _ _ => by simp [cc_vers, up3]) (fun _ _ _ => by simp [cc_used, up3]) (fun _ _ _ => rfl) (fun q hq h => by have hx : q ≠ i := fun z => hne (by rw [h, z]); simp [cc_kept, up3, hx])
theorem EL_s17 {a : Nat → ClassId} {g : Nat → Nat} {σ : Nat → Nat → Nat → Nat} {w : Nat → Nat → Int32} {Y : Nat → va_E} {i : Nat} (hi : i < 72) {v : Nat} : va_up (EL a g σ w Y) (71 + i) (.inr (3, [.int (nI (σ 14 i 0)), .int (nI (σ 15 i 0)), .int (nI (σ 16 i 0)), .double (dT v)])) = EL a g (up3 σ 17 i 0 v) w Y := by
  refine EL_ext (by omega) ?_ (fun k hk hne => EC_o17 hk hne)
  rw [EC_kept (Y := Y) hi]
  simp [cc_kept, up3]
end XEC
