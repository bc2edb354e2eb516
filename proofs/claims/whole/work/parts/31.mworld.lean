section XMW
def eT (k : Nat) : UInt64 := if k = 0 then 13830554455654793216 else dT k
def mm_obj (a : Nat → ClassId) (g : Nat → Nat) (τ : xSig) (v : xWrd) (fc : Nat) : va_E := .inr (5, [.int (nI fc), .double (dT (τ 1 0 0)), .ref (g 144), .ref (g 145), .ref (g 146), .ref (g 147), .int (nI (τ 0 0 0)), .ref (g 148), .ref (g 149), .ref (g 150), .ref (g 151), .ref (g 152), .ref (g 153), .ref (g 154), .ref (g 155), .ref (g 156), .ref (g 157), .ref (g 158)])
def mm_state (a : Nat → ClassId) (g : Nat → Nat) (τ : xSig) (v : xWrd) (fc : Nat) : va_E := .inl (a 0, 8, .inl (fun j => nI (τ 2 j 0)))
def mm_hidden (a : Nat → ClassId) (g : Nat → Nat) (τ : xSig) (v : xWrd) (fc : Nat) : va_E := .inl (a 5, 8, .inr (.inr (.inr (.inl (fun j => dT (τ 5 j 0))))))
def mm_row (a : Nat → ClassId) (g : Nat → Nat) (τ : xSig) (v : xWrd) (fc : Nat) : va_E := .inl (a 0, 24, .inl (fun j => nI (τ 4 (j / 3) (j % 3))))
def mm_length (a : Nat → ClassId) (g : Nat → Nat) (τ : xSig) (v : xWrd) (fc : Nat) : va_E := .inl (a 0, 8, .inl (fun j => nI (τ 3 j 0)))
def mm_version (a : Nat → ClassId) (g : Nat → Nat) (τ : xSig) (v : xWrd) (fc : Nat) : va_E := .inl (a 0, 30, .inl (fun j => nI (τ 6 j 0)))
def mm_holders (a : Nat → ClassId) (g : Nat → Nat) (τ : xSig) (v : xWrd) (fc : Nat) : va_E := .inl (a 0, 30, .inl (fun j => nI (τ 8 j 0)))
def mm_lease (a : Nat → ClassId) (g : Nat → Nat) (τ : xSig) (v : xWrd) (fc : Nat) : va_E := .inl (a 5, 30, .inr (.inr (.inr (.inl (fun j => eT (τ 9 j 0))))))
def mm_down (a : Nat → ClassId) (g : Nat → Nat) (τ : xSig) (v : xWrd) (fc : Nat) : va_E := .inl (a 6, 5, .inl (fun j => nI (b01 (decide (τ 10 j 0 = 0)))))
def mm_replica (a : Nat → ClassId) (g : Nat → Nat) (τ : xSig) (v : xWrd) (fc : Nat) : va_E := .inl (a 0, 150, .inl (fun j => nI (τ 12 (j / 30) (j % 30))))
def mm_used (a : Nat → ClassId) (g : Nat → Nat) (τ : xSig) (v : xWrd) (fc : Nat) : va_E := .inl (a 0, 150, .inl (fun j => nI (τ 13 (j / 30) (j % 30))))
def mm_word (a : Nat → ClassId) (g : Nat → Nat) (τ : xSig) (v : xWrd) (fc : Nat) : va_E := .inl (a 0, 600, .inl (fun j => v (j / 120) (j % 120)))
def mm_keptChunk (a : Nat → ClassId) (g : Nat → Nat) (τ : xSig) (v : xWrd) (fc : Nat) : va_E := .inl (a 0, 72, .inl (fun j => nI (τ 14 j 0)))
def mm_keptVersion (a : Nat → ClassId) (g : Nat → Nat) (τ : xSig) (v : xWrd) (fc : Nat) : va_E := .inl (a 0, 72, .inl (fun j => nI (τ 15 j 0)))
def mm_keptHolders (a : Nat → ClassId) (g : Nat → Nat) (τ : xSig) (v : xWrd) (fc : Nat) : va_E := .inl (a 0, 72, .inl (fun j => nI (τ 16 j 0)))
def mm_keptEnd (a : Nat → ClassId) (g : Nat → Nat) (τ : xSig) (v : xWrd) (fc : Nat) : va_E := .inl (a 5, 72, .inr (.inr (.inr (.inl (fun j => eT (τ 17 j 0))))))
def MC (a : Nat → ClassId) (g : Nat → Nat) (τ : xSig) (v : xWrd) (fc : Nat) (k : Nat) : va_E := if k = 143 then mm_obj a g τ v fc else if k = 144 then mm_state a g τ v fc else if k = 145 then mm_hidden a g τ v fc else if k = 146 then mm_row a g τ v fc else if k = 147 then mm_length a g τ v fc else if k = 148 then mm_version a g τ v fc else if k = 149 then mm_holders a g τ v fc else if k = 150 then mm_lease a g τ v fc else if k = 151 then mm_down a g τ v fc else if k = 152 then mm_replica a g τ v fc else if k = 153 then mm_used a g τ v fc else if k = 154 then mm_word a g τ v fc else if k = 155 then mm_keptChunk a g τ v fc else if k = 156 then mm_keptVersion a g τ v fc else if k = 157 then mm_keptHolders a g τ v fc else mm_keptEnd a g τ v fc
def EM (a : Nat → ClassId) (g : Nat → Nat) (τ : xSig) (v : xWrd) (fc : Nat) (X : Nat → va_E) (k : Nat) : va_E := if 143 ≤ k ∧ k < 159 then MC a g τ v fc k else X k
theorem MC_congr {a : Nat → ClassId} {g : Nat → Nat} {τ τ' : xSig} {v v' : xWrd} {fc fc' k : Nat} (hk : 143 ≤ k ∧ k < 159) (h_obj : k = 143 → mm_obj a g τ' v' fc' = mm_obj a g τ v fc) (h_state : k = 144 → mm_state a g τ' v' fc' = mm_state a g τ v fc) (h_hidden : k = 145 → mm_hidden a g τ' v' fc' = mm_hidden a g τ v fc) (h_row : k = 146 → mm_row a g τ' v' fc' = mm_row a g τ v fc) (h_length : k = 147 → mm_length a g τ' v' fc' = mm_length a g τ v fc) (h_version : k = 148 → mm_version a g τ' v' fc' = mm_version a g τ v fc) (h_holders : k = 149 → mm_holders a g τ' v' fc' = mm_holders a g τ v fc) (h_lease : k = 150 → mm_lease a g τ' v' fc' = mm_lease a g τ v fc) (h_down : k = 151 → mm_down a g τ' v' fc' = mm_down a g τ v fc) (h_replica : k = 152 → mm_replica a g τ' v' fc' = mm_replica a g τ v fc) (h_used : k = 153 → mm_used a g τ' v' fc' = mm_used a g τ v fc) (h_word : k = 154 → mm_word a g τ' v' fc' = mm_word a g τ v fc) (h_keptChunk : k = 155 → mm_keptChunk a g τ' v' fc' = mm_keptChunk a g τ v fc) (h_keptVersion : k = 156 → mm_keptVersion a g τ' v' fc' = mm_keptVersion a g τ v fc) (h_keptHolders : k = 157 → mm_keptHolders a g τ' v' fc' = mm_keptHolders a g τ v fc) (h_keptEnd : k = 158 → mm_keptEnd a g τ' v' fc' = mm_keptEnd a g τ v fc) : MC a g τ' v' fc' k = MC a g τ v fc k := by
  have c : k = 143 ∨ k = 144 ∨ k = 145 ∨ k = 146 ∨ k = 147 ∨ k = 148 ∨ k = 149 ∨ k = 150 ∨ k = 151 ∨ k = 152 ∨ k = 153 ∨ k = 154 ∨ k = 155 ∨ k = 156 ∨ k = 157 ∨ k = 158 := by omega
  rcases c with rfl | rfl | rfl | rfl | rfl | rfl | rfl | rfl | rfl | rfl | rfl | rfl | rfl | rfl | rfl | rfl
  · exact h_obj rfl
  · exact h_state rfl
  · exact h_hidden rfl
  · exact h_row rfl
  · exact h_length rfl
  · exact h_version rfl
  · exact h_holders rfl
  · exact h_lease rfl
  · exact h_down rfl
  · exact h_replica rfl
  · exact h_used rfl
  · exact h_word rfl
  · exact h_keptChunk rfl
  · exact h_keptVersion rfl
  · exact h_keptHolders rfl
  · exact h_keptEnd rfl
theorem EM_ext {a : Nat → ClassId} {g : Nat → Nat} {τ : xSig} {v : xWrd} {fc : Nat} {X : Nat → va_E} {τ' : xSig} {v' : xWrd} {fc' c : Nat} {e : va_E} (hc : 143 ≤ c ∧ c < 159) (h1 : MC a g τ' v' fc' c = e) (h2 : ∀ k, 143 ≤ k ∧ k < 159 → k ≠ c → MC a g τ' v' fc' k = MC a g τ v fc k) : va_up (EM a g τ v fc X) c e = EM a g τ' v' fc' X := by
  funext k
  by_cases hk : k = c
  · subst hk
    rw [va_up_self]
    unfold EM
    rw [if_pos hc, h1]
  · rw [va_up_ne _ _ hk]
    unfold EM
    split
    · rename_i h; exact (h2 k h hk).symm
    · rfl
theorem EM_obj {a : Nat → ClassId} {g : Nat → Nat} {τ : xSig} {v : xWrd} {fc : Nat} {X : Nat → va_E} : EM a g τ v fc X 143 = .inr (5, [.int (nI fc), .double (dT (τ 1 0 0)), .ref (g 144), .ref (g 145), .ref (g 146), .ref (g 147), .int (nI (τ 0 0 0)), .ref (g 148), .ref (g 149), .ref (g 150), .ref (g 151), .ref (g 152), .ref (g 153), .ref (g 154), .ref (g 155), .ref (g 156), .ref (g 157), .ref (g 158)]) := rfl
theorem EM_state {a : Nat → ClassId} {g : Nat → Nat} {τ : xSig} {v : xWrd} {fc : Nat} {X : Nat → va_E} : EM a g τ v fc X 144 = .inl (a 0, 8, .inl (fun j => nI (τ 2 j 0))) := rfl
theorem EM_hidden {a : Nat → ClassId} {g : Nat → Nat} {τ : xSig} {v : xWrd} {fc : Nat} {X : Nat → va_E} : EM a g τ v fc X 145 = .inl (a 5, 8, .inr (.inr (.inr (.inl (fun j => dT (τ 5 j 0)))))) := rfl
theorem EM_row {a : Nat → ClassId} {g : Nat → Nat} {τ : xSig} {v : xWrd} {fc : Nat} {X : Nat → va_E} : EM a g τ v fc X 146 = .inl (a 0, 24, .inl (fun j => nI (τ 4 (j / 3) (j % 3)))) := rfl
theorem EM_length {a : Nat → ClassId} {g : Nat → Nat} {τ : xSig} {v : xWrd} {fc : Nat} {X : Nat → va_E} : EM a g τ v fc X 147 = .inl (a 0, 8, .inl (fun j => nI (τ 3 j 0))) := rfl
theorem EM_version {a : Nat → ClassId} {g : Nat → Nat} {τ : xSig} {v : xWrd} {fc : Nat} {X : Nat → va_E} : EM a g τ v fc X 148 = .inl (a 0, 30, .inl (fun j => nI (τ 6 j 0))) := rfl
theorem EM_holders {a : Nat → ClassId} {g : Nat → Nat} {τ : xSig} {v : xWrd} {fc : Nat} {X : Nat → va_E} : EM a g τ v fc X 149 = .inl (a 0, 30, .inl (fun j => nI (τ 8 j 0))) := rfl
theorem EM_lease {a : Nat → ClassId} {g : Nat → Nat} {τ : xSig} {v : xWrd} {fc : Nat} {X : Nat → va_E} : EM a g τ v fc X 150 = .inl (a 5, 30, .inr (.inr (.inr (.inl (fun j => eT (τ 9 j 0)))))) := rfl
theorem EM_down {a : Nat → ClassId} {g : Nat → Nat} {τ : xSig} {v : xWrd} {fc : Nat} {X : Nat → va_E} : EM a g τ v fc X 151 = .inl (a 6, 5, .inl (fun j => nI (b01 (decide (τ 10 j 0 = 0))))) := rfl
theorem EM_replica {a : Nat → ClassId} {g : Nat → Nat} {τ : xSig} {v : xWrd} {fc : Nat} {X : Nat → va_E} : EM a g τ v fc X 152 = .inl (a 0, 150, .inl (fun j => nI (τ 12 (j / 30) (j % 30)))) := rfl
theorem EM_used {a : Nat → ClassId} {g : Nat → Nat} {τ : xSig} {v : xWrd} {fc : Nat} {X : Nat → va_E} : EM a g τ v fc X 153 = .inl (a 0, 150, .inl (fun j => nI (τ 13 (j / 30) (j % 30)))) := rfl
theorem EM_word {a : Nat → ClassId} {g : Nat → Nat} {τ : xSig} {v : xWrd} {fc : Nat} {X : Nat → va_E} : EM a g τ v fc X 154 = .inl (a 0, 600, .inl (fun j => v (j / 120) (j % 120))) := rfl
theorem EM_keptChunk {a : Nat → ClassId} {g : Nat → Nat} {τ : xSig} {v : xWrd} {fc : Nat} {X : Nat → va_E} : EM a g τ v fc X 155 = .inl (a 0, 72, .inl (fun j => nI (τ 14 j 0))) := rfl
theorem EM_keptVersion {a : Nat → ClassId} {g : Nat → Nat} {τ : xSig} {v : xWrd} {fc : Nat} {X : Nat → va_E} : EM a g τ v fc X 156 = .inl (a 0, 72, .inl (fun j => nI (τ 15 j 0))) := rfl
theorem EM_keptHolders {a : Nat → ClassId} {g : Nat → Nat} {τ : xSig} {v : xWrd} {fc : Nat} {X : Nat → va_E} : EM a g τ v fc X 157 = .inl (a 0, 72, .inl (fun j => nI (τ 16 j 0))) := rfl
theorem EM_keptEnd {a : Nat → ClassId} {g : Nat → Nat} {τ : xSig} {v : xWrd} {fc : Nat} {X : Nat → va_E} : EM a g τ v fc X 158 = .inl (a 5, 72, .inr (.inr (.inr (.inl (fun j => eT (τ 17 j 0)))))) := rfl
theorem EM_sfailed {a : Nat → ClassId} {g : Nat → Nat} {τ : xSig} {v : xWrd} {fc : Nat} {X : Nat → va_E} {x : Nat} : va_up (EM a g τ v fc X) 143 (.inr (5, [.int (nI x), .double (dT (τ 1 0 0)), .ref (g 144), .ref (g 145), .ref (g 146), .ref (g 147), .int (nI (τ 0 0 0)), .ref (g 148), .ref (g 149), .ref (g 150), .ref (g 151), .ref (g 152), .ref (g 153), .ref (g 154), .ref (g 155), .ref (g 156), .ref (g 157), .ref (g 158)])) = EM a g τ v x X := by
  refine EM_ext (by decide) ?_ ?_
  · rfl
  · intro k hk hne; exact MC_congr hk (fun h => absurd h hne) (fun _ => rfl) (fun _ => rfl) (fun _ => rfl) (fun _ => rfl) (fun _ => rfl) (fun _ => rfl) (fun _ => rfl) (fun _ => rfl) (fun _ => rfl) (fun _ => rfl) (fun _ => rfl) (fun _ => rfl) (fun _ => rfl) (fun _ => rfl) (fun _ => rfl)
theorem EM_stime {a : Nat → ClassId} {g : Nat → Nat} {τ : xSig} {v : xWrd} {fc : Nat} {X : Nat → va_E} {x : Nat} : va_up (EM a g τ v fc X) 143 (.inr (5, [.int (nI fc), .double (dT x), .ref (g 144), .ref (g 145), .ref (g 146), .ref (g 147), .int (nI (τ 0 0 0)), .ref (g 148), .ref (g 149), .ref (g 150), .ref (g 151), .ref (g 152), .ref (g 153), .ref (g 154), .ref (g 155), .ref (g 156), .ref (g 157), .ref (g 158)])) = EM a g (up3 τ 1 0 0 x) v fc X := by
  refine EM_ext (by decide) ?_ ?_
  · show mm_obj a g (up3 τ 1 0 0 x) v fc = _; simp [mm_obj, up3]
  · intro k hk hne; exact MC_congr hk (fun h => absurd h hne) (fun _ => by simp [mm_state, up3]) (fun _ => by simp [mm_hidden, up3]) (fun _ => by simp [mm_row, up3]) (fun _ => by simp [mm_length, up3]) (fun _ => by simp [mm_version, up3]) (fun _ => by simp [mm_holders, up3]) (fun _ => by simp [mm_lease, up3]) (fun _ => by simp [mm_down, up3]) (fun _ => by simp [mm_replica, up3]) (fun _ => by simp [mm_used, up3]) (fun _ => rfl) (fun _ => by simp [mm_keptChunk, up3]) (fun _ => by simp [mm_keptVersion, up3]) (fun _ => by simp [mm_keptHolders, up3]) (fun _ => by simp [mm_keptEnd, up3])
theorem EM_schunks {a : Nat → ClassId} {g : Nat → Nat} {τ : xSig} {v : xWrd} {fc : Nat} {X : Nat → va_E} {x : Nat} : va_up (EM a g τ v fc X) 143 (.inr (5, [.int (nI fc), .double (dT (τ 1 0 0)), .ref (g 144), .ref (g 145), .ref (g 146), .ref (g 147), .int (nI x), .ref (g 148), .ref (g 149), .ref (g 150), .ref (g 151), .ref (g 152), .ref (g 153), .ref (g 154), .ref (g 155), .ref (g 156), .ref (g 157), .ref (g 158)])) = EM a g (up3 τ 0 0 0 x) v fc X := by
  refine EM_ext (by decide) ?_ ?_
  · show mm_obj a g (up3 τ 0 0 0 x) v fc = _; simp [mm_obj, up3]
  · intro k hk hne; exact MC_congr hk (fun h => absurd h hne) (fun _ => by simp [mm_state, up3]) (fun _ => by simp [mm_hidden, up3]) (fun _ => by simp [mm_row, up3]) (fun _ => by simp [mm_length, up3]) (fun _ => by simp [mm_version, up3]) (fun _ => by simp [mm_holders, up3]) (fun _ => by simp [mm_lease, up3]) (fun _ => by simp [mm_down, up3]) (fun _ => by simp [mm_replica, up3]) (fun _ => by simp [mm_used, up3]) (fun _ => rfl) (fun _ => by simp [mm_keptChunk, up3]) (fun _ => by simp [mm_keptVersion, up3]) (fun _ => by simp [mm_keptHolders, up3]) (fun _ => by simp [mm_keptEnd, up3])
theorem EM_sstate {a : Nat → ClassId} {g : Nat → Nat} {τ : xSig} {v : xWrd} {fc : Nat} {X : Nat → va_E} {j x : Nat} : va_up (EM a g τ v fc X) 144 (.inl (a 0, 8, .inl (upd (fun j => nI (τ 2 j 0)) j (nI x)))) = EM a g (up3 τ 2 j 0 x) v fc X := by
  refine EM_ext (by decide) ?_ ?_
  · show mm_state a g (up3 τ 2 j 0 x) v fc = _; unfold mm_state; congr 1; congr 1; congr 1; congr 1; funext q; simp only [upd, up3]; by_cases hq : q = j <;> simp [hq]
  · intro k hk hne; exact MC_congr hk (fun _ => by simp [mm_obj, up3]) (fun h => absurd h hne) (fun _ => by simp [mm_hidden, up3]) (fun _ => by simp [mm_row, up3]) (fun _ => by simp [mm_length, up3]) (fun _ => by simp [mm_version, up3]) (fun _ => by simp [mm_holders, up3]) (fun _ => by simp [mm_lease, up3]) (fun _ => by simp [mm_down, up3]) (fun _ => by simp [mm_replica, up3]) (fun _ => by simp [mm_used, up3]) (fun _ => rfl) (fun _ => by simp [mm_keptChunk, up3]) (fun _ => by simp [mm_keptVersion, up3]) (fun _ => by simp [mm_keptHolders, up3]) (fun _ => by simp [mm_keptEnd, up3])
theorem EM_shidden {a : Nat → ClassId} {g : Nat → Nat} {τ : xSig} {v : xWrd} {fc : Nat} {X : Nat → va_E} {j x : Nat} : va_up (EM a g τ v fc X) 145 (.inl (a 5, 8, .inr (.inr (.inr (.inl (vf_upd (fun j => dT (τ 5 j 0)) j (dT x))))))) = EM a g (up3 τ 5 j 0 x) v fc X := by
  refine EM_ext (by decide) ?_ ?_
  · show mm_hidden a g (up3 τ 5 j 0 x) v fc = _; unfold mm_hidden; congr 1; congr 1; congr 1; congr 1; congr 1; congr 1; congr 1; funext q; simp only [vf_upd, up3]; by_cases hq : q = j <;> simp [hq]
  · intro k hk hne; exact MC_congr hk (fun _ => by simp [mm_obj, up3]) (fun _ => by simp [mm_state, up3]) (fun h => absurd h hne) (fun _ => by simp [mm_row, up3]) (fun _ => by simp [mm_length, up3]) (fun _ => by simp [mm_version, up3]) (fun _ => by simp [mm_holders, up3]) (fun _ => by simp [mm_lease, up3]) (fun _ => by simp [mm_down, up3]) (fun _ => by simp [mm_replica, up3]) (fun _ => by simp [mm_used, up3]) (fun _ => rfl) (fun _ => by simp [mm_keptChunk, up3]) (fun _ => by simp [mm_keptVersion, up3]) (fun _ => by simp [mm_keptHolders, up3]) (fun _ => by simp [mm_keptEnd, up3])
theorem EM_srow {a : Nat → ClassId} {g : Nat → Nat} {τ : xSig} {v : xWrd} {fc : Nat} {X : Nat → va_E} {i j x : Nat} (hj : j < 3) : va_up (EM a g τ v fc X) 146 (.inl (a 0, 24, .inl (upd (fun j => nI (τ 4 (j / 3) (j % 3))) (3 * i + j) (nI x)))) = EM a g (up3 τ 4 i j x) v fc X := by
  refine EM_ext (by decide) ?_ ?_
  · show mm_row a g (up3 τ 4 i j x) v fc = _; unfold mm_row; congr 1; congr 1; congr 1; congr 1; funext q; simp only [upd, up3]; by_cases hq : q = 3 * i + j; · rw [if_pos hq, if_pos ⟨trivial, by omega, by omega⟩]
    · rw [if_neg hq, if_neg (fun r => hq (by omega))]
  · intro k hk hne; exact MC_congr hk (fun _ => by simp [mm_obj, up3]) (fun _ => by simp [mm_state, up3]) (fun _ => by simp [mm_hidden, up3]) (fun h => absurd h hne) (fun _ => by simp [mm_length, up3]) (fun _ => by simp [mm_version, up3]) (fun _ => by simp [mm_holders, up3]) (fun _ => by simp [mm_lease, up3]) (fun _ => by simp [mm_down, up3]) (fun _ => by simp [mm_replica, up3]) (fun _ => by simp [mm_used, up3]) (fun _ => rfl) (fun _ => by simp [mm_keptChunk, up3]) (fun _ => by simp [mm_keptVersion, up3]) (fun _ => by simp [mm_keptHolders, up3]) (fun _ => by simp [mm_keptEnd, up3])
theorem EM_slength {a : Nat → ClassId} {g : Nat → Nat} {τ : xSig} {v : xWrd} {fc : Nat} {X : Nat → va_E} {j x : Nat} : va_up (EM a g τ v fc X) 147 (.inl (a 0, 8, .inl (upd (fun j => nI (τ 3 j 0)) j (nI x)))) = EM a g (up3 τ 3 j 0 x) v fc X := by
  refine EM_ext (by decide) ?_ ?_
  · show mm_length a g (up3 τ 3 j 0 x) v fc = _; unfold mm_length; congr 1; congr 1; congr 1; congr 1; funext q; simp only [upd, up3]; by_cases hq : q = j <;> simp [hq]
  · intro k hk hne; exact MC_congr hk (fun _ => by simp [mm_obj, up3]) (fun _ => by simp [mm_state, up3]) (fun _ => by simp [mm_hidden, up3]) (fun _ => by simp [mm_row, up3]) (fun h => absurd h hne) (fun _ => by simp [mm_version, up3]) (fun _ => by simp [mm_holders, up3]) (fun _ => by simp [mm_lease, up3]) (fun _ => by simp [mm_down, up3]) (fun _ => by simp [mm_replica, up3]) (fun _ => by simp [mm_used, up3]) (fun _ => rfl) (fun _ => by simp [mm_keptChunk, up3]) (fun _ => by simp [mm_keptVersion, up3]) (fun _ => by simp [mm_keptHolders, up3]) (fun _ => by simp [mm_keptEnd, up3])
theorem EM_sversion {a : Nat → ClassId} {g : Nat → Nat} {τ : xSig} {v : xWrd} {fc : Nat} {X : Nat → va_E} {j x : Nat} : va_up (EM a g τ v fc X) 148 (.inl (a 0, 30, .inl (upd (fun j => nI (τ 6 j 0)) j (nI x)))) = EM a g (up3 τ 6 j 0 x) v fc X := by
  refine EM_ext (by decide) ?_ ?_
  · show mm_version a g (up3 τ 6 j 0 x) v fc = _; unfold mm_version; congr 1; congr 1; congr 1; congr 1; funext q; simp only [upd, up3]; by_cases hq : q = j <;> simp [hq]
  · intro k hk hne; exact MC_congr hk (fun _ => by simp [mm_obj, up3]) (fun _ => by simp [mm_state, up3]) (fun _ => by simp [mm_hidden, up3]) (fun _ => by simp [mm_row, up3]) (fun _ => by simp [mm_length, up3]) (fun h => absurd h hne) (fun _ => by simp [mm_holders, up3]) (fun _ => by simp [mm_lease, up3]) (fun _ => by simp [mm_down, up3]) (fun _ => by simp [mm_replica, up3]) (fun _ => by simp [mm_used, up3]) (fun _ => rfl) (fun _ => by simp [mm_keptChunk, up3]) (fun _ => by simp [mm_keptVersion, up3]) (fun _ => by simp [mm_keptHolders, up3]) (fun _ => by simp [mm_keptEnd, up3])
theorem EM_sholders {a : Nat → ClassId} {g : Nat → Nat} {τ : xSig} {v : xWrd} {fc : Nat} {X : Nat → va_E} {j x : Nat} : va_up (EM a g τ v fc X) 149 (.inl (a 0, 30, .inl (upd (fun j => nI (τ 8 j 0)) j (nI x)))) = EM a g (up3 τ 8 j 0 x) v fc X := by
  refine EM_ext (by decide) ?_ ?_
  · show mm_holders a g (up3 τ 8 j 0 x) v fc = _; unfold mm_holders; congr 1; congr 1; congr 1; congr 1; funext q; simp only [upd, up3]; by_cases hq : q = j <;> simp [hq]
  · intro k hk hne; exact MC_congr hk (fun _ => by simp [mm_obj, up3]) (fun _ => by simp [mm_state, up3]) (fun _ => by simp [mm_hidden, up3]) (fun _ => by simp [mm_row, up3]) (fun _ => by simp [mm_length, up3]) (fun _ => by simp [mm_version, up3]) (fun h => absurd h hne) (fun _ => by simp [mm_lease, up3]) (fun _ => by simp [mm_down, up3]) (fun _ => by simp [mm_replica, up3]) (fun _ => by simp [mm_used, up3]) (fun _ => rfl) (fun _ => by simp [mm_keptChunk, up3]) (fun _ => by simp [mm_keptVersion, up3]) (fun _ => by simp [mm_keptHolders, up3]) (fun _ => by simp [mm_keptEnd, up3])
theorem EM_slease {a : Nat → ClassId} {g : Nat → Nat} {τ : xSig} {v : xWrd} {fc : Nat} {X : Nat → va_E} {j x : Nat} : va_up (EM a g τ v fc X) 150 (.inl (a 5, 30, .inr (.inr (.inr (.inl (vf_upd (fun j => eT (τ 9 j 0)) j (eT x))))))) = EM a g (up3 τ 9 j 0 x) v fc X := by
  refine EM_ext (by decide) ?_ ?_
  · show mm_lease a g (up3 τ 9 j 0 x) v fc = _; unfold mm_lease; congr 1; congr 1; congr 1; congr 1; congr 1; congr 1; congr 1; funext q; simp only [vf_upd, up3]; by_cases hq : q = j <;> simp [hq]
  · intro k hk hne; exact MC_congr hk (fun _ => by simp [mm_obj, up3]) (fun _ => by simp [mm_state, up3]) (fun _ => by simp [mm_hidden, up3]) (fun _ => by simp [mm_row, up3]) (fun _ => by simp [mm_length, up3]) (fun _ => by simp [mm_version, up3]) (fun _ => by simp [mm_holders, up3]) (fun h => absurd h hne) (fun _ => by simp [mm_down, up3]) (fun _ => by simp [mm_replica, up3]) (fun _ => by simp [mm_used, up3]) (fun _ => rfl) (fun _ => by simp [mm_keptChunk, up3]) (fun _ => by simp [mm_keptVersion, up3]) (fun _ => by simp [mm_keptHolders, up3]) (fun _ => by simp [mm_keptEnd, up3])
theorem EM_sdown {a : Nat → ClassId} {g : Nat → Nat} {τ : xSig} {v : xWrd} {fc : Nat} {X : Nat → va_E} {j x : Nat} : va_up (EM a g τ v fc X) 151 (.inl (a 6, 5, .inl (upd (fun j => nI (b01 (decide (τ 10 j 0 = 0)))) j (nI (b01 (decide (x = 0))))))) = EM a g (up3 τ 10 j 0 x) v fc X := by
  refine EM_ext (by decide) ?_ ?_
  · show mm_down a g (up3 τ 10 j 0 x) v fc = _; unfold mm_down; congr 1; congr 1; congr 1; congr 1; funext q; simp only [upd, up3]; by_cases hq : q = j <;> simp [hq]
  · intro k hk hne; exact MC_congr hk (fun _ => by simp [mm_obj, up3]) (fun _ => by simp [mm_state, up3]) (fun _ => by simp [mm_hidden, up3]) (fun _ => by simp [mm_row, up3]) (fun _ => by simp [mm_length, up3]) (fun _ => by simp [mm_version, up3]) (fun _ => by simp [mm_holders, up3]) (fun _ => by simp [mm_lease, up3]) (fun h => absurd h hne) (fun _ => by simp [mm_replica, up3]) (fun _ => by simp [mm_used, up3]) (fun _ => rfl) (fun _ => by simp [mm_keptChunk, up3]) (fun _ => by simp [mm_keptVersion, up3]) (fun _ => by simp [mm_keptHolders, up3]) (fun _ => by simp [mm_keptEnd, up3])
theorem EM_sreplica {a : Nat → ClassId} {g : Nat → Nat} {τ : xSig} {v : xWrd} {fc : Nat} {X : Nat → va_E} {i j x : Nat} (hj : j < 30) : va_up (EM a g τ v fc X) 152 (.inl (a 0, 150, .inl (upd (fun j => nI (τ 12 (j / 30) (j % 30))) (30 * i + j) (nI x)))) = EM a g (up3 τ 12 i j x) v fc X := by
  refine EM_ext (by decide) ?_ ?_
  · show mm_replica a g (up3 τ 12 i j x) v fc = _; unfold mm_replica; congr 1; congr 1; congr 1; congr 1; funext q; simp only [upd, up3]; by_cases hq : q = 30 * i + j; · rw [if_pos hq, if_pos ⟨trivial, by omega, by omega⟩]
    · rw [if_neg hq, if_neg (fun r => hq (by omega))]
  · intro k hk hne; exact MC_congr hk (fun _ => by simp [mm_obj, up3]) (fun _ => by simp [mm_state, up3]) (fun _ => by simp [mm_hidden, up3]) (fun _ => by simp [mm_row, up3]) (fun _ => by simp [mm_length, up3]) (fun _ => by simp [mm_version, up3]) (fun _ => by simp [mm_holders, up3]) (fun _ => by simp [mm_lease, up3]) (fun _ => by simp [mm_down, up3]) (fun h => absurd h hne) (fun _ => by simp [mm_used, up3]) (fun _ => rfl) (fun _ => by simp [mm_keptChunk, up3]) (fun _ => by simp [mm_keptVersion, up3]) (fun _ => by simp [mm_keptHolders, up3]) (fun _ => by simp [mm_keptEnd, up3])
theorem EM_sused {a : Nat → ClassId} {g : Nat → Nat} {τ : xSig} {v : xWrd} {fc : Nat} {X : Nat → va_E} {i j x : Nat} (hj : j < 30) : va_up (EM a g τ v fc X) 153 (.inl (a 0, 150, .inl (upd (fun j => nI (τ 13 (j / 30) (j % 30))) (30 * i + j) (nI x)))) = EM a g (up3 τ 13 i j x) v fc X := by
  refine EM_ext (by decide) ?_ ?_
  · show mm_used a g (up3 τ 13 i j x) v fc = _; unfold mm_used; congr 1; congr 1; congr 1; congr 1; funext q; simp only [upd, up3]; by_cases hq : q = 30 * i + j; · rw [if_pos hq, if_pos ⟨trivial, by omega, by omega⟩]
    · rw [if_neg hq, if_neg (fun r => hq (by omega))]
  · intro k hk hne; exact MC_congr hk (fun _ => by simp [mm_obj, up3]) (fun _ => by simp [mm_state, up3]) (fun _ => by simp [mm_hidden, up3]) (fun _ => by simp [mm_row, up3]) (fun _ => by simp [mm_length, up3]) (fun _ => by simp [mm_version, up3]) (fun _ => by simp [mm_holders, up3]) (fun _ => by simp [mm_lease, up3]) (fun _ => by simp [mm_down, up3]) (fun _ => by simp [mm_replica, up3]) (fun h => absurd h hne) (fun _ => rfl) (fun _ => by simp [mm_keptChunk, up3]) (fun _ => by simp [mm_keptVersion, up3]) (fun _ => by simp [mm_keptHolders, up3]) (fun _ => by simp [mm_keptEnd, up3])
theorem EM_sword {a : Nat → ClassId} {g : Nat → Nat} {τ : xSig} {v : xWrd} {fc : Nat} {X : Nat → va_E} {i j : Nat} {x : Int32} (hj : j < 120) : va_up (EM a g τ v fc X) 154 (.inl (a 0, 600, .inl (upd (fun j => v (j / 120) (j % 120)) (120 * i + j) x))) = EM a g τ (up2 v i j x) fc X := by
  refine EM_ext (by decide) ?_ ?_
  · show mm_word a g τ (up2 v i j x) fc = _; unfold mm_word; congr 1; congr 1; congr 1; congr 1; funext q; simp only [upd, up2]; by_cases hq : q = 120 * i + j; · rw [if_pos hq, if_pos ⟨by omega, by omega⟩]
    · rw [if_neg hq, if_neg (fun r => hq (by omega))]
  · intro k hk hne; exact MC_congr hk (fun _ => rfl) (fun _ => rfl) (fun _ => rfl) (fun _ => rfl) (fun _ => rfl) (fun _ => rfl) (fun _ => rfl) (fun _ => rfl) (fun _ => rfl) (fun _ => rfl) (fun _ => rfl) (fun h => absurd h hne) (fun _ => rfl) (fun _ => rfl) (fun _ => rfl) (fun _ => rfl)
theorem EM_skeptChunk {a : Nat → ClassId} {g : Nat → Nat} {τ : xSig} {v : xWrd} {fc : Nat} {X : Nat → va_E} {j x : Nat} : va_up (EM a g τ v fc X) 155 (.inl (a 0, 72, .inl (upd (fun j => nI (τ 14 j 0)) j (nI x)))) = EM a g (up3 τ 14 j 0 x) v fc X := by
  refine EM_ext (by decide) ?_ ?_
  · show mm_keptChunk a g (up3 τ 14 j 0 x) v fc = _; unfold mm_keptChunk; congr 1; congr 1; congr 1; congr 1; funext q; simp only [upd, up3]; by_cases hq : q = j <;> simp [hq]
  · intro k hk hne; exact MC_congr hk (fun _ => by simp [mm_obj, up3]) (fun _ => by simp [mm_state, up3]) (fun _ => by simp [mm_hidden, up3]) (fun _ => by simp [mm_row, up3]) (fun _ => by simp [mm_length, up3]) (fun _ => by simp [mm_version, up3]) (fun _ => by simp [mm_holders, up3]) (fun _ => by simp [mm_lease, up3]) (fun _ => by simp [mm_down, up3]) (fun _ => by simp [mm_replica, up3]) (fun _ => by simp [mm_used, up3]) (fun _ => rfl) (fun h => absurd h hne) (fun _ => by simp [mm_keptVersion, up3]) (fun _ => by simp [mm_keptHolders, up3]) (fun _ => by simp [mm_keptEnd, up3])
theorem EM_skeptVersion {a : Nat → ClassId} {g : Nat → Nat} {τ : xSig} {v : xWrd} {fc : Nat} {X : Nat → va_E} {j x : Nat} : va_up (EM a g τ v fc X) 156 (.inl (a 0, 72, .inl (upd (fun j => nI (τ 15 j 0)) j (nI x)))) = EM a g (up3 τ 15 j 0 x) v fc X := by
  refine EM_ext (by decide) ?_ ?_
  · show mm_keptVersion a g (up3 τ 15 j 0 x) v fc = _; unfold mm_keptVersion; congr 1; congr 1; congr 1; congr 1; funext q; simp only [upd, up3]; by_cases hq : q = j <;> simp [hq]
  · intro k hk hne; exact MC_congr hk (fun _ => by simp [mm_obj, up3]) (fun _ => by simp [mm_state, up3]) (fun _ => by simp [mm_hidden, up3]) (fun _ => by simp [mm_row, up3]) (fun _ => by simp [mm_length, up3]) (fun _ => by simp [mm_version, up3]) (fun _ => by simp [mm_holders, up3]) (fun _ => by simp [mm_lease, up3]) (fun _ => by simp [mm_down, up3]) (fun _ => by simp [mm_replica, up3]) (fun _ => by simp [mm_used, up3]) (fun _ => rfl) (fun _ => by simp [mm_keptChunk, up3]) (fun h => absurd h hne) (fun _ => by simp [mm_keptHolders, up3]) (fun _ => by simp [mm_keptEnd, up3])
theorem EM_skeptHolders {a : Nat → ClassId} {g : Nat → Nat} {τ : xSig} {v : xWrd} {fc : Nat} {X : Nat → va_E} {j x : Nat} : va_up (EM a g τ v fc X) 157 (.inl (a 0, 72, .inl (upd (fun j => nI (τ 16 j 0)) j (nI x)))) = EM a g (up3 τ 16 j 0 x) v fc X := by
  refine EM_ext (by decide) ?_ ?_
  · show mm_keptHolders a g (up3 τ 16 j 0 x) v fc = _; unfold mm_keptHolders; congr 1; congr 1; congr 1; congr 1; funext q; simp only [upd, up3]; by_cases hq : q = j <;> simp [hq]
  · intro k hk hne; exact MC_congr hk (fun _ => by simp [mm_obj, up3]) (fun _ => by simp [mm_state, up3]) (fun _ => by simp [mm_hidden, up3]) (fun _ => by simp [mm_row, up3]) (fun _ => by simp [mm_length, up3]) (fun _ => by simp [mm_version, up3]) (fun _ => by simp [mm_holders, up3]) (fun _ => by simp [mm_lease, up3]) (fun _ => by simp [mm_down, up3]) (fun _ => by simp [mm_replica, up3]) (fun _ => by simp [mm_used, up3]) (fun _ => rfl) (fun _ => by simp [mm_keptChunk, up3]) (fun _ => by simp [mm_keptVersion, up3]) (fun h => absurd h hne) (fun _ => by simp [mm_keptEnd, up3])
theorem EM_skeptEnd {a : Nat → ClassId} {g : Nat → Nat} {τ : xSig} {v : xWrd} {fc : Nat} {X : Nat → va_E} {j x : Nat} : va_up (EM a g τ v fc X) 158 (.inl (a 5, 72, .inr (.inr (.inr (.inl (vf_upd (fun j => eT (τ 17 j 0)) j (eT x))))))) = EM a g (up3 τ 17 j 0 x) v fc X := by
  refine EM_ext (by decide) ?_ ?_
  · show mm_keptEnd a g (up3 τ 17 j 0 x) v fc = _; unfold mm_keptEnd; congr 1; congr 1; congr 1; congr 1; congr 1; congr 1; congr 1; funext q; simp only [vf_upd, up3]; by_cases hq : q = j <;> simp [hq]
  · intro k hk hne; exact MC_congr hk (fun _ => by simp [mm_obj, up3]) (fun _ => by simp [mm_state, up3]) (fun _ => by simp [mm_hidden, up3]) (fun _ => by simp [mm_row, up3]) (fun _ => by simp [mm_length, up3]) (fun _ => by simp [mm_version, up3]) (fun _ => by simp [mm_holders, up3]) (fun _ => by simp [mm_lease, up3]) (fun _ => by simp [mm_down, up3]) (fun _ => by simp [mm_replica, up3]) (fun _ => by simp [mm_used, up3]) (fun _ => rfl) (fun _ => by simp [mm_keptChunk, up3]) (fun _ => by simp [mm_keptVersion, up3]) (fun _ => by simp [mm_keptHolders, up3]) (fun h => absurd h hne)
end XMW
