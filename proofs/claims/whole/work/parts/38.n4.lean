section XN4
theorem tl_fin {τ : xSig} {f q : Nat} (hmc : ¬ τ 0 0 0 = τ 4 f q) : ∀ t x y, ¬ t = 7 → ¬ t = 11 → up3 (up3 (up3 (up3 (up3 (spL τ (lvh τ (τ 4 f q)) (τ 0 0 0) (τ 4 f q) 5) 6 (τ 0 0 0) 0 1) 8 (τ 0 0 0) 0 (lvh τ (τ 4 f q))) 4 f q (τ 0 0 0)) 0 0 0 ((τ 0 0 0) + 1)) 9 (τ 0 0 0) 0 (τ 1 0 0 + 80) t x y = up3 (spS τ f q (lvh τ (τ 4 f q))) 9 (τ 0 0 0) 0 (τ 1 0 0 + 80) t x y := by
  intro t x y h7 h11
  unfold spS
  simp only [up3, spL_at _ _ _ _ hmc, scS]
  grind
theorem m_MD_takeLease {l : Launch} (htr : xTr l) {D : va_G} {a : Nat → ClassId} {base : Nat} {g : Nat → Nat} {n : Nat} {τ : xSig} {v : xWrd} {fc M : Nat} {X : Nat → va_E} (hn : 159 ≤ n) (hI : Inv τ v M) (hM : M ≤ 2 ^ 28) {f q : Nat} (hf : f < 8) (hq : q < 3) (hp : q < τ 3 f 0) {k : Nat} (hk : 1 ≤ k) : xM l y_MD_takeLease b_MD_takeLease 6 (some FieldType.int) k D a base g n (EM a g τ v fc X) [.ref (g 143), .int (nI f), .int (nI q)] (fun r E' => E' = EM a g (if lsC τ (τ 4 f q) = 0 then lsS τ f q else τ) (if lsC τ (τ 4 f q) = 0 then lsW τ v (τ 4 f q) else v) fc X ∧ r = .inl (some (.int (nI (lsC τ (τ 4 f q)))))) := by
  refine x_method (by decide) htr (Nat.le_of_ble_eq_true rfl) ?_
  intro p e s m args below meth c C hne hret hnm
  have C : xC p l e s m meth c b_MD_takeLease 6 "ChunkStoreModel" args D xcl (xty a) base := C
  have hO := hI.ok hM
  have hB : ∀ t i j, τ t i j < 2 ^ 30 := fun t i j => Nat.lt_trans (hO.1 t i j) (by decide)
  have hH := hO.2.2.2.1
  have hcv : ∀ s, s < 5 → τ 11 s 0 = cntV (τ 12 s) 30 := fun s hs => (hI.cnt s hs).1
  have h30 := hI.2.1
  have hcm : τ 4 f q < τ 0 0 0 := (hI.file f hf).2.2.2.1 q hp
  have hc30 : τ 4 f q < 30 := by omega
  refine x_aload_n C d_MD_takeLease_0 rfl rfl ?_
  refine g_MD_row C hn d_MD_takeLease_1 ?_
  refine x_iconst C (v := nI 3) d_MD_takeLease_4 (by decide) ?_
  refine x_iload_n C d_MD_takeLease_5 rfl rfl ?_
  refine xn_imul C d_MD_takeLease_6 ?_
  refine x_iload_n C d_MD_takeLease_7 rfl rfl ?_
  refine xn_iadd C d_MD_takeLease_8 ?_
  refine e_mrow C hf hq hn d_MD_takeLease_9 ?_
  refine x_istore_n C d_MD_takeLease_10 rfl (by decide) rfl ?_
  refine x_aload_n C d_MD_takeLease_11 rfl rfl ?_
  refine x_iload_n C d_MD_takeLease_12 rfl rfl ?_
  refine c_MD_MD_live C (by omega) hn (m_MD_live htr hn hB hH hc30 (Nat.le_refl _)) rfl rfl (Nat.le_of_ble_eq_true rfl) d_MD_takeLease_13 (fun v E' hp => ?_) (fun X E' hp => ?_)
  · obtain ⟨rfl, hv⟩ := hp
    cases hv
    refine x_istore C d_MD_takeLease_16 (by decide) rfl ?_
    refine x_aload_n C d_MD_takeLease_18 rfl rfl ?_
    refine g_MD_lease C hn d_MD_takeLease_19 ?_
    refine x_iload_n C d_MD_takeLease_22 rfl rfl ?_
    refine e_mlease C hc30 hn d_MD_takeLease_23 ?_
    refine x_aload_n C d_MD_takeLease_24 rfl rfl ?_
    refine g_MD_time C hn d_MD_takeLease_25 ?_
    refine xn_dcmpE C (Nat.lt_trans (hB 9 (τ 4 f q) 0) (by decide)) (Nat.lt_trans (hB 1 0 0) (by decide)) d_MD_takeLease_28 ?_
    refine x_if_le C 45 d_MD_takeLease_29 (by decide) (fun h29 => ?_) (fun h29 => ?_)
    · have h29 := cmpE_le h29
      refine x_iload C d_MD_takeLease_45 rfl ?_
      refine xn_if_ne C (Nat.lt_trans (lvh_lt _ _) (by decide)) 52 d_MD_takeLease_47 (by decide) (fun h47 => ?_) (fun h47 => ?_)
      · refine x_aload_n C d_MD_takeLease_52 rfl rfl ?_
        refine x_iload_n C d_MD_takeLease_53 rfl rfl ?_
        refine c_MD_MD_refs C (by omega) hn (m_MD_refs htr hn hB (Nat.lt_trans (hB 4 f q) (by decide)) (Nat.le_refl _)) rfl rfl (Nat.le_of_ble_eq_true rfl) d_MD_takeLease_54 (fun v E' hp => ?_) (fun X E' hp => ?_)
        · obtain ⟨rfl, hv⟩ := hp
          cases hv
          rw [← hI.refs _ hc30]
          refine x_iconst C (v := nI 1) d_MD_takeLease_57 (by decide) ?_
          refine xn_icmp_le C (Nat.lt_trans (hB _ _ _) (by decide)) (by decide) 210 d_MD_takeLease_58 (by decide) (fun h58 => ?_) (fun h58 => ?_)
          · refine x_aload_n C d_MD_takeLease_210 rfl rfl ?_
            refine g_MD_version C hn d_MD_takeLease_211 ?_
            refine x_iload_n C d_MD_takeLease_214 rfl rfl ?_
            refine x_dup2 C d_MD_takeLease_215 rfl rfl ?_
            refine e_mversion C hc30 hn d_MD_takeLease_216 ?_
            refine x_iconst C (v := nI 1) d_MD_takeLease_217 (by decide) ?_
            refine xn_iadd C d_MD_takeLease_218 ?_
            refine a_mversion C hc30 hn d_MD_takeLease_219 ?_
            refine x_aload_n C d_MD_takeLease_220 rfl rfl ?_
            refine g_MD_holders C hn d_MD_takeLease_221 ?_
            refine x_iload_n C d_MD_takeLease_224 rfl rfl ?_
            refine x_iload C d_MD_takeLease_225 rfl ?_
            refine a_mholders C hc30 hn d_MD_takeLease_227 ?_
            refine x_iconst C (v := nI 0) d_MD_takeLease_228 (by decide) ?_
            refine x_istore C d_MD_takeLease_229 (by decide) rfl ?_
            refine x_loop 5 (fun j => EM a g (rvL (up3 (up3 τ 6 (τ 4 f q) 0 (τ 6 (τ 4 f q) 0 + 1)) 8 (τ 4 f q) 0 (lvh τ (τ 4 f q))) (τ 4 f q) (lvh τ (τ 4 f q)) (τ 6 (τ 4 f q) 0 + 1) j) v fc X) (fun j => [(0, .ref (g 143)), (1, .int (nI f)), (2, .int (nI q)), (3, .int (nI (τ 4 f q))), (4, .int (nI (lvh τ (τ 4 f q)))), (5, .int (nI j))]) (fun j => True) rfl ⟨rfl, rfl, rfl, rfl, rfl, rfl, trivial⟩ trivial ?_
            intro j hj hIj ihj
            refine x_iload C d_MD_takeLease_231 rfl ?_
            refine x_iconst C (v := nI 5) d_MD_takeLease_233 (by decide) ?_
            refine xn_icmp_ge C (by omega) (by decide) 271 d_MD_takeLease_234 (by decide) (fun h234 => ?_) (fun h234 => ?_)
            · refine x_aload_n C d_MD_takeLease_271 rfl rfl ?_
              refine g_MD_lease C hn d_MD_takeLease_272 ?_
              refine x_iload_n C d_MD_takeLease_275 rfl rfl ?_
              refine x_aload_n C d_MD_takeLease_276 rfl rfl ?_
              refine g_MD_time C hn d_MD_takeLease_277 ?_
              refine x_ldc2d C kw697 d_MD_takeLease_280 ?_
              refine x_topd (show _ = dT 80 from dT_80i.symm) ?_
              refine xn_dadd C (by simp only [up3_n (show ¬ 1 = 6 by decide), up3_n (show ¬ 1 = 8 by decide), up3_n (show ¬ 1 = 4 by decide), up3_n (show ¬ 1 = 0 by decide), spL_o _ (show ¬ 1 = 11 ∧ ¬ 1 = 12 ∧ ¬ 1 = 13 by decide), rvL_at, show ¬ (1 : Nat) = 12 by decide, false_and, and_false, if_false]; have := hB 1 0 0; omega) d_MD_takeLease_283 ?_
              refine a_mlease C hc30 (by omega) hn d_MD_takeLease_284 ?_
              refine x_iconst C (v := nI 0) d_MD_takeLease_285 (by decide) ?_
              exact x_iret C hret d_MD_takeLease_286 ⟨by rw [show lsC τ (τ 4 f q) = 0 by rw [lsC, if_neg (show ¬ lsK τ (τ 4 f q) = true by simp only [lsK, decide_eq_true_eq]; omega), if_neg h47, if_neg (show ¬ 2 ≤ τ 7 (τ 4 f q) 0 by omega)], if_pos rfl, if_pos rfl, lsS, lsW, if_neg (show ¬ lsK τ (τ 4 f q) = true by simp only [lsK, decide_eq_true_eq]; omega), if_neg (show ¬ lsK τ (τ 4 f q) = true by simp only [lsK, decide_eq_true_eq]; omega), if_neg (show ¬ 2 ≤ τ 7 (τ 4 f q) 0 by omega), if_neg (show ¬ 2 ≤ τ 7 (τ 4 f q) 0 by omega), show j = 5 by omega, ← rvS, rvS_1 (show ¬ 1 = 12 ∧ ¬ 1 = 6 ∧ ¬ 1 = 8 by decide)], by rw [show lsC τ (τ 4 f q) = 0 by rw [lsC, if_neg (show ¬ lsK τ (τ 4 f q) = true by simp only [lsK, decide_eq_true_eq]; omega), if_neg h47, if_neg (show ¬ 2 ≤ τ 7 (τ 4 f q) 0 by omega)]]⟩
            · refine x_iload C d_MD_takeLease_237 rfl ?_
              refine x_iload C d_MD_takeLease_239 rfl ?_
              refine xn_ishr C (lvh_lt _ _) (by omega) d_MD_takeLease_241 ?_
              refine x_iconst C (v := nI 1) d_MD_takeLease_242 (by decide) ?_
              refine xn_iand C (bt_shlt _ (lvh_lt _ _) _ (by omega)) (by decide) d_MD_takeLease_243 ?_
              refine xn_if_eq C (Nat.lt_trans (bt_andlt _ (bt_shlt _ (lvh_lt _ _) _ (by omega)) _ (by decide)) (by decide)) 265 d_MD_takeLease_244 (by decide) (fun h244 => ?_) (fun h244 => ?_)
              · refine x_lv [(0, .ref (g 143)), (1, .int (nI f)), (2, .int (nI q)), (3, .int (nI (τ 4 f q))), (4, .int (nI (lvh τ (τ 4 f q)))), (5, .int (nI j))] ⟨rfl, rfl, rfl, rfl, rfl, rfl, trivial⟩ ?_
                refine xn_iinc C d_MD_takeLease_265 5 rfl (by decide) rfl ?_
                refine x_goto C 231 d_MD_takeLease_268 (by decide) ?_
                rw [bt_shr _ (lvh_lt _ _) j (by omega)] at h244
                have hb : ¬ (lvh τ (τ 4 f q)).testBit j = true := fun r => by rw [if_pos r] at h244; omega
                refine x_E (E' := EM a g (rvL (up3 (up3 τ 6 (τ 4 f q) 0 (τ 6 (τ 4 f q) 0 + 1)) 8 (τ 4 f q) 0 (lvh τ (τ 4 f q))) (τ 4 f q) (lvh τ (τ 4 f q)) (τ 6 (τ 4 f q) 0 + 1) (j + 1)) v fc X) (by rw [rvL, if_neg hb]) ?_
                exact x_lv [(0, .ref (g 143)), (1, .int (nI f)), (2, .int (nI q)), (3, .int (nI (τ 4 f q))), (4, .int (nI (lvh τ (τ 4 f q)))), (5, .int (nI (j + 1)))] ⟨rfl, rfl, rfl, rfl, rfl, rfl, trivial⟩ (ihj (by omega) trivial)
              · refine x_aload_n C d_MD_takeLease_247 rfl rfl ?_
                refine g_MD_replica C hn d_MD_takeLease_248 ?_
                refine x_bipush C (v := nI 30) d_MD_takeLease_251 (by decide) ?_
                refine x_iload C d_MD_takeLease_253 rfl ?_
                refine xn_imul C d_MD_takeLease_255 ?_
                refine x_iload_n C d_MD_takeLease_256 rfl rfl ?_
                refine xn_iadd C d_MD_takeLease_257 ?_
                refine x_aload_n C d_MD_takeLease_258 rfl rfl ?_
                refine g_MD_version C hn d_MD_takeLease_259 ?_
                refine x_iload_n C d_MD_takeLease_262 rfl rfl ?_
                refine e_mversion C hc30 hn d_MD_takeLease_263 ?_
                refine a_mreplica C (by omega) hc30 hn d_MD_takeLease_264 ?_
                refine x_lv [(0, .ref (g 143)), (1, .int (nI f)), (2, .int (nI q)), (3, .int (nI (τ 4 f q))), (4, .int (nI (lvh τ (τ 4 f q)))), (5, .int (nI j))] ⟨rfl, rfl, rfl, rfl, rfl, rfl, trivial⟩ ?_
                refine xn_iinc C d_MD_takeLease_265 5 rfl (by decide) rfl ?_
                refine x_goto C 231 d_MD_takeLease_268 (by decide) ?_
                rw [bt_shr _ (lvh_lt _ _) j (by omega)] at h244
                have hb : (lvh τ (τ 4 f q)).testBit j = true := by by_cases r : (lvh τ (τ 4 f q)).testBit j = true; exact r; rw [if_neg r] at h244; exact absurd rfl h244
                refine x_E (E' := EM a g (rvL (up3 (up3 τ 6 (τ 4 f q) 0 (τ 6 (τ 4 f q) 0 + 1)) 8 (τ 4 f q) 0 (lvh τ (τ 4 f q))) (τ 4 f q) (lvh τ (τ 4 f q)) (τ 6 (τ 4 f q) 0 + 1) (j + 1)) v fc X) (by rw [rvL, if_pos hb, rvL_at, if_neg (by omega), up3_n (by decide), up3_s]) ?_
                exact x_lv [(0, .ref (g 143)), (1, .int (nI f)), (2, .int (nI q)), (3, .int (nI (τ 4 f q))), (4, .int (nI (lvh τ (τ 4 f q)))), (5, .int (nI (j + 1)))] ⟨rfl, rfl, rfl, rfl, rfl, rfl, trivial⟩ (ihj (by omega) trivial)
          · refine x_aload_n C d_MD_takeLease_61 rfl rfl ?_
            refine g_MD_chunks C hn d_MD_takeLease_62 ?_
            refine x_bipush C (v := nI 30) d_MD_takeLease_65 (by decide) ?_
            refine xn_icmp_ne C (Nat.lt_trans (hB 0 0 0) (by decide)) (by decide) 72 d_MD_takeLease_67 (by decide) (fun h67 => ?_) (fun h67 => ?_)
            · have hm : τ 0 0 0 < 30 := by omega
              refine x_iconst C (v := nI 0) d_MD_takeLease_72 (by decide) ?_
              refine x_istore C d_MD_takeLease_73 (by decide) rfl ?_
              refine x_loop 5 (fun i => EM a g τ v fc X) (fun i => [(0, .ref (g 143)), (1, .int (nI f)), (2, .int (nI q)), (3, .int (nI (τ 4 f q))), (4, .int (nI (lvh τ (τ 4 f q)))), (5, .int (nI i))]) (fun i => ∀ j, j < i → ¬ ((lvh τ (τ 4 f q)).testBit j = true ∧ 12 ≤ τ 11 j 0)) rfl ⟨rfl, rfl, rfl, rfl, rfl, rfl, trivial⟩ (fun j hj => absurd hj (Nat.not_lt_zero j)) ?_
              intro i hi hIi ihi
              refine x_iload C d_MD_takeLease_75 rfl ?_
              refine x_iconst C (v := nI 5) d_MD_takeLease_77 (by decide) ?_
              refine xn_icmp_ge C (by omega) (by decide) 110 d_MD_takeLease_78 (by decide) (fun h78 => ?_) (fun h78 => ?_)
              · refine x_iconst C (v := nI 0) d_MD_takeLease_110 (by decide) ?_
                refine x_istore C d_MD_takeLease_111 (by decide) rfl ?_
                refine x_loop 5 (fun j => EM a g (spL τ (lvh τ (τ 4 f q)) (τ 0 0 0) (τ 4 f q) j) (spW v (lvh τ (τ 4 f q)) (τ 0 0 0) (τ 4 f q) j) fc X) (fun j => [(0, .ref (g 143)), (1, .int (nI f)), (2, .int (nI q)), (3, .int (nI (τ 4 f q))), (4, .int (nI (lvh τ (τ 4 f q)))), (5, .int (nI j))]) (fun j => True) rfl ⟨rfl, rfl, rfl, rfl, rfl, rfl, trivial⟩ trivial ?_
                intro j hj hIj ihj
                refine x_iload C d_MD_takeLease_113 rfl ?_
                refine x_iconst C (v := nI 5) d_MD_takeLease_115 (by decide) ?_
                refine xn_icmp_ge C (by omega) (by decide) 157 d_MD_takeLease_116 (by decide) (fun h116 => ?_) (fun h116 => ?_)
                · refine x_aload_n C d_MD_takeLease_157 rfl rfl ?_
                  refine g_MD_version C hn d_MD_takeLease_158 ?_
                  refine x_aload_n C d_MD_takeLease_161 rfl rfl ?_
                  refine g_MD_chunks C hn d_MD_takeLease_162 ?_
                  refine x_iconst C (v := nI 1) d_MD_takeLease_165 (by decide) ?_
                  refine a_mversion C (by simp only [up3_n (show ¬ 0 = 6 by decide), spL_o _ (show ¬ 0 = 11 ∧ ¬ 0 = 12 ∧ ¬ 0 = 13 by decide)]; exact hm) hn d_MD_takeLease_166 ?_
                  refine x_aload_n C d_MD_takeLease_167 rfl rfl ?_
                  refine g_MD_holders C hn d_MD_takeLease_168 ?_
                  refine x_aload_n C d_MD_takeLease_171 rfl rfl ?_
                  refine g_MD_chunks C hn d_MD_takeLease_172 ?_
                  refine x_iload C d_MD_takeLease_175 rfl ?_
                  refine a_mholders C (by simp only [up3_n (show ¬ 0 = 6 by decide), spL_o _ (show ¬ 0 = 11 ∧ ¬ 0 = 12 ∧ ¬ 0 = 13 by decide)]; exact hm) hn d_MD_takeLease_177 ?_
                  refine x_aload_n C d_MD_takeLease_178 rfl rfl ?_
                  refine g_MD_row C hn d_MD_takeLease_179 ?_
                  refine x_iconst C (v := nI 3) d_MD_takeLease_182 (by decide) ?_
                  refine x_iload_n C d_MD_takeLease_183 rfl rfl ?_
                  refine xn_imul C d_MD_takeLease_184 ?_
                  refine x_iload_n C d_MD_takeLease_185 rfl rfl ?_
                  refine xn_iadd C d_MD_takeLease_186 ?_
                  refine x_aload_n C d_MD_takeLease_187 rfl rfl ?_
                  refine g_MD_chunks C hn d_MD_takeLease_188 ?_
                  refine a_mrow C hf hq hn d_MD_takeLease_191 ?_
                  refine x_aload_n C d_MD_takeLease_192 rfl rfl ?_
                  refine g_MD_chunks C hn d_MD_takeLease_193 ?_
                  refine x_istore_n C d_MD_takeLease_196 rfl (by decide) rfl ?_
                  refine x_aload_n C d_MD_takeLease_197 rfl rfl ?_
                  refine x_dup C d_MD_takeLease_198 rfl ?_
                  refine g_MD_chunks C hn d_MD_takeLease_199 ?_
                  refine x_iconst C (v := nI 1) d_MD_takeLease_202 (by decide) ?_
                  refine xn_iadd C d_MD_takeLease_203 ?_
                  refine p_MD_chunks C hn d_MD_takeLease_204 ?_
                  refine x_goto C 271 d_MD_takeLease_207 (by decide) ?_
                  refine x_aload_n C d_MD_takeLease_271 rfl rfl ?_
                  refine g_MD_lease C hn d_MD_takeLease_272 ?_
                  refine x_iload_n C d_MD_takeLease_275 rfl rfl ?_
                  refine x_aload_n C d_MD_takeLease_276 rfl rfl ?_
                  refine g_MD_time C hn d_MD_takeLease_277 ?_
                  refine x_ldc2d C kw697 d_MD_takeLease_280 ?_
                  refine x_topd (show _ = dT 80 from dT_80i.symm) ?_
                  refine xn_dadd C (by simp only [up3_n (show ¬ 1 = 6 by decide), up3_n (show ¬ 1 = 8 by decide), up3_n (show ¬ 1 = 4 by decide), up3_n (show ¬ 1 = 0 by decide), spL_o _ (show ¬ 1 = 11 ∧ ¬ 1 = 12 ∧ ¬ 1 = 13 by decide), rvL_at, show ¬ (1 : Nat) = 12 by decide, false_and, and_false, if_false]; have := hB 1 0 0; omega) d_MD_takeLease_283 ?_
                  refine a_mlease C (by simp only [up3_n (show ¬ 0 = 6 by decide), up3_n (show ¬ 0 = 8 by decide), up3_n (show ¬ 0 = 4 by decide), spL_o _ (show ¬ 0 = 11 ∧ ¬ 0 = 12 ∧ ¬ 0 = 13 by decide)]; exact hm) (by omega) hn d_MD_takeLease_284 ?_
                  refine x_iconst C (v := nI 0) d_MD_takeLease_285 (by decide) ?_
                  exact x_iret C hret d_MD_takeLease_286 ⟨by rw [show lsC τ (τ 4 f q) = 0 by rw [lsC, if_neg (show ¬ lsK τ (τ 4 f q) = true by simp only [lsK, decide_eq_true_eq]; omega), if_neg h47, if_pos (show 2 ≤ τ 7 (τ 4 f q) 0 by omega), spC, if_neg (by omega), if_neg (fun r => by obtain ⟨z, z1, z2⟩ := anyF_t.mp r; exact hIi z (by omega) z2)], if_pos rfl, if_pos rfl, lsS, lsW, if_neg (show ¬ lsK τ (τ 4 f q) = true by simp only [lsK, decide_eq_true_eq]; omega), if_neg (show ¬ lsK τ (τ 4 f q) = true by simp only [lsK, decide_eq_true_eq]; omega), if_pos (show 2 ≤ τ 7 (τ 4 f q) 0 by omega), if_pos (show 2 ≤ τ 7 (τ 4 f q) 0 by omega), show j = 5 by omega]; simp only [up3_n (show ¬ 0 = 6 by decide), up3_n (show ¬ 0 = 8 by decide), up3_n (show ¬ 0 = 4 by decide), up3_n (show ¬ 1 = 6 by decide), up3_n (show ¬ 1 = 8 by decide), up3_n (show ¬ 1 = 4 by decide), up3_n (show ¬ 1 = 0 by decide), spL_o _ (show ¬ 0 = 11 ∧ ¬ 0 = 12 ∧ ¬ 0 = 13 by decide), spL_o _ (show ¬ 1 = 11 ∧ ¬ 1 = 12 ∧ ¬ 1 = 13 by decide)]; exact EM_cg (tl_fin (by omega)) rfl, by rw [show lsC τ (τ 4 f q) = 0 by rw [lsC, if_neg (show ¬ lsK τ (τ 4 f q) = true by simp only [lsK, decide_eq_true_eq]; omega), if_neg h47, if_pos (show 2 ≤ τ 7 (τ 4 f q) 0 by omega), spC, if_neg (by omega), if_neg (fun r => by obtain ⟨z, z1, z2⟩ := anyF_t.mp r; exact hIi z (by omega) z2)]]⟩
                · refine x_iload C d_MD_takeLease_119 rfl ?_
                  refine x_iload C d_MD_takeLease_121 rfl ?_
                  refine xn_ishr C (lvh_lt _ _) (by omega) d_MD_takeLease_123 ?_
                  refine x_iconst C (v := nI 1) d_MD_takeLease_124 (by decide) ?_
                  refine xn_iand C (bt_shlt _ (lvh_lt _ _) _ (by omega)) (by decide) d_MD_takeLease_125 ?_
                  refine xn_if_eq C (Nat.lt_trans (bt_andlt _ (bt_shlt _ (lvh_lt _ _) _ (by omega)) _ (by decide)) (by decide)) 151 d_MD_takeLease_126 (by decide) (fun h126 => ?_) (fun h126 => ?_)
                  · refine x_lv [(0, .ref (g 143)), (1, .int (nI f)), (2, .int (nI q)), (3, .int (nI (τ 4 f q))), (4, .int (nI (lvh τ (τ 4 f q)))), (5, .int (nI j))] ⟨rfl, rfl, rfl, rfl, rfl, rfl, trivial⟩ ?_
                    refine xn_iinc C d_MD_takeLease_151 5 rfl (by decide) rfl ?_
                    refine x_goto C 113 d_MD_takeLease_154 (by decide) ?_
                    rw [bt_shr _ (lvh_lt _ _) j (by omega)] at h126
                    have hb : ¬ (lvh τ (τ 4 f q)).testBit j = true := fun r => by rw [if_pos r] at h126; omega
                    refine x_E (E' := EM a g (spL τ (lvh τ (τ 4 f q)) (τ 0 0 0) (τ 4 f q) (j + 1)) (spW v (lvh τ (τ 4 f q)) (τ 0 0 0) (τ 4 f q) (j + 1)) fc X) (by rw [spL, spW, if_neg hb, if_neg hb]) ?_
                    exact x_lv [(0, .ref (g 143)), (1, .int (nI f)), (2, .int (nI q)), (3, .int (nI (τ 4 f q))), (4, .int (nI (lvh τ (τ 4 f q)))), (5, .int (nI (j + 1)))] ⟨rfl, rfl, rfl, rfl, rfl, rfl, trivial⟩ (ihj (by omega) trivial)
                  · refine x_aload_n C d_MD_takeLease_129 rfl rfl ?_
                    refine x_bipush C (v := nI 30) d_MD_takeLease_130 (by decide) ?_
                    refine x_iload C d_MD_takeLease_132 rfl ?_
                    refine xn_imul C d_MD_takeLease_134 ?_
                    refine x_aload_n C d_MD_takeLease_135 rfl rfl ?_
                    refine g_MD_chunks C hn d_MD_takeLease_136 ?_
                    refine xn_iadd C d_MD_takeLease_139 ?_
                    refine x_bipush C (v := nI 30) d_MD_takeLease_140 (by decide) ?_
                    refine x_iload C d_MD_takeLease_142 rfl ?_
                    refine xn_imul C d_MD_takeLease_144 ?_
                    refine x_iload_n C d_MD_takeLease_145 rfl rfl ?_
                    refine xn_iadd C d_MD_takeLease_146 ?_
                    refine x_iconst C (v := nI 1) d_MD_takeLease_147 (by decide) ?_
                    refine c_MD_MD_place C (by omega) hn (m_MD_placeC htr hn (spL_B j (by omega) hB (fun i => Nat.lt_trans (hO.1 _ _ _) (by decide))) (by omega) (by rw [spL_o _ (show ¬ 0 = 11 ∧ ¬ 0 = 12 ∧ ¬ 0 = 13 by decide)]; exact hm) (by omega) hc30 (by decide) (Nat.le_refl _)) rfl rfl (Nat.le_of_ble_eq_true rfl) d_MD_takeLease_148 (fun v E' hp => ?_) (fun X E' hp => ?_)
                    · obtain ⟨rfl, hv⟩ := hp
                      cases hv
                      refine x_lv [(0, .ref (g 143)), (1, .int (nI f)), (2, .int (nI q)), (3, .int (nI (τ 4 f q))), (4, .int (nI (lvh τ (τ 4 f q)))), (5, .int (nI j))] ⟨rfl, rfl, rfl, rfl, rfl, rfl, trivial⟩ ?_
                      refine xn_iinc C d_MD_takeLease_151 5 rfl (by decide) rfl ?_
                      refine x_goto C 113 d_MD_takeLease_154 (by decide) ?_
                      rw [bt_shr _ (lvh_lt _ _) j (by omega)] at h126
                      have hb : (lvh τ (τ 4 f q)).testBit j = true := by by_cases r : (lvh τ (τ 4 f q)).testBit j = true; exact r; rw [if_neg r] at h126; exact absurd rfl h126
                      refine x_E (E' := EM a g (spL τ (lvh τ (τ 4 f q)) (τ 0 0 0) (τ 4 f q) (j + 1)) (spW v (lvh τ (τ 4 f q)) (τ 0 0 0) (τ 4 f q) (j + 1)) fc X) (by rw [spL_o _ (show ¬ 0 = 11 ∧ ¬ 0 = 12 ∧ ¬ 0 = 13 by decide), spW, if_pos hb]; exact EM_cg (fun t x y h7 h11 => by rw [spL, if_pos hb, alS, up3_n h11]) rfl) ?_
                      exact x_lv [(0, .ref (g 143)), (1, .int (nI f)), (2, .int (nI q)), (3, .int (nI (τ 4 f q))), (4, .int (nI (lvh τ (τ 4 f q)))), (5, .int (nI (j + 1)))] ⟨rfl, rfl, rfl, rfl, rfl, rfl, trivial⟩ (ihj (by omega) trivial)
                    · cases hp.2
              · refine x_iload C d_MD_takeLease_81 rfl ?_
                refine x_iload C d_MD_takeLease_83 rfl ?_
                refine xn_ishr C (lvh_lt _ _) (by omega) d_MD_takeLease_85 ?_
                refine x_iconst C (v := nI 1) d_MD_takeLease_86 (by decide) ?_
                refine xn_iand C (bt_shlt _ (lvh_lt _ _) _ (by omega)) (by decide) d_MD_takeLease_87 ?_
                refine xn_if_eq C (Nat.lt_trans (bt_andlt _ (bt_shlt _ (lvh_lt _ _) _ (by omega)) _ (by decide)) (by decide)) 104 d_MD_takeLease_88 (by decide) (fun h88 => ?_) (fun h88 => ?_)
                · refine x_lv [(0, .ref (g 143)), (1, .int (nI f)), (2, .int (nI q)), (3, .int (nI (τ 4 f q))), (4, .int (nI (lvh τ (τ 4 f q)))), (5, .int (nI i))] ⟨rfl, rfl, rfl, rfl, rfl, rfl, trivial⟩ ?_
                  refine xn_iinc C d_MD_takeLease_104 5 rfl (by decide) rfl ?_
                  refine x_goto C 75 d_MD_takeLease_107 (by decide) ?_
                  rw [bt_shr _ (lvh_lt _ _) i (by omega)] at h88
                  have hb : ¬ (lvh τ (τ 4 f q)).testBit i = true := fun r => by rw [if_pos r] at h88; omega
                  exact x_lv [(0, .ref (g 143)), (1, .int (nI f)), (2, .int (nI q)), (3, .int (nI (τ 4 f q))), (4, .int (nI (lvh τ (τ 4 f q)))), (5, .int (nI (i + 1)))] ⟨rfl, rfl, rfl, rfl, rfl, rfl, trivial⟩ (ihi (by omega) (all_succ hIi (fun r => hb r.1)))
                · refine x_aload_n C d_MD_takeLease_91 rfl rfl ?_
                  refine x_iload C d_MD_takeLease_92 rfl ?_
                  refine c_MD_MD_loadOf C (by omega) hn (m_MD_loadOf htr hn hB (by omega) (Nat.le_refl _)) rfl rfl (Nat.le_of_ble_eq_true rfl) d_MD_takeLease_94 (fun v E' hp => ?_) (fun X E' hp => ?_)
                  · obtain ⟨rfl, hv⟩ := hp
                    cases hv
                    rw [← hcv _ (by omega)]
                    refine x_bipush C (v := nI 12) d_MD_takeLease_97 (by decide) ?_
                    refine xn_icmp_ne C (Nat.lt_trans (hB 11 _ 0) (by decide)) (by decide) 104 d_MD_takeLease_99 (by decide) (fun h99 => ?_) (fun h99 => ?_)
                    · refine x_lv [(0, .ref (g 143)), (1, .int (nI f)), (2, .int (nI q)), (3, .int (nI (τ 4 f q))), (4, .int (nI (lvh τ (τ 4 f q)))), (5, .int (nI i))] ⟨rfl, rfl, rfl, rfl, rfl, rfl, trivial⟩ ?_
                      refine xn_iinc C d_MD_takeLease_104 5 rfl (by decide) rfl ?_
                      refine x_goto C 75 d_MD_takeLease_107 (by decide) ?_
                      exact x_lv [(0, .ref (g 143)), (1, .int (nI f)), (2, .int (nI q)), (3, .int (nI (τ 4 f q))), (4, .int (nI (lvh τ (τ 4 f q)))), (5, .int (nI (i + 1)))] ⟨rfl, rfl, rfl, rfl, rfl, rfl, trivial⟩ (ihi (by omega) (all_succ hIi (fun r => by have := r.2; have := (hI.cnt i (by omega)).2; omega)))
                    · refine x_iconst C (v := nI 4) d_MD_takeLease_102 (by decide) ?_
                      exact x_iret C hret d_MD_takeLease_103 ⟨by rw [show lsC τ (τ 4 f q) = 4 by rw [lsC, if_neg (show ¬ lsK τ (τ 4 f q) = true by simp only [lsK, decide_eq_true_eq]; omega), if_neg h47, if_pos (show 2 ≤ τ 7 (τ 4 f q) 0 by omega), spC, if_neg (by omega), if_pos (anyF_t.mpr ⟨i, by omega, (by rw [bt_shr _ (lvh_lt _ _) i (by omega)] at h88; by_cases r : (lvh τ (τ 4 f q)).testBit i = true; exact r; rw [if_neg r] at h88; exact absurd rfl h88), by omega⟩)], if_neg (by decide), if_neg (by decide)], by rw [show lsC τ (τ 4 f q) = 4 by rw [lsC, if_neg (show ¬ lsK τ (τ 4 f q) = true by simp only [lsK, decide_eq_true_eq]; omega), if_neg h47, if_pos (show 2 ≤ τ 7 (τ 4 f q) 0 by omega), spC, if_neg (by omega), if_pos (anyF_t.mpr ⟨i, by omega, (by rw [bt_shr _ (lvh_lt _ _) i (by omega)] at h88; by_cases r : (lvh τ (τ 4 f q)).testBit i = true; exact r; rw [if_neg r] at h88; exact absurd rfl h88), by omega⟩)]]⟩
                  · cases hp.2
            · refine x_iconst C (v := nI 5) d_MD_takeLease_70 (by decide) ?_
              exact x_iret C hret d_MD_takeLease_71 ⟨by rw [show lsC τ (τ 4 f q) = 5 by rw [lsC, if_neg (show ¬ lsK τ (τ 4 f q) = true by simp only [lsK, decide_eq_true_eq]; omega), if_neg h47, if_pos (show 2 ≤ τ 7 (τ 4 f q) 0 by omega), spC, if_pos (by omega)], if_neg (by decide), if_neg (by decide)], by rw [show lsC τ (τ 4 f q) = 5 by rw [lsC, if_neg (show ¬ lsK τ (τ 4 f q) = true by simp only [lsK, decide_eq_true_eq]; omega), if_neg h47, if_pos (show 2 ≤ τ 7 (τ 4 f q) 0 by omega), spC, if_pos (by omega)]]⟩
        · cases hp.2
      · refine x_iconst C (v := nI 3) d_MD_takeLease_50 (by decide) ?_
        exact x_iret C hret d_MD_takeLease_51 ⟨by rw [show lsC τ (τ 4 f q) = 3 by rw [lsC, if_neg (show ¬ lsK τ (τ 4 f q) = true by simp only [lsK, decide_eq_true_eq]; omega), if_pos h47], if_neg (by decide), if_neg (by decide)], by rw [show lsC τ (τ 4 f q) = 3 by rw [lsC, if_neg (show ¬ lsK τ (τ 4 f q) = true by simp only [lsK, decide_eq_true_eq]; omega), if_pos h47]]⟩
    · have h29 := cmpE_nle h29
      refine x_iload C d_MD_takeLease_32 rfl ?_
      refine x_aload_n C d_MD_takeLease_34 rfl rfl ?_
      refine g_MD_holders C hn d_MD_takeLease_35 ?_
      refine x_iload_n C d_MD_takeLease_38 rfl rfl ?_
      refine e_mholders C hc30 hn d_MD_takeLease_39 ?_
      refine xn_icmp_ne C (Nat.lt_trans (lvh_lt _ _) (by decide)) (Nat.lt_trans (hB 8 (τ 4 f q) 0) (by decide)) 45 d_MD_takeLease_40 (by decide) (fun h40 => ?_) (fun h40 => ?_)
      · refine x_iload C d_MD_takeLease_45 rfl ?_
        refine xn_if_ne C (Nat.lt_trans (lvh_lt _ _) (by decide)) 52 d_MD_takeLease_47 (by decide) (fun h47 => ?_) (fun h47 => ?_)
        · refine x_aload_n C d_MD_takeLease_52 rfl rfl ?_
          refine x_iload_n C d_MD_takeLease_53 rfl rfl ?_
          refine c_MD_MD_refs C (by omega) hn (m_MD_refs htr hn hB (Nat.lt_trans (hB 4 f q) (by decide)) (Nat.le_refl _)) rfl rfl (Nat.le_of_ble_eq_true rfl) d_MD_takeLease_54 (fun v E' hp => ?_) (fun X E' hp => ?_)
          · obtain ⟨rfl, hv⟩ := hp
            cases hv
            rw [← hI.refs _ hc30]
            refine x_iconst C (v := nI 1) d_MD_takeLease_57 (by decide) ?_
            refine xn_icmp_le C (Nat.lt_trans (hB _ _ _) (by decide)) (by decide) 210 d_MD_takeLease_58 (by decide) (fun h58 => ?_) (fun h58 => ?_)
            · refine x_aload_n C d_MD_takeLease_210 rfl rfl ?_
              refine g_MD_version C hn d_MD_takeLease_211 ?_
              refine x_iload_n C d_MD_takeLease_214 rfl rfl ?_
              refine x_dup2 C d_MD_takeLease_215 rfl rfl ?_
              refine e_mversion C hc30 hn d_MD_takeLease_216 ?_
              refine x_iconst C (v := nI 1) d_MD_takeLease_217 (by decide) ?_
              refine xn_iadd C d_MD_takeLease_218 ?_
              refine a_mversion C hc30 hn d_MD_takeLease_219 ?_
              refine x_aload_n C d_MD_takeLease_220 rfl rfl ?_
              refine g_MD_holders C hn d_MD_takeLease_221 ?_
              refine x_iload_n C d_MD_takeLease_224 rfl rfl ?_
              refine x_iload C d_MD_takeLease_225 rfl ?_
              refine a_mholders C hc30 hn d_MD_takeLease_227 ?_
              refine x_iconst C (v := nI 0) d_MD_takeLease_228 (by decide) ?_
              refine x_istore C d_MD_takeLease_229 (by decide) rfl ?_
              refine x_loop 5 (fun j => EM a g (rvL (up3 (up3 τ 6 (τ 4 f q) 0 (τ 6 (τ 4 f q) 0 + 1)) 8 (τ 4 f q) 0 (lvh τ (τ 4 f q))) (τ 4 f q) (lvh τ (τ 4 f q)) (τ 6 (τ 4 f q) 0 + 1) j) v fc X) (fun j => [(0, .ref (g 143)), (1, .int (nI f)), (2, .int (nI q)), (3, .int (nI (τ 4 f q))), (4, .int (nI (lvh τ (τ 4 f q)))), (5, .int (nI j))]) (fun j => True) rfl ⟨rfl, rfl, rfl, rfl, rfl, rfl, trivial⟩ trivial ?_
              intro j hj hIj ihj
              refine x_iload C d_MD_takeLease_231 rfl ?_
              refine x_iconst C (v := nI 5) d_MD_takeLease_233 (by decide) ?_
              refine xn_icmp_ge C (by omega) (by decide) 271 d_MD_takeLease_234 (by decide) (fun h234 => ?_) (fun h234 => ?_)
              · refine x_aload_n C d_MD_takeLease_271 rfl rfl ?_
                refine g_MD_lease C hn d_MD_takeLease_272 ?_
                refine x_iload_n C d_MD_takeLease_275 rfl rfl ?_
                refine x_aload_n C d_MD_takeLease_276 rfl rfl ?_
                refine g_MD_time C hn d_MD_takeLease_277 ?_
                refine x_ldc2d C kw697 d_MD_takeLease_280 ?_
                refine x_topd (show _ = dT 80 from dT_80i.symm) ?_
                refine xn_dadd C (by simp only [up3_n (show ¬ 1 = 6 by decide), up3_n (show ¬ 1 = 8 by decide), up3_n (show ¬ 1 = 4 by decide), up3_n (show ¬ 1 = 0 by decide), spL_o _ (show ¬ 1 = 11 ∧ ¬ 1 = 12 ∧ ¬ 1 = 13 by decide), rvL_at, show ¬ (1 : Nat) = 12 by decide, false_and, and_false, if_false]; have := hB 1 0 0; omega) d_MD_takeLease_283 ?_
                refine a_mlease C hc30 (by omega) hn d_MD_takeLease_284 ?_
                refine x_iconst C (v := nI 0) d_MD_takeLease_285 (by decide) ?_
                exact x_iret C hret d_MD_takeLease_286 ⟨by rw [show lsC τ (τ 4 f q) = 0 by rw [lsC, if_neg (show ¬ lsK τ (τ 4 f q) = true by simp only [lsK, decide_eq_true_eq]; omega), if_neg h47, if_neg (show ¬ 2 ≤ τ 7 (τ 4 f q) 0 by omega)], if_pos rfl, if_pos rfl, lsS, lsW, if_neg (show ¬ lsK τ (τ 4 f q) = true by simp only [lsK, decide_eq_true_eq]; omega), if_neg (show ¬ lsK τ (τ 4 f q) = true by simp only [lsK, decide_eq_true_eq]; omega), if_neg (show ¬ 2 ≤ τ 7 (τ 4 f q) 0 by omega), if_neg (show ¬ 2 ≤ τ 7 (τ 4 f q) 0 by omega), show j = 5 by omega, ← rvS, rvS_1 (show ¬ 1 = 12 ∧ ¬ 1 = 6 ∧ ¬ 1 = 8 by decide)], by rw [show lsC τ (τ 4 f q) = 0 by rw [lsC, if_neg (show ¬ lsK τ (τ 4 f q) = true by simp only [lsK, decide_eq_true_eq]; omega), if_neg h47, if_neg (show ¬ 2 ≤ τ 7 (τ 4 f q) 0 by omega)]]⟩
              · refine x_iload C d_MD_takeLease_237 rfl ?_
                refine x_iload C d_MD_takeLease_239 rfl ?_
                refine xn_ishr C (lvh_lt _ _) (by omega) d_MD_takeLease_241 ?_
                refine x_iconst C (v := nI 1) d_MD_takeLease_242 (by decide) ?_
                refine xn_iand C (bt_shlt _ (lvh_lt _ _) _ (by omega)) (by decide) d_MD_takeLease_243 ?_
                refine xn_if_eq C (Nat.lt_trans (bt_andlt _ (bt_shlt _ (lvh_lt _ _) _ (by omega)) _ (by decide)) (by decide)) 265 d_MD_takeLease_244 (by decide) (fun h244 => ?_) (fun h244 => ?_)
                · refine x_lv [(0, .ref (g 143)), (1, .int (nI f)), (2, .int (nI q)), (3, .int (nI (τ 4 f q))), (4, .int (nI (lvh τ (τ 4 f q)))), (5, .int (nI j))] ⟨rfl, rfl, rfl, rfl, rfl, rfl, trivial⟩ ?_
                  refine xn_iinc C d_MD_takeLease_265 5 rfl (by decide) rfl ?_
                  refine x_goto C 231 d_MD_takeLease_268 (by decide) ?_
                  rw [bt_shr _ (lvh_lt _ _) j (by omega)] at h244
                  have hb : ¬ (lvh τ (τ 4 f q)).testBit j = true := fun r => by rw [if_pos r] at h244; omega
                  refine x_E (E' := EM a g (rvL (up3 (up3 τ 6 (τ 4 f q) 0 (τ 6 (τ 4 f q) 0 + 1)) 8 (τ 4 f q) 0 (lvh τ (τ 4 f q))) (τ 4 f q) (lvh τ (τ 4 f q)) (τ 6 (τ 4 f q) 0 + 1) (j + 1)) v fc X) (by rw [rvL, if_neg hb]) ?_
                  exact x_lv [(0, .ref (g 143)), (1, .int (nI f)), (2, .int (nI q)), (3, .int (nI (τ 4 f q))), (4, .int (nI (lvh τ (τ 4 f q)))), (5, .int (nI (j + 1)))] ⟨rfl, rfl, rfl, rfl, rfl, rfl, trivial⟩ (ihj (by omega) trivial)
                · refine x_aload_n C d_MD_takeLease_247 rfl rfl ?_
                  refine g_MD_replica C hn d_MD_takeLease_248 ?_
                  refine x_bipush C (v := nI 30) d_MD_takeLease_251 (by decide) ?_
                  refine x_iload C d_MD_takeLease_253 rfl ?_
                  refine xn_imul C d_MD_takeLease_255 ?_
                  refine x_iload_n C d_MD_takeLease_256 rfl rfl ?_
                  refine xn_iadd C d_MD_takeLease_257 ?_
                  refine x_aload_n C d_MD_takeLease_258 rfl rfl ?_
                  refine g_MD_version C hn d_MD_takeLease_259 ?_
                  refine x_iload_n C d_MD_takeLease_262 rfl rfl ?_
                  refine e_mversion C hc30 hn d_MD_takeLease_263 ?_
                  refine a_mreplica C (by omega) hc30 hn d_MD_takeLease_264 ?_
                  refine x_lv [(0, .ref (g 143)), (1, .int (nI f)), (2, .int (nI q)), (3, .int (nI (τ 4 f q))), (4, .int (nI (lvh τ (τ 4 f q)))), (5, .int (nI j))] ⟨rfl, rfl, rfl, rfl, rfl, rfl, trivial⟩ ?_
                  refine xn_iinc C d_MD_takeLease_265 5 rfl (by decide) rfl ?_
                  refine x_goto C 231 d_MD_takeLease_268 (by decide) ?_
                  rw [bt_shr _ (lvh_lt _ _) j (by omega)] at h244
                  have hb : (lvh τ (τ 4 f q)).testBit j = true := by by_cases r : (lvh τ (τ 4 f q)).testBit j = true; exact r; rw [if_neg r] at h244; exact absurd rfl h244
                  refine x_E (E' := EM a g (rvL (up3 (up3 τ 6 (τ 4 f q) 0 (τ 6 (τ 4 f q) 0 + 1)) 8 (τ 4 f q) 0 (lvh τ (τ 4 f q))) (τ 4 f q) (lvh τ (τ 4 f q)) (τ 6 (τ 4 f q) 0 + 1) (j + 1)) v fc X) (by rw [rvL, if_pos hb, rvL_at, if_neg (by omega), up3_n (by decide), up3_s]) ?_
                  exact x_lv [(0, .ref (g 143)), (1, .int (nI f)), (2, .int (nI q)), (3, .int (nI (τ 4 f q))), (4, .int (nI (lvh τ (τ 4 f q)))), (5, .int (nI (j + 1)))] ⟨rfl, rfl, rfl, rfl, rfl, rfl, trivial⟩ (ihj (by omega) trivial)
            · refine x_aload_n C d_MD_takeLease_61 rfl rfl ?_
              refine g_MD_chunks C hn d_MD_takeLease_62 ?_
              refine x_bipush C (v := nI 30) d_MD_takeLease_65 (by decide) ?_
              refine xn_icmp_ne C (Nat.lt_trans (hB 0 0 0) (by decide)) (by decide) 72 d_MD_takeLease_67 (by decide) (fun h67 => ?_) (fun h67 => ?_)
              · have hm : τ 0 0 0 < 30 := by omega
                refine x_iconst C (v := nI 0) d_MD_takeLease_72 (by decide) ?_
                refine x_istore C d_MD_takeLease_73 (by decide) rfl ?_
                refine x_loop 5 (fun i => EM a g τ v fc X) (fun i => [(0, .ref (g 143)), (1, .int (nI f)), (2, .int (nI q)), (3, .int (nI (τ 4 f q))), (4, .int (nI (lvh τ (τ 4 f q)))), (5, .int (nI i))]) (fun i => ∀ j, j < i → ¬ ((lvh τ (τ 4 f q)).testBit j = true ∧ 12 ≤ τ 11 j 0)) rfl ⟨rfl, rfl, rfl, rfl, rfl, rfl, trivial⟩ (fun j hj => absurd hj (Nat.not_lt_zero j)) ?_
                intro i hi hIi ihi
                refine x_iload C d_MD_takeLease_75 rfl ?_
                refine x_iconst C (v := nI 5) d_MD_takeLease_77 (by decide) ?_
                refine xn_icmp_ge C (by omega) (by decide) 110 d_MD_takeLease_78 (by decide) (fun h78 => ?_) (fun h78 => ?_)
                · refine x_iconst C (v := nI 0) d_MD_takeLease_110 (by decide) ?_
                  refine x_istore C d_MD_takeLease_111 (by decide) rfl ?_
                  refine x_loop 5 (fun j => EM a g (spL τ (lvh τ (τ 4 f q)) (τ 0 0 0) (τ 4 f q) j) (spW v (lvh τ (τ 4 f q)) (τ 0 0 0) (τ 4 f q) j) fc X) (fun j => [(0, .ref (g 143)), (1, .int (nI f)), (2, .int (nI q)), (3, .int (nI (τ 4 f q))), (4, .int (nI (lvh τ (τ 4 f q)))), (5, .int (nI j))]) (fun j => True) rfl ⟨rfl, rfl, rfl, rfl, rfl, rfl, trivial⟩ trivial ?_
                  intro j hj hIj ihj
                  refine x_iload C d_MD_takeLease_113 rfl ?_
                  refine x_iconst C (v := nI 5) d_MD_takeLease_115 (by decide) ?_
                  refine xn_icmp_ge C (by omega) (by decide) 157 d_MD_takeLease_116 (by decide) (fun h116 => ?_) (fun h116 => ?_)
                  · refine x_aload_n C d_MD_takeLease_157 rfl rfl ?_
                    refine g_MD_version C hn d_MD_takeLease_158 ?_
                    refine x_aload_n C d_MD_takeLease_161 rfl rfl ?_
                    refine g_MD_chunks C hn d_MD_takeLease_162 ?_
                    refine x_iconst C (v := nI 1) d_MD_takeLease_165 (by decide) ?_
                    refine a_mversion C (by simp only [up3_n (show ¬ 0 = 6 by decide), spL_o _ (show ¬ 0 = 11 ∧ ¬ 0 = 12 ∧ ¬ 0 = 13 by decide)]; exact hm) hn d_MD_takeLease_166 ?_
                    refine x_aload_n C d_MD_takeLease_167 rfl rfl ?_
                    refine g_MD_holders C hn d_MD_takeLease_168 ?_
                    refine x_aload_n C d_MD_takeLease_171 rfl rfl ?_
                    refine g_MD_chunks C hn d_MD_takeLease_172 ?_
                    refine x_iload C d_MD_takeLease_175 rfl ?_
                    refine a_mholders C (by simp only [up3_n (show ¬ 0 = 6 by decide), spL_o _ (show ¬ 0 = 11 ∧ ¬ 0 = 12 ∧ ¬ 0 = 13 by decide)]; exact hm) hn d_MD_takeLease_177 ?_
                    refine x_aload_n C d_MD_takeLease_178 rfl rfl ?_
                    refine g_MD_row C hn d_MD_takeLease_179 ?_
                    refine x_iconst C (v := nI 3) d_MD_takeLease_182 (by decide) ?_
                    refine x_iload_n C d_MD_takeLease_183 rfl rfl ?_
                    refine xn_imul C d_MD_takeLease_184 ?_
                    refine x_iload_n C d_MD_takeLease_185 rfl rfl ?_
                    refine xn_iadd C d_MD_takeLease_186 ?_
                    refine x_aload_n C d_MD_takeLease_187 rfl rfl ?_
                    refine g_MD_chunks C hn d_MD_takeLease_188 ?_
                    refine a_mrow C hf hq hn d_MD_takeLease_191 ?_
                    refine x_aload_n C d_MD_takeLease_192 rfl rfl ?_
                    refine g_MD_chunks C hn d_MD_takeLease_193 ?_
                    refine x_istore_n C d_MD_takeLease_196 rfl (by decide) rfl ?_
                    refine x_aload_n C d_MD_takeLease_197 rfl rfl ?_
                    refine x_dup C d_MD_takeLease_198 rfl ?_
                    refine g_MD_chunks C hn d_MD_takeLease_199 ?_
                    refine x_iconst C (v := nI 1) d_MD_takeLease_202 (by decide) ?_
                    refine xn_iadd C d_MD_takeLease_203 ?_
                    refine p_MD_chunks C hn d_MD_takeLease_204 ?_
                    refine x_goto C 271 d_MD_takeLease_207 (by decide) ?_
                    refine x_aload_n C d_MD_takeLease_271 rfl rfl ?_
                    refine g_MD_lease C hn d_MD_takeLease_272 ?_
                    refine x_iload_n C d_MD_takeLease_275 rfl rfl ?_
                    refine x_aload_n C d_MD_takeLease_276 rfl rfl ?_
                    refine g_MD_time C hn d_MD_takeLease_277 ?_
                    refine x_ldc2d C kw697 d_MD_takeLease_280 ?_
                    refine x_topd (show _ = dT 80 from dT_80i.symm) ?_
                    refine xn_dadd C (by simp only [up3_n (show ¬ 1 = 6 by decide), up3_n (show ¬ 1 = 8 by decide), up3_n (show ¬ 1 = 4 by decide), up3_n (show ¬ 1 = 0 by decide), spL_o _ (show ¬ 1 = 11 ∧ ¬ 1 = 12 ∧ ¬ 1 = 13 by decide), rvL_at, show ¬ (1 : Nat) = 12 by decide, false_and, and_false, if_false]; have := hB 1 0 0; omega) d_MD_takeLease_283 ?_
                    refine a_mlease C (by simp only [up3_n (show ¬ 0 = 6 by decide), up3_n (show ¬ 0 = 8 by decide), up3_n (show ¬ 0 = 4 by decide), spL_o _ (show ¬ 0 = 11 ∧ ¬ 0 = 12 ∧ ¬ 0 = 13 by decide)]; exact hm) (by omega) hn d_MD_takeLease_284 ?_
                    refine x_iconst C (v := nI 0) d_MD_takeLease_285 (by decide) ?_
                    exact x_iret C hret d_MD_takeLease_286 ⟨by rw [show lsC τ (τ 4 f q) = 0 by rw [lsC, if_neg (show ¬ lsK τ (τ 4 f q) = true by simp only [lsK, decide_eq_true_eq]; omega), if_neg h47, if_pos (show 2 ≤ τ 7 (τ 4 f q) 0 by omega), spC, if_neg (by omega), if_neg (fun r => by obtain ⟨z, z1, z2⟩ := anyF_t.mp r; exact hIi z (by omega) z2)], if_pos rfl, if_pos rfl, lsS, lsW, if_neg (show ¬ lsK τ (τ 4 f q) = true by simp only [lsK, decide_eq_true_eq]; omega), if_neg (show ¬ lsK τ (τ 4 f q) = true by simp only [lsK, decide_eq_true_eq]; omega), if_pos (show 2 ≤ τ 7 (τ 4 f q) 0 by omega), if_pos (show 2 ≤ τ 7 (τ 4 f q) 0 by omega), show j = 5 by omega]; simp only [up3_n (show ¬ 0 = 6 by decide), up3_n (show ¬ 0 = 8 by decide), up3_n (show ¬ 0 = 4 by decide), up3_n (show ¬ 1 = 6 by decide), up3_n (show ¬ 1 = 8 by decide), up3_n (show ¬ 1 = 4 by decide), up3_n (show ¬ 1 = 0 by decide), spL_o _ (show ¬ 0 = 11 ∧ ¬ 0 = 12 ∧ ¬ 0 = 13 by decide), spL_o _ (show ¬ 1 = 11 ∧ ¬ 1 = 12 ∧ ¬ 1 = 13 by decide)]; exact EM_cg (tl_fin (by omega)) rfl, by rw [show lsC τ (τ 4 f q) = 0 by rw [lsC, if_neg (show ¬ lsK τ (τ 4 f q) = true by simp only [lsK, decide_eq_true_eq]; omega), if_neg h47, if_pos (show 2 ≤ τ 7 (τ 4 f q) 0 by omega), spC, if_neg (by omega), if_neg (fun r => by obtain ⟨z, z1, z2⟩ := anyF_t.mp r; exact hIi z (by omega) z2)]]⟩
                  · refine x_iload C d_MD_takeLease_119 rfl ?_
                    refine x_iload C d_MD_takeLease_121 rfl ?_
                    refine xn_ishr C (lvh_lt _ _) (by omega) d_MD_takeLease_123 ?_
                    refine x_iconst C (v := nI 1) d_MD_takeLease_124 (by decide) ?_
                    refine xn_iand C (bt_shlt _ (lvh_lt _ _) _ (by omega)) (by decide) d_MD_takeLease_125 ?_
                    refine xn_if_eq C (Nat.lt_trans (bt_andlt _ (bt_shlt _ (lvh_lt _ _) _ (by omega)) _ (by decide)) (by decide)) 151 d_MD_takeLease_126 (by decide) (fun h126 => ?_) (fun h126 => ?_)
                    · refine x_lv [(0, .ref (g 143)), (1, .int (nI f)), (2, .int (nI q)), (3, .int (nI (τ 4 f q))), (4, .int (nI (lvh τ (τ 4 f q)))), (5, .int (nI j))] ⟨rfl, rfl, rfl, rfl, rfl, rfl, trivial⟩ ?_
                      refine xn_iinc C d_MD_takeLease_151 5 rfl (by decide) rfl ?_
                      refine x_goto C 113 d_MD_takeLease_154 (by decide) ?_
                      rw [bt_shr _ (lvh_lt _ _) j (by omega)] at h126
                      have hb : ¬ (lvh τ (τ 4 f q)).testBit j = true := fun r => by rw [if_pos r] at h126; omega
                      refine x_E (E' := EM a g (spL τ (lvh τ (τ 4 f q)) (τ 0 0 0) (τ 4 f q) (j + 1)) (spW v (lvh τ (τ 4 f q)) (τ 0 0 0) (τ 4 f q) (j + 1)) fc X) (by rw [spL, spW, if_neg hb, if_neg hb]) ?_
                      exact x_lv [(0, .ref (g 143)), (1, .int (nI f)), (2, .int (nI q)), (3, .int (nI (τ 4 f q))), (4, .int (nI (lvh τ (τ 4 f q)))), (5, .int (nI (j + 1)))] ⟨rfl, rfl, rfl, rfl, rfl, rfl, trivial⟩ (ihj (by omega) trivial)
                    · refine x_aload_n C d_MD_takeLease_129 rfl rfl ?_
                      refine x_bipush C (v := nI 30) d_MD_takeLease_130 (by decide) ?_
                      refine x_iload C d_MD_takeLease_132 rfl ?_
                      refine xn_imul C d_MD_takeLease_134 ?_
                      refine x_aload_n C d_MD_takeLease_135 rfl rfl ?_
                      refine g_MD_chunks C hn d_MD_takeLease_136 ?_
                      refine xn_iadd C d_MD_takeLease_139 ?_
                      refine x_bipush C (v := nI 30) d_MD_takeLease_140 (by decide) ?_
                      refine x_iload C d_MD_takeLease_142 rfl ?_
                      refine xn_imul C d_MD_takeLease_144 ?_
                      refine x_iload_n C d_MD_takeLease_145 rfl rfl ?_
                      refine xn_iadd C d_MD_takeLease_146 ?_
                      refine x_iconst C (v := nI 1) d_MD_takeLease_147 (by decide) ?_
                      refine c_MD_MD_place C (by omega) hn (m_MD_placeC htr hn (spL_B j (by omega) hB (fun i => Nat.lt_trans (hO.1 _ _ _) (by decide))) (by omega) (by rw [spL_o _ (show ¬ 0 = 11 ∧ ¬ 0 = 12 ∧ ¬ 0 = 13 by decide)]; exact hm) (by omega) hc30 (by decide) (Nat.le_refl _)) rfl rfl (Nat.le_of_ble_eq_true rfl) d_MD_takeLease_148 (fun v E' hp => ?_) (fun X E' hp => ?_)
                      · obtain ⟨rfl, hv⟩ := hp
                        cases hv
                        refine x_lv [(0, .ref (g 143)), (1, .int (nI f)), (2, .int (nI q)), (3, .int (nI (τ 4 f q))), (4, .int (nI (lvh τ (τ 4 f q)))), (5, .int (nI j))] ⟨rfl, rfl, rfl, rfl, rfl, rfl, trivial⟩ ?_
                        refine xn_iinc C d_MD_takeLease_151 5 rfl (by decide) rfl ?_
                        refine x_goto C 113 d_MD_takeLease_154 (by decide) ?_
                        rw [bt_shr _ (lvh_lt _ _) j (by omega)] at h126
                        have hb : (lvh τ (τ 4 f q)).testBit j = true := by by_cases r : (lvh τ (τ 4 f q)).testBit j = true; exact r; rw [if_neg r] at h126; exact absurd rfl h126
                        refine x_E (E' := EM a g (spL τ (lvh τ (τ 4 f q)) (τ 0 0 0) (τ 4 f q) (j + 1)) (spW v (lvh τ (τ 4 f q)) (τ 0 0 0) (τ 4 f q) (j + 1)) fc X) (by rw [spL_o _ (show ¬ 0 = 11 ∧ ¬ 0 = 12 ∧ ¬ 0 = 13 by decide), spW, if_pos hb]; exact EM_cg (fun t x y h7 h11 => by rw [spL, if_pos hb, alS, up3_n h11]) rfl) ?_
                        exact x_lv [(0, .ref (g 143)), (1, .int (nI f)), (2, .int (nI q)), (3, .int (nI (τ 4 f q))), (4, .int (nI (lvh τ (τ 4 f q)))), (5, .int (nI (j + 1)))] ⟨rfl, rfl, rfl, rfl, rfl, rfl, trivial⟩ (ihj (by omega) trivial)
                      · cases hp.2
                · refine x_iload C d_MD_takeLease_81 rfl ?_
                  refine x_iload C d_MD_takeLease_83 rfl ?_
                  refine xn_ishr C (lvh_lt _ _) (by omega) d_MD_takeLease_85 ?_
                  refine x_iconst C (v := nI 1) d_MD_takeLease_86 (by decide) ?_
                  refine xn_iand C (bt_shlt _ (lvh_lt _ _) _ (by omega)) (by decide) d_MD_takeLease_87 ?_
                  refine xn_if_eq C (Nat.lt_trans (bt_andlt _ (bt_shlt _ (lvh_lt _ _) _ (by omega)) _ (by decide)) (by decide)) 104 d_MD_takeLease_88 (by decide) (fun h88 => ?_) (fun h88 => ?_)
                  · refine x_lv [(0, .ref (g 143)), (1, .int (nI f)), (2, .int (nI q)), (3, .int (nI (τ 4 f q))), (4, .int (nI (lvh τ (τ 4 f q)))), (5, .int (nI i))] ⟨rfl, rfl, rfl, rfl, rfl, rfl, trivial⟩ ?_
                    refine xn_iinc C d_MD_takeLease_104 5 rfl (by decide) rfl ?_
                    refine x_goto C 75 d_MD_takeLease_107 (by decide) ?_
                    rw [bt_shr _ (lvh_lt _ _) i (by omega)] at h88
                    have hb : ¬ (lvh τ (τ 4 f q)).testBit i = true := fun r => by rw [if_pos r] at h88; omega
                    exact x_lv [(0, .ref (g 143)), (1, .int (nI f)), (2, .int (nI q)), (3, .int (nI (τ 4 f q))), (4, .int (nI (lvh τ (τ 4 f q)))), (5, .int (nI (i + 1)))] ⟨rfl, rfl, rfl, rfl, rfl, rfl, trivial⟩ (ihi (by omega) (all_succ hIi (fun r => hb r.1)))
                  · refine x_aload_n C d_MD_takeLease_91 rfl rfl ?_
                    refine x_iload C d_MD_takeLease_92 rfl ?_
                    refine c_MD_MD_loadOf C (by omega) hn (m_MD_loadOf htr hn hB (by omega) (Nat.le_refl _)) rfl rfl (Nat.le_of_ble_eq_true rfl) d_MD_takeLease_94 (fun v E' hp => ?_) (fun X E' hp => ?_)
                    · obtain ⟨rfl, hv⟩ := hp
                      cases hv
                      rw [← hcv _ (by omega)]
                      refine x_bipush C (v := nI 12) d_MD_takeLease_97 (by decide) ?_
                      refine xn_icmp_ne C (Nat.lt_trans (hB 11 _ 0) (by decide)) (by decide) 104 d_MD_takeLease_99 (by decide) (fun h99 => ?_) (fun h99 => ?_)
                      · refine x_lv [(0, .ref (g 143)), (1, .int (nI f)), (2, .int (nI q)), (3, .int (nI (τ 4 f q))), (4, .int (nI (lvh τ (τ 4 f q)))), (5, .int (nI i))] ⟨rfl, rfl, rfl, rfl, rfl, rfl, trivial⟩ ?_
                        refine xn_iinc C d_MD_takeLease_104 5 rfl (by decide) rfl ?_
                        refine x_goto C 75 d_MD_takeLease_107 (by decide) ?_
                        exact x_lv [(0, .ref (g 143)), (1, .int (nI f)), (2, .int (nI q)), (3, .int (nI (τ 4 f q))), (4, .int (nI (lvh τ (τ 4 f q)))), (5, .int (nI (i + 1)))] ⟨rfl, rfl, rfl, rfl, rfl, rfl, trivial⟩ (ihi (by omega) (all_succ hIi (fun r => by have := r.2; have := (hI.cnt i (by omega)).2; omega)))
                      · refine x_iconst C (v := nI 4) d_MD_takeLease_102 (by decide) ?_
                        exact x_iret C hret d_MD_takeLease_103 ⟨by rw [show lsC τ (τ 4 f q) = 4 by rw [lsC, if_neg (show ¬ lsK τ (τ 4 f q) = true by simp only [lsK, decide_eq_true_eq]; omega), if_neg h47, if_pos (show 2 ≤ τ 7 (τ 4 f q) 0 by omega), spC, if_neg (by omega), if_pos (anyF_t.mpr ⟨i, by omega, (by rw [bt_shr _ (lvh_lt _ _) i (by omega)] at h88; by_cases r : (lvh τ (τ 4 f q)).testBit i = true; exact r; rw [if_neg r] at h88; exact absurd rfl h88), by omega⟩)], if_neg (by decide), if_neg (by decide)], by rw [show lsC τ (τ 4 f q) = 4 by rw [lsC, if_neg (show ¬ lsK τ (τ 4 f q) = true by simp only [lsK, decide_eq_true_eq]; omega), if_neg h47, if_pos (show 2 ≤ τ 7 (τ 4 f q) 0 by omega), spC, if_neg (by omega), if_pos (anyF_t.mpr ⟨i, by omega, (by rw [bt_shr _ (lvh_lt _ _) i (by omega)] at h88; by_cases r : (lvh τ (τ 4 f q)).testBit i = true; exact r; rw [if_neg r] at h88; exact absurd rfl h88), by omega⟩)]]⟩
                    · cases hp.2
              · refine x_iconst C (v := nI 5) d_MD_takeLease_70 (by decide) ?_
                exact x_iret C hret d_MD_takeLease_71 ⟨by rw [show lsC τ (τ 4 f q) = 5 by rw [lsC, if_neg (show ¬ lsK τ (τ 4 f q) = true by simp only [lsK, decide_eq_true_eq]; omega), if_neg h47, if_pos (show 2 ≤ τ 7 (τ 4 f q) 0 by omega), spC, if_pos (by omega)], if_neg (by decide), if_neg (by decide)], by rw [show lsC τ (τ 4 f q) = 5 by rw [lsC, if_neg (show ¬ lsK τ (τ 4 f q) = true by simp only [lsK, decide_eq_true_eq]; omega), if_neg h47, if_pos (show 2 ≤ τ 7 (τ 4 f q) 0 by omega), spC, if_pos (by omega)]]⟩
          · cases hp.2
        · refine x_iconst C (v := nI 3) d_MD_takeLease_50 (by decide) ?_
          exact x_iret C hret d_MD_takeLease_51 ⟨by rw [show lsC τ (τ 4 f q) = 3 by rw [lsC, if_neg (show ¬ lsK τ (τ 4 f q) = true by simp only [lsK, decide_eq_true_eq]; omega), if_pos h47], if_neg (by decide), if_neg (by decide)], by rw [show lsC τ (τ 4 f q) = 3 by rw [lsC, if_neg (show ¬ lsK τ (τ 4 f q) = true by simp only [lsK, decide_eq_true_eq]; omega), if_pos h47]]⟩
      · refine x_iconst C (v := nI 0) d_MD_takeLease_43 (by decide) ?_
        exact x_iret C hret d_MD_takeLease_44 ⟨by rw [show lsC τ (τ 4 f q) = 0 by rw [lsC, if_pos (show lsK τ (τ 4 f q) = true by simp only [lsK, decide_eq_true_eq]; exact ⟨h29, h40⟩)], if_pos rfl, if_pos rfl, lsS, lsW, if_pos (show lsK τ (τ 4 f q) = true by simp only [lsK, decide_eq_true_eq]; exact ⟨h29, h40⟩), if_pos (show lsK τ (τ 4 f q) = true by simp only [lsK, decide_eq_true_eq]; exact ⟨h29, h40⟩)], by rw [show lsC τ (τ 4 f q) = 0 by rw [lsC, if_pos (show lsK τ (τ 4 f q) = true by simp only [lsK, decide_eq_true_eq]; exact ⟨h29, h40⟩)]]⟩
  · cases hp.2
end XN4
