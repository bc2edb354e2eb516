section XN2
/-- the words of the chunk c at the server s made 0 -/
def zrW (v : xWrd) (s c : Nat) : Nat → xWrd
  | 0 => v
  | n + 1 => up2 (zrW v s c n) s (c * 4 + n) 0
theorem zrW_id {v : xWrd} {s c : Nat} (h : ∀ u, u < 4 → v s (c * 4 + u) = 0) : ∀ n, n ≤ 4 → zrW v s c n = v := by
  intro n
  induction n with
  | zero => intro _; rfl
  | succ n ih =>
    intro hn
    unfold zrW
    rw [ih (by omega)]
    funext x y
    unfold up2
    split
    · rename_i q; rw [q.1, q.2, h n (by omega)]
    · rfl
theorem m_MD_placeN {l : Launch} (htr : xTr l) {D : va_G} {a : Nat → ClassId} {base : Nat} {g : Nat → Nat} {n : Nat} {τ : xSig} {v : xWrd} {fc : Nat} {X : Nat → va_E} (hn : 159 ≤ n) (hB : ∀ t i j, τ t i j < 2 ^ 30) {i q x : Nat} (hi : i < 5) (hq : q < 30) (hx : x < 2 ^ 30) {k : Nat} (hk : 0 ≤ k) : xM l y_MD_place b_MD_place 5 none k D a base g n (EM a g τ v fc X) [.ref (g 143), .int (nI (30 * i + q)), .int (-1), .int (nI x)] (fun r E' => E' = EM a g (up3 (up3 τ 12 i q x) 13 i q 0) (zrW v i q 4) fc X ∧ r = .inl none) := by
  refine x_method (by decide) htr (Nat.le_of_ble_eq_true rfl) ?_
  intro p e s m args below meth c C hne hret hnm
  have C : xC p l e s m meth c b_MD_place 5 "ChunkStoreModel" args D xcl (xty a) base := C
  refine x_aload_n C d_MD_place_0 rfl rfl ?_
  refine g_MD_replica C hn d_MD_place_1 ?_
  refine x_iload_n C d_MD_place_4 rfl rfl ?_
  refine x_iload_n C d_MD_place_5 rfl rfl ?_
  refine a_mreplica C hi hq hn d_MD_place_6 ?_
  refine x_aload_n C d_MD_place_7 rfl rfl ?_
  refine g_MD_used C hn d_MD_place_8 ?_
  refine x_iload_n C d_MD_place_11 rfl rfl ?_
  refine x_iload_n C d_MD_place_12 rfl rfl ?_
  refine x_if_ge C 20 d_MD_place_13 (by decide) (fun h13 => ?_) (fun h13 => ?_)
  · exact absurd h13 (by decide)
  · refine x_iconst C (v := nI 0) d_MD_place_16 (by decide) ?_
    refine x_goto C 26 d_MD_place_17 (by decide) ?_
    refine a_mused C hi hq hn d_MD_place_26 ?_
    refine x_iconst C (v := nI 0) d_MD_place_27 (by decide) ?_
    refine x_istore C d_MD_place_28 (by decide) rfl ?_
    refine x_loop 4 (fun j => EM a g (up3 (up3 τ 12 i q x) 13 i q 0) (zrW v i q j) fc X) (fun j => [(0, .ref (g 143)), (1, .int (nI (30 * i + q))), (2, .int (-1)), (3, .int (nI x)), (4, .int (nI j))]) (fun j => True) rfl ⟨rfl, rfl, rfl, rfl, rfl, trivial⟩ trivial ?_
    intro j hj hIj ihj
    refine x_iload C d_MD_place_30 rfl ?_
    refine x_iconst C (v := nI 4) d_MD_place_32 (by decide) ?_
    refine xn_icmp_ge C (by omega) (by decide) 72 d_MD_place_33 (by decide) (fun h33 => ?_) (fun h33 => ?_)
    · exact x_vret C hret d_MD_place_72 ⟨by rw [show j = 4 by omega], rfl⟩
    · refine x_aload_n C d_MD_place_36 rfl rfl ?_
      refine g_MD_word C hn d_MD_place_37 ?_
      refine x_iconst C (v := nI 4) d_MD_place_40 (by decide) ?_
      refine x_iload_n C d_MD_place_41 rfl rfl ?_
      refine xn_imul C d_MD_place_42 ?_
      refine x_iload C d_MD_place_43 rfl ?_
      refine xn_iadd C d_MD_place_45 ?_
      refine x_iload_n C d_MD_place_46 rfl rfl ?_
      refine x_if_ge C 54 d_MD_place_47 (by decide) (fun h47 => ?_) (fun h47 => ?_)
      · exact absurd h47 (by decide)
      · refine x_iconst C (v := nI 0) d_MD_place_50 (by decide) ?_
        refine x_goto C 65 d_MD_place_51 (by decide) ?_
        refine a_mword C hi hq (by omega) hn d_MD_place_65 ?_
        refine x_lv [(0, .ref (g 143)), (1, .int (nI (30 * i + q))), (2, .int (-1)), (3, .int (nI x)), (4, .int (nI j))] ⟨rfl, rfl, rfl, rfl, rfl, trivial⟩ ?_
        refine xn_iinc C d_MD_place_66 4 rfl (by decide) rfl ?_
        refine x_goto C 30 d_MD_place_69 (by decide) ?_
        exact x_lv [(0, .ref (g 143)), (1, .int (nI (30 * i + q))), (2, .int (-1)), (3, .int (nI x)), (4, .int (nI (j + 1)))] ⟨rfl, rfl, rfl, rfl, rfl, trivial⟩ (ihj (by omega) trivial)
theorem m_MD_placeC {l : Launch} (htr : xTr l) {D : va_G} {a : Nat → ClassId} {base : Nat} {g : Nat → Nat} {n : Nat} {τ : xSig} {v : xWrd} {fc : Nat} {X : Nat → va_E} (hn : 159 ≤ n) (hB : ∀ t i j, τ t i j < 2 ^ 30) {i q i2 q2 x : Nat} (hi : i < 5) (hq : q < 30) (hi2 : i2 < 5) (hq2 : q2 < 30) (hx : x < 2 ^ 30) {k : Nat} (hk : 0 ≤ k) : xM l y_MD_place b_MD_place 5 none k D a base g n (EM a g τ v fc X) [.ref (g 143), .int (nI (30 * i + q)), .int (nI (30 * i2 + q2)), .int (nI x)] (fun r E' => E' = EM a g (up3 (up3 τ 12 i q x) 13 i q (τ 13 i2 q2)) (cpW v i q i2 q2 4) fc X ∧ r = .inl none) := by
  refine x_method (by decide) htr (Nat.le_of_ble_eq_true rfl) ?_
  intro p e s m args below meth c C hne hret hnm
  have C : xC p l e s m meth c b_MD_place 5 "ChunkStoreModel" args D xcl (xty a) base := C
  refine x_aload_n C d_MD_place_0 rfl rfl ?_
  refine g_MD_replica C hn d_MD_place_1 ?_
  refine x_iload_n C d_MD_place_4 rfl rfl ?_
  refine x_iload_n C d_MD_place_5 rfl rfl ?_
  refine a_mreplica C hi hq hn d_MD_place_6 ?_
  refine x_aload_n C d_MD_place_7 rfl rfl ?_
  refine g_MD_used C hn d_MD_place_8 ?_
  refine x_iload_n C d_MD_place_11 rfl rfl ?_
  refine x_iload_n C d_MD_place_12 rfl rfl ?_
  refine xn_if_ge C (by omega) 20 d_MD_place_13 (by decide) (fun h13 => ?_) (fun h13 => ?_)
  · refine x_aload_n C d_MD_place_20 rfl rfl ?_
    refine g_MD_used C hn d_MD_place_21 ?_
    refine x_iload_n C d_MD_place_24 rfl rfl ?_
    refine e_mused C hi2 hq2 hn d_MD_place_25 ?_
    refine a_mused C hi hq hn d_MD_place_26 ?_
    refine x_iconst C (v := nI 0) d_MD_place_27 (by decide) ?_
    refine x_istore C d_MD_place_28 (by decide) rfl ?_
    refine x_loop 4 (fun j => EM a g (up3 (up3 τ 12 i q x) 13 i q ((up3 τ 12 i q x) 13 i2 q2)) (cpW v i q i2 q2 j) fc X) (fun j => [(0, .ref (g 143)), (1, .int (nI (30 * i + q))), (2, .int (nI (30 * i2 + q2))), (3, .int (nI x)), (4, .int (nI j))]) (fun j => True) rfl ⟨rfl, rfl, rfl, rfl, rfl, trivial⟩ trivial ?_
    intro j hj hIj ihj
    refine x_iload C d_MD_place_30 rfl ?_
    refine x_iconst C (v := nI 4) d_MD_place_32 (by decide) ?_
    refine xn_icmp_ge C (by omega) (by decide) 72 d_MD_place_33 (by decide) (fun h33 => ?_) (fun h33 => ?_)
    · exact x_vret C hret d_MD_place_72 ⟨by rw [show j = 4 by omega, up3_n (show ¬ 13 = 12 by decide)], rfl⟩
    · refine x_aload_n C d_MD_place_36 rfl rfl ?_
      refine g_MD_word C hn d_MD_place_37 ?_
      refine x_iconst C (v := nI 4) d_MD_place_40 (by decide) ?_
      refine x_iload_n C d_MD_place_41 rfl rfl ?_
      refine xn_imul C d_MD_place_42 ?_
      refine x_iload C d_MD_place_43 rfl ?_
      refine xn_iadd C d_MD_place_45 ?_
      refine x_iload_n C d_MD_place_46 rfl rfl ?_
      refine xn_if_ge C (by omega) 54 d_MD_place_47 (by decide) (fun h47 => ?_) (fun h47 => ?_)
      · refine x_aload_n C d_MD_place_54 rfl rfl ?_
        refine g_MD_word C hn d_MD_place_55 ?_
        refine x_iconst C (v := nI 4) d_MD_place_58 (by decide) ?_
        refine x_iload_n C d_MD_place_59 rfl rfl ?_
        refine xn_imul C d_MD_place_60 ?_
        refine x_iload C d_MD_place_61 rfl ?_
        refine xn_iadd C d_MD_place_63 ?_
        refine e_mword C hi2 hq2 (by omega) hn d_MD_place_64 ?_
        refine a_mword C hi hq (by omega) hn d_MD_place_65 ?_
        refine x_lv [(0, .ref (g 143)), (1, .int (nI (30 * i + q))), (2, .int (nI (30 * i2 + q2))), (3, .int (nI x)), (4, .int (nI j))] ⟨rfl, rfl, rfl, rfl, rfl, trivial⟩ ?_
        refine xn_iinc C d_MD_place_66 4 rfl (by decide) rfl ?_
        refine x_goto C 30 d_MD_place_69 (by decide) ?_
        exact x_lv [(0, .ref (g 143)), (1, .int (nI (30 * i + q))), (2, .int (nI (30 * i2 + q2))), (3, .int (nI x)), (4, .int (nI (j + 1)))] ⟨rfl, rfl, rfl, rfl, rfl, trivial⟩ (ihj (by omega) trivial)
      · exact absurd h47 (fun q => q)
  · exact absurd h13 (fun q => q)
def frM (τ : xSig) (c ch i : Nat) : Bool := decide (τ 10 i 0 ≠ 0) && (decide (τ 11 i 0 < 12) && (!ch.testBit i && (decide (c = 30) || decide (τ 12 i c = 0))))
def bM (τ : xSig) (c ch : Nat) : Nat := best (frM τ c ch) (fun i => τ 11 i 0) 5
theorem bM_le (τ : xSig) (c ch : Nat) : bM τ c ch ≤ 5 := best_le 5 (Nat.le_refl _)
theorem bM_c {τ : xSig} {c ch : Nat} (hc : c < 30) : bM τ c ch = bst τ c ch := best_congr (fun i _ => by unfold frM frC; simp [show ¬ c = 30 by omega]; cases ch.testBit i <;> simp) (fun _ _ => rfl) 5 (Nat.le_refl _)
theorem bM_30 {τ : xSig} {m ch : Nat} (hm : ∀ s, s < 5 → τ 12 s m = 0) : bM τ 30 ch = bst τ m ch := best_congr (fun i hi => by unfold frM frC; simp [hm i hi]) (fun _ _ => rfl) 5 (Nat.le_refl _)
theorem m_MD_choose {l : Launch} (htr : xTr l) {D : va_G} {a : Nat → ClassId} {base : Nat} {g : Nat → Nat} {n : Nat} {τ : xSig} {v : xWrd} {fc : Nat} {X : Nat → va_E} (hn : 159 ≤ n) (hB : ∀ t i j, τ t i j < 2 ^ 30) (hcv : ∀ s, s < 5 → τ 11 s 0 = cntV (τ 12 s) 30) {q ch : Nat} (hq : q ≤ 30) (hc : ch < 32) {k : Nat} (hk : 1 ≤ k) : xM l y_MD_choose b_MD_choose 6 (some FieldType.int) k D a base g n (EM a g τ v fc X) [.ref (g 143), .int (nI q), .int (nI ch)] (fun r E' => E' = EM a g τ v fc X ∧ r = .inl (some (.int (iv 5 (bM τ q ch))))) := by
  refine x_method (by decide) htr (Nat.le_of_ble_eq_true rfl) ?_
  intro p e s m args below meth c C hne hret hnm
  have C : xC p l e s m meth c b_MD_choose 6 "ChunkStoreModel" args D xcl (xty a) base := C
  refine x_iconst C (v := -1) d_MD_choose_0 (by decide) ?_
  refine x_istore_n C d_MD_choose_1 rfl (by decide) rfl ?_
  refine x_iconst C (v := nI 0) d_MD_choose_2 (by decide) ?_
  refine x_istore C d_MD_choose_3 (by decide) rfl ?_
  refine x_loop 5 (fun i => EM a g τ v fc X) (fun i => [(0, .ref (g 143)), (1, .int (nI q)), (2, .int (nI ch)), (3, .int (iv 5 (best (frM τ q ch) (fun i => τ 11 i 0) i))), (4, .int (nI i))]) (fun i => True) rfl ⟨rfl, rfl, rfl, rfl, rfl, trivial⟩ trivial ?_
  intro i hi hIi ihi
  refine x_iload C d_MD_choose_5 rfl ?_
  refine x_iconst C (v := nI 5) d_MD_choose_7 (by decide) ?_
  refine xn_icmp_ge C (by omega) (by decide) 101 d_MD_choose_8 (by decide) (fun h8 => ?_) (fun h8 => ?_)
  · refine x_iload_n C d_MD_choose_101 rfl rfl ?_
    exact x_iret C hret d_MD_choose_102 ⟨rfl, by rw [show i = 5 by omega]; rfl⟩
  · refine x_aload_n C d_MD_choose_11 rfl rfl ?_
    refine g_MD_down C hn d_MD_choose_12 ?_
    refine x_iload C d_MD_choose_15 rfl ?_
    refine e_mdown C (by omega) hn d_MD_choose_17 ?_
    refine xn_if_ne C (b01_lt _) 66 d_MD_choose_18 (by decide) (fun h18 => ?_) (fun h18 => ?_)
    · rw [b01_n0] at h18
      have h18 := of_decide_eq_true h18
      refine x_iconst C (v := nI 0) d_MD_choose_66 (by decide) ?_
      refine x_istore C d_MD_choose_67 (by decide) rfl ?_
      refine x_iload C d_MD_choose_69 rfl ?_
      refine xn_if_eq C (by decide) 95 d_MD_choose_71 (by decide) (fun h71 => ?_) (fun h71 => ?_)
      · refine x_lv [(0, .ref (g 143)), (1, .int (nI q)), (2, .int (nI ch)), (3, .int (iv 5 (best (frM τ q ch) (fun i => τ 11 i 0) i))), (4, .int (nI i)), (5, .int (nI 0))] ⟨rfl, rfl, rfl, rfl, rfl, rfl, trivial⟩ ?_
        refine xn_iinc C d_MD_choose_95 4 rfl (by decide) rfl ?_
        refine x_goto C 5 d_MD_choose_98 (by decide) ?_
        exact x_lv [(0, .ref (g 143)), (1, .int (nI q)), (2, .int (nI ch)), (3, .int (iv 5 (best (frM τ q ch) (fun i => τ 11 i 0) (i + 1)))), (4, .int (nI (i + 1)))] ⟨rfl, rfl, rfl, by rw [show best (frM τ q ch) (fun i => τ 11 i 0) (i + 1) = best (frM τ q ch) (fun i => τ 11 i 0) i from (by rw [best]; simp only [frM]; grind)]; rfl, rfl, trivial⟩ (ihi (by omega) trivial)
      · exact absurd h71 (by decide)
    · rw [b01_0] at h18
      have h18 := of_decide_eq_false h18
      refine x_aload_n C d_MD_choose_21 rfl rfl ?_
      refine x_iload C d_MD_choose_22 rfl ?_
      refine c_MD_MD_loadOf C (by omega) hn (m_MD_loadOf htr hn hB (by omega) (Nat.le_refl _)) rfl rfl (Nat.le_of_ble_eq_true rfl) d_MD_choose_24 (fun v E' hp => ?_) (fun X E' hp => ?_)
      · obtain ⟨rfl, hv⟩ := hp
        cases hv
        rw [← hcv _ (by omega)]
        refine x_bipush C (v := nI 12) d_MD_choose_27 (by decide) ?_
        refine xn_icmp_ge C (Nat.lt_trans (hB 11 _ 0) (by decide)) (by decide) 66 d_MD_choose_29 (by decide) (fun h29 => ?_) (fun h29 => ?_)
        · refine x_iconst C (v := nI 0) d_MD_choose_66 (by decide) ?_
          refine x_istore C d_MD_choose_67 (by decide) rfl ?_
          refine x_iload C d_MD_choose_69 rfl ?_
          refine xn_if_eq C (by decide) 95 d_MD_choose_71 (by decide) (fun h71 => ?_) (fun h71 => ?_)
          · refine x_lv [(0, .ref (g 143)), (1, .int (nI q)), (2, .int (nI ch)), (3, .int (iv 5 (best (frM τ q ch) (fun i => τ 11 i 0) i))), (4, .int (nI i)), (5, .int (nI 0))] ⟨rfl, rfl, rfl, rfl, rfl, rfl, trivial⟩ ?_
            refine xn_iinc C d_MD_choose_95 4 rfl (by decide) rfl ?_
            refine x_goto C 5 d_MD_choose_98 (by decide) ?_
            exact x_lv [(0, .ref (g 143)), (1, .int (nI q)), (2, .int (nI ch)), (3, .int (iv 5 (best (frM τ q ch) (fun i => τ 11 i 0) (i + 1)))), (4, .int (nI (i + 1)))] ⟨rfl, rfl, rfl, by rw [show best (frM τ q ch) (fun i => τ 11 i 0) (i + 1) = best (frM τ q ch) (fun i => τ 11 i 0) i from (by rw [best]; simp only [frM]; grind)]; rfl, rfl, trivial⟩ (ihi (by omega) trivial)
          · exact absurd h71 (by decide)
        · refine x_iload_n C d_MD_choose_32 rfl rfl ?_
          refine x_iload C d_MD_choose_33 rfl ?_
          refine xn_ishr C hc (by omega) d_MD_choose_35 ?_
          refine x_iconst C (v := nI 1) d_MD_choose_36 (by decide) ?_
          refine xn_iand C (bt_shlt _ hc _ (by omega)) (by decide) d_MD_choose_37 ?_
          refine xn_if_ne C (Nat.lt_trans (bt_andlt _ (bt_shlt _ hc _ (by omega)) _ (by decide)) (by decide)) 66 d_MD_choose_38 (by decide) (fun h38 => ?_) (fun h38 => ?_)
          · refine x_iconst C (v := nI 0) d_MD_choose_66 (by decide) ?_
            refine x_istore C d_MD_choose_67 (by decide) rfl ?_
            refine x_iload C d_MD_choose_69 rfl ?_
            refine xn_if_eq C (by decide) 95 d_MD_choose_71 (by decide) (fun h71 => ?_) (fun h71 => ?_)
            · refine x_lv [(0, .ref (g 143)), (1, .int (nI q)), (2, .int (nI ch)), (3, .int (iv 5 (best (frM τ q ch) (fun i => τ 11 i 0) i))), (4, .int (nI i)), (5, .int (nI 0))] ⟨rfl, rfl, rfl, rfl, rfl, rfl, trivial⟩ ?_
              refine xn_iinc C d_MD_choose_95 4 rfl (by decide) rfl ?_
              refine x_goto C 5 d_MD_choose_98 (by decide) ?_
              exact x_lv [(0, .ref (g 143)), (1, .int (nI q)), (2, .int (nI ch)), (3, .int (iv 5 (best (frM τ q ch) (fun i => τ 11 i 0) (i + 1)))), (4, .int (nI (i + 1)))] ⟨rfl, rfl, rfl, by rw [show best (frM τ q ch) (fun i => τ 11 i 0) (i + 1) = best (frM τ q ch) (fun i => τ 11 i 0) i from (by rw [best]; simp only [frM]; rw [bt_shr ch hc i (by omega)] at h38; grind)]; rfl, rfl, trivial⟩ (ihi (by omega) trivial)
            · exact absurd h71 (by decide)
          · refine x_iload_n C d_MD_choose_41 rfl rfl ?_
            refine x_bipush C (v := nI 30) d_MD_choose_42 (by decide) ?_
            refine xn_icmp_eq C (by omega) (by decide) 62 d_MD_choose_44 (by decide) (fun h44 => ?_) (fun h44 => ?_)
            · refine x_iconst C (v := nI 1) d_MD_choose_62 (by decide) ?_
              refine x_goto C 67 d_MD_choose_63 (by decide) ?_
              refine x_istore C d_MD_choose_67 (by decide) rfl ?_
              refine x_iload C d_MD_choose_69 rfl ?_
              refine xn_if_eq C (by decide) 95 d_MD_choose_71 (by decide) (fun h71 => ?_) (fun h71 => ?_)
              · exact absurd h71 (by decide)
              · refine x_iload_n C d_MD_choose_74 rfl rfl ?_
                refine x_if_lt C 92 d_MD_choose_75 (by decide) (fun h75 => ?_) (fun h75 => ?_)
                · have h75 := iv_neg ⟨best_le i (by omega), by decide⟩ h75
                  refine x_iload C d_MD_choose_92 rfl ?_
                  refine x_istore_n C d_MD_choose_94 rfl (by decide) rfl ?_
                  refine x_lv [(0, .ref (g 143)), (1, .int (nI q)), (2, .int (nI ch)), (3, .int (nI i)), (4, .int (nI i)), (5, .int (nI 1))] ⟨rfl, rfl, rfl, rfl, rfl, rfl, trivial⟩ ?_
                  refine xn_iinc C d_MD_choose_95 4 rfl (by decide) rfl ?_
                  refine x_goto C 5 d_MD_choose_98 (by decide) ?_
                  exact x_lv [(0, .ref (g 143)), (1, .int (nI q)), (2, .int (nI ch)), (3, .int (iv 5 (best (frM τ q ch) (fun i => τ 11 i 0) (i + 1)))), (4, .int (nI (i + 1)))] ⟨rfl, rfl, rfl, by rw [show best (frM τ q ch) (fun i => τ 11 i 0) (i + 1) = i from (by rw [best]; simp only [frM]; rw [bt_shr ch hc i (by omega)] at h38; grind)]; rw [iv_lt (by omega)]; rfl, rfl, trivial⟩ (ihi (by omega) trivial)
                · have h75 := iv_nneg ⟨best_le i (by omega), by decide⟩ h75
                  refine x_aload_n C d_MD_choose_78 rfl rfl ?_
                  refine x_iload C d_MD_choose_79 rfl ?_
                  refine c_MD_MD_loadOf C (by omega) hn (m_MD_loadOf htr hn hB (by omega) (Nat.le_refl _)) rfl rfl (Nat.le_of_ble_eq_true rfl) d_MD_choose_81 (fun v E' hp => ?_) (fun X E' hp => ?_)
                  · obtain ⟨rfl, hv⟩ := hp
                    cases hv
                    rw [← hcv _ (by omega)]
                    refine x_aload_n C d_MD_choose_84 rfl rfl ?_
                    refine x_iload_n C d_MD_choose_85 rfl rfl ?_
                    refine x_topi (iv_lt h75) ?_
                    refine c_MD_MD_loadOf C (by omega) hn (m_MD_loadOf htr hn hB h75 (Nat.le_refl _)) rfl rfl (Nat.le_of_ble_eq_true rfl) d_MD_choose_86 (fun v E' hp => ?_) (fun X E' hp => ?_)
                    · obtain ⟨rfl, hv⟩ := hp
                      cases hv
                      rw [← hcv _ h75]
                      refine xn_icmp_ge C (Nat.lt_trans (hB 11 _ 0) (by decide)) (Nat.lt_trans (hB 11 _ 0) (by decide)) 95 d_MD_choose_89 (by decide) (fun h89 => ?_) (fun h89 => ?_)
                      · refine x_lv [(0, .ref (g 143)), (1, .int (nI q)), (2, .int (nI ch)), (3, .int (iv 5 (best (frM τ q ch) (fun i => τ 11 i 0) i))), (4, .int (nI i)), (5, .int (nI 1))] ⟨rfl, rfl, rfl, rfl, rfl, rfl, trivial⟩ ?_
                        refine xn_iinc C d_MD_choose_95 4 rfl (by decide) rfl ?_
                        refine x_goto C 5 d_MD_choose_98 (by decide) ?_
                        exact x_lv [(0, .ref (g 143)), (1, .int (nI q)), (2, .int (nI ch)), (3, .int (iv 5 (best (frM τ q ch) (fun i => τ 11 i 0) (i + 1)))), (4, .int (nI (i + 1)))] ⟨rfl, rfl, rfl, by rw [show best (frM τ q ch) (fun i => τ 11 i 0) (i + 1) = best (frM τ q ch) (fun i => τ 11 i 0) i from (by rw [best]; simp only [frM]; rw [bt_shr ch hc i (by omega)] at h38; grind)]; rfl, rfl, trivial⟩ (ihi (by omega) trivial)
                      · refine x_iload C d_MD_choose_92 rfl ?_
                        refine x_istore_n C d_MD_choose_94 rfl (by decide) rfl ?_
                        refine x_lv [(0, .ref (g 143)), (1, .int (nI q)), (2, .int (nI ch)), (3, .int (nI i)), (4, .int (nI i)), (5, .int (nI 1))] ⟨rfl, rfl, rfl, rfl, rfl, rfl, trivial⟩ ?_
                        refine xn_iinc C d_MD_choose_95 4 rfl (by decide) rfl ?_
                        refine x_goto C 5 d_MD_choose_98 (by decide) ?_
                        exact x_lv [(0, .ref (g 143)), (1, .int (nI q)), (2, .int (nI ch)), (3, .int (iv 5 (best (frM τ q ch) (fun i => τ 11 i 0) (i + 1)))), (4, .int (nI (i + 1)))] ⟨rfl, rfl, rfl, by rw [show best (frM τ q ch) (fun i => τ 11 i 0) (i + 1) = i from (by rw [best]; simp only [frM]; rw [bt_shr ch hc i (by omega)] at h38; grind)]; rw [iv_lt (by omega)]; rfl, rfl, trivial⟩ (ihi (by omega) trivial)
                    · cases hp.2
                  · cases hp.2
            · refine x_aload_n C d_MD_choose_47 rfl rfl ?_
              refine g_MD_replica C hn d_MD_choose_48 ?_
              refine x_bipush C (v := nI 30) d_MD_choose_51 (by decide) ?_
              refine x_iload C d_MD_choose_53 rfl ?_
              refine xn_imul C d_MD_choose_55 ?_
              refine x_iload_n C d_MD_choose_56 rfl rfl ?_
              refine xn_iadd C d_MD_choose_57 ?_
              refine e_mreplica C (by omega) (by omega) hn d_MD_choose_58 ?_
              refine xn_if_ne C (Nat.lt_trans (hB 12 i q) (by decide)) 66 d_MD_choose_59 (by decide) (fun h59 => ?_) (fun h59 => ?_)
              · refine x_iconst C (v := nI 0) d_MD_choose_66 (by decide) ?_
                refine x_istore C d_MD_choose_67 (by decide) rfl ?_
                refine x_iload C d_MD_choose_69 rfl ?_
                refine xn_if_eq C (by decide) 95 d_MD_choose_71 (by decide) (fun h71 => ?_) (fun h71 => ?_)
                · refine x_lv [(0, .ref (g 143)), (1, .int (nI q)), (2, .int (nI ch)), (3, .int (iv 5 (best (frM τ q ch) (fun i => τ 11 i 0) i))), (4, .int (nI i)), (5, .int (nI 0))] ⟨rfl, rfl, rfl, rfl, rfl, rfl, trivial⟩ ?_
                  refine xn_iinc C d_MD_choose_95 4 rfl (by decide) rfl ?_
                  refine x_goto C 5 d_MD_choose_98 (by decide) ?_
                  exact x_lv [(0, .ref (g 143)), (1, .int (nI q)), (2, .int (nI ch)), (3, .int (iv 5 (best (frM τ q ch) (fun i => τ 11 i 0) (i + 1)))), (4, .int (nI (i + 1)))] ⟨rfl, rfl, rfl, by rw [show best (frM τ q ch) (fun i => τ 11 i 0) (i + 1) = best (frM τ q ch) (fun i => τ 11 i 0) i from (by rw [best]; simp only [frM]; rw [bt_shr ch hc i (by omega)] at h38; grind)]; rfl, rfl, trivial⟩ (ihi (by omega) trivial)
                · exact absurd h71 (by decide)
              · refine x_iconst C (v := nI 1) d_MD_choose_62 (by decide) ?_
                refine x_goto C 67 d_MD_choose_63 (by decide) ?_
                refine x_istore C d_MD_choose_67 (by decide) rfl ?_
                refine x_iload C d_MD_choose_69 rfl ?_
                refine xn_if_eq C (by decide) 95 d_MD_choose_71 (by decide) (fun h71 => ?_) (fun h71 => ?_)
                · exact absurd h71 (by decide)
                · refine x_iload_n C d_MD_choose_74 rfl rfl ?_
                  refine x_if_lt C 92 d_MD_choose_75 (by decide) (fun h75 => ?_) (fun h75 => ?_)
                  · have h75 := iv_neg ⟨best_le i (by omega), by decide⟩ h75
                    refine x_iload C d_MD_choose_92 rfl ?_
                    refine x_istore_n C d_MD_choose_94 rfl (by decide) rfl ?_
                    refine x_lv [(0, .ref (g 143)), (1, .int (nI q)), (2, .int (nI ch)), (3, .int (nI i)), (4, .int (nI i)), (5, .int (nI 1))] ⟨rfl, rfl, rfl, rfl, rfl, rfl, trivial⟩ ?_
                    refine xn_iinc C d_MD_choose_95 4 rfl (by decide) rfl ?_
                    refine x_goto C 5 d_MD_choose_98 (by decide) ?_
                    exact x_lv [(0, .ref (g 143)), (1, .int (nI q)), (2, .int (nI ch)), (3, .int (iv 5 (best (frM τ q ch) (fun i => τ 11 i 0) (i + 1)))), (4, .int (nI (i + 1)))] ⟨rfl, rfl, rfl, by rw [show best (frM τ q ch) (fun i => τ 11 i 0) (i + 1) = i from (by rw [best]; simp only [frM]; rw [bt_shr ch hc i (by omega)] at h38; grind)]; rw [iv_lt (by omega)]; rfl, rfl, trivial⟩ (ihi (by omega) trivial)
                  · have h75 := iv_nneg ⟨best_le i (by omega), by decide⟩ h75
                    refine x_aload_n C d_MD_choose_78 rfl rfl ?_
                    refine x_iload C d_MD_choose_79 rfl ?_
                    refine c_MD_MD_loadOf C (by omega) hn (m_MD_loadOf htr hn hB (by omega) (Nat.le_refl _)) rfl rfl (Nat.le_of_ble_eq_true rfl) d_MD_choose_81 (fun v E' hp => ?_) (fun X E' hp => ?_)
                    · obtain ⟨rfl, hv⟩ := hp
                      cases hv
                      rw [← hcv _ (by omega)]
                      refine x_aload_n C d_MD_choose_84 rfl rfl ?_
                      refine x_iload_n C d_MD_choose_85 rfl rfl ?_
                      refine x_topi (iv_lt h75) ?_
                      refine c_MD_MD_loadOf C (by omega) hn (m_MD_loadOf htr hn hB h75 (Nat.le_refl _)) rfl rfl (Nat.le_of_ble_eq_true rfl) d_MD_choose_86 (fun v E' hp => ?_) (fun X E' hp => ?_)
                      · obtain ⟨rfl, hv⟩ := hp
                        cases hv
                        rw [← hcv _ h75]
                        refine xn_icmp_ge C (Nat.lt_trans (hB 11 _ 0) (by decide)) (Nat.lt_trans (hB 11 _ 0) (by decide)) 95 d_MD_choose_89 (by decide) (fun h89 => ?_) (fun h89 => ?_)
                        · refine x_lv [(0, .ref (g 143)), (1, .int (nI q)), (2, .int (nI ch)), (3, .int (iv 5 (best (frM τ q ch) (fun i => τ 11 i 0) i))), (4, .int (nI i)), (5, .int (nI 1))] ⟨rfl, rfl, rfl, rfl, rfl, rfl, trivial⟩ ?_
                          refine xn_iinc C d_MD_choose_95 4 rfl (by decide) rfl ?_
                          refine x_goto C 5 d_MD_choose_98 (by decide) ?_
                          exact x_lv [(0, .ref (g 143)), (1, .int (nI q)), (2, .int (nI ch)), (3, .int (iv 5 (best (frM τ q ch) (fun i => τ 11 i 0) (i + 1)))), (4, .int (nI (i + 1)))] ⟨rfl, rfl, rfl, by rw [show best (frM τ q ch) (fun i => τ 11 i 0) (i + 1) = best (frM τ q ch) (fun i => τ 11 i 0) i from (by rw [best]; simp only [frM]; rw [bt_shr ch hc i (by omega)] at h38; grind)]; rfl, rfl, trivial⟩ (ihi (by omega) trivial)
                        · refine x_iload C d_MD_choose_92 rfl ?_
                          refine x_istore_n C d_MD_choose_94 rfl (by decide) rfl ?_
                          refine x_lv [(0, .ref (g 143)), (1, .int (nI q)), (2, .int (nI ch)), (3, .int (nI i)), (4, .int (nI i)), (5, .int (nI 1))] ⟨rfl, rfl, rfl, rfl, rfl, rfl, trivial⟩ ?_
                          refine xn_iinc C d_MD_choose_95 4 rfl (by decide) rfl ?_
                          refine x_goto C 5 d_MD_choose_98 (by decide) ?_
                          exact x_lv [(0, .ref (g 143)), (1, .int (nI q)), (2, .int (nI ch)), (3, .int (iv 5 (best (frM τ q ch) (fun i => τ 11 i 0) (i + 1)))), (4, .int (nI (i + 1)))] ⟨rfl, rfl, rfl, by rw [show best (frM τ q ch) (fun i => τ 11 i 0) (i + 1) = i from (by rw [best]; simp only [frM]; rw [bt_shr ch hc i (by omega)] at h38; grind)]; rw [iv_lt (by omega)]; rfl, rfl, trivial⟩ (ihi (by omega) trivial)
                      · cases hp.2
                    · cases hp.2
      · cases hp.2
theorem m_MD_usedIn {l : Launch} (htr : xTr l) {D : va_G} {a : Nat → ClassId} {base : Nat} {g : Nat → Nat} {n : Nat} {τ : xSig} {v : xWrd} {fc : Nat} {X : Nat → va_E} (hn : 159 ≤ n) (hB : ∀ t i j, τ t i j < 2 ^ 30) (hH : ∀ c, τ 8 c 0 < 32) {q : Nat} (hq : q < 30) (hf : fst5 (τ 8 q 0) < 5) {k : Nat} (hk : 1 ≤ k) : xM l y_MD_usedIn b_MD_usedIn 2 (some FieldType.int) k D a base g n (EM a g τ v fc X) [.ref (g 143), .int (nI q)] (fun r E' => E' = EM a g τ v fc X ∧ r = .inl (some (.int (nI (uaf τ q))))) := by
  refine x_method (by decide) htr (Nat.le_of_ble_eq_true rfl) ?_
  intro p e s m args below meth c C hne hret hnm
  have C : xC p l e s m meth c b_MD_usedIn 2 "ChunkStoreModel" args D xcl (xty a) base := C
  refine x_aload_n C d_MD_usedIn_0 rfl rfl ?_
  refine g_MD_used C hn d_MD_usedIn_1 ?_
  refine x_bipush C (v := nI 30) d_MD_usedIn_4 (by decide) ?_
  refine x_aload_n C d_MD_usedIn_6 rfl rfl ?_
  refine x_aload_n C d_MD_usedIn_7 rfl rfl ?_
  refine g_MD_holders C hn d_MD_usedIn_8 ?_
  refine x_iload_n C d_MD_usedIn_11 rfl rfl ?_
  refine e_mholders C hq hn d_MD_usedIn_12 ?_
  refine c_MD_MD_first C (by omega) hn (m_MD_first htr hn hB (hH q) (Nat.le_refl _)) rfl rfl (Nat.le_of_ble_eq_true rfl) d_MD_usedIn_13 (fun v E' hp => ?_) (fun X E' hp => ?_)
  · obtain ⟨rfl, hv⟩ := hp
    cases hv
    refine xn_imul C d_MD_usedIn_16 ?_
    refine x_iload_n C d_MD_usedIn_17 rfl rfl ?_
    refine xn_iadd C d_MD_usedIn_18 ?_
    refine e_mused C hf hq hn d_MD_usedIn_19 ?_
    exact x_iret C hret d_MD_usedIn_20 ⟨rfl, by rw [uaf, if_neg (by omega)]⟩
  · cases hp.2
theorem up3_id {σ : xSig} {t i j : Nat} : up3 σ t i j (σ t i j) = σ := by
  funext x y z
  unfold up3
  split
  · rename_i q; rw [q.1, q.2.1, q.2.2]
  · rfl
theorem m_MD_store {l : Launch} (htr : xTr l) {D : va_G} {a : Nat → ClassId} {base : Nat} {g : Nat → Nat} {n : Nat} {τ : xSig} {v : xWrd} {fc : Nat} {X : Nat → va_E} (hn : 159 ≤ n) (hB : ∀ t i j, τ t i j < 2 ^ 30) (hH : ∀ c, τ 8 c 0 < 32) {q u : Nat} {x : Int32} (hq : q < 30) (hu : u < 4) {k : Nat} (hk : 0 ≤ k) : xM l y_MD_store b_MD_store 6 none k D a base g n (EM a g τ v fc X) [.ref (g 143), .int (nI q), .int (nI u), .int x] (fun r E' => E' = EM a g (wrS τ q u) (wrW τ v q u x) fc X ∧ r = .inl none) := by
  refine x_method (by decide) htr (Nat.le_of_ble_eq_true rfl) ?_
  intro p e s m args below meth c C hne hret hnm
  have C : xC p l e s m meth c b_MD_store 6 "ChunkStoreModel" args D xcl (xty a) base := C
  refine x_iconst C (v := nI 0) d_MD_store_0 (by decide) ?_
  refine x_istore C d_MD_store_1 (by decide) rfl ?_
  refine x_loop 5 (fun i => EM a g (swL τ q u (τ 8 q 0) i) (swLW v q u (τ 8 q 0) x i) fc X) (fun i => [(0, .ref (g 143)), (1, .int (nI q)), (2, .int (nI u)), (3, .int x), (4, .int (nI i))]) (fun i => True) rfl ⟨rfl, rfl, rfl, rfl, rfl, trivial⟩ trivial ?_
  intro i hi hIi ihi
  refine x_iload C d_MD_store_3 rfl ?_
  refine x_iconst C (v := nI 5) d_MD_store_5 (by decide) ?_
  refine xn_icmp_ge C (by omega) (by decide) 76 d_MD_store_6 (by decide) (fun h6 => ?_) (fun h6 => ?_)
  · exact x_vret C hret d_MD_store_76 ⟨by rw [show i = 5 by omega]; rfl, rfl⟩
  · refine x_aload_n C d_MD_store_9 rfl rfl ?_
    refine g_MD_holders C hn d_MD_store_10 ?_
    refine x_iload_n C d_MD_store_13 rfl rfl ?_
    refine e_mholders C hq hn d_MD_store_14 ?_
    refine x_iload C d_MD_store_15 rfl ?_
    refine xn_ishr C (by rw [swL_o _ (by decide)]; exact hH q) (by omega) d_MD_store_17 ?_
    refine x_iconst C (v := nI 1) d_MD_store_18 (by decide) ?_
    refine xn_iand C (bt_shlt _ (by rw [swL_o _ (by decide)]; exact hH q) _ (by omega)) (by decide) d_MD_store_19 ?_
    refine xn_if_ne C (Nat.lt_trans (bt_andlt _ (bt_shlt _ (by rw [swL_o _ (by decide)]; exact hH q) _ (by omega)) _ (by decide)) (by decide)) 26 d_MD_store_20 (by decide) (fun h20 => ?_) (fun h20 => ?_)
    · refine x_bipush C (v := nI 30) d_MD_store_26 (by decide) ?_
      refine x_iload C d_MD_store_28 rfl ?_
      refine xn_imul C d_MD_store_30 ?_
      refine x_iload_n C d_MD_store_31 rfl rfl ?_
      refine xn_iadd C d_MD_store_32 ?_
      refine x_istore C d_MD_store_33 (by decide) rfl ?_
      refine x_aload_n C d_MD_store_35 rfl rfl ?_
      refine g_MD_word C hn d_MD_store_36 ?_
      refine x_iconst C (v := nI 4) d_MD_store_39 (by decide) ?_
      refine x_iload C d_MD_store_40 rfl ?_
      refine xn_imul C d_MD_store_42 ?_
      refine x_iload_n C d_MD_store_43 rfl rfl ?_
      refine xn_iadd C d_MD_store_44 ?_
      refine x_iload_n C d_MD_store_45 rfl rfl ?_
      refine a_mword C (by omega) hq hu hn d_MD_store_46 ?_
      refine x_aload_n C d_MD_store_47 rfl rfl ?_
      refine g_MD_used C hn d_MD_store_48 ?_
      refine x_iload C d_MD_store_51 rfl ?_
      refine e_mused C (by omega) hq hn d_MD_store_53 ?_
      refine x_iload_n C d_MD_store_54 rfl rfl ?_
      refine x_iconst C (v := nI 1) d_MD_store_55 (by decide) ?_
      refine xn_iadd C d_MD_store_56 ?_
      refine xn_icmp_ge C (Nat.lt_trans ((swL_B i hB) 13 i q) (by decide)) (by omega) 70 d_MD_store_57 (by decide) (fun h57 => ?_) (fun h57 => ?_)
      · refine x_lv [(0, .ref (g 143)), (1, .int (nI q)), (2, .int (nI u)), (3, .int x), (4, .int (nI i)), (5, .int (nI ((30 * i) + q)))] ⟨rfl, rfl, rfl, rfl, rfl, rfl, trivial⟩ ?_
        refine xn_iinc C d_MD_store_70 4 rfl (by decide) rfl ?_
        refine x_goto C 3 d_MD_store_73 (by decide) ?_
        rw [swL_o _ (by decide), bt_shr _ (hH q) i (by omega)] at h20
        have hb : (τ 8 q 0).testBit i = true := by by_cases r : (τ 8 q 0).testBit i = true; exact r; rw [if_neg r] at h20; exact absurd rfl h20
        refine x_E (E' := EM a g (swL τ q u (τ 8 q 0) (i + 1)) (swLW v q u (τ 8 q 0) x (i + 1)) fc X) (by rw [swL, swLW, if_pos hb, if_pos hb, swS, swW, if_pos hu, if_pos hu, if_pos h57, up3_id]) ?_
        exact x_lv [(0, .ref (g 143)), (1, .int (nI q)), (2, .int (nI u)), (3, .int x), (4, .int (nI (i + 1)))] ⟨rfl, rfl, rfl, rfl, rfl, trivial⟩ (ihi (by omega) trivial)
      · refine x_aload_n C d_MD_store_60 rfl rfl ?_
        refine g_MD_used C hn d_MD_store_61 ?_
        refine x_iload C d_MD_store_64 rfl ?_
        refine x_iload_n C d_MD_store_66 rfl rfl ?_
        refine x_iconst C (v := nI 1) d_MD_store_67 (by decide) ?_
        refine xn_iadd C d_MD_store_68 ?_
        refine a_mused C (by omega) hq hn d_MD_store_69 ?_
        refine x_lv [(0, .ref (g 143)), (1, .int (nI q)), (2, .int (nI u)), (3, .int x), (4, .int (nI i)), (5, .int (nI ((30 * i) + q)))] ⟨rfl, rfl, rfl, rfl, rfl, rfl, trivial⟩ ?_
        refine xn_iinc C d_MD_store_70 4 rfl (by decide) rfl ?_
        refine x_goto C 3 d_MD_store_73 (by decide) ?_
        rw [swL_o _ (by decide), bt_shr _ (hH q) i (by omega)] at h20
        have hb : (τ 8 q 0).testBit i = true := by by_cases r : (τ 8 q 0).testBit i = true; exact r; rw [if_neg r] at h20; exact absurd rfl h20
        refine x_E (E' := EM a g (swL τ q u (τ 8 q 0) (i + 1)) (swLW v q u (τ 8 q 0) x (i + 1)) fc X) (by rw [swL, swLW, if_pos hb, if_pos hb, swS, swW, if_pos hu, if_pos hu, if_neg (by omega)]) ?_
        exact x_lv [(0, .ref (g 143)), (1, .int (nI q)), (2, .int (nI u)), (3, .int x), (4, .int (nI (i + 1)))] ⟨rfl, rfl, rfl, rfl, rfl, trivial⟩ (ihi (by omega) trivial)
    · refine x_goto C 70 d_MD_store_23 (by decide) ?_
      refine x_lv [(0, .ref (g 143)), (1, .int (nI q)), (2, .int (nI u)), (3, .int x), (4, .int (nI i))] ⟨rfl, rfl, rfl, rfl, rfl, trivial⟩ ?_
      refine xn_iinc C d_MD_store_70 4 rfl (by decide) rfl ?_
      refine x_goto C 3 d_MD_store_73 (by decide) ?_
      rw [swL_o _ (by decide), bt_shr _ (hH q) i (by omega)] at h20
      have hb : ¬ (τ 8 q 0).testBit i = true := fun r => by rw [if_pos r] at h20; omega
      refine x_E (E' := EM a g (swL τ q u (τ 8 q 0) (i + 1)) (swLW v q u (τ 8 q 0) x (i + 1)) fc X) (by rw [swL, swLW, if_neg hb, if_neg hb]) ?_
      exact x_lv [(0, .ref (g 143)), (1, .int (nI q)), (2, .int (nI u)), (3, .int x), (4, .int (nI (i + 1)))] ⟨rfl, rfl, rfl, rfl, rfl, trivial⟩ (ihi (by omega) trivial)
theorem m_MD_find {l : Launch} (htr : xTr l) {D : va_G} {a : Nat → ClassId} {base : Nat} {g : Nat → Nat} {n : Nat} {τ : xSig} {v : xWrd} {fc M : Nat} {X : Nat → va_E} (hn : 159 ≤ n) (hI : Inv τ v M) (hM : M ≤ 2 ^ 28) {i f q : Nat} (hi : i < 3) (hf : f < 8) (hq : q < 3) {k : Nat} (hk : 0 ≤ k) : xM l y_MD_find b_MD_find 6 (some FieldType.int) k D a base g n (EM a g τ v fc X) [.ref (g 143), .int (nI i), .int (nI f), .int (nI q)] (fun r E' => E' = EM a g (if fdC τ f q = 0 then fdS τ (kix i f q) f q else τ) v fc X ∧ r = .inl (some (.int (nI (fdC τ f q))))) := by
  refine x_method (by decide) htr (Nat.le_of_ble_eq_true rfl) ?_
  intro p e s m args below meth c C hne hret hnm
  have C : xC p l e s m meth c b_MD_find 6 "ChunkStoreModel" args D xcl (xty a) base := C
  have hO := hI.ok hM
  have hB : ∀ t i j, τ t i j < 2 ^ 30 := fun t i j => Nat.lt_trans (hO.1 t i j) (by decide)
  have hH := hO.2.2.2.1
  have hcv : ∀ s, s < 5 → τ 11 s 0 = cntV (τ 12 s) 30 := fun s hs => (hI.cnt s hs).1
  have hk : kix i f q < 72 := by unfold kix; omega
  refine x_aload_n C d_MD_find_0 rfl rfl ?_
  refine g_MD_state C hn d_MD_find_1 ?_
  refine x_iload_n C d_MD_find_4 rfl rfl ?_
  refine e_mstate C hf hn d_MD_find_5 ?_
  refine x_iconst C (v := nI 1) d_MD_find_6 (by decide) ?_
  refine xn_icmp_eq C (Nat.lt_trans (hB 2 f 0) (by decide)) (by decide) 12 d_MD_find_7 (by decide) (fun h7 => ?_) (fun h7 => ?_)
  · refine x_iload_n C d_MD_find_12 rfl rfl ?_
    refine x_aload_n C d_MD_find_13 rfl rfl ?_
    refine g_MD_length C hn d_MD_find_14 ?_
    refine x_iload_n C d_MD_find_17 rfl rfl ?_
    refine e_mlength C hf hn d_MD_find_18 ?_
    refine xn_icmp_lt C (by omega) (Nat.lt_trans (hB 3 f 0) (by decide)) 24 d_MD_find_19 (by decide) (fun h19 => ?_) (fun h19 => ?_)
    · refine x_bipush C (v := nI 24) d_MD_find_24 (by decide) ?_
      refine x_iload_n C d_MD_find_26 rfl rfl ?_
      refine xn_imul C d_MD_find_27 ?_
      refine x_iconst C (v := nI 3) d_MD_find_28 (by decide) ?_
      refine x_iload_n C d_MD_find_29 rfl rfl ?_
      refine xn_imul C d_MD_find_30 ?_
      refine xn_iadd C d_MD_find_31 ?_
      refine x_iload_n C d_MD_find_32 rfl rfl ?_
      refine xn_iadd C d_MD_find_33 ?_
      refine x_topi (show nI (24 * i + 3 * f + q) = nI (kix i f q) by rw [kix]; congr 1; omega) ?_
      refine x_istore C d_MD_find_34 (by decide) rfl ?_
      refine x_aload_n C d_MD_find_36 rfl rfl ?_
      refine g_MD_keptEnd C hn d_MD_find_37 ?_
      refine x_iload C d_MD_find_40 rfl ?_
      refine e_mkeptEnd C hk hn d_MD_find_42 ?_
      refine x_aload_n C d_MD_find_43 rfl rfl ?_
      refine g_MD_time C hn d_MD_find_44 ?_
      refine xn_dcmpE C (Nat.lt_trans (hB 17 (kix i f q) 0) (by decide)) (Nat.lt_trans (hB 1 0 0) (by decide)) d_MD_find_47 ?_
      refine x_if_le C 53 d_MD_find_48 (by decide) (fun h48 => ?_) (fun h48 => ?_)
      · have h48 := cmpE_le h48
        refine x_aload_n C d_MD_find_53 rfl rfl ?_
        refine g_MD_row C hn d_MD_find_54 ?_
        refine x_iconst C (v := nI 3) d_MD_find_57 (by decide) ?_
        refine x_iload_n C d_MD_find_58 rfl rfl ?_
        refine xn_imul C d_MD_find_59 ?_
        refine x_iload_n C d_MD_find_60 rfl rfl ?_
        refine xn_iadd C d_MD_find_61 ?_
        refine e_mrow C hf hq hn d_MD_find_62 ?_
        refine x_istore C d_MD_find_63 (by decide) rfl ?_
        refine x_aload_n C d_MD_find_65 rfl rfl ?_
        refine g_MD_keptChunk C hn d_MD_find_66 ?_
        refine x_iload C d_MD_find_69 rfl ?_
        refine x_iload C d_MD_find_71 rfl ?_
        refine a_mkeptChunk C hk hn d_MD_find_73 ?_
        refine x_aload_n C d_MD_find_74 rfl rfl ?_
        refine g_MD_keptVersion C hn d_MD_find_75 ?_
        refine x_iload C d_MD_find_78 rfl ?_
        refine x_aload_n C d_MD_find_80 rfl rfl ?_
        refine g_MD_version C hn d_MD_find_81 ?_
        refine x_iload C d_MD_find_84 rfl ?_
        refine e_mversion C (Nat.lt_of_lt_of_le ((hO.2.2.1 f hf).2 q h19) hO.2.1) hn d_MD_find_86 ?_
        refine a_mkeptVersion C hk hn d_MD_find_87 ?_
        refine x_aload_n C d_MD_find_88 rfl rfl ?_
        refine g_MD_keptHolders C hn d_MD_find_89 ?_
        refine x_iload C d_MD_find_92 rfl ?_
        refine x_aload_n C d_MD_find_94 rfl rfl ?_
        refine g_MD_holders C hn d_MD_find_95 ?_
        refine x_iload C d_MD_find_98 rfl ?_
        refine e_mholders C (Nat.lt_of_lt_of_le ((hO.2.2.1 f hf).2 q h19) hO.2.1) hn d_MD_find_100 ?_
        refine a_mkeptHolders C hk hn d_MD_find_101 ?_
        refine x_aload_n C d_MD_find_102 rfl rfl ?_
        refine g_MD_keptEnd C hn d_MD_find_103 ?_
        refine x_iload C d_MD_find_106 rfl ?_
        refine x_aload_n C d_MD_find_108 rfl rfl ?_
        refine g_MD_time C hn d_MD_find_109 ?_
        refine x_ldc2d C kw680 d_MD_find_112 ?_
        refine x_topd (show _ = dT 40 from dT_40i.symm) ?_
        refine xn_dadd C (by simp only [up3_n (show ¬ 1 = 14 by decide), up3_n (show ¬ 1 = 15 by decide), up3_n (show ¬ 1 = 16 by decide)]; have := hB 1 0 0; omega) d_MD_find_115 ?_
        refine a_mkeptEnd C hk (by omega) hn d_MD_find_116 ?_
        refine x_iconst C (v := nI 0) d_MD_find_117 (by decide) ?_
        exact x_iret C hret d_MD_find_118 ⟨by rw [fdC, if_pos h7, if_pos h19, if_pos rfl, fdS, if_neg (by omega)]; simp only [up3_n (show ¬ 6 = 14 by decide), up3_n (show ¬ 8 = 14 by decide), up3_n (show ¬ 8 = 15 by decide), up3_n (show ¬ 1 = 14 by decide), up3_n (show ¬ 1 = 15 by decide), up3_n (show ¬ 1 = 16 by decide)], by rw [fdC, if_pos h7, if_pos h19]⟩
      · have h48 := cmpE_nle h48
        refine x_iconst C (v := nI 0) d_MD_find_51 (by decide) ?_
        exact x_iret C hret d_MD_find_52 ⟨by rw [fdC, if_pos h7, if_pos h19, if_pos rfl, fdS, if_pos h48], by rw [fdC, if_pos h7, if_pos h19]⟩
    · refine x_iconst C (v := nI 3) d_MD_find_22 (by decide) ?_
      exact x_iret C hret d_MD_find_23 ⟨by rw [fdC, if_pos h7, if_neg (show ¬ q < τ 3 f 0 by omega), if_neg (by decide)], by rw [fdC, if_pos h7, if_neg (show ¬ q < τ 3 f 0 by omega)]⟩
  · refine x_iconst C (v := nI 2) d_MD_find_10 (by decide) ?_
    exact x_iret C hret d_MD_find_11 ⟨by rw [fdC, if_neg h7, if_neg (by decide)], by rw [fdC, if_neg h7]⟩
end XN2
