/-! rows that aren't empty, counts of bits: the class -/
section SP
variable {t d : Nat} {R N : Int}
theorem l_filled (ht : 18 ≤ t) {i : Int} (hi0 : 0 ≤ i) (hi : i < 35) : ∀ (k : Nat) (r c : Int) (g : hkG) (Q : Option hkV → Nat → hkG → Prop), r + k = g 1 0 → 0 ≤ r → g 1 0 ≤ 4 → 0 ≤ c → c ≤ r → Q (some (0, flC (fun r => g 2 (4 * i + r)) k r c)) t g → Xp 41 d 4 [(2, 1), (0, i), (0, c), (0, r)] [] t g Q := by
  intro k
  induction k with
  | zero =>
    intro r c g Q hk h0 h4 hc0 hc4 hq
    rw [x_41_4]
    simp only [x_41_5, x_41_6, x_41_9, x_41_12, x_41_13, x_41_16, x_41_17, x_41_18, x_41_19, x_41_20, x_41_21, x_41_22, x_41_25, x_41_28, x_41_31, x_41_34, x_41_35, hkJK_1, hkJK_2, jA_1_4, jL_2, jR_1_4, hkP1_0, hkP1_2, hkP1_u, hkC8, List.map_cons, List.map_nil, List.sum_cons, List.sum_nil, hkCat_0, hkCat_1, hkCat_2, Nat.reduceAdd, Nat.reduceLeDiff, hkPush_s, hkPush_n, true_and, and_true, implies_true, true_implies, not_true_eq_false, not_false_eq_true, false_implies, hkTf_0, hkTf_n1, hkOr01, hkOr11, Int.reduceEq, Int.reduceLT, Int.reduceLE, hk102a, hk102b, hk102c, Nat.reduceEqDiff, or_true, true_or, or_false, false_or, and_false, false_and, Classical.not_not, true_implies, List.set_cons_zero, List.set_cons_succ, ne_eq, hkLe_t ht]
    exact ⟨fun _ => hq, fun h => absurd (by omega) h⟩
  | succ k ih =>
    intro r c g Q hk h0 h4 hc0 hc4 hq
    obtain ⟨e1, e2, e3, e4⟩ : hkW (i * 4) = 4 * i ∧ hkW (4 * i + r) = 4 * i + r ∧ hkW (c + 1) = c + 1 ∧ hkW (r + 1) = r + 1 := ⟨by rw [hkW_in (by omega) (by omega)]; omega, hkW_in (by omega) (by omega), hkW_in (by omega) (by omega), hkW_in (by omega) (by omega)⟩
    unfold flC at hq
    rw [x_41_4]
    simp only [x_41_5, x_41_6, x_41_9, x_41_12, x_41_13, x_41_16, x_41_17, x_41_18, x_41_19, x_41_20, x_41_21, x_41_22, x_41_25, x_41_28, x_41_31, hkJK_1, hkJK_2, jA_1_4, jL_2, jR_1_4, hkP1_0, hkP1_2, hkP1_u, hkC8, List.map_cons, List.map_nil, List.sum_cons, List.sum_nil, hkCat_0, hkCat_1, hkCat_2, Nat.reduceAdd, Nat.reduceLeDiff, hkPush_s, hkPush_n, true_and, and_true, implies_true, true_implies, not_true_eq_false, not_false_eq_true, false_implies, hkTf_0, hkTf_n1, hkOr01, hkOr11, Int.reduceEq, Int.reduceLT, Int.reduceLE, hk102a, hk102b, hk102c, Nat.reduceEqDiff, or_true, true_or, or_false, false_or, and_false, false_and, Classical.not_not, true_implies, List.set_cons_zero, List.set_cons_succ, ne_eq, hkLe_t ht, e1, e2, e3, e4]
    clear e1 e2 e3 e4
    refine ⟨fun h => by omega, fun _ => ⟨⟨by omega, by omega⟩, fun h => ?_, fun h => ?_⟩⟩
    · rw [if_neg (by omega)] at hq
      exact ih (r + 1) c g Q (by omega) (by omega) h4 hc0 (by omega) hq
    · rw [if_pos (by omega)] at hq
      exact ih (r + 1) (c + 1) g Q (by omega) (by omega) h4 (by omega) (by omega) hq
theorem sx_filledRows {g : hkG} {Q : Option hkV → Nat → hkG → Prop} (ht : 18 ≤ t) (hX : BX g R N) {i : Int} (hi0 : 0 ≤ i) (hi : i < bxC R N) : Xp 41 d 0 [(2, 1), (0, i), hkU, hkU] [] t g Q = Q (some (0, bxF R N i)) t g := by
  obtain ⟨x1, x2, x3, x4, x5, x6, x7, x8⟩ := BX_f hX
  obtain ⟨b1, b2, b3, b4⟩ := hX.1
  have hc := (bx_C hX.1).2
  have e : flC (fun r => g 2 (4 * i + r)) R.toNat 0 0 = bxF R N i := flC_congr _ _ _ (fun j h1 h2 => x5 i j hi0 hi h1 (by omega))
  refine Xp_ev (d := 0) (Ev_of ?_) (Nat.zero_le _)
  simp only [x_41_0, x_41_1, x_41_2, x_41_3, hkJK_1, hkJK_2, jA_1_4, jL_2, jR_1_4, hkP1_0, hkP1_2, hkP1_u, hkC8, List.map_cons, List.map_nil, List.sum_cons, List.sum_nil, hkCat_0, hkCat_1, hkCat_2, Nat.reduceAdd, Nat.reduceLeDiff, hkPush_s, hkPush_n, true_and, and_true, implies_true, true_implies, not_true_eq_false, not_false_eq_true, false_implies, hkTf_0, hkTf_n1, hkOr01, hkOr11, Int.reduceEq, Int.reduceLT, Int.reduceLE, hk102a, hk102b, hk102c, Nat.reduceEqDiff, or_true, true_or, or_false, false_or, and_false, false_and, Classical.not_not, true_implies, List.set_cons_zero, List.set_cons_succ, ne_eq]
  refine l_filled ht hi0 (by omega) R.toNat 0 0 g _ (by omega) (by omega) (by omega) (by omega) (by omega) ?_
  rw [e]; exact ⟨rfl, rfl, rfl⟩
theorem sx_bitCount {g : hkG} {Q : Option hkV → Nat → hkG → Prop} {x : Nat} (hx : x < 128) : Xp 173 d 0 [(0, (x : Int))] [] t g Q = Q (some (0, ((pbN x : Nat) : Int))) t g := by
  refine Xp_ev (d := 0) (Ev_of ?_) (Nat.zero_le _)
  simp only [x_173_0, x_173_1, x_173_2, x_173_3, x_173_4, x_173_7, x_173_8, x_173_9, x_173_10, x_173_11, x_173_14, x_173_15, x_173_16, x_173_17, x_173_18, x_173_21, x_173_22, x_173_23, x_173_24, x_173_25, x_173_26, x_173_27, x_173_28, x_173_29, x_173_32, x_173_33, x_173_34, x_173_35, x_173_36, x_173_38, x_173_39, x_173_40, x_173_41, x_173_42, x_173_43, x_173_45, x_173_46, x_173_47, x_173_48, x_173_49, x_173_51, x_173_52, hkP1_0, hkP1_2, hkP1_u, hkC8, List.map_cons, List.map_nil, List.sum_cons, List.sum_nil, hkCat_0, hkCat_1, hkCat_2, Nat.reduceAdd, Nat.reduceLeDiff, hkPush_s, hkPush_n, true_and, and_true, implies_true, true_implies, not_true_eq_false, not_false_eq_true, false_implies, hkTf_0, hkTf_n1, hkOr01, hkOr11, Int.reduceEq, Int.reduceLT, Int.reduceLE, hk102a, hk102b, hk102c, Nat.reduceEqDiff, or_true, true_or, or_false, false_or, and_false, false_and, Classical.not_not, true_implies, List.set_cons_zero, List.set_cons_succ, ne_eq]
  rw [← bcOk x hx]; rfl
/-- the leaf: what an order has come to is added -/
theorem l_ordLeaf (ht : 35 ≤ t) {place j a used q sg F : Int} {v10 v9 : hkV} (hp0 : 0 ≤ place) (hp : place ≤ 6120) (ha0 : 0 ≤ a) (ha : a ≤ 4) (hsg : sg = 1 ∨ sg = -1) : ∀ (m : Nat) (s : Int) (g : hkG) (Q : Option hkV → Nat → hkG → Prop), s + m = 5 → 0 ≤ s → (∀ x : Int, 0 ≤ x → x < 5 → -1000 ≤ g 15 (5 * a + x) ∧ g 15 (5 * a + x) ≤ 1000) → (∀ x : Int, s ≤ x → x < 5 → -1000000 ≤ g 14 (place + x) ∧ g 14 (place + x) ≤ 1000000) →
    (∀ g' : hkG, (∀ p : Int, p ≠ 14 → g' p = g p) → (∀ k : Int, k < place + s ∨ place + 5 ≤ k → g' 14 k = g 14 k) → (∀ x : Int, s ≤ x → x < 5 → g' 14 (place + x) = g 14 (place + x) + sg * g 15 (5 * a + x)) → Q none t g') →
    Xp 55 (d + 3) 19 [(2, 12), (0, place), (0, j), (0, a), (0, used), (0, q), (0, sg), (0, F), (0, s), v9, v10] [] t g Q := by
  intro m
  induction m with
  | zero =>
    intro s g Q hs h0 h1 h2 hQ
    rw [show s = 5 from by omega] at hQ ⊢
    rw [x_55_19]
    simp only [x_55_21, x_55_22, hkJK_1, hkJK_12, hkJK_14, hkJK_15, hkJK_2, jA_12_0, jA_12_3, jA_12_4, jA_1_4, jL_14, jL_15, jL_2, jR_12_0, jR_12_3, jR_12_4, jR_1_4, hkP1_0, hkP1_2, hkP1_u, hkC8, List.map_cons, List.map_nil, List.sum_cons, List.sum_nil, hkCat_0, hkCat_1, hkCat_2, Nat.reduceAdd, Nat.reduceLeDiff, hkPush_s, hkPush_n, true_and, and_true, implies_true, true_implies, not_true_eq_false, not_false_eq_true, false_implies, hkTf_0, hkTf_n1, hkOr01, hkOr11, Int.reduceEq, Int.reduceLT, Int.reduceLE, hk102a, hk102b, hk102c, Nat.reduceEqDiff, or_true, true_or, or_false, false_or, and_false, false_and, Classical.not_not, true_implies, List.set_cons_zero, List.set_cons_succ, ne_eq, x_55_57]
    exact hQ g (fun _ _ => rfl) (fun _ _ => rfl) (fun x a1 a2 => by omega)
  | succ m ih =>
    intro s g Q hs h0 h1 h2 hQ
    have k1 := h1 s h0 (by omega)
    have k2 := h2 s (by omega) (by omega)
    have k3 : -1000 ≤ sg * g 15 (5 * a + s) ∧ sg * g 15 (5 * a + s) ≤ 1000 := by
      rcases hsg with h | h <;> rw [h] <;> omega
    have ea : a * 5 = 5 * a := by omega
    have hg15 : ∀ k v : Int, hkSet g 14 k v 15 = g 15 := fun k v => hkSet_row (by decide)
    by_cases hlt : g 14 (place + s) + sg * g 15 (5 * a + s) ≤ 2000000 ∧ -2000000 ≤ g 14 (place + s) + sg * g 15 (5 * a + s)
    · obtain ⟨e1, e2, e3, e4, e5, e6⟩ : hkW (place + s) = place + s ∧ hkW (5 * a) = 5 * a ∧ hkW (5 * a + s) = 5 * a + s ∧ hkW (sg * g 15 (5 * a + s)) = sg * g 15 (5 * a + s) ∧ hkW (g 14 (place + s) + sg * g 15 (5 * a + s)) = g 14 (place + s) + sg * g 15 (5 * a + s) ∧ hkW (s + 1) = s + 1 := ⟨hkW_in (by omega) (by omega), hkW_in (by omega) (by omega), hkW_in (by omega) (by omega), hkW_in (by omega) (by omega), hkW_in (by omega) (by omega), hkW_in (by omega) (by omega)⟩
      rw [x_55_19]
      simp only [x_55_21, x_55_22, x_55_25, x_55_26, x_55_29, x_55_30, x_55_32, x_55_33, x_55_34, x_55_35, x_55_37, x_55_38, x_55_41, x_55_42, x_55_43, x_55_44, x_55_46, x_55_47, x_55_48, x_55_49, x_55_50, x_55_51, x_55_54, hkJK_1, hkJK_12, hkJK_14, hkJK_15, hkJK_2, jA_12_0, jA_12_3, jA_12_4, jA_1_4, jL_14, jL_15, jL_2, jR_12_0, jR_12_3, jR_12_4, jR_1_4, hkP1_0, hkP1_2, hkP1_u, hkC8, List.map_cons, List.map_nil, List.sum_cons, List.sum_nil, hkCat_0, hkCat_1, hkCat_2, Nat.reduceAdd, Nat.reduceLeDiff, hkPush_s, hkPush_n, true_and, and_true, implies_true, true_implies, not_true_eq_false, not_false_eq_true, false_implies, hkTf_0, hkTf_n1, hkOr01, hkOr11, Int.reduceEq, Int.reduceLT, Int.reduceLE, hk102a, hk102b, hk102c, Nat.reduceEqDiff, or_true, true_or, or_false, false_or, and_false, false_and, Classical.not_not, true_implies, List.set_cons_zero, List.set_cons_succ, ne_eq, hkLe_t ht, e1, ea, e2, e3, e4, e5, e6]
      clear e1 e2 e3 e4 e5 e6
      refine ⟨fun h => by omega, fun _ => ⟨by omega, by omega, by omega, ?_⟩⟩
      refine ih (s + 1) _ Q (by omega) (by omega) (fun x x0 x1 => by rw [hg15]; exact h1 x x0 x1) (fun x x0 x1 => by rw [hkSet_rd, if_neg (by omega)]; exact h2 x (by omega) x1) (fun g' l1 l2 l3 => hQ g' (fun p hp => by rw [l1 p hp]; exact hkSet_row hp) (fun k hk => by rw [l2 k (by omega), hkSet_rd, if_neg (by omega)]) (fun x x0 x1 => ?_))
      by_cases e : x = s
      · rw [e, l2 _ (by omega), hkSet_rd, if_pos ⟨rfl, rfl⟩]
      · rw [l3 x (by omega) x1, hg15, hkSet_rd, if_neg (by omega)]
    · exact absurd ⟨by omega, by omega⟩ hlt
end SP
