/-! the reference: determinants -/
/-- the reference's box -/
def MX (g : hkG) (R N : Int) : Prop := bxOk R N ∧ TM g R N (bxS R.toNat N.toNat).length
theorem MX_row {g g' : hkG} {R N : Int} (h : MX g R N) (h0 : ∀ k : Int, k < 3 → g' 66 k = g 66 k) (h1 : g' 67 = g 67) (h2 : g' 68 = g 68) (h3 : g' 69 = g 69) : MX g' R N := by
  obtain ⟨hb, u1, u2, u3, u4⟩ := h
  exact ⟨hb, by rw [h0 0 (by decide)]; exact u1, by rw [h0 1 (by decide)]; exact u2, by rw [h0 2 (by decide)]; exact u3, by rw [h1, h2, h3]; exact u4⟩
theorem MX_f {g : hkG} {R N : Int} (h : MX g R N) : g 66 0 = R ∧ g 66 1 = N ∧ g 66 2 = bxC R N ∧ (∀ i r : Int, 0 ≤ i → i < bxC R N → 0 ≤ r → r < 4 → g 67 (4 * i + r) = bxL R N i r) ∧ (∀ i : Int, 0 ≤ i → i < bxC R N → g 69 i = bxZ R N i ∧ g 68 (bxW R N i) = i) := by
  obtain ⟨hb, u1, u2, u3, u4⟩ := h
  exact ⟨u1, u2, u3, fun i r a1 a2 a3 a4 => (u4 i a1 a2).1 r a3 a4, fun i a1 a2 => (u4 i a1 a2).2⟩
section SP
variable {t d : Nat} {g : hkG} {R N : Int} {Q : Option hkV → Nat → hkG → Prop}
theorem sx_mAt (ht : 190 ≤ t) (hX : MX g R N) {i r : Int} (hi0 : 0 ≤ i) (hi : i < bxC R N) (hr0 : 0 ≤ r) (hr : r < 4) : Xp 110 d 0 [(2, 66), (0, i), (0, r)] [] t g Q = Q (some (0, bxL R N i r)) t g := by
  have hb := hX.1
  have hc := (bx_C hb).2
  obtain ⟨x1, x2, x3, x4, x5⟩ := MX_f hX
  refine Xp_ev (d := 0) (Ev_of ?_) (Nat.zero_le _)
  obtain ⟨e1, e2⟩ : hkW (4 * i) = 4 * i ∧ hkW (4 * i + r) = 4 * i + r := ⟨hkW_in (by omega) (by omega), hkW_in (by omega) (by omega)⟩
  simp only [x_110_0, x_110_1, x_110_4, x_110_5, x_110_6, x_110_7, x_110_8, x_110_9, x_110_10, hkJK_66, hkJK_67, jA_66_3, jL_67, jR_66_3, hkP1_0, hkP1_2, hkP1_u, hkC8, List.map_cons, List.map_nil, List.sum_cons, List.sum_nil, hkCat_0, hkCat_1, hkCat_2, Nat.reduceAdd, Nat.reduceLeDiff, hkPush_s, hkPush_n, true_and, and_true, implies_true, true_implies, not_true_eq_false, not_false_eq_true, false_implies, hkTf_0, hkTf_n1, hkOr01, hkOr11, Int.reduceEq, Int.reduceLT, Int.reduceLE, hk102a, hk102b, hk102c, Nat.reduceEqDiff, or_true, true_or, or_false, false_or, and_false, false_and, Classical.not_not, true_implies, List.set_cons_zero, List.set_cons_succ, ne_eq, hkLe_t ht, e1, e2, x4 i r hi0 hi hr0 hr]
  clear e1 e2
  exact ⟨by omega, by omega⟩
theorem l_mdet (ht : 190 ≤ t) (hX : MX g R N) {i : Int} {ov : Int} {B : Int → Int} (hi0 : 0 ≤ i) (hi : i < bxC R N) (hK : ∀ c : Int, 0 ≤ c → c < R → 0 ≤ g 81 c ∧ g 81 c < 2521 ∧ (ov = 0 → B c = g 81 c) ∧ (ov ≠ 0 → B c = g 81 c ^ 2519 % 2521)) : ∀ (m : Nat) (d : Nat) (u r : Int) (Q : Option hkV → Nat → hkG → Prop), r + m = R → 0 ≤ r → 0 ≤ u ∧ u < 16 → Q (some (0, alV R N B i m u)) t g →
    Xp 135 (d + 2 + m) 0 [(2, 66), (0, i), (0, r), (0, u), (0, ov), hkU, hkU, hkU, hkU] [] t g Q := by
  have hb := hX.1
  obtain ⟨b1, b2, b3, b4⟩ := id hb
  have hc := (bx_C hb).2
  obtain ⟨x1, x2, x3, x4, x5⟩ := MX_f hX
  intro m
  induction m with
  | zero =>
    intro d u r Q hr hr0 hu hQ
    simp only [x_135_0, x_135_1, x_135_2, x_135_5, x_135_8, x_135_9, hkJK_66, hkJK_81, jA_66_24, jL_81, jR_66_24, hkP1_0, hkP1_2, hkP1_u, hkC8, List.map_cons, List.map_nil, List.sum_cons, List.sum_nil, hkCat_0, hkCat_1, hkCat_2, Nat.reduceAdd, Nat.reduceLeDiff, hkPush_s, hkPush_n, true_and, and_true, implies_true, true_implies, not_true_eq_false, not_false_eq_true, false_implies, hkTf_0, hkTf_n1, hkOr01, hkOr11, Int.reduceEq, Int.reduceLT, Int.reduceLE, hk102a, hk102b, hk102c, Nat.reduceEqDiff, or_true, true_or, or_false, false_or, and_false, false_and, Classical.not_not, true_implies, List.set_cons_zero, List.set_cons_succ, ne_eq, hkLe_t ht, x1]
    exact ⟨fun h => absurd (by omega) h, fun _ => hQ⟩
  | succ m ih =>
    intro d u r Q hr hr0 hu hQ
    have hL2 := (bx_sh hb hi0 hi).1 r hr0 (by omega)
    rw [show d + 2 + (m + 1) = d + 2 + m + 1 from rfl]
    simp only [x_135_0, x_135_1, x_135_2, x_135_5, x_135_8, x_135_9, x_135_10, x_135_11, x_135_13, x_135_14, x_135_16, x_135_17, hkJK_66, hkJK_81, jA_66_24, jL_81, jR_66_24, hkP1_0, hkP1_2, hkP1_u, hkC8, List.map_cons, List.map_nil, List.sum_cons, List.sum_nil, hkCat_0, hkCat_1, hkCat_2, Nat.reduceAdd, Nat.reduceLeDiff, hkPush_s, hkPush_n, true_and, and_true, implies_true, true_implies, not_true_eq_false, not_false_eq_true, false_implies, hkTf_0, hkTf_n1, hkOr01, hkOr11, Int.reduceEq, Int.reduceLT, Int.reduceLE, hk102a, hk102b, hk102c, Nat.reduceEqDiff, or_true, true_or, or_false, false_or, and_false, false_and, Classical.not_not, true_implies, List.set_cons_zero, List.set_cons_succ, ne_eq, hkLe_t ht, x1]
    refine ⟨fun _ => ?_, fun h => absurd hr (by omega)⟩
    have LP : ∀ (k : Nat) (c all sg v : Int) (v9 : hkV), c + k = R → 0 ≤ c → (sg = 1 ∨ sg = -1) → v = all % 2521 → hkP1 v9 → Q (some (0, alL (fun c => B c ^ (bxL R N i (R - (m + 1)) + m).toNat % 2521 * alV R N B i m (hkOr u (hkShl 1 c)) % 2521) u k c all sg % 2521)) t g →
        Xp 135 (d + 2 + m + 1) 19 [(2, 66), (0, i), (0, r), (0, u), (0, ov), (0, v), (0, sg), (0, c), v9] [] t g Q := by
      intro k
      induction k with
      | zero =>
        intro c all sg v v9 hc1 hc0 hsg hv h9 hq
        rw [x_135_19]
        simp only [x_135_21, x_135_22, x_135_25, hkJK_66, hkJK_81, jA_66_24, jL_81, jR_66_24, hkP1_0, hkP1_2, hkP1_u, hkC8, List.map_cons, List.map_nil, List.sum_cons, List.sum_nil, hkCat_0, hkCat_1, hkCat_2, Nat.reduceAdd, Nat.reduceLeDiff, hkPush_s, hkPush_n, true_and, and_true, implies_true, true_implies, not_true_eq_false, not_false_eq_true, false_implies, hkTf_0, hkTf_n1, hkOr01, hkOr11, Int.reduceEq, Int.reduceLT, Int.reduceLE, hk102a, hk102b, hk102c, Nat.reduceEqDiff, or_true, true_or, or_false, false_or, and_false, false_and, Classical.not_not, true_implies, List.set_cons_zero, List.set_cons_succ, ne_eq, x_135_135, x_135_137, hkJK_66, hkJK_81, jA_66_24, jL_81, jR_66_24, hkP1_0, hkP1_2, hkP1_u, hkC8, List.map_cons, List.map_nil, List.sum_cons, List.sum_nil, hkCat_0, hkCat_1, hkCat_2, Nat.reduceAdd, Nat.reduceLeDiff, hkPush_s, hkPush_n, true_and, and_true, implies_true, true_implies, not_true_eq_false, not_false_eq_true, false_implies, hkTf_0, hkTf_n1, hkOr01, hkOr11, Int.reduceEq, Int.reduceLT, Int.reduceLE, hk102a, hk102b, hk102c, Nat.reduceEqDiff, or_true, true_or, or_false, false_or, and_false, false_and, Classical.not_not, true_implies, List.set_cons_zero, List.set_cons_succ, ne_eq, hkLe_t ht, x1, hv]
        exact ⟨fun _ => hq, fun h => absurd (by omega) h⟩
      | succ k ihk =>
        intro c all sg v v9 hc1 hc0 hsg hv h9 hq
        obtain ⟨q1, q2, q3, q4⟩ := hK c hc0 (by omega)
        obtain ⟨u1, u2⟩ := used_16 hu (o := c) (by omega)
        have hr1 : r = R - (m + 1) := by omega
        have hB : 0 ≤ B c ∧ B c < 2521 := by
          by_cases h : ov = 0
          · rw [q3 h]; exact ⟨q1, q2⟩
          · rw [q4 h]; exact ⟨Int.emod_nonneg _ (by decide), Int.emod_lt_of_pos _ (by decide)⟩
        unfold alL at hq
        have hbit : hkAnd (hkShr u c) 1 = 0 ∨ hkAnd (hkShr u c) 1 = 1 := by
          have := cbAll u.toNat (by omega) c.toNat (by omega)
          rw [show ((u.toNat : Nat) : Int) = u from by omega, show ((c.toNat : Nat) : Int) = c from by omega] at this
          rcases this with h | h
          · exact Or.inl h.1
          · exact Or.inr h.1
        have hinv : ∀ Q : Option hkV → Nat → hkG → Prop, Xp 136 (d + 2 + m) 0 [(0, g 81 c)] [] t g Q = Q (some (0, g 81 c ^ 2519 % 2521)) t g := by
          intro Q
          rw [show d + 2 + m = (d + 1 + m) + 1 from by omega]
          exact sx_minverse q1 q2
        have e2 : hkW (c + 1) = c + 1 := hkW_in (by omega) (by omega)
        rw [x_135_19]
        simp only [x_135_21, x_135_22, x_135_25, x_135_28, x_135_29, x_135_31, x_135_32, x_135_33, x_135_34, x_135_35, x_135_38, x_135_41, x_135_43, x_135_46, x_135_47, x_135_50, x_135_52, x_135_53, x_135_56, x_135_59, x_135_60, x_135_63, x_135_65, x_135_66, hkJK_66, hkJK_81, jA_66_24, jL_81, jR_66_24, hkP1_0, hkP1_2, hkP1_u, hkC8, List.map_cons, List.map_nil, List.sum_cons, List.sum_nil, hkCat_0, hkCat_1, hkCat_2, Nat.reduceAdd, Nat.reduceLeDiff, hkPush_s, hkPush_n, true_and, and_true, implies_true, true_implies, not_true_eq_false, not_false_eq_true, false_implies, hkTf_0, hkTf_n1, hkOr01, hkOr11, Int.reduceEq, Int.reduceLT, Int.reduceLE, hk102a, hk102b, hk102c, Nat.reduceEqDiff, or_true, true_or, or_false, false_or, and_false, false_and, Classical.not_not, true_implies, List.set_cons_zero, List.set_cons_succ, ne_eq, x_135_129, x_135_132, hkJK_66, hkJK_81, jA_66_24, jL_81, jR_66_24, hkP1_0, hkP1_2, hkP1_u, hkC8, List.map_cons, List.map_nil, List.sum_cons, List.sum_nil, hkCat_0, hkCat_1, hkCat_2, Nat.reduceAdd, Nat.reduceLeDiff, hkPush_s, hkPush_n, true_and, and_true, implies_true, true_implies, not_true_eq_false, not_false_eq_true, false_implies, hkTf_0, hkTf_n1, hkOr01, hkOr11, Int.reduceEq, Int.reduceLT, Int.reduceLE, hk102a, hk102b, hk102c, Nat.reduceEqDiff, or_true, true_or, or_false, false_or, and_false, false_and, Classical.not_not, true_implies, List.set_cons_zero, List.set_cons_succ, ne_eq, hkLe_t ht, x1, e2, hinv]
        clear e2
        have MID : hkAnd (hkShr u c) 1 = 0 → Xp 135 (d + 2 + m + 1) 68 [(2, 66), (0, i), (0, r), (0, u), (0, ov), (0, v), (0, sg), (0, c), (0, B c)] [] t g Q := by
          intro hbit0
          rw [if_pos hbit0, ← hr1] at hq
          have hpow : ∀ Q : Option hkV → Nat → hkG → Prop, Xp 134 (d + 2 + m) 0 [(0, B c), (0, bxL R N i r + m), hkU, hkU] [] t g Q = Q (some (0, B c ^ (bxL R N i r + m).toNat % 2521)) t g := by
            intro Q
            have := sx_mpower (t := t) (g := g) (d := d + 2 + m) (Q := Q) (x := B c) (n := (bxL R N i r + m).toNat) hB.1 hB.2 (by omega)
            rw [show (((bxL R N i r + m).toNat : Nat) : Int) = bxL R N i r + m from by omega] at this
            exact this
          have hv2 := alV_r (R := R) (N := N) (B := B) (i := i) (m := m) (u := hkOr u (hkShl 1 c))
          have hP0 : 0 ≤ B c ^ (bxL R N i r + m).toNat % 2521 := Int.emod_nonneg _ (by decide)
          have hP1 : B c ^ (bxL R N i r + m).toNat % 2521 < 2521 := Int.emod_lt_of_pos _ (by decide)
          obtain ⟨y1, y2⟩ := mul_lt2521 hP0 hP1 hv2.1 hv2.2
          obtain ⟨e1, e2, e3, e4, e5⟩ : hkW (bxL R N i r + R) = bxL R N i r + R ∧ hkW (bxL R N i r + R - 1) = bxL R N i r + R - 1 ∧ hkW (bxL R N i r + R - 1 - r) = bxL R N i r + m ∧ hkW (r + 1) = r + 1 ∧ hkL (sg * (B c ^ (bxL R N i r + m).toNat % 2521)) = sg * (B c ^ (bxL R N i r + m).toNat % 2521) := ⟨hkW_in (by omega) (by omega), hkW_in (by omega) (by omega), by rw [hkW_in (by omega) (by omega)]; omega, hkW_in (by omega) (by omega), by rcases hsg with h | h <;> rw [h, hkL_in (by omega) (by omega)]⟩
          simp only [x_135_68, x_135_70, x_135_71, x_135_73, x_135_74, x_135_76, x_135_77, x_135_78, x_135_79, x_135_82, x_135_83, x_135_86, x_135_87, x_135_88, x_135_89, x_135_90, x_135_91, x_135_94, x_135_95, x_135_96, x_135_97, x_135_98, x_135_99, x_135_100, x_135_101, x_135_102, x_135_103, x_135_105, x_135_106, x_135_107, x_135_109, hkJK_66, hkJK_81, jA_66_24, jL_81, jR_66_24, hkP1_0, hkP1_2, hkP1_u, hkC8, List.map_cons, List.map_nil, List.sum_cons, List.sum_nil, hkCat_0, hkCat_1, hkCat_2, Nat.reduceAdd, Nat.reduceLeDiff, hkPush_s, hkPush_n, true_and, and_true, implies_true, true_implies, not_true_eq_false, not_false_eq_true, false_implies, hkTf_0, hkTf_n1, hkOr01, hkOr11, Int.reduceEq, Int.reduceLT, Int.reduceLE, hk102a, hk102b, hk102c, Nat.reduceEqDiff, or_true, true_or, or_false, false_or, and_false, false_and, Classical.not_not, true_implies, List.set_cons_zero, List.set_cons_succ, ne_eq, hkLe_t ht, x1, sx_mAt ht hX hi0 hi hr0 (show r < 4 by omega), e1, e2, e3, hpow, e4, e5]
          clear e1 e2 e3 e4
          refine ih d (hkOr u (hkShl 1 c)) (r + 1) _ (by omega) (by omega) u1 ?_
          generalize B c ^ (bxL R N i r + m).toNat % 2521 = P at hq hP0 hP1 y1 y2 e5 ⊢
          generalize alV R N B i m (hkOr u (hkShl 1 c)) = A at hq hv2 y1 y2 ⊢
          obtain ⟨f1, f2⟩ : hkL (sg * P * A) = sg * (P * A) ∧ hkL (v + (sg * (P * A)).tmod 2521) = v + (sg * (P * A)).tmod 2521 := by
            have := tm_rng (v := sg * (P * A))
            refine ⟨?_, hkL_in (by omega) (by omega)⟩
            rw [Int.mul_assoc]
            rcases hsg with h | h <;> rw [h, hkL_in (by omega) (by omega)]
          have hm := tm_rng (v := sg * (P * A))
          have hf : (v + (sg * (P * A)).tmod 2521) % 2521 = (all + sg * (P * A % 2521)) % 2521 := by
            rw [hv]
            generalize P * A = y at y1 y2 ⊢
            rcases hsg with h | h
            · rw [h, Int.one_mul, Int.one_mul, Int.tmod_eq_emod_of_nonneg y1]; omega
            · rw [h, Int.neg_one_mul, Int.neg_one_mul, Int.neg_tmod, Int.tmod_eq_emod_of_nonneg y1]; omega
          simp only [x_135_112, x_135_113, x_135_114, x_135_117, x_135_118, x_135_119, hkJK_66, hkJK_81, jA_66_24, jL_81, jR_66_24, hkP1_0, hkP1_2, hkP1_u, hkC8, List.map_cons, List.map_nil, List.sum_cons, List.sum_nil, hkCat_0, hkCat_1, hkCat_2, Nat.reduceAdd, Nat.reduceLeDiff, hkPush_s, hkPush_n, true_and, and_true, implies_true, true_implies, not_true_eq_false, not_false_eq_true, false_implies, hkTf_0, hkTf_n1, hkOr01, hkOr11, Int.reduceEq, Int.reduceLT, Int.reduceLE, hk102a, hk102b, hk102c, Nat.reduceEqDiff, or_true, true_or, or_false, false_or, and_false, false_and, Classical.not_not, true_implies, List.set_cons_zero, List.set_cons_succ, ne_eq, e5, f1, f2, sx_mmod (show -1000000000000 ≤ v + (sg * (P * A)).tmod 2521 by omega) (show v + (sg * (P * A)).tmod 2521 ≤ 1000000000000 by omega)]
          obtain ⟨e1, e2⟩ : hkW (-sg) = -sg ∧ hkW (c + 1) = c + 1 := ⟨hkW_in (by omega) (by omega), hkW_in (by omega) (by omega)⟩
          simp only [x_135_122, x_135_124, x_135_126, x_135_127, x_135_129, x_135_132, hkJK_66, hkJK_81, jA_66_24, jL_81, jR_66_24, hkP1_0, hkP1_2, hkP1_u, hkC8, List.map_cons, List.map_nil, List.sum_cons, List.sum_nil, hkCat_0, hkCat_1, hkCat_2, Nat.reduceAdd, Nat.reduceLeDiff, hkPush_s, hkPush_n, true_and, and_true, implies_true, true_implies, not_true_eq_false, not_false_eq_true, false_implies, hkTf_0, hkTf_n1, hkOr01, hkOr11, Int.reduceEq, Int.reduceLT, Int.reduceLE, hk102a, hk102b, hk102c, Nat.reduceEqDiff, or_true, true_or, or_false, false_or, and_false, false_and, Classical.not_not, true_implies, List.set_cons_zero, List.set_cons_succ, ne_eq, e1, e2, hf]
          clear e1 e2
          exact ihk (c + 1) _ (-sg) _ _ (by omega) (by omega) (by omega) rfl (by unfold hkP1; simp) (by rw [← hr1]; exact hq)
        refine ⟨fun h => absurd h (by omega), fun _ => ⟨fun h => ⟨fun h2 => ⟨by omega, ?_⟩, fun h2 => ⟨by omega, ?_⟩⟩, fun h => ?_⟩⟩
        · rw [← q3 h2]; exact MID (by omega)
        · rw [← q4 h2]; exact MID (by omega)
        · rw [if_neg (by omega)] at hq
          exact ihk (c + 1) all sg v v9 (by omega) (by omega) hsg hv h9 hq
    have := LP R.toNat 0 0 1 0 hkU (by omega) (by decide) (Or.inl rfl) rfl (by rw [hkP1_u]; trivial) hQ
    exact this
end SP
