/-! Products: the strips are counted -/
section SP
variable {t d : Nat} {R N : Int}
def stKeep (g g' : hkG) : Prop := ∀ q : Int, q ≠ 10 → q ≠ 11 → q ≠ 13 → q ≠ 16 → g' q = g q
theorem l_addStrips (ht : 35 ≤ t) (hb : bxOk R N) {i n : Int} (hi0 : 0 ≤ i) (hi : i < bxC R N) (hn0 : 0 ≤ n) (hn : n ≤ 6) : ∀ (r : Nat) (left : Int) (f : Int → Int) (g : hkG) (B : Int) (Q : Option hkV → Nat → hkG → Prop), (r : Int) < R → 0 ≤ left → left ≤ 6 → (∀ j : Int, (r : Int) < j → j < R → g 16 j = f j ∧ 0 ≤ f j ∧ f j ≤ 20) → BX g R N → 0 ≤ B → B + (stL R N i r left f).length ≤ 1000000 → (∀ k : Int, 0 ≤ k → k < 1225 → -B ≤ g 13 k ∧ g 13 k ≤ B) → (∀ q ∈ stL R N i r left f, 0 ≤ q.1 ∧ q.1 < bxC R N ∧ (q.2 = 1 ∨ q.2 = -1)) →
    (∀ g' : hkG, stKeep g g' → (∀ j : Int, (r : Int) < j → g' 16 j = g 16 j) → (∀ k : Int, 0 ≤ k → k < 1225 → g' 13 k = g 13 k + sumAt (fun sh => (i * 7 + n) * 5 + bxSl R N sh) (stL R N i r left f) k) → Q none t g') →
    Xp 52 (d + r + 2) 0 [(2, 12), (0, i), (0, n), (0, (r : Int)), (0, left), hkU, hkU, hkU] [] t g Q := by
  obtain ⟨b1, b2, b3, b4⟩ := id hb
  obtain ⟨c1, c2⟩ := bx_C hb
  intro r
  induction r with
  | zero =>
    intro left f g B Q hr hl0 hl1 hf hX hB0 hB1 hbd hval hQ
    obtain ⟨x1, x2, x3, x4, x5, x6, x7, x8⟩ := BX_f hX
    obtain ⟨s1, s2, s3, s4, s5, s6⟩ := bx_sh hb hi0 hi
    have hL0 := s1 0 (by decide) (by decide)
    have hx5 := x5 i 0 hi0 hi (by decide) (by decide)
    rw [show 4 * i + 0 = 4 * i from by omega] at hx5
    have e1 : hkW (i * 4) = 4 * i := by rw [hkW_in (by omega) (by omega)]; omega
    have e2 : hkW (bxL R N i 0 + left) = bxL R N i 0 + left := hkW_in (by omega) (by omega)
    simp only [x_52_0, x_52_1, x_52_2, x_52_3, x_52_4, x_52_5, x_52_7, x_52_8, x_52_11, x_52_12, x_52_15, x_52_16, x_52_17, x_52_20, x_52_23, x_52_24, x_52_25, x_52_26, x_52_27, x_52_29, x_52_30, x_52_31, x_52_32, x_52_35, x_52_36, x_52_39, hkJK_1, hkJK_10, hkJK_12, hkJK_13, hkJK_16, hkJK_2, hkJK_7, jA_12_0, jA_12_1, jA_12_2, jA_12_5, jA_1_4, jA_1_9, jL_13, jL_16, jL_2, jL_7, jR_12_0, jR_12_1, jR_12_2, jR_12_5, jR_1_4, jR_1_9, hkP1_0, hkP1_2, hkP1_u, hkC8, List.map_cons, List.map_nil, List.sum_cons, List.sum_nil, hkCat_0, hkCat_1, hkCat_2, Nat.reduceAdd, Nat.reduceLeDiff, hkPush_s, hkPush_n, true_and, and_true, implies_true, true_implies, not_true_eq_false, not_false_eq_true, false_implies, hkTf_0, hkTf_n1, hkOr01, hkOr11, Int.reduceEq, Int.reduceLT, Int.reduceLE, hk102a, hk102b, hk102c, Nat.reduceEqDiff, or_true, true_or, or_false, false_or, and_false, false_and, Classical.not_not, true_implies, List.set_cons_zero, List.set_cons_succ, ne_eq, hkLe_t ht, e1, hx5, e2]
    clear e2
    refine ⟨fun h => absurd h (by omega), fun _ => ⟨by omega, ?_⟩⟩
    have hfU : ∀ j : Nat, (j : Int) < R → 0 ≤ fU f 0 (bxL R N i 0 + left) j ∧ fU f 0 (bxL R N i 0 + left) j ≤ 40 := by
      intro j hj
      unfold fU
      by_cases e : (j : Int) = 0
      · rw [if_pos e]; omega
      · rw [if_neg e]; have := hf j (by omega) hj; omega
    refine sx_takeRound (Nat.le_trans (by decide) ht) (f := fU f 0 (bxL R N i 0 + left)) hkJK_16 (by rw [jL_16]; omega) (by decide) hb hfU ?_ ?_ (fun j hj => ?_) (fun g1 k1 k2 k3 k4 => ?_)
    · rw [hkSet_row (by decide)]; exact x1
    · rw [hkSet_row (by decide)]; exact x2
    · unfold fU
      by_cases e : (j : Int) = 0
      · rw [if_pos e, hkSet_rd, if_pos ⟨rfl, e⟩]
      · rw [if_neg e, hkSet_rd, if_neg (fun h => e h.2)]; exact (hf j (by omega) hj).1
    rw [hkSet_row (by decide)] at k3
    have kk : stKeep g g1 := fun q q1 q2 q3 q4 => by rw [k4 q q1 q2, hkSet_row q4]
    have kg : ∀ j : Int, ((0 : Nat) : Int) < j → g1 16 j = g 16 j := fun j hj => by rw [k4 16 (by decide) (by decide), hkSet_rd, if_neg (by omega)]
    have k13 : g1 13 = g 13 := by rw [k4 13 (by decide) (by decide), hkSet_row (by decide)]
    unfold stL at hval hQ
    unfold stOne at hval hQ
    simp only [x_52_42, x_52_43, x_52_46, x_52_49, x_52_50, hkJK_1, hkJK_10, hkJK_12, hkJK_13, hkJK_16, hkJK_2, hkJK_7, jA_12_0, jA_12_1, jA_12_2, jA_12_5, jA_1_4, jA_1_9, jL_13, jL_16, jL_2, jL_7, jR_12_0, jR_12_1, jR_12_2, jR_12_5, jR_1_4, jR_1_9, hkP1_0, hkP1_2, hkP1_u, hkC8, List.map_cons, List.map_nil, List.sum_cons, List.sum_nil, hkCat_0, hkCat_1, hkCat_2, Nat.reduceAdd, Nat.reduceLeDiff, hkPush_s, hkPush_n, true_and, and_true, implies_true, true_implies, not_true_eq_false, not_false_eq_true, false_implies, hkTf_0, hkTf_n1, hkOr01, hkOr11, Int.reduceEq, Int.reduceLT, Int.reduceLE, hk102a, hk102b, hk102c, Nat.reduceEqDiff, or_true, true_or, or_false, false_or, and_false, false_and, Classical.not_not, true_implies, List.set_cons_zero, List.set_cons_succ, ne_eq, hkLe_t ht, k3]
    by_cases hz : trSg (fU f 0 (bxL R N i 0 + left)) R N R.toNat = 0
    · rw [if_pos hz] at hQ
      rw [if_pos hz]
      refine ⟨fun _ => ?_, fun h => absurd rfl h⟩
      simp only [x_52_92, hkJK_1, hkJK_10, hkJK_12, hkJK_13, hkJK_16, hkJK_2, hkJK_7, jA_12_0, jA_12_1, jA_12_2, jA_12_5, jA_1_4, jA_1_9, jL_13, jL_16, jL_2, jL_7, jR_12_0, jR_12_1, jR_12_2, jR_12_5, jR_1_4, jR_1_9, hkP1_0, hkP1_2, hkP1_u, hkC8, List.map_cons, List.map_nil, List.sum_cons, List.sum_nil, hkCat_0, hkCat_1, hkCat_2, Nat.reduceAdd, Nat.reduceLeDiff, hkPush_s, hkPush_n, true_and, and_true, implies_true, true_implies, not_true_eq_false, not_false_eq_true, false_implies, hkTf_0, hkTf_n1, hkOr01, hkOr11, Int.reduceEq, Int.reduceLT, Int.reduceLE, hk102a, hk102b, hk102c, Nat.reduceEqDiff, or_true, true_or, or_false, false_or, and_false, false_and, Classical.not_not, true_implies, List.set_cons_zero, List.set_cons_succ, ne_eq]
      exact hQ g1 kk kg (fun k _ _ => by rw [k13, sumAt_nil]; omega)
    · rw [if_neg hz] at hval hQ
      rw [if_neg hz]
      have hw := trW_rng (f := fU f 0 (bxL R N i 0 + left)) hb R.toNat
      rw [x8 _ hw.1 hw.2] at k3 ⊢
      rw [if_neg hz] at k3
      have hv := hval _ List.mem_cons_self
      simp only at hv
      generalize bxI R N (trW (fU f 0 (bxL R N i 0 + left)) R N R.toNat) (bxC R N).toNat = sh at k3 hv hQ ⊢
      have hs7 : g1 7 sh = bxSl R N sh := by
        rw [k4 7 (by decide) (by decide), hkSet_row (by decide)]; exact (x6 sh hv.1 hv.2.1).2.2.1
      obtain ⟨y1, y2, y3, y4, y5, y6⟩ := bx_sh hb hv.1 hv.2.1
      have y0 : 0 ≤ bxSl R N sh := (bxCq_0 _).1
      refine ⟨fun h => by omega, fun _ => ?_⟩
      have hb1 := hbd ((i * 7 + n) * 5 + bxSl R N sh) (by omega) (by omega)
      have a1 : hkW (i * 7) = i * 7 := hkW_in (by omega) (by omega)
      have a2 : hkW (i * 7 + n) = i * 7 + n := hkW_in (by omega) (by omega)
      have a3 : hkW ((i * 7 + n) * 5) = (i * 7 + n) * 5 := hkW_in (by omega) (by omega)
      have a4 : hkW ((i * 7 + n) * 5 + bxSl R N sh) = (i * 7 + n) * 5 + bxSl R N sh := hkW_in (by omega) (by omega)
      have a5 : hkW (g 13 ((i * 7 + n) * 5 + bxSl R N sh) + trSg (fU f 0 (bxL R N i 0 + left)) R N R.toNat) = g 13 ((i * 7 + n) * 5 + bxSl R N sh) + trSg (fU f 0 (bxL R N i 0 + left)) R N R.toNat := hkW_in (by omega) (by omega)
      simp only [x_52_53, x_52_54, x_52_57, x_52_58, x_52_60, x_52_61, x_52_62, x_52_63, x_52_64, x_52_65, x_52_66, x_52_69, x_52_72, x_52_73, x_52_76, x_52_79, x_52_80, x_52_81, x_52_82, x_52_83, x_52_84, x_52_87, x_52_90, x_52_91, x_52_92, hkJK_1, hkJK_10, hkJK_12, hkJK_13, hkJK_16, hkJK_2, hkJK_7, jA_12_0, jA_12_1, jA_12_2, jA_12_5, jA_1_4, jA_1_9, jL_13, jL_16, jL_2, jL_7, jR_12_0, jR_12_1, jR_12_2, jR_12_5, jR_1_4, jR_1_9, hkP1_0, hkP1_2, hkP1_u, hkC8, List.map_cons, List.map_nil, List.sum_cons, List.sum_nil, hkCat_0, hkCat_1, hkCat_2, Nat.reduceAdd, Nat.reduceLeDiff, hkPush_s, hkPush_n, true_and, and_true, implies_true, true_implies, not_true_eq_false, not_false_eq_true, false_implies, hkTf_0, hkTf_n1, hkOr01, hkOr11, Int.reduceEq, Int.reduceLT, Int.reduceLE, hk102a, hk102b, hk102c, Nat.reduceEqDiff, or_true, true_or, or_false, false_or, and_false, false_and, Classical.not_not, true_implies, List.set_cons_zero, List.set_cons_succ, ne_eq, hkLe_t ht, k1, k3, hs7, a1, a2, a3, a4, k13, a5]
      clear a1 a2 a3 a4 a5
      refine ⟨by omega, by omega, by omega, hQ _ (fun q q1 q2 q3 q4 => by rw [hkSet_row q3]; exact kk q q1 q2 q3 q4) (fun j hj => by rw [hkSet_row (by decide)]; exact kg j hj) (fun k hk0 hk1 => ?_)⟩
      unfold sumAt
      simp only [List.map_cons, List.map_nil, List.sum_cons, List.sum_nil]
      rw [hkSet_rd]
      by_cases e : k = (i * 7 + n) * 5 + bxSl R N sh
      · rw [if_pos ⟨rfl, e⟩, if_pos e.symm, e]; omega
      · rw [if_neg (fun h => e h.2), if_neg (fun h => e h.symm), k13]; omega
  | succ r ih =>
    intro left f g B Q hr hl0 hl1 hf hX hB0 hB1 hbd hval hQ
    obtain ⟨x1, x2, x3, x4, x5, x6, x7, x8⟩ := BX_f hX
    obtain ⟨s1, s2, s3, s4, s5, s6⟩ := bx_sh hb hi0 hi
    have hLr := s1 (r : Int) (by omega) (by omega)
    have hLs := s1 ((r + 1 : Nat) : Int) (by omega) (by omega)
    have hm := hLr.2.2.2 (by omega)
    rw [show (r : Int) + 1 = ((r + 1 : Nat) : Int) from by omega] at hm
    have hxr := x5 i (r : Int) hi0 hi (by omega) (by omega)
    have hxs := x5 i ((r + 1 : Nat) : Int) hi0 hi (by omega) (by omega)
    have e1 : hkW (i * 4) = 4 * i := by rw [hkW_in (by omega) (by omega)]; omega
    have e2 : hkW (4 * i + ((r + 1 : Nat) : Int)) = 4 * i + ((r + 1 : Nat) : Int) := hkW_in (by omega) (by omega)
    have e3 : hkW (4 * i + ((r + 1 : Nat) : Int) - 1) = 4 * i + (r : Int) := by rw [hkW_in (by omega) (by omega)]; omega
    have e4 : hkW (bxL R N i r - bxL R N i ((r + 1 : Nat) : Int)) = bxL R N i r - bxL R N i ((r + 1 : Nat) : Int) := hkW_in (by omega) (by omega)
    simp only [x_52_0, x_52_1, x_52_2, x_52_3, x_52_4, x_52_5, x_52_7, hkJK_1, hkJK_10, hkJK_12, hkJK_13, hkJK_16, hkJK_2, hkJK_7, jA_12_0, jA_12_1, jA_12_2, jA_12_5, jA_1_4, jA_1_9, jL_13, jL_16, jL_2, jL_7, jR_12_0, jR_12_1, jR_12_2, jR_12_5, jR_1_4, jR_1_9, hkP1_0, hkP1_2, hkP1_u, hkC8, List.map_cons, List.map_nil, List.sum_cons, List.sum_nil, hkCat_0, hkCat_1, hkCat_2, Nat.reduceAdd, Nat.reduceLeDiff, hkPush_s, hkPush_n, true_and, and_true, implies_true, true_implies, not_true_eq_false, not_false_eq_true, false_implies, hkTf_0, hkTf_n1, hkOr01, hkOr11, Int.reduceEq, Int.reduceLT, Int.reduceLE, hk102a, hk102b, hk102c, Nat.reduceEqDiff, or_true, true_or, or_false, false_or, and_false, false_and, Classical.not_not, true_implies, List.set_cons_zero, List.set_cons_succ, ne_eq, x_52_8, hkJK_1, hkJK_10, hkJK_12, hkJK_13, hkJK_16, hkJK_2, hkJK_7, jA_12_0, jA_12_1, jA_12_2, jA_12_5, jA_1_4, jA_1_9, jL_13, jL_16, jL_2, jL_7, jR_12_0, jR_12_1, jR_12_2, jR_12_5, jR_1_4, jR_1_9, hkP1_0, hkP1_2, hkP1_u, hkC8, List.map_cons, List.map_nil, List.sum_cons, List.sum_nil, hkCat_0, hkCat_1, hkCat_2, Nat.reduceAdd, Nat.reduceLeDiff, hkPush_s, hkPush_n, true_and, and_true, implies_true, true_implies, not_true_eq_false, not_false_eq_true, false_implies, hkTf_0, hkTf_n1, hkOr01, hkOr11, Int.reduceEq, Int.reduceLT, Int.reduceLE, hk102a, hk102b, hk102c, Nat.reduceEqDiff, or_true, true_or, or_false, false_or, and_false, false_and, Classical.not_not, true_implies, List.set_cons_zero, List.set_cons_succ, ne_eq, x_52_93, x_52_95, x_52_96, x_52_99, x_52_102, x_52_104, x_52_105, x_52_106, x_52_107, x_52_108, x_52_111, x_52_114, x_52_116, x_52_117, x_52_118, x_52_121, x_52_123, x_52_124, hkJK_1, hkJK_10, hkJK_12, hkJK_13, hkJK_16, hkJK_2, hkJK_7, jA_12_0, jA_12_1, jA_12_2, jA_12_5, jA_1_4, jA_1_9, jL_13, jL_16, jL_2, jL_7, jR_12_0, jR_12_1, jR_12_2, jR_12_5, jR_1_4, jR_1_9, hkP1_0, hkP1_2, hkP1_u, hkC8, List.map_cons, List.map_nil, List.sum_cons, List.sum_nil, hkCat_0, hkCat_1, hkCat_2, Nat.reduceAdd, Nat.reduceLeDiff, hkPush_s, hkPush_n, true_and, and_true, implies_true, true_implies, not_true_eq_false, not_false_eq_true, false_implies, hkTf_0, hkTf_n1, hkOr01, hkOr11, Int.reduceEq, Int.reduceLT, Int.reduceLE, hk102a, hk102b, hk102c, Nat.reduceEqDiff, or_true, true_or, or_false, false_or, and_false, false_and, Classical.not_not, true_implies, List.set_cons_zero, List.set_cons_succ, ne_eq, hkLe_t ht, e1, e2, e3, hxr, hxs, e4, sx_min]
    clear e1 e3 e4
    refine ⟨fun _ => ⟨⟨by omega, by omega⟩, ⟨by omega, by omega⟩, ?_⟩, fun h => absurd (by omega) h⟩
    unfold stL at hB1 hval hQ
    rw [List.range_eq_range'] at hB1 hval hQ
    have hcnt : ((min left (bxL R N i r - bxL R N i ((r + 1 : Nat) : Int)) + 1).toNat : Int) = min left (bxL R N i r - bxL R N i ((r + 1 : Nat) : Int)) + 1 := by omega
    have hc7 : (min left (bxL R N i r - bxL R N i ((r + 1 : Nat) : Int)) + 1).toNat ≤ 7 := by omega
    have hcl : ((min left (bxL R N i r - bxL R N i ((r + 1 : Nat) : Int)) + 1).toNat : Int) ≤ left + 1 := by omega
    have hcm : ((min left (bxL R N i r - bxL R N i ((r + 1 : Nat) : Int)) + 1).toNat : Int) ≤ 7 := by omega
    generalize hce : (min left (bxL R N i r - bxL R N i ((r + 1 : Nat) : Int)) + 1).toNat = c at hB1 hval hQ hcnt hc7 hcl hcm
    have hmo : min left (bxL R N i r - bxL R N i ((r + 1 : Nat) : Int)) = (c : Int) - 1 := by omega
    rw [hmo]
    clear hcnt hce hmo
    have LP : ∀ (m j : Nat) (g1 : hkG) (B1 : Int), j + m = c → 0 ≤ B1 → B1 + (((List.range' j m).flatMap (fun (more : Nat) => stL R N i r (left - (more : Int)) (fU f ((r + 1 : Nat) : Int) (bxL R N i ((r + 1 : Nat) : Int) + (more : Int))))).length : Int) ≤ 1000000 → (∀ q ∈ (List.range' j m).flatMap (fun (more : Nat) => stL R N i r (left - (more : Int)) (fU f ((r + 1 : Nat) : Int) (bxL R N i ((r + 1 : Nat) : Int) + (more : Int)))), 0 ≤ q.1 ∧ q.1 < bxC R N ∧ (q.2 = 1 ∨ q.2 = -1)) → stKeep g g1 → (∀ j : Int, ((r + 1 : Nat) : Int) < j → g1 16 j = g 16 j) → (∀ k : Int, 0 ≤ k → k < 1225 → -B1 ≤ g1 13 k ∧ g1 13 k ≤ B1) →
        (∀ g' : hkG, stKeep g g' → (∀ j : Int, ((r + 1 : Nat) : Int) < j → g' 16 j = g 16 j) → (∀ k : Int, 0 ≤ k → k < 1225 → g' 13 k = g1 13 k + sumAt (fun sh => (i * 7 + n) * 5 + bxSl R N sh) ((List.range' j m).flatMap (fun (more : Nat) => stL R N i r (left - (more : Int)) (fU f ((r + 1 : Nat) : Int) (bxL R N i ((r + 1 : Nat) : Int) + (more : Int))))) k) → Q none t g') →
        Xp 52 (d + (r + 1) + 2) 126 [(2, 12), (0, i), (0, n), (0, ((r + 1 : Nat) : Int)), (0, left), (0, 4 * i + ((r + 1 : Nat) : Int)), (0, (c : Int) - 1), (0, (j : Int))] [] t g1 Q := by
      intro m
      induction m with
      | zero =>
        intro j g1 B1 hj p0 p1 p2 p3 p4 p5 pQ
        rw [x_52_126]
        simp only [x_52_128, x_52_130, hkJK_1, hkJK_10, hkJK_12, hkJK_13, hkJK_16, hkJK_2, hkJK_7, jA_12_0, jA_12_1, jA_12_2, jA_12_5, jA_1_4, jA_1_9, jL_13, jL_16, jL_2, jL_7, jR_12_0, jR_12_1, jR_12_2, jR_12_5, jR_1_4, jR_1_9, hkP1_0, hkP1_2, hkP1_u, hkC8, List.map_cons, List.map_nil, List.sum_cons, List.sum_nil, hkCat_0, hkCat_1, hkCat_2, Nat.reduceAdd, Nat.reduceLeDiff, hkPush_s, hkPush_n, true_and, and_true, implies_true, true_implies, not_true_eq_false, not_false_eq_true, false_implies, hkTf_0, hkTf_n1, hkOr01, hkOr11, Int.reduceEq, Int.reduceLT, Int.reduceLE, hk102a, hk102b, hk102c, Nat.reduceEqDiff, or_true, true_or, or_false, false_or, and_false, false_and, Classical.not_not, true_implies, List.set_cons_zero, List.set_cons_succ, ne_eq, x_52_172]
        refine ⟨fun _ => pQ g1 p3 p4 (fun k _ _ => by simp [sumAt]), fun h => absurd (by omega) h⟩
      | succ m ihm =>
        intro j g1 B1 hj p0 p1 p2 p3 p4 p5 pQ
        rw [List.range'_succ, List.flatMap_cons] at p1 p2 pQ
        rw [List.length_append] at p1
        have hX1 : BX g1 R N := BX_row hX (fun p q1 q2 => p3 p (by omega) (by omega) (by omega) (by omega))
        obtain ⟨z1, z2, z3, z4, z5, z6, z7, z8⟩ := BX_f hX1
        have hzs := z5 i ((r + 1 : Nat) : Int) hi0 hi (by omega) (by omega)
        obtain ⟨e5, e6, e7⟩ : hkW (bxL R N i ((r + 1 : Nat) : Int) + (j : Int)) = bxL R N i ((r + 1 : Nat) : Int) + (j : Int) ∧ hkW (((r + 1 : Nat) : Int) - 1) = (r : Int) ∧ hkW (left - (j : Int)) = left - (j : Int) := ⟨hkW_in (by omega) (by omega), by rw [hkW_in (by omega) (by omega)]; omega, hkW_in (by omega) (by omega)⟩
        rw [x_52_126]
        simp only [x_52_128, x_52_130, x_52_133, x_52_134, x_52_137, x_52_138, x_52_139, x_52_142, x_52_145, x_52_147, x_52_148, x_52_150, x_52_151, x_52_152, x_52_153, x_52_154, x_52_155, x_52_156, x_52_157, x_52_158, x_52_160, x_52_162, x_52_163, hkJK_1, hkJK_10, hkJK_12, hkJK_13, hkJK_16, hkJK_2, hkJK_7, jA_12_0, jA_12_1, jA_12_2, jA_12_5, jA_1_4, jA_1_9, jL_13, jL_16, jL_2, jL_7, jR_12_0, jR_12_1, jR_12_2, jR_12_5, jR_1_4, jR_1_9, hkP1_0, hkP1_2, hkP1_u, hkC8, List.map_cons, List.map_nil, List.sum_cons, List.sum_nil, hkCat_0, hkCat_1, hkCat_2, Nat.reduceAdd, Nat.reduceLeDiff, hkPush_s, hkPush_n, true_and, and_true, implies_true, true_implies, not_true_eq_false, not_false_eq_true, false_implies, hkTf_0, hkTf_n1, hkOr01, hkOr11, Int.reduceEq, Int.reduceLT, Int.reduceLE, hk102a, hk102b, hk102c, Nat.reduceEqDiff, or_true, true_or, or_false, false_or, and_false, false_and, Classical.not_not, true_implies, List.set_cons_zero, List.set_cons_succ, ne_eq, hkLe_t ht, hzs, e5, e6, e7]
        clear e5 e6 e7
        refine ⟨fun h => by omega, fun _ => ⟨⟨by omega, by omega⟩, ⟨by omega, by omega⟩, ?_⟩⟩
        refine ih (left - (j : Int)) (fU f ((r + 1 : Nat) : Int) (bxL R N i ((r + 1 : Nat) : Int) + (j : Int))) (hkSet g1 16 ((r + 1 : Nat) : Int) (bxL R N i ((r + 1 : Nat) : Int) + (j : Int))) B1 _ (by omega) (by omega) (by omega) (fun a a1 a2 => ?_) (BX_row hX1 (fun p q1 q2 => hkSet_row (by omega))) p0 (by omega) (fun k k0 k1 => by rw [hkSet_row (by decide)]; exact p5 k k0 k1) (fun q hq => p2 q (List.mem_append_left _ hq)) (fun g2 k1 k2 k3 => ?_)
        · unfold fU
          by_cases e : a = ((r + 1 : Nat) : Int)
          · rw [if_pos e, hkSet_rd, if_pos ⟨rfl, e⟩]
            exact ⟨rfl, by omega, by omega⟩
          · rw [if_neg e, hkSet_rd, if_neg (fun h => e h.2), p4 a (by omega)]
            exact hf a (by omega) a2
        · simp only [x_52_166, x_52_169, hkJK_1, hkJK_10, hkJK_12, hkJK_13, hkJK_16, hkJK_2, hkJK_7, jA_12_0, jA_12_1, jA_12_2, jA_12_5, jA_1_4, jA_1_9, jL_13, jL_16, jL_2, jL_7, jR_12_0, jR_12_1, jR_12_2, jR_12_5, jR_1_4, jR_1_9, hkP1_0, hkP1_2, hkP1_u, hkC8, List.map_cons, List.map_nil, List.sum_cons, List.sum_nil, hkCat_0, hkCat_1, hkCat_2, Nat.reduceAdd, Nat.reduceLeDiff, hkPush_s, hkPush_n, true_and, and_true, implies_true, true_implies, not_true_eq_false, not_false_eq_true, false_implies, hkTf_0, hkTf_n1, hkOr01, hkOr11, Int.reduceEq, Int.reduceLT, Int.reduceLE, hk102a, hk102b, hk102c, Nat.reduceEqDiff, or_true, true_or, or_false, false_or, and_false, false_and, Classical.not_not, true_implies, List.set_cons_zero, List.set_cons_succ, ne_eq]
          rw [hkW_in (by omega) (by omega), show (j : Int) + 1 = ((j + 1 : Nat) : Int) from by omega]
          have hle := fun (k : Int) => sumAt_le (h := fun sh => (i * 7 + n) * 5 + bxSl R N sh) (k := k) (stL R N i r (left - (j : Int)) (fU f ((r + 1 : Nat) : Int) (bxL R N i ((r + 1 : Nat) : Int) + (j : Int))))
          refine ihm (j + 1) g2 (B1 + (stL R N i r (left - (j : Int)) (fU f ((r + 1 : Nat) : Int) (bxL R N i ((r + 1 : Nat) : Int) + (j : Int)))).length) (by omega) (by omega) (by omega) (fun q hq => p2 q (List.mem_append_right _ hq)) (fun q q1 q2 q3 q4 => by rw [k1 q q1 q2 q3 q4, hkSet_row q4]; exact p3 q q1 q2 q3 q4) (fun a a1 => by rw [k2 a (by omega), hkSet_rd, if_neg (by omega)]; exact p4 a a1) (fun k b0 b1 => ?_) (fun g3 l1 l2 l3 => pQ g3 l1 l2 (fun k b0 b1 => ?_))
          · have h3 := k3 k b0 b1
            rw [hkSet_row (by decide)] at h3
            have h4 := hle k (fun q hq => (p2 q (List.mem_append_left _ hq)).2.2)
            have h5 := p5 k b0 b1
            omega
          · rw [l3 k b0 b1, k3 k b0 b1, hkSet_row (by decide), sumAt_app]; omega
    exact LP c 0 g B (by omega) hB0 hB1 hval (fun _ _ _ _ _ => rfl) (fun _ _ => rfl) hbd hQ
end SP
