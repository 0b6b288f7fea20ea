/-! the reference: strips -/
section SP
variable {t d : Nat} {R N : Int}
/-- what the strips of the reference may change -/
def msKeep (g g' : hkG) : Prop := (∀ q : Int, q ≠ 66 → q ≠ 75 → q ≠ 77 → q ≠ 78 → g' q = g q) ∧ ∀ k : Int, k ≠ 16 → k ≠ 17 → k ≠ 18 → g' 66 k = g 66 k
theorem msKeep_r {g : hkG} : msKeep g g := ⟨fun _ _ _ _ _ => rfl, fun _ _ _ _ => rfl⟩
theorem msKeep_t {g g' g'' : hkG} (h : msKeep g g') (h' : msKeep g' g'') : msKeep g g'' := ⟨fun q a b c e => by rw [h'.1 q a b c e, h.1 q a b c e], fun k a b c => by rw [h'.2 k a b c, h.2 k a b c]⟩
theorem msKeep_X {g g' : hkG} (h : msKeep g g') (hX : MX g R N) : MX g' R N := MX_row hX (fun k hk => h.2 k (by omega) (by omega) (by omega)) (h.1 67 (by decide) (by decide) (by decide) (by decide)) (h.1 68 (by decide) (by decide) (by decide) (by decide)) (h.1 69 (by decide) (by decide) (by decide) (by decide))
theorem by_sum {h : Int → Int} {k b : Int} (hb : -1000 ≤ b ∧ b ≤ 1000) (l : List (Int × Int)) (hl : ∀ q ∈ l, q.2 = 1 ∨ q.2 = -1) : -(1000 * (l.length : Int)) ≤ b * sumAt h l k ∧ b * sumAt h l k ≤ 1000 * l.length := by
  obtain ⟨h1, h2⟩ := sumAt_le (h := h) (k := k) l hl
  generalize sumAt h l k = s at h1 h2
  generalize (l.length : Int) = n at h1 h2
  have hn : 0 ≤ n := by omega
  have a1 : b * s ≤ 1000 * n := by
    by_cases hb0 : 0 ≤ b
    · have := Int.mul_le_mul_of_nonneg_left h2 hb0
      have h3 : b * n ≤ 1000 * n := Int.mul_le_mul_of_nonneg_right hb.2 hn
      omega
    · have h4 : (-b) * (-s) ≤ (-b) * n := Int.mul_le_mul_of_nonneg_left (by omega) (by omega)
      have h3 : (-b) * n ≤ 1000 * n := Int.mul_le_mul_of_nonneg_right (by omega) hn
      rw [Int.neg_mul_neg] at h4
      omega
  have a2 : -(1000 * n) ≤ b * s := by
    by_cases hb0 : 0 ≤ b
    · have h4 : b * (-s) ≤ b * n := Int.mul_le_mul_of_nonneg_left (by omega) hb0
      have h3 : b * n ≤ 1000 * n := Int.mul_le_mul_of_nonneg_right hb.2 hn
      rw [Int.mul_neg] at h4
      omega
    · have h4 : (-b) * s ≤ (-b) * n := Int.mul_le_mul_of_nonneg_left h2 (by omega)
      have h3 : (-b) * n ≤ 1000 * n := Int.mul_le_mul_of_nonneg_right (by omega) hn
      rw [Int.neg_mul] at h4
      omega
  exact ⟨a2, a1⟩
theorem l_mstrips (ht : 190 ≤ t) (hb : bxOk R N) {i b : Int} (hi0 : 0 ≤ i) (hi : i < bxC R N) (hb1 : -1000 ≤ b ∧ b ≤ 1000) : ∀ (r : Nat) (left : Int) (f : Int → Int) (g : hkG) (B : Int) (Q : Option hkV → Nat → hkG → Prop), (r : Int) < R → 0 ≤ left → left ≤ 6 → (∀ j : Int, (r : Int) < j → j < R → g 78 j = f j ∧ 0 ≤ f j ∧ f j ≤ 20) → MX g R N → 0 ≤ B → B + 1000 * (stL R N i r left f).length ≤ 100000000 → (∀ k : Int, 0 ≤ k → k < bxC R N → -B ≤ g 77 k ∧ g 77 k ≤ B) → (∀ q ∈ stL R N i r left f, 0 ≤ q.1 ∧ q.1 < bxC R N ∧ (q.2 = 1 ∨ q.2 = -1)) →
    (∀ g' : hkG, msKeep g g' → (∀ j : Int, (r : Int) < j → g' 78 j = g 78 j) → (∀ k : Int, 0 ≤ k → k < bxC R N → g' 77 k = g 77 k + b * sumAt (fun sh => sh) (stL R N i r left f) k) → Q none t g') →
    Xp 124 (d + r + 1) 0 [(2, 66), (0, i), (0, (r : Int)), (0, left), (0, b), hkU, hkU] [] t g Q := by
  obtain ⟨b1, b2, b3, b4⟩ := id hb
  obtain ⟨c1, c2⟩ := bx_C hb
  intro r
  induction r with
  | zero =>
    intro left f g B Q hr hl0 hl1 hf hX hB0 hB1 hbd hval hQ
    obtain ⟨x1, x2, x3, x4, x5⟩ := MX_f hX
    obtain ⟨s1, s2, s3, s4, s5, s6⟩ := bx_sh hb hi0 hi
    have hL0 := s1 0 (by decide) (by decide)
    obtain ⟨e2, e3⟩ : hkW (bxL R N i 0 + left) = bxL R N i 0 + left ∧ hkW (left + 1) = left + 1 := ⟨hkW_in (by omega) (by omega), hkW_in (by omega) (by omega)⟩
    simp only [x_124_0, x_124_1, x_124_4, x_124_5, x_124_6, x_124_9, x_124_10, x_124_13, x_124_14, x_124_15, x_124_16, x_124_17, x_124_18, x_124_19, x_124_22, x_124_23, x_124_24, x_124_25, x_124_28, x_124_29, x_124_32, x_124_34, x_124_35, x_124_38, x_124_39, x_124_42, x_124_43, hkJK_66, hkJK_77, hkJK_78, jA_66_20, jA_66_21, jL_77, jL_78, jR_66_20, jR_66_21, hkP1_0, hkP1_2, hkP1_u, hkC8, List.map_cons, List.map_nil, List.sum_cons, List.sum_nil, hkCat_0, hkCat_1, hkCat_2, Nat.reduceAdd, Nat.reduceLeDiff, hkPush_s, hkPush_n, true_and, and_true, implies_true, true_implies, not_true_eq_false, not_false_eq_true, false_implies, hkTf_0, hkTf_n1, hkOr01, hkOr11, Int.reduceEq, Int.reduceLT, Int.reduceLE, hk102a, hk102b, hk102c, Nat.reduceEqDiff, or_true, true_or, or_false, false_or, and_false, false_and, Classical.not_not, true_implies, List.set_cons_zero, List.set_cons_succ, ne_eq, hkLe_t ht, Int.natCast_zero]
    rw [x_124_45]
    simp only [x_124_47, x_124_49, x_124_52, x_124_53, x_124_56, x_124_57, x_124_58, x_124_59, x_124_60, x_124_63, x_124_65, x_124_66, x_124_67, x_124_68, x_124_71, x_124_72, x_124_73, x_124_74, x_124_75, x_124_76, x_124_77, x_124_79, x_124_80, x_124_82, x_124_85, x_124_88, x_124_89, x_124_90, x_124_93, hkJK_66, hkJK_77, hkJK_78, jA_66_20, jA_66_21, jL_77, jL_78, jR_66_20, jR_66_21, hkP1_0, hkP1_2, hkP1_u, hkC8, List.map_cons, List.map_nil, List.sum_cons, List.sum_nil, hkCat_0, hkCat_1, hkCat_2, Nat.reduceAdd, Nat.reduceLeDiff, hkPush_s, hkPush_n, true_and, and_true, implies_true, true_implies, not_true_eq_false, not_false_eq_true, false_implies, hkTf_0, hkTf_n1, hkOr01, hkOr11, Int.reduceEq, Int.reduceLT, Int.reduceLE, hk102a, hk102b, hk102c, Nat.reduceEqDiff, or_true, true_or, or_false, false_or, and_false, false_and, Classical.not_not, true_implies, List.set_cons_zero, List.set_cons_succ, ne_eq, hkLe_t ht, Int.natCast_zero, sx_mAt ht hX hi0 hi (Int.le_refl 0) (show (0 : Int) < 4 by decide), e2]
    clear e2
    refine ⟨fun h => absurd h (by omega), fun _ => ?_⟩
    have hfU : ∀ j : Nat, (j : Int) < R → 0 ≤ fU f 0 (bxL R N i 0 + left) j ∧ fU f 0 (bxL R N i 0 + left) j ≤ 40 := by
      intro j hj
      unfold fU
      by_cases e : (j : Int) = 0
      · rw [if_pos e]; omega
      · rw [if_neg e]; have := hf j (by omega) hj; omega
    refine sx_mtakesRound ht (f := fU f 0 (bxL R N i 0 + left)) hb hfU ?_ ?_ (fun j hj => ?_) (fun g1 k1 k2 k3 k4 => ?_)
    · rw [hkSet_row (by decide)]; exact x1
    · rw [hkSet_row (by decide)]; exact x2
    · unfold fU
      by_cases e : (j : Int) = 0
      · rw [if_pos e, hkSet_rd, if_pos ⟨rfl, e⟩]
      · rw [if_neg e, hkSet_rd, if_neg (fun h => e h.2)]; exact (hf j (by omega) hj).1
    rw [hkSet_row (by decide)] at k2
    have kk : msKeep g g1 := ⟨fun q q1 q2 q3 q4 => by rw [k3 q q1 q2, hkSet_row q4], fun k q1 q2 q3 => by rw [k4 k q1 q2 q3, hkSet_row (by decide)]⟩
    have kg : ∀ j : Int, ((0 : Nat) : Int) < j → g1 78 j = g 78 j := fun j hj => by rw [k3 78 (by decide) (by decide), hkSet_rd, if_neg (by omega)]
    have k77 : g1 77 = g 77 := by rw [k3 77 (by decide) (by decide), hkSet_row (by decide)]
    unfold stL at hval hQ hB1
    unfold stOne at hval hQ hB1
    have END : ∀ g' : hkG, Q none t g' → Xp 124 (d + 1) 122 [(2, 66), (0, i), (0, 0), (0, left), (0, b), (0, left), (0, left)] [] t g' Q := by
      intro g' hq
      simp only [x_124_122, x_124_125, hkJK_66, hkJK_77, hkJK_78, jA_66_20, jA_66_21, jL_77, jL_78, jR_66_20, jR_66_21, hkP1_0, hkP1_2, hkP1_u, hkC8, List.map_cons, List.map_nil, List.sum_cons, List.sum_nil, hkCat_0, hkCat_1, hkCat_2, Nat.reduceAdd, Nat.reduceLeDiff, hkPush_s, hkPush_n, true_and, and_true, implies_true, true_implies, not_true_eq_false, not_false_eq_true, false_implies, hkTf_0, hkTf_n1, hkOr01, hkOr11, Int.reduceEq, Int.reduceLT, Int.reduceLE, hk102a, hk102b, hk102c, Nat.reduceEqDiff, or_true, true_or, or_false, false_or, and_false, false_and, Classical.not_not, true_implies, List.set_cons_zero, List.set_cons_succ, ne_eq, e3]
      rw [x_124_45]
      simp only [x_124_47, x_124_49, hkJK_66, hkJK_77, hkJK_78, jA_66_20, jA_66_21, jL_77, jL_78, jR_66_20, jR_66_21, hkP1_0, hkP1_2, hkP1_u, hkC8, List.map_cons, List.map_nil, List.sum_cons, List.sum_nil, hkCat_0, hkCat_1, hkCat_2, Nat.reduceAdd, Nat.reduceLeDiff, hkPush_s, hkPush_n, true_and, and_true, implies_true, true_implies, not_true_eq_false, not_false_eq_true, false_implies, hkTf_0, hkTf_n1, hkOr01, hkOr11, Int.reduceEq, Int.reduceLT, Int.reduceLE, hk102a, hk102b, hk102c, Nat.reduceEqDiff, or_true, true_or, or_false, false_or, and_false, false_and, Classical.not_not, true_implies, List.set_cons_zero, List.set_cons_succ, ne_eq, x_124_128, hkJK_66, hkJK_77, hkJK_78, jA_66_20, jA_66_21, jL_77, jL_78, jR_66_20, jR_66_21, hkP1_0, hkP1_2, hkP1_u, hkC8, List.map_cons, List.map_nil, List.sum_cons, List.sum_nil, hkCat_0, hkCat_1, hkCat_2, Nat.reduceAdd, Nat.reduceLeDiff, hkPush_s, hkPush_n, true_and, and_true, implies_true, true_implies, not_true_eq_false, not_false_eq_true, false_implies, hkTf_0, hkTf_n1, hkOr01, hkOr11, Int.reduceEq, Int.reduceLT, Int.reduceLE, hk102a, hk102b, hk102c, Nat.reduceEqDiff, or_true, true_or, or_false, false_or, and_false, false_and, Classical.not_not, true_implies, List.set_cons_zero, List.set_cons_succ, ne_eq]
      exact ⟨fun _ => hq, fun h => absurd (by omega) h⟩
    clear e3
    simp only [x_124_96, x_124_97, x_124_100, hkJK_66, hkJK_77, hkJK_78, jA_66_20, jA_66_21, jL_77, jL_78, jR_66_20, jR_66_21, hkP1_0, hkP1_2, hkP1_u, hkC8, List.map_cons, List.map_nil, List.sum_cons, List.sum_nil, hkCat_0, hkCat_1, hkCat_2, Nat.reduceAdd, Nat.reduceLeDiff, hkPush_s, hkPush_n, true_and, and_true, implies_true, true_implies, not_true_eq_false, not_false_eq_true, false_implies, hkTf_0, hkTf_n1, hkOr01, hkOr11, Int.reduceEq, Int.reduceLT, Int.reduceLE, hk102a, hk102b, hk102c, Nat.reduceEqDiff, or_true, true_or, or_false, false_or, and_false, false_and, Classical.not_not, true_implies, List.set_cons_zero, List.set_cons_succ, ne_eq, hkLe_t ht, k1]
    by_cases hz : trSg (fU f 0 (bxL R N i 0 + left)) R N R.toNat = 0
    · rw [if_pos hz] at hQ
      exact ⟨fun _ => END g1 (hQ g1 kk kg (fun k _ _ => by rw [k77, sumAt_nil]; omega)), fun h => absurd hz h⟩
    · rw [if_neg hz] at hval hQ hB1
      have hw := trW_rng (f := fU f 0 (bxL R N i 0 + left)) hb R.toNat
      have hv := hval _ List.mem_cons_self
      obtain ⟨-, k18⟩ := k2 hz
      simp only at hv
      simp only [List.length_cons, List.length_nil] at hB1
      obtain ⟨w1, w2⟩ := bxI_w _ _ rfl hv.1
      rw [← w1] at k18
      rw [(x5 _ hv.1 hv.2.1).2] at k18
      generalize bxI R N (trW (fU f 0 (bxL R N i 0 + left)) R N R.toNat) (bxC R N).toNat = sh at k18 hv hQ w1 w2
      generalize trSg (fU f 0 (bxL R N i 0 + left)) R N R.toNat = sg at k1 hv hQ hz
      have hb3 := hbd sh hv.1 hv.2.1
      obtain ⟨a4, a5⟩ : hkW (sg * b) = b * sg ∧ hkW (g 77 sh + b * sg) = g 77 sh + b * sg := by
        rcases hv.2.2 with h | h <;> rw [h] <;> exact ⟨by rw [hkW_in (by omega) (by omega)]; omega, hkW_in (by omega) (by omega)⟩
      refine ⟨fun h => absurd h hz, fun _ => ?_⟩
      simp only [x_124_103, x_124_104, x_124_107, x_124_108, x_124_111, x_124_112, x_124_113, x_124_114, x_124_117, x_124_119, x_124_120, x_124_121, hkJK_66, hkJK_77, hkJK_78, jA_66_20, jA_66_21, jL_77, jL_78, jR_66_20, jR_66_21, hkP1_0, hkP1_2, hkP1_u, hkC8, List.map_cons, List.map_nil, List.sum_cons, List.sum_nil, hkCat_0, hkCat_1, hkCat_2, Nat.reduceAdd, Nat.reduceLeDiff, hkPush_s, hkPush_n, true_and, and_true, implies_true, true_implies, not_true_eq_false, not_false_eq_true, false_implies, hkTf_0, hkTf_n1, hkOr01, hkOr11, Int.reduceEq, Int.reduceLT, Int.reduceLE, hk102a, hk102b, hk102c, Nat.reduceEqDiff, or_true, true_or, or_false, false_or, and_false, false_and, Classical.not_not, true_implies, List.set_cons_zero, List.set_cons_succ, ne_eq, hkLe_t ht, k1, k18, k77, a4, a5]
      clear a4 a5
      refine ⟨by omega, by omega, END _ (hQ _ (msKeep_t kk ⟨fun q q1 q2 q3 q4 => hkSet_row q3, fun k q1 q2 q3 => by rw [hkSet_row (by decide)]⟩) (fun j hj => by rw [hkSet_row (by decide)]; exact kg j hj) (fun k hk0 hk1 => ?_))⟩
      unfold sumAt
      simp only [List.map_cons, List.map_nil, List.sum_cons, List.sum_nil]
      rw [hkSet_rd]
      by_cases e : k = sh
      · rw [if_pos ⟨rfl, e⟩, if_pos e.symm, e, Int.add_zero]
      · rw [if_neg (fun h => e h.2), if_neg (fun h => e h.symm), k77, Int.add_zero, Int.mul_zero, Int.add_zero]
  | succ r ih =>
    intro left f g B Q hr hl0 hl1 hf hX hB0 hB1 hbd hval hQ
    obtain ⟨x1, x2, x3, x4, x5⟩ := MX_f hX
    obtain ⟨s1, s2, s3, s4, s5, s6⟩ := bx_sh hb hi0 hi
    have hLr := s1 (r : Int) (by omega) (by omega)
    have hLs := s1 ((r + 1 : Nat) : Int) (by omega) (by omega)
    have hm := hLr.2.2.2 (by omega)
    rw [show (r : Int) + 1 = ((r + 1 : Nat) : Int) from by omega] at hm
    have hr4 : ((r + 1 : Nat) : Int) < 4 := by omega
    have hr40 : (r : Int) < 4 := by omega
    have hrp : (0 : Int) ≤ ((r + 1 : Nat) : Int) := by omega
    have hrp0 : (0 : Int) ≤ (r : Int) := by omega
    obtain ⟨e3, e4⟩ : hkW (((r + 1 : Nat) : Int) - 1) = (r : Int) ∧ hkW (bxL R N i r - bxL R N i ((r + 1 : Nat) : Int)) = bxL R N i r - bxL R N i ((r + 1 : Nat) : Int) := ⟨by rw [hkW_in (by omega) (by omega)]; omega, hkW_in (by omega) (by omega)⟩
    rw [show d + (r + 1) + 1 = d + r + 1 + 1 from by omega]
    simp only [x_124_0, x_124_1, x_124_4, x_124_5, x_124_6, x_124_9, x_124_10, x_124_13, x_124_14, x_124_15, x_124_16, x_124_17, x_124_18, x_124_19, x_124_22, x_124_23, x_124_24, x_124_25, x_124_28, x_124_29, x_124_32, x_124_34, x_124_35, x_124_38, x_124_39, x_124_42, x_124_43, hkJK_66, hkJK_77, hkJK_78, jA_66_20, jA_66_21, jL_77, jL_78, jR_66_20, jR_66_21, hkP1_0, hkP1_2, hkP1_u, hkC8, List.map_cons, List.map_nil, List.sum_cons, List.sum_nil, hkCat_0, hkCat_1, hkCat_2, Nat.reduceAdd, Nat.reduceLeDiff, hkPush_s, hkPush_n, true_and, and_true, implies_true, true_implies, not_true_eq_false, not_false_eq_true, false_implies, hkTf_0, hkTf_n1, hkOr01, hkOr11, Int.reduceEq, Int.reduceLT, Int.reduceLE, hk102a, hk102b, hk102c, Nat.reduceEqDiff, or_true, true_or, or_false, false_or, and_false, false_and, Classical.not_not, true_implies, List.set_cons_zero, List.set_cons_succ, ne_eq, hkLe_t ht, sx_mAt ht hX hi0 hi hrp hr4, e3, sx_mAt ht hX hi0 hi hrp0 hr40, e4, sx_min]
    clear e3 e4
    refine ⟨fun _ => ⟨fun _ => ⟨fun _ => ?_, fun h => absurd h (by omega)⟩, fun h => absurd h (by omega)⟩, fun h => absurd (by omega) h⟩
    unfold stL at hB1 hval hQ
    rw [List.range_eq_range'] at hB1 hval hQ
    have hcnt : ((min left (bxL R N i r - bxL R N i ((r + 1 : Nat) : Int)) + 1).toNat : Int) = min left (bxL R N i r - bxL R N i ((r + 1 : Nat) : Int)) + 1 := by omega
    have hcl : ((min left (bxL R N i r - bxL R N i ((r + 1 : Nat) : Int)) + 1).toNat : Int) ≤ left + 1 := by omega
    have hcm : ((min left (bxL R N i r - bxL R N i ((r + 1 : Nat) : Int)) + 1).toNat : Int) ≤ 7 := by omega
    generalize hce : (min left (bxL R N i r - bxL R N i ((r + 1 : Nat) : Int)) + 1).toNat = c at hB1 hval hQ hcnt hcl hcm
    have hmo : min left (bxL R N i r - bxL R N i ((r + 1 : Nat) : Int)) = (c : Int) - 1 := by omega
    rw [hmo]
    clear hcnt hce hmo
    have LP : ∀ (m j : Nat) (g1 : hkG) (B1 : Int), j + m = c → 0 ≤ B1 → B1 + 1000 * (((List.range' j m).flatMap (fun (more : Nat) => stL R N i r (left - (more : Int)) (fU f ((r + 1 : Nat) : Int) (bxL R N i ((r + 1 : Nat) : Int) + (more : Int))))).length : Int) ≤ 100000000 → (∀ q ∈ (List.range' j m).flatMap (fun (more : Nat) => stL R N i r (left - (more : Int)) (fU f ((r + 1 : Nat) : Int) (bxL R N i ((r + 1 : Nat) : Int) + (more : Int)))), 0 ≤ q.1 ∧ q.1 < bxC R N ∧ (q.2 = 1 ∨ q.2 = -1)) → msKeep g g1 → (∀ j : Int, ((r + 1 : Nat) : Int) < j → g1 78 j = g 78 j) → (∀ k : Int, 0 ≤ k → k < bxC R N → -B1 ≤ g1 77 k ∧ g1 77 k ≤ B1) →
        (∀ g' : hkG, msKeep g g' → (∀ j : Int, ((r + 1 : Nat) : Int) < j → g' 78 j = g 78 j) → (∀ k : Int, 0 ≤ k → k < bxC R N → g' 77 k = g1 77 k + b * sumAt (fun sh => sh) ((List.range' j m).flatMap (fun (more : Nat) => stL R N i r (left - (more : Int)) (fU f ((r + 1 : Nat) : Int) (bxL R N i ((r + 1 : Nat) : Int) + (more : Int))))) k) → Q none t g') →
        Xp 124 (d + r + 1 + 1) 45 [(2, 66), (0, i), (0, ((r + 1 : Nat) : Int)), (0, left), (0, b), (0, (c : Int) - 1), (0, (j : Int))] [] t g1 Q := by
      intro m
      induction m with
      | zero =>
        intro j g1 B1 hj p0 p1 p2 p3 p4 p5 pQ
        rw [x_124_45]
        simp only [x_124_47, x_124_49, hkJK_66, hkJK_77, hkJK_78, jA_66_20, jA_66_21, jL_77, jL_78, jR_66_20, jR_66_21, hkP1_0, hkP1_2, hkP1_u, hkC8, List.map_cons, List.map_nil, List.sum_cons, List.sum_nil, hkCat_0, hkCat_1, hkCat_2, Nat.reduceAdd, Nat.reduceLeDiff, hkPush_s, hkPush_n, true_and, and_true, implies_true, true_implies, not_true_eq_false, not_false_eq_true, false_implies, hkTf_0, hkTf_n1, hkOr01, hkOr11, Int.reduceEq, Int.reduceLT, Int.reduceLE, hk102a, hk102b, hk102c, Nat.reduceEqDiff, or_true, true_or, or_false, false_or, and_false, false_and, Classical.not_not, true_implies, List.set_cons_zero, List.set_cons_succ, ne_eq, x_124_128, hkJK_66, hkJK_77, hkJK_78, jA_66_20, jA_66_21, jL_77, jL_78, jR_66_20, jR_66_21, hkP1_0, hkP1_2, hkP1_u, hkC8, List.map_cons, List.map_nil, List.sum_cons, List.sum_nil, hkCat_0, hkCat_1, hkCat_2, Nat.reduceAdd, Nat.reduceLeDiff, hkPush_s, hkPush_n, true_and, and_true, implies_true, true_implies, not_true_eq_false, not_false_eq_true, false_implies, hkTf_0, hkTf_n1, hkOr01, hkOr11, Int.reduceEq, Int.reduceLT, Int.reduceLE, hk102a, hk102b, hk102c, Nat.reduceEqDiff, or_true, true_or, or_false, false_or, and_false, false_and, Classical.not_not, true_implies, List.set_cons_zero, List.set_cons_succ, ne_eq]
        exact ⟨fun _ => pQ g1 p3 p4 (fun k _ _ => by simp [sumAt]), fun h => absurd (by omega) h⟩
      | succ m ihm =>
        intro j g1 B1 hj p0 p1 p2 p3 p4 p5 pQ
        rw [List.range'_succ, List.flatMap_cons] at p1 p2 pQ
        rw [List.length_append] at p1
        have hX1 : MX g1 R N := msKeep_X p3 hX
        obtain ⟨e5, e6, e7⟩ : hkW (bxL R N i ((r + 1 : Nat) : Int) + (j : Int)) = bxL R N i ((r + 1 : Nat) : Int) + (j : Int) ∧ hkW (((r + 1 : Nat) : Int) - 1) = (r : Int) ∧ hkW (left - (j : Int)) = left - (j : Int) := ⟨hkW_in (by omega) (by omega), by rw [hkW_in (by omega) (by omega)]; omega, hkW_in (by omega) (by omega)⟩
        rw [x_124_45]
        simp only [x_124_47, x_124_49, x_124_52, x_124_53, x_124_56, x_124_57, x_124_58, x_124_59, x_124_60, x_124_63, x_124_65, x_124_66, x_124_67, x_124_68, x_124_71, x_124_72, x_124_73, x_124_74, x_124_75, x_124_76, x_124_77, x_124_79, x_124_80, x_124_82, hkJK_66, hkJK_77, hkJK_78, jA_66_20, jA_66_21, jL_77, jL_78, jR_66_20, jR_66_21, hkP1_0, hkP1_2, hkP1_u, hkC8, List.map_cons, List.map_nil, List.sum_cons, List.sum_nil, hkCat_0, hkCat_1, hkCat_2, Nat.reduceAdd, Nat.reduceLeDiff, hkPush_s, hkPush_n, true_and, and_true, implies_true, true_implies, not_true_eq_false, not_false_eq_true, false_implies, hkTf_0, hkTf_n1, hkOr01, hkOr11, Int.reduceEq, Int.reduceLT, Int.reduceLE, hk102a, hk102b, hk102c, Nat.reduceEqDiff, or_true, true_or, or_false, false_or, and_false, false_and, Classical.not_not, true_implies, List.set_cons_zero, List.set_cons_succ, ne_eq, hkLe_t ht, sx_mAt ht hX1 hi0 hi hrp hr4, e5, e6, e7]
        clear e5 e6 e7
        refine ⟨fun h => by omega, fun _ => ⟨⟨by omega, by omega⟩, ⟨fun h => absurd h (by omega), fun _ => ?_⟩⟩⟩
        refine ih (left - (j : Int)) (fU f ((r + 1 : Nat) : Int) (bxL R N i ((r + 1 : Nat) : Int) + (j : Int))) (hkSet g1 78 ((r + 1 : Nat) : Int) (bxL R N i ((r + 1 : Nat) : Int) + (j : Int))) B1 _ (by omega) (by omega) (by omega) (fun a a1 a2 => ?_) (msKeep_X ⟨fun q q1 q2 q3 q4 => hkSet_row q4, fun k q1 q2 q3 => by rw [hkSet_row (by decide)]⟩ hX1) p0 (by omega) (fun k k0 k1 => by rw [hkSet_row (by decide)]; exact p5 k k0 k1) (fun q hq => p2 q (List.mem_append_left _ hq)) (fun g2 k1 k2 k3 => ?_)
        · unfold fU
          by_cases e : a = ((r + 1 : Nat) : Int)
          · rw [if_pos e, hkSet_rd, if_pos ⟨rfl, e⟩]
            exact ⟨rfl, by omega, by omega⟩
          · rw [if_neg e, hkSet_rd, if_neg (fun h => e h.2), p4 a (by omega)]
            exact hf a (by omega) a2
        · simp only [x_124_85, hkJK_66, hkJK_77, hkJK_78, jA_66_20, jA_66_21, jL_77, jL_78, jR_66_20, jR_66_21, hkP1_0, hkP1_2, hkP1_u, hkC8, List.map_cons, List.map_nil, List.sum_cons, List.sum_nil, hkCat_0, hkCat_1, hkCat_2, Nat.reduceAdd, Nat.reduceLeDiff, hkPush_s, hkPush_n, true_and, and_true, implies_true, true_implies, not_true_eq_false, not_false_eq_true, false_implies, hkTf_0, hkTf_n1, hkOr01, hkOr11, Int.reduceEq, Int.reduceLT, Int.reduceLE, hk102a, hk102b, hk102c, Nat.reduceEqDiff, or_true, true_or, or_false, false_or, and_false, false_and, Classical.not_not, true_implies, List.set_cons_zero, List.set_cons_succ, ne_eq, x_124_122, x_124_125, hkJK_66, hkJK_77, hkJK_78, jA_66_20, jA_66_21, jL_77, jL_78, jR_66_20, jR_66_21, hkP1_0, hkP1_2, hkP1_u, hkC8, List.map_cons, List.map_nil, List.sum_cons, List.sum_nil, hkCat_0, hkCat_1, hkCat_2, Nat.reduceAdd, Nat.reduceLeDiff, hkPush_s, hkPush_n, true_and, and_true, implies_true, true_implies, not_true_eq_false, not_false_eq_true, false_implies, hkTf_0, hkTf_n1, hkOr01, hkOr11, Int.reduceEq, Int.reduceLT, Int.reduceLE, hk102a, hk102b, hk102c, Nat.reduceEqDiff, or_true, true_or, or_false, false_or, and_false, false_and, Classical.not_not, true_implies, List.set_cons_zero, List.set_cons_succ, ne_eq]
          rw [hkW_in (by omega) (by omega), show (j : Int) + 1 = ((j + 1 : Nat) : Int) from by omega]
          have hle := fun (k : Int) (hl) => by_sum (h := fun sh => sh) (k := k) hb1 (stL R N i r (left - (j : Int)) (fU f ((r + 1 : Nat) : Int) (bxL R N i ((r + 1 : Nat) : Int) + (j : Int)))) hl
          refine ihm (j + 1) g2 (B1 + 1000 * (stL R N i r (left - (j : Int)) (fU f ((r + 1 : Nat) : Int) (bxL R N i ((r + 1 : Nat) : Int) + (j : Int)))).length) (by omega) (by omega) (by omega) (fun q hq => p2 q (List.mem_append_right _ hq)) (msKeep_t p3 (msKeep_t ⟨fun q q1 q2 q3 q4 => hkSet_row q4, fun k q1 q2 q3 => by rw [hkSet_row (by decide)]⟩ k1)) (fun a a1 => by rw [k2 a (by omega), hkSet_rd, if_neg (by omega)]; exact p4 a a1) (fun k b0 b1 => ?_) (fun g3 l1 l2 l3 => pQ g3 l1 l2 (fun k b0 b1 => ?_))
          · have h3 := k3 k b0 b1
            rw [hkSet_row (by decide)] at h3
            have h4 := hle k (fun q hq => (p2 q (List.mem_append_left _ hq)).2.2)
            have h5 := p5 k b0 b1
            omega
          · rw [l3 k b0 b1, k3 k b0 b1, hkSet_row (by decide), sumAt_app, Int.mul_add]; omega
    exact LP c 0 g B (by omega) hB0 hB1 hval msKeep_r (fun _ _ => rfl) hbd hQ
end SP
