/-! Products: all strips, the table forgotten -/
def SV (R N i n s : Int) : Int := sumAt (bxSl R N) (st0 R N i n) s
def PST (g : hkG) (R N : Int) : Prop := ∀ i n s : Int, 0 ≤ i → i < bxC R N → 0 ≤ n → n ≤ N - R → 0 ≤ s → s < 5 → g 13 ((i * 7 + n) * 5 + s) = SV R N i n s
theorem sumAt_shift {b : Int} {h : Int → Int} {k : Int} : ∀ l : List (Int × Int), sumAt (fun sh => b + h sh) l (b + k) = sumAt h l k := by
  intro l
  unfold sumAt
  congr 1
  apply List.map_congr_left
  intro q _
  simp only
  by_cases e : h q.1 = k
  · rw [if_pos e, if_pos (by omega)]
  · rw [if_neg e, if_neg (by omega)]
theorem sumAt_out {h : Int → Int} {k : Int} : ∀ l : List (Int × Int), (∀ q ∈ l, h q.1 ≠ k) → sumAt h l k = 0 := by
  intro l
  induction l with
  | nil => intro _; rfl
  | cons a l ih =>
    intro hl
    have h1 := ih (fun q hq => hl q (List.mem_cons_of_mem _ hq))
    unfold sumAt at *
    rw [List.map_cons, List.sum_cons, if_neg (hl a List.mem_cons_self), h1]; rfl
theorem hkFillTab : hkW (-2147483648) = -2147483648 := by decide
section SP
variable {t d : Nat} {R N : Int}
def renKeep (g g' : hkG) : Prop := ∀ q : Int, q ≠ 10 → q ≠ 11 → q ≠ 13 → q ≠ 14 → q ≠ 16 → g' q = g q
def renDone (g : hkG) (R N i n : Int) : Prop := (∀ i' n' s : Int, 0 ≤ i' → i' < bxC R N → 0 ≤ n' → n' ≤ N - R → 0 ≤ s → s < 5 → g 13 ((i' * 7 + n') * 5 + s) = if i' < i ∨ (i' = i ∧ n' < n) then SV R N i' n' s else 0) ∧ ∀ k : Int, 0 ≤ k → k < 1225 → -40 ≤ g 13 k ∧ g 13 k ≤ 40
theorem l_renN (ht : 35 ≤ t) (hb : bxOk R N) {i : Int} (hi0 : 0 ≤ i) (hi : i < bxC R N) : ∀ (m : Nat) (n : Int) (g : hkG) (Q : Option hkV → Nat → hkG → Prop), n + m = N - R + 1 → 0 ≤ n → BX g R N → renDone g R N i n →
    (∀ g' : hkG, renKeep g g' → g' 14 = g 14 → renDone g' R N i (N - R + 1) → Xp 51 (d + 6) 65 [(2, 12), (0, i), (0, N - R + 1)] [] t g' Q) → Xp 51 (d + 6) 32 [(2, 12), (0, i), (0, n)] [] t g Q := by
  obtain ⟨b1, b2, b3, b4⟩ := id hb
  obtain ⟨c1, c2⟩ := bx_C hb
  intro m
  induction m with
  | zero =>
    intro n g Q hm h0 hX hD hQ
    obtain ⟨x1, x2, x3, x4, x5, x6, x7, x8⟩ := BX_f hX
    rw [show n = N - R + 1 from by omega] at hD ⊢
    rw [x_51_32]
    simp only [x_51_33, x_51_34, x_51_37, x_51_40, hkJK_1, hkJK_12, hkJK_13, hkJK_14, jA_12_0, jA_12_2, jA_12_3, jL_13, jL_14, jR_12_0, jR_12_2, jR_12_3, hkP1_0, hkP1_2, hkP1_u, hkC8, List.map_cons, List.map_nil, List.sum_cons, List.sum_nil, hkCat_0, hkCat_1, hkCat_2, Nat.reduceAdd, Nat.reduceLeDiff, hkPush_s, hkPush_n, true_and, and_true, implies_true, true_implies, not_true_eq_false, not_false_eq_true, false_implies, hkTf_0, hkTf_n1, hkOr01, hkOr11, Int.reduceEq, Int.reduceLT, Int.reduceLE, hk102a, hk102b, hk102c, Nat.reduceEqDiff, or_true, true_or, or_false, false_or, and_false, false_and, Classical.not_not, true_implies, List.set_cons_zero, List.set_cons_succ, ne_eq, hkLe_t ht, x3]
    exact ⟨fun _ => hQ g (fun _ _ _ _ _ _ => rfl) rfl hD, fun h => absurd (by omega) h⟩
  | succ m ih =>
    intro n g Q hm h0 hX hD hQ
    obtain ⟨x1, x2, x3, x4, x5, x6, x7, x8⟩ := BX_f hX
    have e1 : hkW (R - 1) = ((R - 1).toNat : Int) := by rw [hkW_in (by omega) (by omega)]; omega
    rw [x_51_32]
    simp only [x_51_33, x_51_34, x_51_37, x_51_40, x_51_43, x_51_44, x_51_45, x_51_46, x_51_47, x_51_50, x_51_53, x_51_54, x_51_55, x_51_56, hkJK_1, hkJK_12, hkJK_13, hkJK_14, jA_12_0, jA_12_2, jA_12_3, jL_13, jL_14, jR_12_0, jR_12_2, jR_12_3, hkP1_0, hkP1_2, hkP1_u, hkC8, List.map_cons, List.map_nil, List.sum_cons, List.sum_nil, hkCat_0, hkCat_1, hkCat_2, Nat.reduceAdd, Nat.reduceLeDiff, hkPush_s, hkPush_n, true_and, and_true, implies_true, true_implies, not_true_eq_false, not_false_eq_true, false_implies, hkTf_0, hkTf_n1, hkOr01, hkOr11, Int.reduceEq, Int.reduceLT, Int.reduceLE, hk102a, hk102b, hk102c, Nat.reduceEqDiff, or_true, true_or, or_false, false_or, and_false, false_and, Classical.not_not, true_implies, List.set_cons_zero, List.set_cons_succ, ne_eq, hkLe_t ht, x3, x1, e1]
    clear e1
    refine ⟨fun h => by omega, fun _ => ?_⟩
    obtain ⟨hall, hlen⟩ := st_all hb hi0 hi h0 (show n ≤ N - R by omega)
    have K := l_addStrips (d := d + 3 - (R - 1).toNat) ht hb hi0 hi h0 (show n ≤ 6 by omega) (R - 1).toNat n (fun _ => 0) g 40 (fun r t g => Xp 51 (d + 6) 59 [(2, 12), (0, i), (0, n)] (hkPush r []) t g Q) (by omega) h0 (by omega) (fun j j1 j2 => by omega) hX (by decide) (by have : (st0 R N i n).length ≤ 40 := hlen; show (40 : Int) + ((st0 R N i n).length : Int) ≤ _; omega) hD.2 (fun q hq => by have := hall q hq; exact ⟨this.1, this.2.1, this.2.2.1⟩) (fun g' k1 k2 k3 => ?_)
    · rw [show d + 3 - (R - 1).toNat + (R - 1).toNat + 2 = d + 5 from by omega] at K
      exact K
    · simp only [x_51_59, x_51_62, hkJK_1, hkJK_12, hkJK_13, hkJK_14, jA_12_0, jA_12_2, jA_12_3, jL_13, jL_14, jR_12_0, jR_12_2, jR_12_3, hkP1_0, hkP1_2, hkP1_u, hkC8, List.map_cons, List.map_nil, List.sum_cons, List.sum_nil, hkCat_0, hkCat_1, hkCat_2, Nat.reduceAdd, Nat.reduceLeDiff, hkPush_s, hkPush_n, true_and, and_true, implies_true, true_implies, not_true_eq_false, not_false_eq_true, false_implies, hkTf_0, hkTf_n1, hkOr01, hkOr11, Int.reduceEq, Int.reduceLT, Int.reduceLE, hk102a, hk102b, hk102c, Nat.reduceEqDiff, or_true, true_or, or_false, false_or, and_false, false_and, Classical.not_not, true_implies, List.set_cons_zero, List.set_cons_succ, ne_eq]
      rw [hkW_in (by omega) (by omega)]
      have k3' : ∀ k : Int, 0 ≤ k → k < 1225 → g' 13 k = g 13 k + sumAt (fun sh => (i * 7 + n) * 5 + bxSl R N sh) (st0 R N i n) k := k3
      have hsl : ∀ q ∈ st0 R N i n, 0 ≤ bxSl R N q.1 ∧ bxSl R N q.1 < 5 := fun q hq => by
        have h1 := hall q hq
        exact ⟨(bxCq_0 _).1, (bx_sh hb h1.1 h1.2.1).2.2.2.1⟩
      have hout : ∀ k : Int, (k < (i * 7 + n) * 5 ∨ (i * 7 + n) * 5 + 5 ≤ k) → sumAt (fun sh => (i * 7 + n) * 5 + bxSl R N sh) (st0 R N i n) k = 0 := fun k hk => sumAt_out _ (fun q hq => by have := hsl q hq; omega)
      refine ih (n + 1) g' Q (by omega) (by omega) (BX_row hX (fun p q1 q2 => k1 p (by omega) (by omega) (by omega) (by omega))) ⟨fun i' n' s a1 a2 a3 a4 a5 a6 => ?_, fun k a1 a2 => ?_⟩ (fun g2 l1 l2 l3 => hQ g2 (fun q q1 q2 q3 q4 q5 => by rw [l1 q q1 q2 q3 q4 q5, k1 q q1 q2 q3 q5]) (by rw [l2, k1 14 (by decide) (by decide) (by decide) (by decide)]) l3)
      · rw [k3' _ (by omega) (by omega), hD.1 i' n' s a1 a2 a3 a4 a5 a6]
        by_cases e : i' = i ∧ n' = n
        · obtain ⟨rfl, rfl⟩ := e
          rw [if_neg (by omega), if_pos (by omega), sumAt_shift]
          unfold SV; omega
        · rw [hout _ (by omega)]
          by_cases h : i' < i ∨ (i' = i ∧ n' < n)
          · rw [if_pos h, if_pos (by omega)]; omega
          · rw [if_neg h, if_neg (by omega)]; rfl
      · rw [k3' k a1 a2]
        by_cases h : k < (i * 7 + n) * 5 ∨ (i * 7 + n) * 5 + 5 ≤ k
        · rw [hout k h]; have := hD.2 k a1 a2; omega
        · have h1 := hD.1 i n (k - (i * 7 + n) * 5) hi0 hi h0 (by omega) (by omega) (by omega)
          rw [if_neg (by omega), show (i * 7 + n) * 5 + (k - (i * 7 + n) * 5) = k from by omega] at h1
          rw [h1]
          have h2 := sumAt_le (h := fun sh => (i * 7 + n) * 5 + bxSl R N sh) (k := k) (st0 R N i n) (fun q hq => (hall q hq).2.2.1)
          omega
theorem l_renI (ht : 35 ≤ t) (hb : bxOk R N) : ∀ (m : Nat) (i : Int) (g : hkG) (v2 : hkV) (Q : Option hkV → Nat → hkG → Prop), i + m = bxC R N → 0 ≤ i → hkP1 v2 → BX g R N → renDone g R N i 0 →
    (∀ g' : hkG, renKeep g g' → g' 14 = g 14 → PST g' R N → Q none t g') → Xp 51 (d + 6) 19 [(2, 12), (0, i), v2] [] t g Q := by
  obtain ⟨c1, c2⟩ := bx_C hb
  intro m
  induction m with
  | zero =>
    intro i g v2 Q hm h0 hv hX hD hQ
    obtain ⟨x1, x2, x3, x4, x5, x6, x7, x8⟩ := BX_f hX
    rw [x_51_19]
    simp only [x_51_20, x_51_21, x_51_24, x_51_27, hkJK_1, hkJK_12, hkJK_13, hkJK_14, jA_12_0, jA_12_2, jA_12_3, jL_13, jL_14, jR_12_0, jR_12_2, jR_12_3, hkP1_0, hkP1_2, hkP1_u, hkC8, List.map_cons, List.map_nil, List.sum_cons, List.sum_nil, hkCat_0, hkCat_1, hkCat_2, Nat.reduceAdd, Nat.reduceLeDiff, hkPush_s, hkPush_n, true_and, and_true, implies_true, true_implies, not_true_eq_false, not_false_eq_true, false_implies, hkTf_0, hkTf_n1, hkOr01, hkOr11, Int.reduceEq, Int.reduceLT, Int.reduceLE, hk102a, hk102b, hk102c, Nat.reduceEqDiff, or_true, true_or, or_false, false_or, and_false, false_and, Classical.not_not, true_implies, List.set_cons_zero, List.set_cons_succ, ne_eq, hkLe_t ht, x4, x_51_71]
    refine ⟨fun _ => hQ g (fun _ _ _ _ _ _ => rfl) rfl (fun i' n s a1 a2 a3 a4 a5 a6 => ?_), fun h => absurd (by omega) h⟩
    rw [hD.1 i' n s a1 a2 a3 a4 a5 a6, if_pos (by omega)]
  | succ m ih =>
    intro i g v2 Q hm h0 hv hX hD hQ
    obtain ⟨x1, x2, x3, x4, x5, x6, x7, x8⟩ := BX_f hX
    rw [x_51_19]
    simp only [x_51_20, x_51_21, x_51_24, x_51_27, x_51_30, x_51_31, hkJK_1, hkJK_12, hkJK_13, hkJK_14, jA_12_0, jA_12_2, jA_12_3, jL_13, jL_14, jR_12_0, jR_12_2, jR_12_3, hkP1_0, hkP1_2, hkP1_u, hkC8, List.map_cons, List.map_nil, List.sum_cons, List.sum_nil, hkCat_0, hkCat_1, hkCat_2, Nat.reduceAdd, Nat.reduceLeDiff, hkPush_s, hkPush_n, true_and, and_true, implies_true, true_implies, not_true_eq_false, not_false_eq_true, false_implies, hkTf_0, hkTf_n1, hkOr01, hkOr11, Int.reduceEq, Int.reduceLT, Int.reduceLE, hk102a, hk102b, hk102c, Nat.reduceEqDiff, or_true, true_or, or_false, false_or, and_false, false_and, Classical.not_not, true_implies, List.set_cons_zero, List.set_cons_succ, ne_eq, hkLe_t ht, x4]
    refine ⟨fun h => by omega, fun _ => ?_⟩
    refine l_renN ht hb h0 (by omega) (N - R + 1).toNat 0 g Q (by have := hb.2.2.1; omega) (by omega) hX hD (fun g' k1 k2 k3 => ?_)
    simp only [x_51_65, x_51_68, hkJK_1, hkJK_12, hkJK_13, hkJK_14, jA_12_0, jA_12_2, jA_12_3, jL_13, jL_14, jR_12_0, jR_12_2, jR_12_3, hkP1_0, hkP1_2, hkP1_u, hkC8, List.map_cons, List.map_nil, List.sum_cons, List.sum_nil, hkCat_0, hkCat_1, hkCat_2, Nat.reduceAdd, Nat.reduceLeDiff, hkPush_s, hkPush_n, true_and, and_true, implies_true, true_implies, not_true_eq_false, not_false_eq_true, false_implies, hkTf_0, hkTf_n1, hkOr01, hkOr11, Int.reduceEq, Int.reduceLT, Int.reduceLE, hk102a, hk102b, hk102c, Nat.reduceEqDiff, or_true, true_or, or_false, false_or, and_false, false_and, Classical.not_not, true_implies, List.set_cons_zero, List.set_cons_succ, ne_eq]
    rw [hkW_in (by omega) (by omega)]
    refine ih (i + 1) g' _ Q (by omega) (by omega) (by unfold hkP1; simp) (BX_row hX (fun p q1 q2 => k1 p (by omega) (by omega) (by omega) (by omega) (by omega))) ⟨fun i' n s a1 a2 a3 a4 a5 a6 => ?_, k3.2⟩ (fun g2 l1 l2 l3 => hQ g2 (fun q q1 q2 q3 q4 q5 => by rw [l1 q q1 q2 q3 q4 q5, k1 q q1 q2 q3 q4 q5]) (by rw [l2, k2]) l3)
    rw [k3.1 i' n s a1 a2 a3 a4 a5 a6]
    by_cases h : i' < i + 1
    · rw [if_pos (by omega), if_pos (by omega)]
    · rw [if_neg (by omega), if_neg (by omega)]
theorem sx_renew {g : hkG} {Q : Option hkV → Nat → hkG → Prop} (ht : 35 ≤ t) (hX : BX g R N) (hQ : ∀ g' : hkG, renKeep g g' → PST g' R N → (∀ k : Int, 0 ≤ k → k < 6125 → g' 14 k = -2147483648) → Q none t g') : Xp 51 (d + 6) 0 [(2, 12), hkU, hkU] [] t g Q := by
  have hb := hX.1
  obtain ⟨c1, c2⟩ := bx_C hb
  simp only [x_51_0, x_51_1, x_51_4, x_51_5, x_51_8, x_51_9, x_51_12, x_51_14, x_51_17, x_51_18, hkJK_1, hkJK_12, hkJK_13, hkJK_14, jA_12_0, jA_12_2, jA_12_3, jL_13, jL_14, jR_12_0, jR_12_2, jR_12_3, hkP1_0, hkP1_2, hkP1_u, hkC8, List.map_cons, List.map_nil, List.sum_cons, List.sum_nil, hkCat_0, hkCat_1, hkCat_2, Nat.reduceAdd, Nat.reduceLeDiff, hkPush_s, hkPush_n, true_and, and_true, implies_true, true_implies, not_true_eq_false, not_false_eq_true, false_implies, hkTf_0, hkTf_n1, hkOr01, hkOr11, Int.reduceEq, Int.reduceLT, Int.reduceLE, hk102a, hk102b, hk102c, Nat.reduceEqDiff, or_true, true_or, or_false, false_or, and_false, false_and, Classical.not_not, true_implies, List.set_cons_zero, List.set_cons_succ, ne_eq, hkLe_t ht, bxFil hkJK_13 jL_13 (by decide), bxFil hkJK_14 jL_14 (by decide)]
  refine l_renI ht hb (bxC R N).toNat 0 _ hkU Q (by omega) (by omega) (by rw [hkP1_u]; trivial) (BX_row hX (fun p q1 q2 => by rw [hkFil_row (by omega), hkFil_row (by omega)])) ⟨fun i' n s a1 a2 a3 a4 a5 a6 => ?_, fun k a1 a2 => ?_⟩ (fun g' k1 k2 k3 => hQ g' (fun q q1 q2 q3 q4 q5 => by rw [k1 q q1 q2 q3 q4 q5, hkFil_row q4, hkFil_row q3]) k3 (fun k a1 a2 => by rw [k2, hkFil_in a1 a2]))
  · rw [if_neg (by omega), hkFil_row (by decide), hkFil_in (by have := hb.1; omega) (by have := hb.2.2.2; have := hb.1; omega)]
  · rw [hkFil_row (by decide), hkFil_in a1 a2]; decide
end SP
