/-! Box: all shapes, in their order -/
def chLp (f : Nat → Nat → Option Nat) : Nat → Nat → Option Nat
  | 0, s => some s
  | c + 1, s => match f c s with
    | some s' => chLp f c s'
    | none => none
def chRow (R N : Nat) (s : Nat) (pre : List Nat) : Bool := decide (s < (bxS R N).length) && decide (∀ r : Nat, r < 4 → bxL R N s r = ((pre.getD r 0 : Nat) : Int))
/-- the class's walk over the shapes, checked against the table, with a count -/
def chA (R N : Nat) : Nat → Nat → Nat → List Nat → Nat → Option Nat
  | 0, _, left, pre, s => if left = 0 then (if chRow R N s pre = true then some (s + 1) else none) else some s
  | k + 1, longest, left, pre, s => chLp (fun a s => chA R N k a (left - a) (pre ++ [a]) s) (min longest left + 1) s
def chAll (R N : Nat) : Nat → Nat → Option Nat
  | 0, _ => some 0
  | c + 1, W => match chAll R N c W with
    | some s => chA R N R W c [] s
    | none => none
theorem chOk : ∀ R, R < 5 → ∀ N, N < 8 → bxOkB R N = true → chAll R N (R * (N - R) + 1) (N - R) = some (bxS R N).length := by decide +kernel
section SP
variable {t d : Nat} {Q : Option hkV → Nat → hkG → Prop} {R N : Nat}
theorem sx_min {g : hkG} {a b : Int} : Xp 174 d 0 [(0, a), (0, b)] [] t g Q = Q (some (0, min a b)) t g := Xp_ev s_min (Nat.zero_le _)
/-- the world as addShapes keeps it -/
def chKeep (g g' : hkG) (r : Nat) : Prop := (∀ p : Int, (p < 1 ∨ 9 < p) → g' p = g p) ∧ ∀ j : Int, 0 ≤ j → j < r → g' 9 j = g 9 j
theorem l_addShapes (ht : 18 ≤ t) (hb : bxOk R N) : ∀ (k r longest left : Nat) (pre : List Nat) (s s' : Nat) (g : hkG) (Q : Option hkV → Nat → hkG → Prop), r + k = R → pre.length = r → longest ≤ 7 → left ≤ 30 → chA R N k longest left pre s = some s' → TB g R N s → (∀ j : Nat, j < r → g 9 j = ((pre.getD j 0 : Nat) : Int)) → (∀ j : Int, (R : Int) ≤ j → j < 4 → g 9 j = 0) →
    (∀ g' : hkG, TB g' R N s' → chKeep g g' r → (∀ j : Int, (R : Int) ≤ j → j < 4 → g' 9 j = 0) → Q none t g') → Xp 35 (d + k + 2) 0 [(2, 1), (0, (r : Int)), (0, (longest : Int)), (0, (left : Int)), hkU] [] t g Q := by
  intro k
  induction k with
  | zero =>
    intro r longest left pre s s' g Q hr hpre hlo hle hch hT hpr hz hQ
    have t1 := hT.1
    simp only [x_35_0, x_35_1, x_35_2, x_35_5, x_35_8, x_35_9, x_35_12, x_35_13, x_35_16, hkJK_1, hkJK_9, jA_1_11, jL_9, jR_1_11, hkP1_0, hkP1_2, hkP1_u, hkC8, List.map_cons, List.map_nil, List.sum_cons, List.sum_nil, hkCat_0, hkCat_1, hkCat_2, Nat.reduceAdd, Nat.reduceLeDiff, hkPush_s, hkPush_n, true_and, and_true, implies_true, true_implies, not_true_eq_false, not_false_eq_true, false_implies, hkTf_0, hkTf_n1, hkOr01, hkOr11, Int.reduceEq, Int.reduceLT, Int.reduceLE, hk102a, hk102b, hk102c, Nat.reduceEqDiff, or_true, true_or, or_false, false_or, and_false, false_and, Classical.not_not, true_implies, List.set_cons_zero, List.set_cons_succ, ne_eq, t1]
    refine ⟨fun h => by omega, fun _ => ⟨fun h => ?_, fun h => ?_⟩⟩
    · unfold chA at hch
      rw [if_neg (by omega)] at hch
      cases hch
      exact hQ g hT ⟨fun _ _ => rfl, fun _ _ _ => rfl⟩ hz
    · unfold chA at hch
      rw [if_pos (by omega)] at hch
      split at hch
      · rename_i hrow
        cases hch
        unfold chRow at hrow
        simp only [Bool.and_eq_true, decide_eq_true_eq] at hrow
        refine sx_addTrial ht hb hT (by unfold bxC; simp only [Int.toNat_natCast]; omega) (fun j hj0 hj4 => ?_) (fun g' hT' hk' => ?_)
        · have hj := hrow.2 j.toNat (by omega)
          rw [show ((j.toNat : Nat) : Int) = j from by omega] at hj
          rw [hj]
          by_cases hjr : j < (r : Int)
          · have := hpr j.toNat (by omega)
            rw [show ((j.toNat : Nat) : Int) = j from by omega] at this
            exact this
          · rw [hz j (by omega) hj4, List.getD_eq_getElem?_getD, List.getElem?_eq_none (by omega)]
            rfl
        · simp only [x_35_16, hkJK_1, hkJK_9, jA_1_11, jL_9, jR_1_11, hkP1_0, hkP1_2, hkP1_u, hkC8, List.map_cons, List.map_nil, List.sum_cons, List.sum_nil, hkCat_0, hkCat_1, hkCat_2, Nat.reduceAdd, Nat.reduceLeDiff, hkPush_s, hkPush_n, true_and, and_true, implies_true, true_implies, not_true_eq_false, not_false_eq_true, false_implies, hkTf_0, hkTf_n1, hkOr01, hkOr11, Int.reduceEq, Int.reduceLT, Int.reduceLE, hk102a, hk102b, hk102c, Nat.reduceEqDiff, or_true, true_or, or_false, false_or, and_false, false_and, Classical.not_not, true_implies, List.set_cons_zero, List.set_cons_succ, ne_eq]
          refine hQ g' hT' ⟨fun p hp => hk' p (by omega), fun j _ _ => by rw [hk' 9 (by omega)]⟩ (fun j h1 h2 => by rw [hk' 9 (by omega)]; exact hz j h1 h2)
      · cases hch
  | succ k ih =>
    intro r longest left pre s s' g Q hr hpre hlo hle hch hT hpr hz hQ
    have t1 := hT.1
    have hR4 := hb.2.1
    simp only [x_35_0, x_35_1, x_35_2, x_35_5, x_35_8, x_35_9, x_35_12, x_35_13, x_35_16, x_35_17, x_35_18, x_35_19, x_35_22, hkJK_1, hkJK_9, jA_1_11, jL_9, jR_1_11, hkP1_0, hkP1_2, hkP1_u, hkC8, List.map_cons, List.map_nil, List.sum_cons, List.sum_nil, hkCat_0, hkCat_1, hkCat_2, Nat.reduceAdd, Nat.reduceLeDiff, hkPush_s, hkPush_n, true_and, and_true, implies_true, true_implies, not_true_eq_false, not_false_eq_true, false_implies, hkTf_0, hkTf_n1, hkOr01, hkOr11, Int.reduceEq, Int.reduceLT, Int.reduceLE, hk102a, hk102b, hk102c, Nat.reduceEqDiff, or_true, true_or, or_false, false_or, and_false, false_and, Classical.not_not, true_implies, List.set_cons_zero, List.set_cons_succ, ne_eq, t1, sx_min]
    refine ⟨fun _ => ?_, fun h => absurd (by omega) h⟩
    rw [show min (longest : Int) (left : Int) = ((min longest left + 1 : Nat) : Int) - 1 from by omega]
    unfold chA at hch
    have hc : min longest left + 1 ≤ left + 1 := by omega
    have hc7 : min longest left + 1 ≤ 8 := by omega
    generalize min longest left + 1 = c at hch hc hc7
    clear hlo
    induction c generalizing s g with
    | zero =>
      unfold chLp at hch
      cases hch
      rw [x_35_24]
      simp only [x_35_26, hkJK_1, hkJK_9, jA_1_11, jL_9, jR_1_11, hkP1_0, hkP1_2, hkP1_u, hkC8, List.map_cons, List.map_nil, List.sum_cons, List.sum_nil, hkCat_0, hkCat_1, hkCat_2, Nat.reduceAdd, Nat.reduceLeDiff, hkPush_s, hkPush_n, true_and, and_true, implies_true, true_implies, not_true_eq_false, not_false_eq_true, false_implies, hkTf_0, hkTf_n1, hkOr01, hkOr11, Int.reduceEq, Int.reduceLT, Int.reduceLE, hk102a, hk102b, hk102c, Nat.reduceEqDiff, or_true, true_or, or_false, false_or, and_false, false_and, Classical.not_not, true_implies, List.set_cons_zero, List.set_cons_succ, ne_eq, x_35_56]
      refine ⟨fun _ => hQ g hT ⟨fun _ _ => rfl, fun _ _ _ => rfl⟩ hz, fun h => absurd (by omega) h⟩
    | succ c ihc =>
      unfold chLp at hch
      split at hch
      · rename_i s1 hs1
        rw [x_35_24]
        simp only [x_35_26, x_35_29, x_35_30, x_35_33, x_35_34, x_35_36, x_35_37, x_35_38, x_35_39, x_35_40, x_35_41, x_35_43, x_35_44, x_35_46, x_35_47, hkJK_1, hkJK_9, jA_1_11, jL_9, jR_1_11, hkP1_0, hkP1_2, hkP1_u, hkC8, List.map_cons, List.map_nil, List.sum_cons, List.sum_nil, hkCat_0, hkCat_1, hkCat_2, Nat.reduceAdd, Nat.reduceLeDiff, hkPush_s, hkPush_n, true_and, and_true, implies_true, true_implies, not_true_eq_false, not_false_eq_true, false_implies, hkTf_0, hkTf_n1, hkOr01, hkOr11, Int.reduceEq, Int.reduceLT, Int.reduceLE, hk102a, hk102b, hk102c, Nat.reduceEqDiff, or_true, true_or, or_false, false_or, and_false, false_and, Classical.not_not, true_implies, List.set_cons_zero, List.set_cons_succ, ne_eq, hkLe_t ht]
        refine ⟨fun h => by omega, fun _ => ⟨⟨by omega, by omega⟩, ?_⟩⟩
        rw [hkW_in (x := (r : Int) + 1) (by omega) (by omega), hkW_in (x := (left : Int) - _) (by omega) (by omega)]
        rw [show ((c + 1 : Nat) : Int) - 1 = (c : Int) from by omega, show (r : Int) + 1 = ((r + 1 : Nat) : Int) from by omega, show (left : Int) - (c : Int) = ((left - c : Nat) : Int) from by omega]
        refine ih (r + 1) c (left - c) (pre ++ [c]) s s1 _ _ (by omega) (by simp; omega) (by omega) (by omega) hs1 ?_ (fun j hj => ?_) (fun j h1 h2 => ?_) (fun g' hT' hk' hz' => ?_)
        · obtain ⟨u1, u2, u3, u4, u5, u6, u7⟩ := hT
          refine ⟨?_, ?_, ?_, ?_, fun i a1 a2 => ?_, fun q a1 a2 => ?_, fun w a1 a2 => ?_⟩ <;> simp only [hkSet_rd, hkCpy_rd, hkFil_rd, if_true, if_false, Int.reduceEq, false_and, true_and]
          · exact u1
          · exact u2
          · exact u3
          · exact u4
          · exact u5 i a1 a2
          · exact u6 q a1 a2
          · exact u7 w a1 a2
        · rw [hkSet_rd]
          by_cases e : j = r
          · subst e
            rw [if_pos ⟨rfl, rfl⟩, List.getD_eq_getElem?_getD, List.getElem?_append_right (by omega), hpre]
            simp
          · rw [if_neg (by omega), hpr j (by omega), List.getD_eq_getElem?_getD, List.getD_eq_getElem?_getD, List.getElem?_append_left (by omega)]
        · rw [hkSet_rd, if_neg (by omega)]; exact hz j h1 h2
        · simp only [x_35_50, x_35_53, hkJK_1, hkJK_9, jA_1_11, jL_9, jR_1_11, hkP1_0, hkP1_2, hkP1_u, hkC8, List.map_cons, List.map_nil, List.sum_cons, List.sum_nil, hkCat_0, hkCat_1, hkCat_2, Nat.reduceAdd, Nat.reduceLeDiff, hkPush_s, hkPush_n, true_and, and_true, implies_true, true_implies, not_true_eq_false, not_false_eq_true, false_implies, hkTf_0, hkTf_n1, hkOr01, hkOr11, Int.reduceEq, Int.reduceLT, Int.reduceLE, hk102a, hk102b, hk102c, Nat.reduceEqDiff, or_true, true_or, or_false, false_or, and_false, false_and, Classical.not_not, true_implies, List.set_cons_zero, List.set_cons_succ, ne_eq]
          rw [hkW_in (by omega) (by omega), show (c : Int) + -1 = (c : Int) - 1 from by omega]
          obtain ⟨k1, k2⟩ := hk'
          refine ihc s1 g' hT' (fun j hj => ?_) hz' (fun g2 hT2 hk2 hz2 => hQ g2 hT2 ⟨fun p hp => ?_, fun j h1 h2 => ?_⟩ hz2) hT'.1 hch (by omega) (by omega)
          · rw [k2 j (by omega) (by omega), hkSet_rd, if_neg (by omega)]; exact hpr j hj
          · rw [hk2.1 p hp, k1 p hp]; exact hkSet_row (by omega)
          · rw [hk2.2 j h1 h2, k2 j h1 (by omega), hkSet_rd, if_neg (by omega)]
      · cases hch
theorem bxFil {p : Int} (hk : hkJK p = 100) {L : Int} (hL : jL p = L) (h0 : 0 ≤ L ∧ L ≤ 100000) {v : Int} {g : hkG} {Q : Option hkV → Nat → hkG → Prop} : Xp 179 d 0 [(2, p), (0, v), hkU, hkU] [] t g Q = Q none t (hkFil g p 0 L v) := by
  rw [← hL]; exact sx_fill hk (by omega)
theorem bxI_neg {R N w : Int} : bxI R N w 0 = -1 := rfl
theorem l_become (ht : 18 ≤ t) (hb : bxOk R N) : ∀ (c sz s s' : Nat) (g : hkG) (Q : Option hkV → Nat → hkG → Prop), sz + c = R * (N - R) + 1 → (∃ s0, chAll R N sz (N - R) = some s0 ∧ s0 = s) → chAll R N (R * (N - R) + 1) (N - R) = some s' → TB g R N s → (∀ j : Int, (R : Int) ≤ j → j < 4 → g 9 j = 0) →
    (∀ g' : hkG, TB g' R N s' → (∀ p : Int, (p < 1 ∨ 9 < p) → g' p = g p) → Q none t g') → Xp 34 (d + 8) 48 [(2, 1), (0, (R : Int)), (0, (N : Int)), (0, (sz : Int))] [] t g Q := by
  obtain ⟨b1, b2, b3, b4⟩ := id hb
  have hprod : ((R : Int) * ((N : Int) - R)) = ((R * (N - R) : Nat) : Int) := by
    rw [Int.natCast_mul, Int.ofNat_sub (by omega)]
  have hple : R * (N - R) ≤ 4 * 6 := Nat.mul_le_mul (by omega) (by omega)
  intro c
  induction c with
  | zero =>
    intro sz s s' g Q hc hs hs' hT hz hQ
    obtain ⟨s0, h1, rfl⟩ := hs
    rw [show sz = R * (N - R) + 1 from by omega, hs'] at h1
    cases h1
    have t1 := hT.1
    have t3 := hT.2.2.1
    rw [x_34_48]
    simp only [x_34_49, x_34_50, x_34_53, x_34_54, x_34_57, x_34_58, x_34_61, x_34_62, x_34_63, x_34_64, x_34_67, x_34_68, x_34_71, x_34_74, x_34_77, hkJK_1, hkJK_6, hkJK_8, hkJK_9, jA_1_10, jA_1_11, jA_1_8, jL_6, jL_8, jL_9, jR_1_10, jR_1_11, jR_1_8, hkP1_0, hkP1_2, hkP1_u, hkC8, List.map_cons, List.map_nil, List.sum_cons, List.sum_nil, hkCat_0, hkCat_1, hkCat_2, Nat.reduceAdd, Nat.reduceLeDiff, hkPush_s, hkPush_n, true_and, and_true, implies_true, true_implies, not_true_eq_false, not_false_eq_true, false_implies, hkTf_0, hkTf_n1, hkOr01, hkOr11, Int.reduceEq, Int.reduceLT, Int.reduceLE, hk102a, hk102b, hk102c, Nat.reduceEqDiff, or_true, true_or, or_false, false_or, and_false, false_and, Classical.not_not, true_implies, List.set_cons_zero, List.set_cons_succ, ne_eq, t1, t3]
    rw [hkW_in (x := (R : Int) * _) (by omega) (by omega)]
    exact ⟨fun _ => hQ g hT (fun _ _ => rfl), fun h => absurd (by omega) h⟩
  | succ c ih =>
    intro sz s s' g Q hc hs hs' hT hz hQ
    obtain ⟨s0, h1, rfl⟩ := hs
    have t1 := hT.1
    have t3 := hT.2.2.1
    rw [x_34_48]
    simp only [x_34_49, x_34_50, x_34_53, x_34_54, x_34_57, x_34_58, x_34_61, x_34_62, x_34_63, x_34_64, x_34_67, x_34_68, hkJK_1, hkJK_6, hkJK_8, hkJK_9, jA_1_10, jA_1_11, jA_1_8, jL_6, jL_8, jL_9, jR_1_10, jR_1_11, jR_1_8, hkP1_0, hkP1_2, hkP1_u, hkC8, List.map_cons, List.map_nil, List.sum_cons, List.sum_nil, hkCat_0, hkCat_1, hkCat_2, Nat.reduceAdd, Nat.reduceLeDiff, hkPush_s, hkPush_n, true_and, and_true, implies_true, true_implies, not_true_eq_false, not_false_eq_true, false_implies, hkTf_0, hkTf_n1, hkOr01, hkOr11, Int.reduceEq, Int.reduceLT, Int.reduceLE, hk102a, hk102b, hk102c, Nat.reduceEqDiff, or_true, true_or, or_false, false_or, and_false, false_and, Classical.not_not, true_implies, List.set_cons_zero, List.set_cons_succ, ne_eq, t1, t3]
    rw [hkW_in (x := (R : Int) * _) (by omega) (by omega)]
    refine ⟨fun h => by omega, fun _ => ?_⟩
    have hnext : ∃ s1, chA R N R (N - R) sz [] s0 = some s1 ∧ chAll R N (sz + 1) (N - R) = some s1 := by
      have hmono : ∀ m, sz + 1 ≤ m → chAll R N (sz + 1) (N - R) = none → chAll R N m (N - R) = none := by
        intro m hm hnone
        obtain ⟨j, rfl⟩ := Nat.le.dest hm
        induction j with
        | zero => exact hnone
        | succ j ihj =>
          show (match chAll R N (sz + 1 + j) (N - R) with | some s => chA R N R (N - R) (sz + 1 + j) [] s | none => none) = none
          rw [ihj (by omega)]
      cases hn : chAll R N (sz + 1) (N - R) with
      | none =>
        rw [hmono _ (by omega) hn] at hs'
        cases hs'
      | some s1 =>
        refine ⟨s1, ?_, rfl⟩
        have : (match chAll R N sz (N - R) with | some s => chA R N R (N - R) sz [] s | none => none) = some s1 := hn
        rw [h1] at this
        exact this
    obtain ⟨s1, hs1, hs1'⟩ := hnext
    rw [show (N : Int) - (R : Int) = ((N - R : Nat) : Int) from by omega]
    have K := l_addShapes (d := d + 5 - R) ht hb R 0 (N - R) sz [] s0 s1 g (fun r t g => Xp 34 (d + 8) 71 [(2, 1), (0, (R : Int)), (0, (N : Int)), (0, (sz : Int))] (hkPush r []) t g Q) (by omega) rfl (by omega) (by omega) hs1 hT (fun j hj => by omega) hz ?_
    · rw [show d + 5 - R + R + 2 = d + 7 from by omega] at K
      exact K
    · intro g' hT' hk' hz'
      simp only [x_34_71, x_34_74, hkJK_1, hkJK_6, hkJK_8, hkJK_9, jA_1_10, jA_1_11, jA_1_8, jL_6, jL_8, jL_9, jR_1_10, jR_1_11, jR_1_8, hkP1_0, hkP1_2, hkP1_u, hkC8, List.map_cons, List.map_nil, List.sum_cons, List.sum_nil, hkCat_0, hkCat_1, hkCat_2, Nat.reduceAdd, Nat.reduceLeDiff, hkPush_s, hkPush_n, true_and, and_true, implies_true, true_implies, not_true_eq_false, not_false_eq_true, false_implies, hkTf_0, hkTf_n1, hkOr01, hkOr11, Int.reduceEq, Int.reduceLT, Int.reduceLE, hk102a, hk102b, hk102c, Nat.reduceEqDiff, or_true, true_or, or_false, false_or, and_false, false_and, Classical.not_not, true_implies, List.set_cons_zero, List.set_cons_succ, ne_eq]
      rw [hkW_in (by omega) (by omega), show (sz : Int) + 1 = ((sz + 1 : Nat) : Int) from by omega]
      exact ih (sz + 1) s1 s' g' Q (by omega) ⟨s1, hs1', rfl⟩ hs' hT' hz' (fun g2 hT2 hk2 => hQ g2 hT2 (fun p hp => by rw [hk2 p hp, hk'.1 p hp]))
theorem sx_become {g : hkG} (ht : 18 ≤ t) (hb : bxOk R N) (hQ : ∀ g' : hkG, TB g' R N (bxS R N).length → (∀ p : Int, (p < 1 ∨ 9 < p) → g' p = g p) → Q none t g') : Xp 34 (d + 8) 0 [(2, 1), (0, (R : Int)), (0, (N : Int)), hkU] [] t g Q := by
  obtain ⟨b1, b2, b3, b4⟩ := id hb
  simp only [x_34_0, x_34_1, x_34_2, x_34_5, x_34_6, x_34_7, x_34_10, x_34_11, x_34_12, x_34_13, x_34_14, x_34_17, x_34_18, x_34_19, x_34_22, x_34_23, x_34_26, x_34_27, x_34_30, x_34_31, x_34_34, x_34_35, x_34_38, x_34_39, x_34_42, x_34_43, x_34_46, x_34_47, hkJK_1, hkJK_6, hkJK_8, hkJK_9, jA_1_10, jA_1_11, jA_1_8, jL_6, jL_8, jL_9, jR_1_10, jR_1_11, jR_1_8, hkP1_0, hkP1_2, hkP1_u, hkC8, List.map_cons, List.map_nil, List.sum_cons, List.sum_nil, hkCat_0, hkCat_1, hkCat_2, Nat.reduceAdd, Nat.reduceLeDiff, hkPush_s, hkPush_n, true_and, and_true, implies_true, true_implies, not_true_eq_false, not_false_eq_true, false_implies, hkTf_0, hkTf_n1, hkOr01, hkOr11, Int.reduceEq, Int.reduceLT, Int.reduceLE, hk102a, hk102b, hk102c, Nat.reduceEqDiff, or_true, true_or, or_false, false_or, and_false, false_and, Classical.not_not, true_implies, List.set_cons_zero, List.set_cons_succ, ne_eq, hkLe_t ht, bxFil hkJK_8 jL_8 (by decide), bxFil hkJK_6 jL_6 (by decide), bxFil hkJK_9 jL_9 (by decide)]
  rw [hkW_in (x := (N : Int) - R) (by omega) (by omega)]
  refine l_become ht hb (R * (N - R) + 1) 0 0 _ _ Q (by omega) ⟨0, rfl, rfl⟩ (chOk R (by omega) N (by omega) (by unfold bxOkB; simp only [Bool.and_eq_true, decide_eq_true_eq]; omega)) ?_ (fun j h1 h2 => ?_) (fun g' hT hk => hQ g' hT (fun p hp => ?_))
  · refine ⟨?_, ?_, ?_, ?_, fun i a1 a2 => by omega, fun q a1 a2 => ?_, fun w a1 a2 => ?_⟩ <;> simp only [hkSet_rd, hkCpy_rd, hkFil_rd, if_true, if_false, Int.reduceEq, false_and, true_and, and_self]
    · rfl
    · rw [if_pos (by omega)]; rfl
    · rw [if_pos (by omega)]; rfl
  · simp only [hkSet_rd, hkCpy_rd, hkFil_rd, if_true, if_false, Int.reduceEq, false_and, true_and]
    rw [if_pos (by omega)]
  · rw [hk p hp]
    funext j
    simp only [hkSet_rd, hkFil_rd]
    rw [if_neg (by omega), if_neg (by omega), if_neg (by omega), if_neg (by omega), if_neg (by omega), if_neg (by omega), if_neg (by omega)]
end SP
