/-! the SUMS of the class: leaves; frames of the tie -/
def smOk (p q : Int) : Prop := jA p 0 ≤ 190 ∧ hkJK p = 7 ∧ jR p 0 = q ∧ hkJK q = 100 ∧ jL q = 280
theorem sm_51 : smOk 51 52 := by unfold smOk; decide +kernel
theorem sm_53 : smOk 53 54 := by unfold smOk; decide +kernel
theorem sm_55 : smOk 55 56 := by unfold smOk; decide +kernel
theorem smAll : ∀ k : Nat, k < 11 → jA (28 + 2 * (k : Int)) 0 ≤ 190 ∧ hkJK (28 + 2 * (k : Int)) = 7 ∧ jR (28 + 2 * (k : Int)) 0 = 29 + 2 * (k : Int) ∧ hkJK (29 + 2 * (k : Int)) = 100 ∧ jL (29 + 2 * (k : Int)) = 280 := by decide +kernel
theorem sm_t {l : Int} (h0 : 0 ≤ l) (h1 : l ≤ 10) : smOk (28 + 2 * l) (29 + 2 * l) := by
  have h := smAll l.toNat (by omega)
  rw [show ((l.toNat : Nat) : Int) = l from by omega] at h
  exact h
theorem hkCpy_0 {g : hkG} {p i q j : Int} : hkCpy g p i q j 0 = g := by
  funext r x; unfold hkCpy; rw [if_neg (by omega)]
theorem hkCpy_s {g : hkG} {p q i j n : Int} (h : p ≠ q) (hn : 0 ≤ n) : hkCpy (hkSet g q j (g p i)) p (i + 1) q (j + 1) n = hkCpy g p i q j (n + 1) := by
  funext r x
  simp only [hkCpy_rd, hkSet_rd]
  by_cases h1 : r = q ∧ j + 1 ≤ x ∧ x < j + 1 + n
  · rw [if_pos h1, if_neg (by omega), if_pos (by omega)]; congr 1; omega
  · rw [if_neg h1]
    by_cases h2 : r = q ∧ x = j
    · rw [if_pos h2, if_pos (by omega), h2.2]; congr 1; omega
    · rw [if_neg h2, if_neg (by omega)]
theorem hkFil_n {g : hkG} {q j b v : Int} (h : j < b) : hkFil (hkSet g q j v) q (j + 1) b v = hkFil g q j b v := by
  funext r x
  simp only [hkFil_rd, hkSet_rd]
  by_cases h1 : r = q ∧ j + 1 ≤ x ∧ x < b
  · rw [if_pos h1, if_pos (by omega)]
  · rw [if_neg h1]
    by_cases h2 : r = q ∧ x = j
    · rw [if_pos h2, if_pos (by omega)]
    · rw [if_neg h2, if_neg (by omega)]
theorem RS_row {g g' : hkG} (h : RS g) (a : g' 52 = g 52) (b : g' 72 = g 72) (c : g' 66 2 = g 66 2) : RS g' := by
  unfold RS; rw [a, b, c]; exact h
theorem RK_row {g g' : hkG} (h : RK g) (a : g' 0 = g 0) (b : g' 56 = g 56) (c : g' 73 = g 73) (e : ∀ k : Int, 10 ≤ k → k ≤ 13 → g' 66 k = g 66 k) : RK g' := by
  unfold RK; rw [a, b, c, e 10 (by decide) (by decide), e 11 (by decide) (by decide), e 13 (by decide) (by decide)]; exact h
theorem RT_row {g g' : hkG} (h : RT g) (a : g' 24 0 = g 24 0) (a1 : g' 24 1 = g 24 1) (b : g' 27 = g 27) (c : g' 85 = g 85) (e : g' 66 12 = g 66 12) (f : g' 66 32 = g 66 32) : RT g' := by
  unfold RT; rw [a, a1, b, c, e, f]; exact h
theorem RH_row {g g' : hkG} (h : RH g) (k : ∀ q : Int, (58 ≤ q ∧ q ≤ 65) ∨ (87 ≤ q ∧ q ≤ 89) → g' q = g q) : RH g' := by
  intro s s0 s4
  rw [k (58 + 2 * s) (by omega), k (59 + 2 * s) (by omega), k 87 (by omega), k 88 (by omega), k 89 (by omega)]
  exact h s s0 s4
theorem RL_row {g g' : hkG} {xs : Int → Int} {L : Int} (h : RL xs L g) (a : g' (-1) = g (-1)) (b : g' (-2) = g (-2)) : RL xs L g' := by
  unfold RL; rw [a, b]; exact h
section SP
variable {t d : Nat} {g : hkG} {Q : Option hkV → Nat → hkG → Prop}
theorem sx_sbec {p q p' q' : Int} (ht : 190 ≤ t) (h : smOk p q) (h' : smOk p' q') : Xp 90 d 0 [(2, p), (2, p')] [] t g Q = Q none t (hkCpy g q' 0 q 0 280) := by
  obtain ⟨a1, a2, a3, a4, a5⟩ := h
  obtain ⟨c1, c2, c3, c4, c5⟩ := h'
  refine Xp_ev (d := 0) (Ev_of ?_) (Nat.zero_le _)
  simp only [x_90_0, x_90_1, x_90_4, x_90_5, x_90_6, x_90_9, x_90_10, x_90_13, x_90_16, hkP1_0, hkP1_2, hkP1_u, hkC8, List.map_cons, List.map_nil, List.sum_cons, List.sum_nil, hkCat_0, hkCat_1, hkCat_2, Nat.reduceAdd, Nat.reduceLeDiff, hkPush_s, hkPush_n, true_and, and_true, implies_true, true_implies, not_true_eq_false, not_false_eq_true, false_implies, hkTf_0, hkTf_n1, hkOr01, hkOr11, Int.reduceEq, Int.reduceLT, Int.reduceLE, hk102a, hk102b, hk102c, Nat.reduceEqDiff, or_true, true_or, or_false, false_or, and_false, false_and, Classical.not_not, true_implies, List.set_cons_zero, List.set_cons_succ, ne_eq, a2, a3, a4, a5, c2, c3, c4, c5]
  repeat' (first | rfl | refine And.intro ?_ ?_ | intro _ | trivial | omega)
theorem sx_sclr {p q : Int} (ht : 190 ≤ t) (h : smOk p q) : Xp 88 (d + 1) 0 [(2, p)] [] t g Q = Q none t (hkFil g q 0 280 0) := by
  obtain ⟨a1, a2, a3, a4, a5⟩ := h
  refine Xp_ev (d := 1) (Ev_of ?_) (by omega)
  simp only [x_88_0, x_88_1, x_88_4, x_88_5, x_88_8, hkP1_0, hkP1_2, hkP1_u, hkC8, List.map_cons, List.map_nil, List.sum_cons, List.sum_nil, hkCat_0, hkCat_1, hkCat_2, Nat.reduceAdd, Nat.reduceLeDiff, hkPush_s, hkPush_n, true_and, and_true, implies_true, true_implies, not_true_eq_false, not_false_eq_true, false_implies, hkTf_0, hkTf_n1, hkOr01, hkOr11, Int.reduceEq, Int.reduceLT, Int.reduceLE, hk102a, hk102b, hk102c, Nat.reduceEqDiff, or_true, true_or, or_false, false_or, and_false, false_and, Classical.not_not, true_implies, List.set_cons_zero, List.set_cons_succ, ne_eq, a2, a3, bxFil a4 a5 (by decide)]
  repeat' (first | rfl | refine And.intro ?_ ?_ | intro _ | trivial | omega)
theorem sx_sfil {p q : Int} (ht : 190 ≤ t) (h : smOk p q) : Xp 89 d 0 [(2, p), hkU, hkU] [] t g Q = Q (some (0, cnS (g q) 280)) t g := by
  obtain ⟨a1, a2, a3, a4, a5⟩ := h
  exact sx_filled (Nat.le_trans a1 ht) a2 a3 a4 a5
/-- the box becomes another one: class -/
def cbKeep (g g' : hkG) : Prop := ∀ q : Int, q < 1 ∨ 17 < q ∨ q = 12 ∨ q = 15 → g' q = g q
theorem sx_becomeI {R N : Int} (ht : 18 ≤ t) (hb : bxOk R N) (hQ : ∀ g' : hkG, BX g' R N → (∀ p : Int, (p < 1 ∨ 9 < p) → g' p = g p) → Q none t g') : Xp 34 (d + 8) 0 [(2, 1), (0, R), (0, N), hkU] [] t g Q := by
  obtain ⟨b1, b2, b3, b4⟩ := id hb
  obtain ⟨R', rfl⟩ : ∃ R' : Nat, R = (R' : Int) := ⟨R.toNat, by omega⟩
  obtain ⟨N', rfl⟩ : ∃ N' : Nat, N = (N' : Int) := ⟨N.toNat, by omega⟩
  exact sx_become ht hb (fun g' hT hk => hQ g' ⟨hb, hT⟩ hk)
theorem sx_shapesOfI {R N : Int} (ht : 190 ≤ t) (hb : bxOk R N) (h1 : g 66 0 = R) (h2 : g 66 1 = N) (hQ : ∀ g' : hkG, MX g' R N → mKeep g g' → m66 g g' → (∀ j : Int, 0 ≤ j → j < 1225 → g' 71 j = 0) → Q none t g') : Xp 102 (d + 1) 0 [(2, 66), hkU, hkU, hkU] [] t g Q := by
  obtain ⟨b1, b2, b3, b4⟩ := id hb
  obtain ⟨R', rfl⟩ : ∃ R' : Nat, R = (R' : Int) := ⟨R.toNat, by omega⟩
  obtain ⟨N', rfl⟩ : ∃ N' : Nat, N = (N' : Int) := ⟨N.toNat, by omega⟩
  exact sx_shapesOf ht hb h1 h2 (fun g' hT k1 k2 k3 => hQ g' ⟨hb, hT⟩ k1 k2 k3)
theorem r_changeBox {R N R' N' : Int} (ht : 190 ≤ t) (hb : RB g R N) (hb' : bxOk R' N') (hQ : ∀ g' : hkG, cbKeep g g' → BX g' R' N' → PST g' R' N' → TBI g' R' N' → (g' 17 5 = 0 ∨ (g' 17 5 = 1 ∧ RDY g' R' N')) → Q none t g') : Xp 3 (d + 9) 0 [(2, 0), (0, R'), (0, N')] [] t g Q := by
  obtain ⟨hX, hP, hT, hRD, hM, hF⟩ := id hb
  obtain ⟨x1, x2, x3, x4, x5, x6, x7, x8⟩ := BX_f hX
  have ht18 : 18 ≤ t := Nat.le_trans (by decide) ht
  have ht35 : 35 ≤ t := Nat.le_trans (by decide) ht
  have K : Xp 3 (d + 9) 22 [(2, 0), (0, R'), (0, N')] [] t g Q := by
    simp only [x_3_22, x_3_23, x_3_26, x_3_27, x_3_28, hkJK_0, hkJK_1, hkJK_12, hkJK_17, jA_0_0, jA_0_2, jA_0_3, jR_0_0, jR_0_2, jR_0_3, hkP1_0, hkP1_2, hkP1_u, hkC8, List.map_cons, List.map_nil, List.sum_cons, List.sum_nil, hkCat_0, hkCat_1, hkCat_2, Nat.reduceAdd, Nat.reduceLeDiff, hkPush_s, hkPush_n, true_and, and_true, implies_true, true_implies, not_true_eq_false, not_false_eq_true, false_implies, hkTf_0, hkTf_n1, hkOr01, hkOr11, Int.reduceEq, Int.reduceLT, Int.reduceLE, hk102a, hk102b, hk102c, Nat.reduceEqDiff, or_true, true_or, or_false, false_or, and_false, false_and, Classical.not_not, true_implies, List.set_cons_zero, List.set_cons_succ, ne_eq, hkLe_t ht]
    refine sx_becomeI (d := d) ht18 hb' (fun g1 X1 k1 => ?_)
    simp only [x_3_31, x_3_32, x_3_35, hkJK_0, hkJK_1, hkJK_12, hkJK_17, jA_0_0, jA_0_2, jA_0_3, jR_0_0, jR_0_2, jR_0_3, hkP1_0, hkP1_2, hkP1_u, hkC8, List.map_cons, List.map_nil, List.sum_cons, List.sum_nil, hkCat_0, hkCat_1, hkCat_2, Nat.reduceAdd, Nat.reduceLeDiff, hkPush_s, hkPush_n, true_and, and_true, implies_true, true_implies, not_true_eq_false, not_false_eq_true, false_implies, hkTf_0, hkTf_n1, hkOr01, hkOr11, Int.reduceEq, Int.reduceLT, Int.reduceLE, hk102a, hk102b, hk102c, Nat.reduceEqDiff, or_true, true_or, or_false, false_or, and_false, false_and, Classical.not_not, true_implies, List.set_cons_zero, List.set_cons_succ, ne_eq, hkLe_t ht]
    refine sx_renew (d := d + 2) ht35 X1 (fun g2 k2 P2 T2 => ?_)
    simp only [x_3_38, x_3_39, x_3_42, x_3_45, hkJK_0, hkJK_1, hkJK_12, hkJK_17, jA_0_0, jA_0_2, jA_0_3, jR_0_0, jR_0_2, jR_0_3, hkP1_0, hkP1_2, hkP1_u, hkC8, List.map_cons, List.map_nil, List.sum_cons, List.sum_nil, hkCat_0, hkCat_1, hkCat_2, Nat.reduceAdd, Nat.reduceLeDiff, hkPush_s, hkPush_n, true_and, and_true, implies_true, true_implies, not_true_eq_false, not_false_eq_true, false_implies, hkTf_0, hkTf_n1, hkOr01, hkOr11, Int.reduceEq, Int.reduceLT, Int.reduceLE, hk102a, hk102b, hk102c, Nat.reduceEqDiff, or_true, true_or, or_false, false_or, and_false, false_and, Classical.not_not, true_implies, List.set_cons_zero, List.set_cons_succ, ne_eq, x_61_0, x_61_1, x_61_2, x_61_5, hkJK_17, hkP1_0, hkP1_2, hkP1_u, hkC8, List.map_cons, List.map_nil, List.sum_cons, List.sum_nil, hkCat_0, hkCat_1, hkCat_2, Nat.reduceAdd, Nat.reduceLeDiff, hkPush_s, hkPush_n, true_and, and_true, implies_true, true_implies, not_true_eq_false, not_false_eq_true, false_implies, hkTf_0, hkTf_n1, hkOr01, hkOr11, Int.reduceEq, Int.reduceLT, Int.reduceLE, hk102a, hk102b, hk102c, Nat.reduceEqDiff, or_true, true_or, or_false, false_or, and_false, false_and, Classical.not_not, true_implies, List.set_cons_zero, List.set_cons_succ, ne_eq, hkLe_t ht]
    have hc := bx_C hb'
    refine hQ _ (fun q hq => ?_) (BX_row X1 (fun p p1 p2 => ?_)) (fun i n s c1 c2 c3 c4 c5 c6 => ?_) (fun i j c1 c2 c3 c4 => Or.inl ?_) (Or.inl ?_)
    · rw [hkSet_row (by omega), k2 q (by omega) (by omega) (by omega) (by omega) (by omega), k1 q (by omega)]
    · rw [hkSet_row (by omega), k2 p (by omega) (by omega) (by omega) (by omega) (by omega)]
    · rw [hkSet_row (by decide)]; exact P2 i n s c1 c2 c3 c4 c5 c6
    · rw [hkSet_row (by decide)]; exact T2 _ (by omega) (by omega)
    · rw [hkSet_rd, if_pos ⟨rfl, rfl⟩]
  by_cases h : R' = R ∧ N' = N
  · obtain ⟨rfl, rfl⟩ := h
    have hq := hQ g (fun _ _ => rfl) hX hP hT hRD
    simp only [x_3_0, x_3_1, x_3_2, x_3_5, x_3_8, x_3_11, x_3_12, x_3_13, x_3_16, x_3_19, hkJK_0, hkJK_1, hkJK_12, hkJK_17, jA_0_0, jA_0_2, jA_0_3, jR_0_0, jR_0_2, jR_0_3, hkP1_0, hkP1_2, hkP1_u, hkC8, List.map_cons, List.map_nil, List.sum_cons, List.sum_nil, hkCat_0, hkCat_1, hkCat_2, Nat.reduceAdd, Nat.reduceLeDiff, hkPush_s, hkPush_n, true_and, and_true, implies_true, true_implies, not_true_eq_false, not_false_eq_true, false_implies, hkTf_0, hkTf_n1, hkOr01, hkOr11, Int.reduceEq, Int.reduceLT, Int.reduceLE, hk102a, hk102b, hk102c, Nat.reduceEqDiff, or_true, true_or, or_false, false_or, and_false, false_and, Classical.not_not, true_implies, List.set_cons_zero, List.set_cons_succ, ne_eq, x_3_45, hkJK_0, hkJK_1, hkJK_12, hkJK_17, jA_0_0, jA_0_2, jA_0_3, jR_0_0, jR_0_2, jR_0_3, hkP1_0, hkP1_2, hkP1_u, hkC8, List.map_cons, List.map_nil, List.sum_cons, List.sum_nil, hkCat_0, hkCat_1, hkCat_2, Nat.reduceAdd, Nat.reduceLeDiff, hkPush_s, hkPush_n, true_and, and_true, implies_true, true_implies, not_true_eq_false, not_false_eq_true, false_implies, hkTf_0, hkTf_n1, hkOr01, hkOr11, Int.reduceEq, Int.reduceLT, Int.reduceLE, hk102a, hk102b, hk102c, Nat.reduceEqDiff, or_true, true_or, or_false, false_or, and_false, false_and, Classical.not_not, true_implies, List.set_cons_zero, List.set_cons_succ, ne_eq, hkLe_t ht, x1, x2]
    repeat' (first | exact hq | refine And.intro ?_ ?_ | intro _ | trivial | omega | (exfalso; omega))
  · simp only [x_3_0, x_3_1, x_3_2, x_3_5, x_3_8, x_3_11, x_3_12, x_3_13, x_3_16, x_3_19, hkJK_0, hkJK_1, hkJK_12, hkJK_17, jA_0_0, jA_0_2, jA_0_3, jR_0_0, jR_0_2, jR_0_3, hkP1_0, hkP1_2, hkP1_u, hkC8, List.map_cons, List.map_nil, List.sum_cons, List.sum_nil, hkCat_0, hkCat_1, hkCat_2, Nat.reduceAdd, Nat.reduceLeDiff, hkPush_s, hkPush_n, true_and, and_true, implies_true, true_implies, not_true_eq_false, not_false_eq_true, false_implies, hkTf_0, hkTf_n1, hkOr01, hkOr11, Int.reduceEq, Int.reduceLT, Int.reduceLE, hk102a, hk102b, hk102c, Nat.reduceEqDiff, or_true, true_or, or_false, false_or, and_false, false_and, Classical.not_not, true_implies, List.set_cons_zero, List.set_cons_succ, ne_eq, hkLe_t ht, x1, x2]
    repeat' (first | exact K | refine And.intro ?_ ?_ | intro _ | trivial | omega | (exfalso; omega))
end SP
