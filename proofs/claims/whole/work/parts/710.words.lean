/-! words, duals, rolled ones, kinds: class and reference -/
def orS (h : Int → Int) : Nat → Int → Int → Int
  | 0, _, s => s
  | k + 1, r, s => orS h k (r + 1) (hkOr s (h r))
def wdV (R N i : Int) : Int := orS (fun r => hkShl 1 (bxL R N i r + R - 1 - r)) R.toNat 0 0
def dlV (R N i : Int) : Int := orS (fun r => hkShl 1 (N - R - bxL R N i (R - 1 - r) + R - 1 - r)) R.toNat 0 0
def mrV (N w : Int) : Int := orS (fun b => hkShl (hkAnd (hkShr w (N - 1 - b)) 1) b) N.toNat 0 0
def twV (N w : Int) : Int := orS (fun b => if hkAnd (hkShr w (N - 1 - b)) 1 = 0 then hkShl 1 b else 0) N.toNat 0 0
def flV (N : Int) : Int := hkW (hkShl 1 N - 1)
def rcV (N w : Int) : Int := hkOr (hkAnd (hkShl w 1) (flV N)) (hkShr w (N - 1))
def rmV (N w : Int) : Int := hkAnd (hkOr (hkShl w 1) (hkShr w (N - 1))) (flV N)
def tcV (N w : Int) : Int := hkAnd (flV N) (hkXor (mrV N w) (-1))
def wdB (R N i : Nat) : Bool := decide (wdV R N i = bxW R N i) && (decide (mrV N (bxW R N i) = dlV R N i) && (decide (0 ≤ dlV R N i ∧ dlV R N i < 128) && (decide (0 ≤ bxI R N (dlV R N i) (bxC R N).toNat) && (decide (rcV N (bxW R N i) = rmV N (bxW R N i)) && (decide (0 ≤ rmV N (bxW R N i) ∧ rmV N (bxW R N i) < 128) && (decide (0 ≤ bxI R N (rmV N (bxW R N i)) (bxC R N).toNat) && decide (tcV N (bxW R N i) = twV N (bxW R N i))))))))
theorem wdAll : ∀ R, R < 5 → ∀ N, N < 8 → bxOkB R N = true → ∀ i, i < (bxS R N).length → wdB R N i = true := by decide +kernel
theorem wd_all {R N i : Int} (hb : bxOk R N) (h0 : 0 ≤ i) (hi : i < bxC R N) : wdV R N i = bxW R N i ∧ mrV N (bxW R N i) = dlV R N i ∧ (0 ≤ dlV R N i ∧ dlV R N i < 128) ∧ 0 ≤ bxI R N (dlV R N i) (bxC R N).toNat ∧ rcV N (bxW R N i) = rmV N (bxW R N i) ∧ (0 ≤ rmV N (bxW R N i) ∧ rmV N (bxW R N i) < 128) ∧ 0 ≤ bxI R N (rmV N (bxW R N i)) (bxC R N).toNat ∧ tcV N (bxW R N i) = twV N (bxW R N i) := by
  refine bxAll1 (P := fun R N i => wdV R N i = bxW R N i ∧ mrV N (bxW R N i) = dlV R N i ∧ (0 ≤ dlV R N i ∧ dlV R N i < 128) ∧ 0 ≤ bxI R N (dlV R N i) (bxC R N).toNat ∧ rcV N (bxW R N i) = rmV N (bxW R N i) ∧ (0 ≤ rmV N (bxW R N i) ∧ rmV N (bxW R N i) < 128) ∧ 0 ≤ bxI R N (rmV N (bxW R N i)) (bxC R N).toNat ∧ tcV N (bxW R N i) = twV N (bxW R N i)) (fun R hR N hN ho i hi => ?_) hb h0 hi
  have := wdAll R hR N hN ho i hi
  unfold wdB at this
  simpa only [Bool.and_eq_true, decide_eq_true_eq] using this
section SP
variable {t d : Nat} {g : hkG} {R N : Int} {Q : Option hkV → Nat → hkG → Prop}
theorem l_mirror (ht : 18 ≤ t) (hX : BX g R N) {w : Int} : ∀ (k : Nat) (b s : Int), b + k = N → 0 ≤ b → Q (some (0, orS (fun b => hkShl (hkAnd (hkShr w (N - 1 - b)) 1) b) k b s)) t g → Xp 44 d 4 [(2, 1), (0, w), (0, s), (0, b)] [] t g Q := by
  obtain ⟨b1, b2, b3, b4⟩ := id hX.1
  obtain ⟨x1, x2, x3, x4, x5, x6, x7, x8⟩ := BX_f hX
  intro k
  induction k with
  | zero =>
    intro b s hb h0 hq
    rw [x_44_4]
    simp only [x_44_5, x_44_6, x_44_9, hkJK_1, hkP1_0, hkP1_2, hkP1_u, hkC8, List.map_cons, List.map_nil, List.sum_cons, List.sum_nil, hkCat_0, hkCat_1, hkCat_2, Nat.reduceAdd, Nat.reduceLeDiff, hkPush_s, hkPush_n, true_and, and_true, implies_true, true_implies, not_true_eq_false, not_false_eq_true, false_implies, hkTf_0, hkTf_n1, hkOr01, hkOr11, Int.reduceEq, Int.reduceLT, Int.reduceLE, hk102a, hk102b, hk102c, Nat.reduceEqDiff, or_true, true_or, or_false, false_or, and_false, false_and, Classical.not_not, true_implies, List.set_cons_zero, List.set_cons_succ, ne_eq, x_44_35, x_44_36, hkJK_1, hkP1_0, hkP1_2, hkP1_u, hkC8, List.map_cons, List.map_nil, List.sum_cons, List.sum_nil, hkCat_0, hkCat_1, hkCat_2, Nat.reduceAdd, Nat.reduceLeDiff, hkPush_s, hkPush_n, true_and, and_true, implies_true, true_implies, not_true_eq_false, not_false_eq_true, false_implies, hkTf_0, hkTf_n1, hkOr01, hkOr11, Int.reduceEq, Int.reduceLT, Int.reduceLE, hk102a, hk102b, hk102c, Nat.reduceEqDiff, or_true, true_or, or_false, false_or, and_false, false_and, Classical.not_not, true_implies, List.set_cons_zero, List.set_cons_succ, ne_eq, hkLe_t ht, x2]
    exact And.intro (fun _ => hq) (fun h => absurd (by omega) h)
  | succ k ih =>
    intro b s hb h0 hq
    have IH := ih (b + 1) _ (by omega) (by omega) hq
    obtain ⟨e1, e2, e3⟩ : hkW (N - 1) = N - 1 ∧ hkW (N - 1 - b) = N - 1 - b ∧ hkW (b + 1) = b + 1 := ⟨hkW_in (by omega) (by omega), hkW_in (by omega) (by omega), hkW_in (by omega) (by omega)⟩
    rw [x_44_4]
    simp only [x_44_5, x_44_6, x_44_9, x_44_12, x_44_13, x_44_14, x_44_15, x_44_18, x_44_19, x_44_20, x_44_21, x_44_22, x_44_23, x_44_24, x_44_25, x_44_26, x_44_27, x_44_28, x_44_29, x_44_32, hkJK_1, hkP1_0, hkP1_2, hkP1_u, hkC8, List.map_cons, List.map_nil, List.sum_cons, List.sum_nil, hkCat_0, hkCat_1, hkCat_2, Nat.reduceAdd, Nat.reduceLeDiff, hkPush_s, hkPush_n, true_and, and_true, implies_true, true_implies, not_true_eq_false, not_false_eq_true, false_implies, hkTf_0, hkTf_n1, hkOr01, hkOr11, Int.reduceEq, Int.reduceLT, Int.reduceLE, hk102a, hk102b, hk102c, Nat.reduceEqDiff, or_true, true_or, or_false, false_or, and_false, false_and, Classical.not_not, true_implies, List.set_cons_zero, List.set_cons_succ, ne_eq, hkLe_t ht, x2, e1, e2, e3]
    clear e1 e2 e3
    exact And.intro (fun h => absurd h (by omega)) (fun _ => IH)
theorem sx_mirrored (ht : 18 ≤ t) (hX : BX g R N) {w : Int} : Xp 44 d 0 [(2, 1), (0, w), hkU, hkU] [] t g Q = Q (some (0, mrV N w)) t g := by
  obtain ⟨b1, b2, b3, b4⟩ := id hX.1
  refine Xp_ev (d := 0) (Ev_of ?_) (Nat.zero_le _)
  simp only [x_44_0, x_44_1, x_44_2, x_44_3, hkJK_1, hkP1_0, hkP1_2, hkP1_u, hkC8, List.map_cons, List.map_nil, List.sum_cons, List.sum_nil, hkCat_0, hkCat_1, hkCat_2, Nat.reduceAdd, Nat.reduceLeDiff, hkPush_s, hkPush_n, true_and, and_true, implies_true, true_implies, not_true_eq_false, not_false_eq_true, false_implies, hkTf_0, hkTf_n1, hkOr01, hkOr11, Int.reduceEq, Int.reduceLT, Int.reduceLE, hk102a, hk102b, hk102c, Nat.reduceEqDiff, or_true, true_or, or_false, false_or, and_false, false_and, Classical.not_not, true_implies, List.set_cons_zero, List.set_cons_succ, ne_eq]
  exact l_mirror ht hX N.toNat 0 0 (by omega) (by omega) ⟨rfl, rfl, rfl⟩
theorem sx_fullWord (hX : BX g R N) : Xp 46 d 0 [(2, 1)] [] t g Q = Q (some (0, flV N)) t g := by
  rw [Xp_ev s_fullWord (Nat.zero_le _), (BX_f hX).2.1]; rfl
theorem sx_dualOf (ht : 190 ≤ t) (hX : BX g R N) {i : Int} (i0 : 0 ≤ i) (i1 : i < bxC R N) : Xp 43 (d + 1) 0 [(2, 1), (0, i)] [] t g Q = Q (some (0, bxI R N (dlV R N i) (bxC R N).toNat)) t g := by
  have ht2 : 18 ≤ t := Nat.le_trans (by decide) ht
  have hc := bx_C hX.1
  obtain ⟨x1, x2, x3, x4, x5, x6, x7, x8⟩ := BX_f hX
  obtain ⟨w1, w2, w3, w4, w5, w6, w7, w8⟩ := wd_all hX.1 i0 i1
  refine Xp_ev (d := 1) (Ev_of ?_) (by omega)
  simp only [x_43_0, x_43_1, x_43_2, x_43_3, x_43_6, x_43_7, x_43_8, x_43_11, x_43_14, hkJK_1, hkJK_4, jA_1_6, jL_4, jR_1_6, hkP1_0, hkP1_2, hkP1_u, hkC8, List.map_cons, List.map_nil, List.sum_cons, List.sum_nil, hkCat_0, hkCat_1, hkCat_2, Nat.reduceAdd, Nat.reduceLeDiff, hkPush_s, hkPush_n, true_and, and_true, implies_true, true_implies, not_true_eq_false, not_false_eq_true, false_implies, hkTf_0, hkTf_n1, hkOr01, hkOr11, Int.reduceEq, Int.reduceLT, Int.reduceLE, hk102a, hk102b, hk102c, Nat.reduceEqDiff, or_true, true_or, or_false, false_or, and_false, false_and, Classical.not_not, true_implies, List.set_cons_zero, List.set_cons_succ, ne_eq, hkLe_t ht, (x6 i i0 i1).2.1, sx_mirrored ht2 hX, w2, s_withWord2 ht2, x8 _ w3.1 w3.2]
  rw [if_pos w3]
  exact ⟨by omega, rfl⟩
theorem sx_rolledOf (ht : 190 ≤ t) (hX : BX g R N) {i : Int} (i0 : 0 ≤ i) (i1 : i < bxC R N) : Xp 45 (d + 1) 0 [(2, 1), (0, i), hkU] [] t g Q = Q (some (0, bxI R N (rmV N (bxW R N i)) (bxC R N).toNat)) t g := by
  have ht2 : 18 ≤ t := Nat.le_trans (by decide) ht
  obtain ⟨b1, b2, b3, b4⟩ := id hX.1
  have hc := bx_C hX.1
  obtain ⟨x1, x2, x3, x4, x5, x6, x7, x8⟩ := BX_f hX
  obtain ⟨w1, w2, w3, w4, w5, w6, w7, w8⟩ := wd_all hX.1 i0 i1
  have e1 : hkW (N - 1) = N - 1 := hkW_in (by omega) (by omega)
  have e2 : hkOr (hkAnd (hkShl (bxW R N i) 1) (flV N)) (hkShr (bxW R N i) (N - 1)) = rmV N (bxW R N i) := w5
  refine Xp_ev (d := 1) (Ev_of ?_) (by omega)
  simp only [x_45_0, x_45_1, x_45_4, x_45_5, x_45_6, x_45_7, x_45_8, x_45_9, x_45_10, x_45_11, x_45_12, x_45_15, x_45_16, x_45_17, x_45_18, x_45_21, x_45_22, x_45_23, x_45_24, x_45_25, x_45_28, hkJK_1, hkJK_4, jA_1_6, jL_4, jR_1_6, hkP1_0, hkP1_2, hkP1_u, hkC8, List.map_cons, List.map_nil, List.sum_cons, List.sum_nil, hkCat_0, hkCat_1, hkCat_2, Nat.reduceAdd, Nat.reduceLeDiff, hkPush_s, hkPush_n, true_and, and_true, implies_true, true_implies, not_true_eq_false, not_false_eq_true, false_implies, hkTf_0, hkTf_n1, hkOr01, hkOr11, Int.reduceEq, Int.reduceLT, Int.reduceLE, hk102a, hk102b, hk102c, Nat.reduceEqDiff, or_true, true_or, or_false, false_or, and_false, false_and, Classical.not_not, true_implies, List.set_cons_zero, List.set_cons_succ, ne_eq, hkLe_t ht, (x6 i i0 i1).2.1, sx_fullWord hX, x2, e1, e2, s_withWord2 ht2, x8 _ w6.1 w6.2]
  rw [if_pos w6]
  clear e1
  exact ⟨by omega, rfl⟩
theorem sx_turnedWordOf (ht : 190 ≤ t) (hX : BX g R N) {i : Int} (i0 : 0 ≤ i) (i1 : i < bxC R N) : Xp 47 (d + 1) 0 [(2, 1), (0, i)] [] t g Q = Q (some (0, twV N (bxW R N i))) t g := by
  have ht2 : 18 ≤ t := Nat.le_trans (by decide) ht
  have hc := bx_C hX.1
  obtain ⟨x1, x2, x3, x4, x5, x6, x7, x8⟩ := BX_f hX
  obtain ⟨w1, w2, w3, w4, w5, w6, w7, w8⟩ := wd_all hX.1 i0 i1
  have e2 : hkAnd (flV N) (hkXor (mrV N (bxW R N i)) (-1)) = twV N (bxW R N i) := w8
  refine Xp_ev (d := 1) (Ev_of ?_) (by omega)
  simp only [x_47_0, x_47_1, x_47_4, x_47_5, x_47_6, x_47_9, x_47_10, x_47_11, x_47_14, x_47_15, x_47_16, x_47_17, hkJK_1, hkJK_4, jA_1_6, jL_4, jR_1_6, hkP1_0, hkP1_2, hkP1_u, hkC8, List.map_cons, List.map_nil, List.sum_cons, List.sum_nil, hkCat_0, hkCat_1, hkCat_2, Nat.reduceAdd, Nat.reduceLeDiff, hkPush_s, hkPush_n, true_and, and_true, implies_true, true_implies, not_true_eq_false, not_false_eq_true, false_implies, hkTf_0, hkTf_n1, hkOr01, hkOr11, Int.reduceEq, Int.reduceLT, Int.reduceLE, hk102a, hk102b, hk102c, Nat.reduceEqDiff, or_true, true_or, or_false, false_or, and_false, false_and, Classical.not_not, true_implies, List.set_cons_zero, List.set_cons_succ, ne_eq, hkLe_t ht, (x6 i i0 i1).2.1, sx_fullWord hX, sx_mirrored ht2 hX, e2]
  exact ⟨by omega, by omega⟩
/-- the reference's -/
theorem l_mwordB (ht : 190 ≤ t) (hX : MX g R N) {i : Int} (i0 : 0 ≤ i) (i1 : i < bxC R N) : ∀ (k : Nat) (r s : Int) (Q : Option hkV → Nat → hkG → Prop), r + k = R → 0 ≤ r → Q (some (0, orS (fun r => hkShl 1 (bxL R N i r + R - 1 - r)) k r s)) t g → Xp 114 (d + 1) 4 [(2, 66), (0, i), (0, s), (0, r)] [] t g Q := by
  obtain ⟨b1, b2, b3, b4⟩ := id hX.1
  obtain ⟨x1, x2, x3, x4, x5⟩ := MX_f hX
  intro k
  induction k with
  | zero =>
    intro r s Q hb h0 hq
    rw [x_114_4]
    simp only [x_114_5, x_114_6, x_114_9, hkJK_66, hkP1_0, hkP1_2, hkP1_u, hkC8, List.map_cons, List.map_nil, List.sum_cons, List.sum_nil, hkCat_0, hkCat_1, hkCat_2, Nat.reduceAdd, Nat.reduceLeDiff, hkPush_s, hkPush_n, true_and, and_true, implies_true, true_implies, not_true_eq_false, not_false_eq_true, false_implies, hkTf_0, hkTf_n1, hkOr01, hkOr11, Int.reduceEq, Int.reduceLT, Int.reduceLE, hk102a, hk102b, hk102c, Nat.reduceEqDiff, or_true, true_or, or_false, false_or, and_false, false_and, Classical.not_not, true_implies, List.set_cons_zero, List.set_cons_succ, ne_eq, x_114_38, x_114_39, hkJK_66, hkP1_0, hkP1_2, hkP1_u, hkC8, List.map_cons, List.map_nil, List.sum_cons, List.sum_nil, hkCat_0, hkCat_1, hkCat_2, Nat.reduceAdd, Nat.reduceLeDiff, hkPush_s, hkPush_n, true_and, and_true, implies_true, true_implies, not_true_eq_false, not_false_eq_true, false_implies, hkTf_0, hkTf_n1, hkOr01, hkOr11, Int.reduceEq, Int.reduceLT, Int.reduceLE, hk102a, hk102b, hk102c, Nat.reduceEqDiff, or_true, true_or, or_false, false_or, and_false, false_and, Classical.not_not, true_implies, List.set_cons_zero, List.set_cons_succ, ne_eq, hkLe_t ht, x1]
    exact And.intro (fun _ => hq) (fun h => absurd (by omega) h)
  | succ k ih =>
    intro r s Q hb h0 hq
    have IH := ih (r + 1) _ Q (by omega) (by omega) hq
    have hr4 : r < 4 := by omega
    have hL := (bx_sh hX.1 i0 i1).1 r h0 hr4
    obtain ⟨e1, e2, e3, e4⟩ : hkW (bxL R N i r + R) = bxL R N i r + R ∧ hkW (bxL R N i r + R - 1) = bxL R N i r + R - 1 ∧ hkW (bxL R N i r + R - 1 - r) = bxL R N i r + R - 1 - r ∧ hkW (r + 1) = r + 1 := ⟨hkW_in (by omega) (by omega), hkW_in (by omega) (by omega), hkW_in (by omega) (by omega), hkW_in (by omega) (by omega)⟩
    rw [x_114_4]
    simp only [x_114_5, x_114_6, x_114_9, x_114_12, x_114_13, x_114_14, x_114_15, x_114_16, x_114_17, x_114_20, x_114_21, x_114_24, x_114_25, x_114_26, x_114_27, x_114_28, x_114_29, x_114_30, x_114_31, x_114_32, x_114_35, hkJK_66, hkP1_0, hkP1_2, hkP1_u, hkC8, List.map_cons, List.map_nil, List.sum_cons, List.sum_nil, hkCat_0, hkCat_1, hkCat_2, Nat.reduceAdd, Nat.reduceLeDiff, hkPush_s, hkPush_n, true_and, and_true, implies_true, true_implies, not_true_eq_false, not_false_eq_true, false_implies, hkTf_0, hkTf_n1, hkOr01, hkOr11, Int.reduceEq, Int.reduceLT, Int.reduceLE, hk102a, hk102b, hk102c, Nat.reduceEqDiff, or_true, true_or, or_false, false_or, and_false, false_and, Classical.not_not, true_implies, List.set_cons_zero, List.set_cons_succ, ne_eq, hkLe_t ht, x1, sx_mAt ht hX i0 i1 h0 hr4, e1, e2, e3, e4]
    clear e1 e2 e3 e4
    exact And.intro (fun h => absurd h (by omega)) (fun _ => IH)
theorem sx_mword (ht : 190 ≤ t) (hX : MX g R N) {i : Int} (i0 : 0 ≤ i) (i1 : i < bxC R N) : Xp 114 (d + 1) 0 [(2, 66), (0, i), hkU, hkU] [] t g Q = Q (some (0, bxW R N i)) t g := by
  obtain ⟨b1, b2, b3, b4⟩ := id hX.1
  refine Xp_ev (d := 1) (Ev_of ?_) (by omega)
  simp only [x_114_0, x_114_1, x_114_2, x_114_3, hkJK_66, hkP1_0, hkP1_2, hkP1_u, hkC8, List.map_cons, List.map_nil, List.sum_cons, List.sum_nil, hkCat_0, hkCat_1, hkCat_2, Nat.reduceAdd, Nat.reduceLeDiff, hkPush_s, hkPush_n, true_and, and_true, implies_true, true_implies, not_true_eq_false, not_false_eq_true, false_implies, hkTf_0, hkTf_n1, hkOr01, hkOr11, Int.reduceEq, Int.reduceLT, Int.reduceLE, hk102a, hk102b, hk102c, Nat.reduceEqDiff, or_true, true_or, or_false, false_or, and_false, false_and, Classical.not_not, true_implies, List.set_cons_zero, List.set_cons_succ, ne_eq]
  refine l_mwordB (d := 0) ht hX i0 i1 R.toNat 0 0 _ (by omega) (by omega) ?_
  have := (wd_all hX.1 i0 i1).1
  unfold wdV at this
  rw [this]
  exact ⟨rfl, rfl, rfl⟩
theorem l_mdual (ht : 190 ≤ t) (hX : MX g R N) {i : Int} (i0 : 0 ≤ i) (i1 : i < bxC R N) : ∀ (k : Nat) (r s : Int) (Q : Option hkV → Nat → hkG → Prop), r + k = R → 0 ≤ r → Xp 117 (d + 1) 50 [(2, 66), (0, i), (0, orS (fun r => hkShl 1 (N - R - bxL R N i (R - 1 - r) + R - 1 - r)) k r s), (0, R)] [] t g Q → Xp 117 (d + 1) 4 [(2, 66), (0, i), (0, s), (0, r)] [] t g Q := by
  obtain ⟨b1, b2, b3, b4⟩ := id hX.1
  obtain ⟨x1, x2, x3, x4, x5⟩ := MX_f hX
  intro k
  induction k with
  | zero =>
    intro r s Q hb h0 hq
    rw [x_117_4]
    simp only [x_117_5, x_117_6, x_117_9, hkJK_66, hkJK_68, jA_66_4, jL_68, jR_66_4, hkP1_0, hkP1_2, hkP1_u, hkC8, List.map_cons, List.map_nil, List.sum_cons, List.sum_nil, hkCat_0, hkCat_1, hkCat_2, Nat.reduceAdd, Nat.reduceLeDiff, hkPush_s, hkPush_n, true_and, and_true, implies_true, true_implies, not_true_eq_false, not_false_eq_true, false_implies, hkTf_0, hkTf_n1, hkOr01, hkOr11, Int.reduceEq, Int.reduceLT, Int.reduceLE, hk102a, hk102b, hk102c, Nat.reduceEqDiff, or_true, true_or, or_false, false_or, and_false, false_and, Classical.not_not, true_implies, List.set_cons_zero, List.set_cons_succ, ne_eq, hkLe_t ht, x1]
    have e : r = R := by omega
    rw [← e] at hq ⊢
    unfold orS at hq
    exact And.intro (fun _ => hq) (fun h => absurd (by omega) h)
  | succ k ih =>
    intro r s Q hb h0 hq
    have IH := ih (r + 1) _ Q (by omega) (by omega) hq
    have hr4 : R - 1 - r < 4 := by omega
    have hr0 : 0 ≤ R - 1 - r := by omega
    have hL := (bx_sh hX.1 i0 i1).1 (R - 1 - r) hr0 hr4
    obtain ⟨e1, e2, e3, e4, e5, e6, e7, e8⟩ : hkW (N - R) = N - R ∧ hkW (R - 1) = R - 1 ∧ hkW (R - 1 - r) = R - 1 - r ∧ hkW (N - R - bxL R N i (R - 1 - r)) = N - R - bxL R N i (R - 1 - r) ∧ hkW (N - R - bxL R N i (R - 1 - r) + R) = N - R - bxL R N i (R - 1 - r) + R ∧ hkW (N - R - bxL R N i (R - 1 - r) + R - 1) = N - R - bxL R N i (R - 1 - r) + R - 1 ∧ hkW (N - R - bxL R N i (R - 1 - r) + R - 1 - r) = N - R - bxL R N i (R - 1 - r) + R - 1 - r ∧ hkW (r + 1) = r + 1 := ⟨hkW_in (by omega) (by omega), hkW_in (by omega) (by omega), hkW_in (by omega) (by omega), hkW_in (by omega) (by omega), hkW_in (by omega) (by omega), hkW_in (by omega) (by omega), hkW_in (by omega) (by omega), hkW_in (by omega) (by omega)⟩
    rw [x_117_4]
    simp only [x_117_5, x_117_6, x_117_9, x_117_12, x_117_13, x_117_14, x_117_15, x_117_18, x_117_19, x_117_20, x_117_21, x_117_24, x_117_25, x_117_26, x_117_27, x_117_28, x_117_31, x_117_32, x_117_33, x_117_36, x_117_37, x_117_38, x_117_39, x_117_40, x_117_41, x_117_42, x_117_43, x_117_44, x_117_47, hkJK_66, hkJK_68, jA_66_4, jL_68, jR_66_4, hkP1_0, hkP1_2, hkP1_u, hkC8, List.map_cons, List.map_nil, List.sum_cons, List.sum_nil, hkCat_0, hkCat_1, hkCat_2, Nat.reduceAdd, Nat.reduceLeDiff, hkPush_s, hkPush_n, true_and, and_true, implies_true, true_implies, not_true_eq_false, not_false_eq_true, false_implies, hkTf_0, hkTf_n1, hkOr01, hkOr11, Int.reduceEq, Int.reduceLT, Int.reduceLE, hk102a, hk102b, hk102c, Nat.reduceEqDiff, or_true, true_or, or_false, false_or, and_false, false_and, Classical.not_not, true_implies, List.set_cons_zero, List.set_cons_succ, ne_eq, hkLe_t ht, x1, x2, sx_mWidth, e1, e2, e3, sx_mAt ht hX i0 i1 hr0 hr4, e4, e5, e6, e7, e8]
    clear e1 e2 e3 e4 e5 e6 e7 e8
    exact And.intro (fun h => absurd h (by omega)) (fun _ => IH)
theorem mx_68 (hX : MX g R N) {w : Int} (h : 0 ≤ bxI R N w (bxC R N).toNat) : g 68 w = bxI R N w (bxC R N).toNat := by
  have hc := bx_C hX.1
  obtain ⟨x1, x2, x3, x4, x5⟩ := MX_f hX
  obtain ⟨w1, w2⟩ := bxI_w _ _ rfl h
  have := (x5 _ h (by omega)).2
  rw [w1] at this
  exact this
theorem sx_mdual (ht : 190 ≤ t) (hX : MX g R N) {i : Int} (i0 : 0 ≤ i) (i1 : i < bxC R N) : Xp 117 (d + 1) 0 [(2, 66), (0, i), hkU, hkU] [] t g Q = Q (some (0, bxI R N (dlV R N i) (bxC R N).toNat)) t g := by
  obtain ⟨b1, b2, b3, b4⟩ := id hX.1
  obtain ⟨w1, w2, w3, w4, w5, w6, w7, w8⟩ := wd_all hX.1 i0 i1
  refine Xp_ev (d := 1) (Ev_of ?_) (by omega)
  simp only [x_117_0, x_117_1, x_117_2, x_117_3, hkJK_66, hkJK_68, jA_66_4, jL_68, jR_66_4, hkP1_0, hkP1_2, hkP1_u, hkC8, List.map_cons, List.map_nil, List.sum_cons, List.sum_nil, hkCat_0, hkCat_1, hkCat_2, Nat.reduceAdd, Nat.reduceLeDiff, hkPush_s, hkPush_n, true_and, and_true, implies_true, true_implies, not_true_eq_false, not_false_eq_true, false_implies, hkTf_0, hkTf_n1, hkOr01, hkOr11, Int.reduceEq, Int.reduceLT, Int.reduceLE, hk102a, hk102b, hk102c, Nat.reduceEqDiff, or_true, true_or, or_false, false_or, and_false, false_and, Classical.not_not, true_implies, List.set_cons_zero, List.set_cons_succ, ne_eq]
  refine l_mdual (d := 0) ht hX i0 i1 R.toNat 0 0 _ (by omega) (by omega) ?_
  have e : orS (fun r => hkShl 1 (N - R - bxL R N i (R - 1 - r) + R - 1 - r)) R.toNat 0 0 = dlV R N i := rfl
  simp only [x_117_50, x_117_51, x_117_54, x_117_55, x_117_56, hkJK_66, hkJK_68, jA_66_4, jL_68, jR_66_4, hkP1_0, hkP1_2, hkP1_u, hkC8, List.map_cons, List.map_nil, List.sum_cons, List.sum_nil, hkCat_0, hkCat_1, hkCat_2, Nat.reduceAdd, Nat.reduceLeDiff, hkPush_s, hkPush_n, true_and, and_true, implies_true, true_implies, not_true_eq_false, not_false_eq_true, false_implies, hkTf_0, hkTf_n1, hkOr01, hkOr11, Int.reduceEq, Int.reduceLT, Int.reduceLE, hk102a, hk102b, hk102c, Nat.reduceEqDiff, or_true, true_or, or_false, false_or, and_false, false_and, Classical.not_not, true_implies, List.set_cons_zero, List.set_cons_succ, ne_eq, hkLe_t ht, e, mx_68 hX w4]
  exact ⟨by omega, by omega⟩
theorem l_mturned (ht : 190 ≤ t) (hX : MX g R N) {i : Int} (i0 : 0 ≤ i) (i1 : i < bxC R N) : ∀ (k : Nat) (b s : Int) (Q : Option hkV → Nat → hkG → Prop), b + k = N → 0 ≤ b → Q (some (0, orS (fun b => if hkAnd (hkShr (bxW R N i) (N - 1 - b)) 1 = 0 then hkShl 1 b else 0) k b s)) t g → Xp 118 (d + 2) 4 [(2, 66), (0, i), (0, s), (0, b)] [] t g Q := by
  obtain ⟨b1, b2, b3, b4⟩ := id hX.1
  obtain ⟨x1, x2, x3, x4, x5⟩ := MX_f hX
  intro k
  induction k with
  | zero =>
    intro b s Q hb h0 hq
    rw [x_118_4]
    simp only [x_118_5, x_118_6, x_118_9, hkJK_66, hkP1_0, hkP1_2, hkP1_u, hkC8, List.map_cons, List.map_nil, List.sum_cons, List.sum_nil, hkCat_0, hkCat_1, hkCat_2, Nat.reduceAdd, Nat.reduceLeDiff, hkPush_s, hkPush_n, true_and, and_true, implies_true, true_implies, not_true_eq_false, not_false_eq_true, false_implies, hkTf_0, hkTf_n1, hkOr01, hkOr11, Int.reduceEq, Int.reduceLT, Int.reduceLE, hk102a, hk102b, hk102c, Nat.reduceEqDiff, or_true, true_or, or_false, false_or, and_false, false_and, Classical.not_not, true_implies, List.set_cons_zero, List.set_cons_succ, ne_eq, x_118_47, x_118_48, hkJK_66, hkP1_0, hkP1_2, hkP1_u, hkC8, List.map_cons, List.map_nil, List.sum_cons, List.sum_nil, hkCat_0, hkCat_1, hkCat_2, Nat.reduceAdd, Nat.reduceLeDiff, hkPush_s, hkPush_n, true_and, and_true, implies_true, true_implies, not_true_eq_false, not_false_eq_true, false_implies, hkTf_0, hkTf_n1, hkOr01, hkOr11, Int.reduceEq, Int.reduceLT, Int.reduceLE, hk102a, hk102b, hk102c, Nat.reduceEqDiff, or_true, true_or, or_false, false_or, and_false, false_and, Classical.not_not, true_implies, List.set_cons_zero, List.set_cons_succ, ne_eq, hkLe_t ht, x2]
    exact And.intro (fun _ => hq) (fun h => absurd (by omega) h)
  | succ k ih =>
    intro b s Q hb h0 hq
    have IH := ih (b + 1) _ Q (by omega) (by omega) hq
    obtain ⟨e1, e2, e3⟩ : hkW (N - 1) = N - 1 ∧ hkW (N - 1 - b) = N - 1 - b ∧ hkW (b + 1) = b + 1 := ⟨hkW_in (by omega) (by omega), hkW_in (by omega) (by omega), hkW_in (by omega) (by omega)⟩
    rw [x_118_4]
    simp only [x_118_5, x_118_6, x_118_9, x_118_12, x_118_13, x_118_14, x_118_15, x_118_18, x_118_19, x_118_22, x_118_23, x_118_24, x_118_25, x_118_26, x_118_27, x_118_28, x_118_29, x_118_32, x_118_33, x_118_34, x_118_35, x_118_38, x_118_39, x_118_40, x_118_41, x_118_44, hkJK_66, hkP1_0, hkP1_2, hkP1_u, hkC8, List.map_cons, List.map_nil, List.sum_cons, List.sum_nil, hkCat_0, hkCat_1, hkCat_2, Nat.reduceAdd, Nat.reduceLeDiff, hkPush_s, hkPush_n, true_and, and_true, implies_true, true_implies, not_true_eq_false, not_false_eq_true, false_implies, hkTf_0, hkTf_n1, hkOr01, hkOr11, Int.reduceEq, Int.reduceLT, Int.reduceLE, hk102a, hk102b, hk102c, Nat.reduceEqDiff, or_true, true_or, or_false, false_or, and_false, false_and, Classical.not_not, true_implies, List.set_cons_zero, List.set_cons_succ, ne_eq, hkLe_t ht, x2, sx_mword ht hX i0 i1, e1, e2, e3]
    clear e1 e2 e3
    refine And.intro (fun h => absurd h (by omega)) (fun _ => And.intro (fun h => ?_) (fun h => ?_))
    · simp only [if_neg h] at IH; exact IH
    · simp only [if_pos h] at IH; exact IH
theorem sx_mturned (ht : 190 ≤ t) (hX : MX g R N) {i : Int} (i0 : 0 ≤ i) (i1 : i < bxC R N) : Xp 118 (d + 2) 0 [(2, 66), (0, i), hkU, hkU] [] t g Q = Q (some (0, twV N (bxW R N i))) t g := by
  obtain ⟨b1, b2, b3, b4⟩ := id hX.1
  refine Xp_ev (d := 2) (Ev_of ?_) (by omega)
  simp only [x_118_0, x_118_1, x_118_2, x_118_3, hkJK_66, hkP1_0, hkP1_2, hkP1_u, hkC8, List.map_cons, List.map_nil, List.sum_cons, List.sum_nil, hkCat_0, hkCat_1, hkCat_2, Nat.reduceAdd, Nat.reduceLeDiff, hkPush_s, hkPush_n, true_and, and_true, implies_true, true_implies, not_true_eq_false, not_false_eq_true, false_implies, hkTf_0, hkTf_n1, hkOr01, hkOr11, Int.reduceEq, Int.reduceLT, Int.reduceLE, hk102a, hk102b, hk102c, Nat.reduceEqDiff, or_true, true_or, or_false, false_or, and_false, false_and, Classical.not_not, true_implies, List.set_cons_zero, List.set_cons_succ, ne_eq]
  exact l_mturned (d := 0) ht hX i0 i1 N.toNat 0 0 _ (by omega) (by omega) ⟨rfl, rfl, rfl⟩
end SP
