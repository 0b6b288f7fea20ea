/-! ties: around -/
def arH (R N l i dd : Int) (j : Int) : Prop := OFC R N i j l ≠ 0 ∧ tdV R N i j l = dd
noncomputable def arN (R N l i dd : Int) : Nat → Int
  | 0 => 0
  | k + 1 => arN R N l i dd k + hkTf (arH R N l i dd k)
noncomputable def arF (R N l i dd : Int) : Nat → Int
  | 0 => -1
  | k + 1 => if arF R N l i dd k = -1 then (@ite _ (arH R N l i dd k) (Classical.propDecidable _) (k : Int) (-1)) else arF R N l i dd k
def aroOk (R N l i dd w : Int) : Prop := (0 ≤ l ∧ l < bxC R N) ∧ (0 ≤ i ∧ i < bxC R N) ∧ (0 ≤ dd ∧ dd ≤ 7) ∧ (0 ≤ w ∧ w ≤ 1)
noncomputable def aroV (R N l i dd w : Int) : Int := if w = 0 then arN R N l i dd (bxC R N).toNat else arF R N l i dd (bxC R N).toNat
theorem arN_r {R N l i dd : Int} : ∀ k : Nat, 0 ≤ arN R N l i dd k ∧ arN R N l i dd k ≤ k := by
  intro k
  induction k with
  | zero => unfold arN; omega
  | succ k ih =>
    unfold arN
    by_cases h : arH R N l i dd k
    · rw [hkTf_t h]; omega
    · rw [hkTf_f h]; omega
theorem arF_r {R N l i dd : Int} : ∀ k : Nat, -1 ≤ arF R N l i dd k ∧ arF R N l i dd k < k := by
  intro k
  induction k with
  | zero => unfold arF; omega
  | succ k ih =>
    unfold arF
    split
    · by_cases h : arH R N l i dd k
      · rw [if_pos h]; omega
      · rw [if_neg h]; omega
    · omega
section SP
variable {t d : Nat} {R N : Int} {Q : Option hkV → Nat → hkG → Prop}
theorem l_around (ht : 190 ≤ t) {l i dd w : Int} (hv : aroOk R N l i dd w) : ∀ (m k : Nat) (g : hkG), (k : Int) + m = bxC R N → RB g R N → (∀ g' : hkG, qKeep g g' → RB g' R N → Q (some (0, aroV R N l i dd w)) t g') →
    Xp 10 (d + 12) 54 [(2, 0), (0, l), (0, i), (0, dd), (0, w), (0, arN R N l i dd k), (0, arF R N l i dd k), (0, (k : Int))] [] t g Q := by
  obtain ⟨⟨l0, l1⟩, ⟨i0, i1⟩, ⟨d0, d1⟩, ⟨w0, w1⟩⟩ := id hv
  intro m
  induction m with
  | zero =>
    intro k g hk hb hQ
    have hq := hQ g qKeep_r hb
    have hx3 : g 1 3 = bxC R N := (BX_f hb.1).2.2.2.1
    unfold aroV at hq
    rw [show (bxC R N).toNat = k from by omega] at hq
    rw [x_10_54]
    simp only [x_10_56, x_10_57, x_10_60, x_10_63, hkJK_0, hkJK_1, hkJK_12, jA_0_0, jA_0_2, jR_0_0, jR_0_2, hkP1_0, hkP1_2, hkP1_u, hkC8, List.map_cons, List.map_nil, List.sum_cons, List.sum_nil, hkCat_0, hkCat_1, hkCat_2, Nat.reduceAdd, Nat.reduceLeDiff, hkPush_s, hkPush_n, true_and, and_true, implies_true, true_implies, not_true_eq_false, not_false_eq_true, false_implies, hkTf_0, hkTf_n1, hkOr01, hkOr11, Int.reduceEq, Int.reduceLT, Int.reduceLE, hk102a, hk102b, hk102c, Nat.reduceEqDiff, or_true, true_or, or_false, false_or, and_false, false_and, Classical.not_not, true_implies, List.set_cons_zero, List.set_cons_succ, ne_eq, x_10_114, x_10_116, x_10_119, x_10_121, x_10_124, x_10_126, hkJK_0, hkJK_1, hkJK_12, jA_0_0, jA_0_2, jR_0_0, jR_0_2, hkP1_0, hkP1_2, hkP1_u, hkC8, List.map_cons, List.map_nil, List.sum_cons, List.sum_nil, hkCat_0, hkCat_1, hkCat_2, Nat.reduceAdd, Nat.reduceLeDiff, hkPush_s, hkPush_n, true_and, and_true, implies_true, true_implies, not_true_eq_false, not_false_eq_true, false_implies, hkTf_0, hkTf_n1, hkOr01, hkOr11, Int.reduceEq, Int.reduceLT, Int.reduceLE, hk102a, hk102b, hk102c, Nat.reduceEqDiff, or_true, true_or, or_false, false_or, and_false, false_and, Classical.not_not, true_implies, List.set_cons_zero, List.set_cons_succ, ne_eq, hkLe_t ht, hx3]
    refine And.intro (fun _ => And.intro (fun h => ?_) (fun h => ?_)) (fun h => absurd (by omega) h)
    · rw [if_neg h] at hq; exact hq
    · rw [if_pos h] at hq; exact hq
  | succ m ih =>
    intro k g hk hb hQ
    have hc := bx_C hb.1.1
    have hx3 : g 1 3 = bxC R N := (BX_f hb.1).2.2.2.1
    have hN := arN_r (R := R) (N := N) (l := l) (i := i) (dd := dd) k
    have hk0 : (0 : Int) ≤ (k : Int) := by omega
    have hkc : (k : Int) < bxC R N := by omega
    have hF1 : arF R N l i dd (k + 1) = if arF R N l i dd k = -1 then (@ite _ (arH R N l i dd k) (Classical.propDecidable _) (k : Int) (-1)) else arF R N l i dd k := rfl
    have hN1 : arN R N l i dd (k + 1) = arN R N l i dd k + hkTf (arH R N l i dd k) := rfl
    rw [x_10_54]
    simp only [x_10_56, x_10_57, x_10_60, x_10_63, x_10_66, x_10_67, x_10_70, x_10_71, x_10_73, x_10_74, hkJK_0, hkJK_1, hkJK_12, jA_0_0, jA_0_2, jR_0_0, jR_0_2, hkP1_0, hkP1_2, hkP1_u, hkC8, List.map_cons, List.map_nil, List.sum_cons, List.sum_nil, hkCat_0, hkCat_1, hkCat_2, Nat.reduceAdd, Nat.reduceLeDiff, hkPush_s, hkPush_n, true_and, and_true, implies_true, true_implies, not_true_eq_false, not_false_eq_true, false_implies, hkTf_0, hkTf_n1, hkOr01, hkOr11, Int.reduceEq, Int.reduceLT, Int.reduceLE, hk102a, hk102b, hk102c, Nat.reduceEqDiff, or_true, true_or, or_false, false_or, and_false, false_and, Classical.not_not, true_implies, List.set_cons_zero, List.set_cons_succ, ne_eq, hkLe_t ht, hx3]
    refine And.intro (fun h => absurd h (by omega)) (fun _ => ?_)
    refine r_often ht hb i0 i1 hk0 hkc l0 l1 (fun g1 k1 hb1 => ?_)
    have IH := ih (k + 1) g1 (by omega) hb1 (fun g' k2 hb2 => hQ g' (qKeep_t k1 k2) hb2)
    obtain ⟨hw, hw2⟩ : hkW ((k : Int) + 1) = ((k + 1 : Nat) : Int) ∧ hkW (arN R N l i dd k + 1) = arN R N l i dd k + 1 := ⟨by rw [hkW_in (by omega) (by omega)]; omega, hkW_in (by omega) (by omega)⟩
    simp only [x_10_77, x_10_80, x_10_81, x_10_84, x_10_85, x_10_87, x_10_88, x_10_91, x_10_92, x_10_95, x_10_98, x_10_100, x_10_101, x_10_104, x_10_106, x_10_108, x_10_111, hkJK_0, hkJK_1, hkJK_12, jA_0_0, jA_0_2, jR_0_0, jR_0_2, hkP1_0, hkP1_2, hkP1_u, hkC8, List.map_cons, List.map_nil, List.sum_cons, List.sum_nil, hkCat_0, hkCat_1, hkCat_2, Nat.reduceAdd, Nat.reduceLeDiff, hkPush_s, hkPush_n, true_and, and_true, implies_true, true_implies, not_true_eq_false, not_false_eq_true, false_implies, hkTf_0, hkTf_n1, hkOr01, hkOr11, Int.reduceEq, Int.reduceLT, Int.reduceLE, hk102a, hk102b, hk102c, Nat.reduceEqDiff, or_true, true_or, or_false, false_or, and_false, false_and, Classical.not_not, true_implies, List.set_cons_zero, List.set_cons_succ, ne_eq, hkLe_t ht, sx_turnsTo (Nat.le_trans (by decide) ht) hb1.1 i0 i1 hk0 hkc l0 l1, hw, hw2]
    clear hw hw2
    have NO : ¬ arH R N l i dd k → Xp 10 (d + 11 + 1) 54 [(2, 0), (0, l), (0, i), (0, dd), (0, w), (0, arN R N l i dd k), (0, arF R N l i dd k), (0, ((k + 1 : Nat) : Int))] [] t g1 Q := by
      intro h
      rw [hN1, hkTf_f h, Int.add_zero, hF1, if_neg h] at IH
      have e : (if arF R N l i dd k = -1 then (-1 : Int) else arF R N l i dd k) = arF R N l i dd k := by split <;> omega
      rw [e] at IH
      exact IH
    refine And.intro (fun h => NO (fun h2 => h2.1 h)) (fun h => And.intro (fun h2 => NO (fun h3 => h2 h3.2)) (fun h2 => ?_))
    have hH : arH R N l i dd k := ⟨h, h2⟩
    rw [hN1, hkTf_t hH, hF1, if_pos hH] at IH
    refine And.intro (fun h3 => ?_) (fun h3 => ?_)
    · rw [if_neg h3] at IH; exact IH
    · rw [if_pos h3] at IH; exact IH
theorem l_maround (ht : 190 ≤ t) {l i dd w : Int} (hv : aroOk R N l i dd w) : ∀ (k : Nat) (n f : Int) (g : hkG), (k : Int) ≤ bxC R N → n + arN R N l i dd k = arN R N l i dd (bxC R N).toNat → (if arF R N l i dd k = -1 then f else arF R N l i dd k) = arF R N l i dd (bxC R N).toNat → RB g R N → (∀ g' : hkG, qKeep g g' → RB g' R N → Q (some (0, aroV R N l i dd w)) t g') →
    Xp 128 (d + 12) 56 [(2, 66), (0, l), (0, i), (0, dd), (0, w), (0, n), (0, f), (0, (k : Int) - 1)] [] t g Q := by
  obtain ⟨⟨l0, l1⟩, ⟨i0, i1⟩, ⟨d0, d1⟩, ⟨w0, w1⟩⟩ := id hv
  intro k
  induction k with
  | zero =>
    intro n f g hk hn hf hb hQ
    have hq := hQ g qKeep_r hb
    unfold aroV at hq
    rw [← hn, ← hf] at hq
    have e1 : arN R N l i dd 0 = 0 := rfl
    have e2 : arF R N l i dd 0 = -1 := rfl
    rw [e1, e2, if_pos rfl, Int.add_zero] at hq
    rw [x_128_56]
    simp only [x_128_58, hkJK_66, hkP1_0, hkP1_2, hkP1_u, hkC8, List.map_cons, List.map_nil, List.sum_cons, List.sum_nil, hkCat_0, hkCat_1, hkCat_2, Nat.reduceAdd, Nat.reduceLeDiff, hkPush_s, hkPush_n, true_and, and_true, implies_true, true_implies, not_true_eq_false, not_false_eq_true, false_implies, hkTf_0, hkTf_n1, hkOr01, hkOr11, Int.reduceEq, Int.reduceLT, Int.reduceLE, hk102a, hk102b, hk102c, Nat.reduceEqDiff, or_true, true_or, or_false, false_or, and_false, false_and, Classical.not_not, true_implies, List.set_cons_zero, List.set_cons_succ, ne_eq, x_128_97, x_128_99, x_128_102, x_128_104, x_128_107, x_128_109, hkJK_66, hkP1_0, hkP1_2, hkP1_u, hkC8, List.map_cons, List.map_nil, List.sum_cons, List.sum_nil, hkCat_0, hkCat_1, hkCat_2, Nat.reduceAdd, Nat.reduceLeDiff, hkPush_s, hkPush_n, true_and, and_true, implies_true, true_implies, not_true_eq_false, not_false_eq_true, false_implies, hkTf_0, hkTf_n1, hkOr01, hkOr11, Int.reduceEq, Int.reduceLT, Int.reduceLE, hk102a, hk102b, hk102c, Nat.reduceEqDiff, or_true, true_or, or_false, false_or, and_false, false_and, Classical.not_not, true_implies, List.set_cons_zero, List.set_cons_succ, ne_eq]
    refine And.intro (fun _ => And.intro (fun h => ?_) (fun h => ?_)) (fun h => absurd h (by omega))
    · rw [if_neg h] at hq; exact hq
    · rw [if_pos h] at hq; exact hq
  | succ k ih =>
    intro n f g hk hn hf hb hQ
    have hc := bx_C hb.1.1
    have hN0 := arN_r (R := R) (N := N) (l := l) (i := i) (dd := dd) (k + 1)
    have hNC := arN_r (R := R) (N := N) (l := l) (i := i) (dd := dd) (bxC R N).toNat
    have hk0 : (0 : Int) ≤ (k : Int) := by omega
    have hkc : (k : Int) < bxC R N := by omega
    have hF1 : arF R N l i dd (k + 1) = if arF R N l i dd k = -1 then (@ite _ (arH R N l i dd k) (Classical.propDecidable _) (k : Int) (-1)) else arF R N l i dd k := rfl
    have hN1 : arN R N l i dd (k + 1) = arN R N l i dd k + hkTf (arH R N l i dd k) := rfl
    have hkk : ((k + 1 : Nat) : Int) - 1 = (k : Int) := by omega
    rw [hkk, x_128_56]
    simp only [x_128_58, x_128_61, x_128_62, x_128_63, x_128_65, x_128_66, hkJK_66, hkP1_0, hkP1_2, hkP1_u, hkC8, List.map_cons, List.map_nil, List.sum_cons, List.sum_nil, hkCat_0, hkCat_1, hkCat_2, Nat.reduceAdd, Nat.reduceLeDiff, hkPush_s, hkPush_n, true_and, and_true, implies_true, true_implies, not_true_eq_false, not_false_eq_true, false_implies, hkTf_0, hkTf_n1, hkOr01, hkOr11, Int.reduceEq, Int.reduceLT, Int.reduceLE, hk102a, hk102b, hk102c, Nat.reduceEqDiff, or_true, true_or, or_false, false_or, and_false, false_and, Classical.not_not, true_implies, List.set_cons_zero, List.set_cons_succ, ne_eq, hkLe_t ht]
    refine And.intro (fun h => absurd h (by omega)) (fun _ => ?_)
    refine r_moften ht hb i0 i1 hk0 hkc l0 l1 (fun g1 k1 hb1 => ?_)
    have IH := fun n' f' a b => ih n' f' g1 (by omega) a b hb1 (fun g' k2 hb2 => hQ g' (qKeep_t k1 k2) hb2)
    have hw : hkW ((k : Int) + -1) = (k : Int) - 1 := by rw [hkW_in (by omega) (by omega)]; omega
    simp only [x_128_69, x_128_72, x_128_73, x_128_74, x_128_76, x_128_77, x_128_80, x_128_81, x_128_84, x_128_87, x_128_89, x_128_91, x_128_94, hkJK_66, hkP1_0, hkP1_2, hkP1_u, hkC8, List.map_cons, List.map_nil, List.sum_cons, List.sum_nil, hkCat_0, hkCat_1, hkCat_2, Nat.reduceAdd, Nat.reduceLeDiff, hkPush_s, hkPush_n, true_and, and_true, implies_true, true_implies, not_true_eq_false, not_false_eq_true, false_implies, hkTf_0, hkTf_n1, hkOr01, hkOr11, Int.reduceEq, Int.reduceLT, Int.reduceLE, hk102a, hk102b, hk102c, Nat.reduceEqDiff, or_true, true_or, or_false, false_or, and_false, false_and, Classical.not_not, true_implies, List.set_cons_zero, List.set_cons_succ, ne_eq, hkLe_t ht, sx_mTurnsOf ht hb1.2.2.2.2.1 i0 i1 hk0 hkc l0 l1, hw]
    clear hw
    have NO : ¬ arH R N l i dd k → Xp 128 (d + 11 + 1) 56 [(2, 66), (0, l), (0, i), (0, dd), (0, w), (0, n), (0, f), (0, (k : Int) - 1)] [] t g1 Q := by
      intro h
      rw [hN1, hkTf_f h, Int.add_zero] at hn
      refine IH n f hn ?_
      rw [hF1, if_neg h] at hf
      rw [← hf]
      by_cases e : arF R N l i dd k = -1
      · rw [if_pos e, if_pos e, if_pos rfl]
      · rw [if_neg e, if_neg e, if_neg e]
    refine And.intro (fun h => NO (fun h2 => h2.1 h)) (fun h => And.intro (fun h2 => NO (fun h3 => h2 h3.2)) (fun h2 => ?_))
    have hH : arH R N l i dd k := ⟨h, h2⟩
    rw [hN1, hkTf_t hH] at hn hN0
    rw [hkW_in (by omega) (by omega)]
    refine IH (n + 1) k (by omega) ?_
    rw [hF1, if_pos hH] at hf
    rw [← hf]
    by_cases e : arF R N l i dd k = -1
    · rw [if_pos e, if_neg (by omega)]
    · rw [if_neg e, if_neg e]
theorem c_around {g : hkG} (ht : 190 ≤ t) (hb : RB g R N) {l i dd w : Int} (h1 : ¬ aroOk R N l i dd w → Q (some (0, -2)) t g) (hQ : aroOk R N l i dd w → ∀ g' : hkG, qKeep g g' → RB g' R N → Q (some (0, aroV R N l i dd w)) t g') :
    Xp 10 (d + 12) 0 [(2, 0), (0, l), (0, i), (0, dd), (0, w), hkU, hkU, hkU] [] t g Q := by
  have hc := bx_C hb.1.1
  simp only [x_10_0, x_10_1, x_10_4, x_10_5, x_10_8, x_10_11, x_10_12, x_10_15, x_10_16, x_10_19, x_10_22, x_10_23, x_10_24, x_10_26, x_10_29, x_10_32, x_10_34, x_10_35, x_10_36, x_10_39, x_10_42, x_10_44, hkJK_0, hkJK_1, hkJK_12, jA_0_0, jA_0_2, jR_0_0, jR_0_2, hkP1_0, hkP1_2, hkP1_u, hkC8, List.map_cons, List.map_nil, List.sum_cons, List.sum_nil, hkCat_0, hkCat_1, hkCat_2, Nat.reduceAdd, Nat.reduceLeDiff, hkPush_s, hkPush_n, true_and, and_true, implies_true, true_implies, not_true_eq_false, not_false_eq_true, false_implies, hkTf_0, hkTf_n1, hkOr01, hkOr11, Int.reduceEq, Int.reduceLT, Int.reduceLE, hk102a, hk102b, hk102c, Nat.reduceEqDiff, or_true, true_or, or_false, false_or, and_false, false_and, Classical.not_not, true_implies, List.set_cons_zero, List.set_cons_succ, ne_eq, hkLe_t ht, sx_isShape ht hb.1, sx_isOff]
  by_cases hv : aroOk R N l i dd w
  · have L := l_around (d := d) (Q := Q) ht hv (bxC R N).toNat 0 g (by omega) hb (hQ hv)
    unfold aroOk at hv
    have K : Xp 10 (d + 12) 45 [(2, 0), (0, l), (0, i), (0, dd), (0, w), hkU, hkU, hkU] [] t g Q := by
      simp only [x_10_45, x_10_46, x_10_48, x_10_49, x_10_51, x_10_52, hkJK_0, hkJK_1, hkJK_12, jA_0_0, jA_0_2, jR_0_0, jR_0_2, hkP1_0, hkP1_2, hkP1_u, hkC8, List.map_cons, List.map_nil, List.sum_cons, List.sum_nil, hkCat_0, hkCat_1, hkCat_2, Nat.reduceAdd, Nat.reduceLeDiff, hkPush_s, hkPush_n, true_and, and_true, implies_true, true_implies, not_true_eq_false, not_false_eq_true, false_implies, hkTf_0, hkTf_n1, hkOr01, hkOr11, Int.reduceEq, Int.reduceLT, Int.reduceLE, hk102a, hk102b, hk102c, Nat.reduceEqDiff, or_true, true_or, or_false, false_or, and_false, false_and, Classical.not_not, true_implies, List.set_cons_zero, List.set_cons_succ, ne_eq]
      exact L
    repeat' (first | exact K | refine And.intro ?_ ?_ | intro _ | (exfalso; omega))
  · have hq := h1 hv
    unfold aroOk at hv
    repeat' (first | exact hq | refine And.intro ?_ ?_ | intro _ | (exfalso; omega))
theorem m_around {g : hkG} (ht : 190 ≤ t) (hb : RB g R N) {l i dd w : Int} (h1 : ¬ aroOk R N l i dd w → Q (some (0, -2)) t g) (hQ : aroOk R N l i dd w → ∀ g' : hkG, qKeep g g' → RB g' R N → Q (some (0, aroV R N l i dd w)) t g') :
    Xp 128 (d + 12) 0 [(2, 66), (0, l), (0, i), (0, dd), (0, w), hkU, hkU, hkU] [] t g Q := by
  have hc := bx_C hb.1.1
  have hx3 : g 66 2 = bxC R N := (MX_f hb.2.2.2.2.1).2.2.1
  simp only [x_128_0, x_128_1, x_128_2, x_128_5, x_128_8, x_128_9, x_128_10, x_128_13, x_128_16, x_128_17, x_128_18, x_128_19, x_128_22, x_128_25, x_128_28, x_128_30, x_128_31, x_128_32, x_128_33, x_128_36, x_128_39, x_128_41, hkJK_66, hkP1_0, hkP1_2, hkP1_u, hkC8, List.map_cons, List.map_nil, List.sum_cons, List.sum_nil, hkCat_0, hkCat_1, hkCat_2, Nat.reduceAdd, Nat.reduceLeDiff, hkPush_s, hkPush_n, true_and, and_true, implies_true, true_implies, not_true_eq_false, not_false_eq_true, false_implies, hkTf_0, hkTf_n1, hkOr01, hkOr11, Int.reduceEq, Int.reduceLT, Int.reduceLE, hk102a, hk102b, hk102c, Nat.reduceEqDiff, or_true, true_or, or_false, false_or, and_false, false_and, Classical.not_not, true_implies, List.set_cons_zero, List.set_cons_succ, ne_eq, hkLe_t ht, sx_mIsShape ht hb.2.2.2.2.1, sx_mIsIn]
  by_cases hv : aroOk R N l i dd w
  · have L := l_maround (d := d) (Q := Q) ht hv (bxC R N).toNat 0 (-1) g (by omega) (by omega) (by split <;> omega) hb (hQ hv)
    rw [show (((bxC R N).toNat : Nat) : Int) = bxC R N from by omega] at L
    unfold aroOk at hv
    have K : Xp 128 (d + 12) 42 [(2, 66), (0, l), (0, i), (0, dd), (0, w), hkU, hkU, hkU] [] t g Q := by
      have e : hkW (bxC R N - 1) = bxC R N - 1 := hkW_in (by omega) (by omega)
      simp only [x_128_42, x_128_43, x_128_45, x_128_46, x_128_48, x_128_49, x_128_52, x_128_53, x_128_54, hkJK_66, hkP1_0, hkP1_2, hkP1_u, hkC8, List.map_cons, List.map_nil, List.sum_cons, List.sum_nil, hkCat_0, hkCat_1, hkCat_2, Nat.reduceAdd, Nat.reduceLeDiff, hkPush_s, hkPush_n, true_and, and_true, implies_true, true_implies, not_true_eq_false, not_false_eq_true, false_implies, hkTf_0, hkTf_n1, hkOr01, hkOr11, Int.reduceEq, Int.reduceLT, Int.reduceLE, hk102a, hk102b, hk102c, Nat.reduceEqDiff, or_true, true_or, or_false, false_or, and_false, false_and, Classical.not_not, true_implies, List.set_cons_zero, List.set_cons_succ, ne_eq, hkLe_t ht, hx3, e]
      exact L
    repeat' (first | exact K | refine And.intro ?_ ?_ | intro _ | (exfalso; omega))
  · have hq := h1 hv
    unfold aroOk at hv
    repeat' (first | exact hq | refine And.intro ?_ ?_ | intro _ | (exfalso; omega))
theorem tie_around {g : hkG} {xs : Int → Int} {L l i dd w : Int} (ht : 190 ≤ t) (hR : Rel xs L g) : Tie xs L 10 (d + 12) [(2, 0), (0, l), (0, i), (0, dd), (0, w), hkU, hkU, hkU] 128 [(2, 66), (0, l), (0, i), (0, dd), (0, w), hkU, hkU, hkU] t g := by
  obtain ⟨R, N, hb, hr⟩ := hR
  refine c_around ht hb (fun hv => ⟨_, rfl, rfl, ?_⟩) (fun hv g1 k1 hb1 => ⟨_, rfl, rfl, ?_⟩)
  · exact m_around ht hb (fun _ => ⟨rfl, rfl, R, N, hb, hr⟩) (fun h => absurd h hv)
  · exact m_around ht hb1 (fun h => absurd hv h) (fun _ g2 k2 hb2 => ⟨rfl, rfl, Rel_q hb2 (qKeep_t k1 k2) hr⟩)
end SP
