/-! ties: multiply -/
theorem mprod_cong {R N : Int} {A A' B B' : Int → Int} (hA : ∀ p : Int, 0 ≤ p → p < 280 → A p = A' p) (hB : ∀ p : Int, 0 ≤ p → p < 280 → B p = B' p) {p : Int} : mprod R N A B p = mprod R N A' B' p := by
  unfold mprod
  refine smr_cong 280 0 (fun a a0 a1 => smr_cong 280 0 (fun b b0 b1 => ?_))
  rw [hA a a0 (by omega), hB b b0 (by omega)]
theorem fitsP_cong {R N : Int} {A A' B B' : Int → Int} (hA : ∀ p : Int, 0 ≤ p → p < 280 → A p = A' p) (hB : ∀ p : Int, 0 ≤ p → p < 280 → B p = B' p) : fitsP R N A B ↔ fitsP R N A' B' := by
  have e : mprod R N A B = mprod R N A' B' := funext (fun p => mprod_cong hA hB)
  unfold fitsP
  rw [e]
def unV (l v p : Int) : Int := if p = l then v else 0
theorem gvec_cong {C : Int} {A A' : Int → Int} (h : ∀ p : Int, 0 ≤ p → p < 280 → A p = A' p) (hA : gvec C A) : gvec C A' := fun p p0 p1 => by rw [← h p p0 p1]; exact hA p p0 p1
theorem gvec_un {C l v : Int} (h0 : 0 ≤ l) (h1 : l % 35 < C) (hv : rngS v) : gvec C (unV l v) := fun p p0 p1 => by
  unfold unV
  by_cases e : p = l
  · rw [if_pos e]; exact ⟨hv, fun h => by rw [e] at h; omega⟩
  · rw [if_neg e]; exact ⟨⟨by decide, by decide⟩, fun _ => rfl⟩
/-- the sum in hand alone is new -/
theorem Rel_m {g g' : hkG} {xs : Int → Int} {L R N : Int} (hb : RB g' R N) (k : ∀ q : Int, ¬ scr q → q ≠ 52 → q ≠ 72 → g' q = g q) (k66 : ∀ k : Int, fld k → g' 66 k = g 66 k) (k0 : g' 24 0 = g 24 0) (k1 : g' 24 1 = g 24 1) (hS : RS g') (hr : RS g ∧ RK g ∧ RT g ∧ RH g ∧ RL xs L g) : Rel xs L g' := by
  obtain ⟨h1, h2, h3, h4, h5⟩ := hr
  refine ⟨R, N, hb, hS, ?_, ?_, ?_, ?_⟩
  · exact RK_row h2 (k 0 (by unfold scr; omega) (by decide) (by decide)) (k 56 (by unfold scr; omega) (by decide) (by decide)) (k 73 (by unfold scr; omega) (by decide) (by decide)) (fun x a b => k66 x (by unfold fld; omega))
  · exact RT_row h3 k0 k1 (k 27 (by unfold scr; omega) (by decide) (by decide)) (k 85 (by unfold scr; omega) (by decide) (by decide)) (k66 12 (by unfold fld; omega)) (k66 32 (by unfold fld; omega))
  · exact RH_row h4 (fun q hq => k q (by unfold scr; omega) (by omega) (by omega))
  · exact RL_row h5 (k (-1) (by unfold scr; omega) (by decide) (by decide)) (k (-2) (by unfold scr; omega) (by decide) (by decide))
theorem hdKeep_q {lv : Int} {g g' : hkG} (h : hdKeep lv g g') : qKeep g g' := ⟨fun q hq => h.1 q (by unfold scr at hq; omega), fun k hk => h.2.1 k (by unfold fld at hk; omega), by rw [h.1 24 (by omega)], by rw [h.1 24 (by omega)]⟩
theorem mlKeep_q {g g' : hkG} (h : mlKeep g g') : qKeep g g' := ⟨fun q hq => h q (by unfold scr at hq; omega) (by unfold scr at hq; omega) (by unfold scr at hq; omega), fun k hk => by rw [h 66 (by decide) (by decide) (by decide)], by rw [h 24 (by decide) (by decide) (by decide)], by rw [h 24 (by decide) (by decide) (by decide)]⟩
section SP
variable {t d : Nat} {R N : Int} {Q : Option hkV → Nat → hkG → Prop}
theorem l_mends (ht : 190 ≤ t) : ∀ (m : Nat) (k : Int) (g : hkG), k + m = 280 → 0 ≤ k → Xp 146 d 37 [(2, 66), (0, 280)] [] t (hkCpy g 83 k 72 k m) Q → Xp 146 d 12 [(2, 66), (0, k)] [] t g Q := by
  intro m
  induction m with
  | zero =>
    intro k g hk k0 hQ
    have e : k = 280 := by omega
    subst e
    have hQ' : Xp 146 d 37 [(2, 66), (0, 280)] [] t (hkCpy g 83 280 72 280 0) Q := hQ
    rw [hkCpy_0] at hQ'
    rw [x_146_12]
    simp only [x_146_13, x_146_16, hkJK_66, hkJK_72, hkJK_83, jA_66_27, jA_66_8, jL_72, jL_83, jR_66_27, jR_66_8, hkP1_0, hkP1_2, hkP1_u, hkC8, List.map_cons, List.map_nil, List.sum_cons, List.sum_nil, hkCat_0, hkCat_1, hkCat_2, Nat.reduceAdd, Nat.reduceLeDiff, hkPush_s, hkPush_n, true_and, and_true, implies_true, true_implies, not_true_eq_false, not_false_eq_true, false_implies, hkTf_0, hkTf_n1, hkOr01, hkOr11, Int.reduceEq, Int.reduceLT, Int.reduceLE, hk102a, hk102b, hk102c, Nat.reduceEqDiff, or_true, true_or, or_false, false_or, and_false, false_and, Classical.not_not, true_implies, List.set_cons_zero, List.set_cons_succ, ne_eq]
    repeat' (first | exact hQ' | refine And.intro ?_ ?_ | intro _ | trivial | omega | (exfalso; omega))
  | succ m ih =>
    intro k g hk k0 hQ
    rw [show ((m + 1 : Nat) : Int) = (m : Int) + 1 from by omega, ← hkCpy_s (by decide) (by omega)] at hQ
    have IH := ih (k + 1) (hkSet g 72 k (g 83 k)) (by omega) (by omega) hQ
    have e1 : hkW (k + 1) = k + 1 := hkW_in (by omega) (by omega)
    rw [x_146_12]
    simp only [x_146_13, x_146_16, x_146_19, x_146_20, x_146_23, x_146_24, x_146_25, x_146_28, x_146_29, x_146_30, x_146_31, x_146_34, hkJK_66, hkJK_72, hkJK_83, jA_66_27, jA_66_8, jL_72, jL_83, jR_66_27, jR_66_8, hkP1_0, hkP1_2, hkP1_u, hkC8, List.map_cons, List.map_nil, List.sum_cons, List.sum_nil, hkCat_0, hkCat_1, hkCat_2, Nat.reduceAdd, Nat.reduceLeDiff, hkPush_s, hkPush_n, true_and, and_true, implies_true, true_implies, not_true_eq_false, not_false_eq_true, false_implies, hkTf_0, hkTf_n1, hkOr01, hkOr11, Int.reduceEq, Int.reduceLT, Int.reduceLE, hk102a, hk102b, hk102c, Nat.reduceEqDiff, or_true, true_or, or_false, false_or, and_false, false_and, Classical.not_not, true_implies, List.set_cons_zero, List.set_cons_succ, ne_eq, hkLe_t ht, e1]
    clear e1
    repeat' (first | exact IH | refine And.intro ?_ ?_ | intro _ | trivial | omega | (exfalso; omega))
theorem sx_mends {g : hkG} (ht : 190 ≤ t) {S : Prop} (h29 : g 66 29 = hkTf S) (hY : S → Q (some (0, -3)) t g) (hN : ¬ S → Q (some (0, cnS (hkCpy g 83 0 72 0 280 72) 280)) t (hkCpy g 83 0 72 0 280)) : Xp 146 (d + 1) 0 [(2, 66), hkU] [] t g Q := by
  by_cases hS : S
  · have hq := hY hS
    rw [hkTf_t hS] at h29
    simp only [x_146_0, x_146_1, x_146_4, x_146_7, x_146_9, hkJK_66, hkJK_72, hkJK_83, jA_66_27, jA_66_8, jL_72, jL_83, jR_66_27, jR_66_8, hkP1_0, hkP1_2, hkP1_u, hkC8, List.map_cons, List.map_nil, List.sum_cons, List.sum_nil, hkCat_0, hkCat_1, hkCat_2, Nat.reduceAdd, Nat.reduceLeDiff, hkPush_s, hkPush_n, true_and, and_true, implies_true, true_implies, not_true_eq_false, not_false_eq_true, false_implies, hkTf_0, hkTf_n1, hkOr01, hkOr11, Int.reduceEq, Int.reduceLT, Int.reduceLE, hk102a, hk102b, hk102c, Nat.reduceEqDiff, or_true, true_or, or_false, false_or, and_false, false_and, Classical.not_not, true_implies, List.set_cons_zero, List.set_cons_succ, ne_eq, h29]
    repeat' (first | exact hq | refine And.intro ?_ ?_ | intro _ | trivial | omega | (exfalso; omega))
  · have hq := hN hS
    rw [hkTf_f hS] at h29
    have K2 : Xp 146 (d + 1) 37 [(2, 66), (0, 280)] [] t (hkCpy g 83 0 72 0 280) Q := by
      simp only [x_146_37, x_146_38, x_146_41, hkJK_66, hkJK_72, hkJK_83, jA_66_27, jA_66_8, jL_72, jL_83, jR_66_27, jR_66_8, hkP1_0, hkP1_2, hkP1_u, hkC8, List.map_cons, List.map_nil, List.sum_cons, List.sum_nil, hkCat_0, hkCat_1, hkCat_2, Nat.reduceAdd, Nat.reduceLeDiff, hkPush_s, hkPush_n, true_and, and_true, implies_true, true_implies, not_true_eq_false, not_false_eq_true, false_implies, hkTf_0, hkTf_n1, hkOr01, hkOr11, Int.reduceEq, Int.reduceLT, Int.reduceLE, hk102a, hk102b, hk102c, Nat.reduceEqDiff, or_true, true_or, or_false, false_or, and_false, false_and, Classical.not_not, true_implies, List.set_cons_zero, List.set_cons_succ, ne_eq, sx_there ht]
      repeat' (first | exact hq | refine And.intro ?_ ?_ | intro _ | trivial | omega | (exfalso; omega))
    have K := l_mends (d := d + 1) (t := t) (Q := Q) ht 280 0 g (by decide) (by decide) K2
    simp only [x_146_0, x_146_1, x_146_4, x_146_7, x_146_9, x_146_10, x_146_11, hkJK_66, hkJK_72, hkJK_83, jA_66_27, jA_66_8, jL_72, jL_83, jR_66_27, jR_66_8, hkP1_0, hkP1_2, hkP1_u, hkC8, List.map_cons, List.map_nil, List.sum_cons, List.sum_nil, hkCat_0, hkCat_1, hkCat_2, Nat.reduceAdd, Nat.reduceLeDiff, hkPush_s, hkPush_n, true_and, and_true, implies_true, true_implies, not_true_eq_false, not_false_eq_true, false_implies, hkTf_0, hkTf_n1, hkOr01, hkOr11, Int.reduceEq, Int.reduceLT, Int.reduceLE, hk102a, hk102b, hk102c, Nat.reduceEqDiff, or_true, true_or, or_false, false_or, and_false, false_and, Classical.not_not, true_implies, List.set_cons_zero, List.set_cons_succ, ne_eq, h29]
    repeat' (first | exact K | refine And.intro ?_ ?_ | intro _ | trivial | omega | (exfalso; omega))
theorem l_mmy (ht : 190 ≤ t) {l : Int} : ∀ (m : Nat) (k : Int) (g : hkG), k + m = 280 → 0 ≤ k → Xp 142 d 43 [(2, 66), (0, l), (0, 280)] [] t (hkCpy g 72 k 83 k m) Q → Xp 142 d 18 [(2, 66), (0, l), (0, k)] [] t g Q := by
  intro m
  induction m with
  | zero =>
    intro k g hk k0 hQ
    have e : k = 280 := by omega
    subst e
    have hQ' : Xp 142 d 43 [(2, 66), (0, l), (0, 280)] [] t (hkCpy g 72 280 83 280 0) Q := hQ
    rw [hkCpy_0] at hQ'
    rw [x_142_18]
    simp only [x_142_19, x_142_22, hkJK_66, hkJK_72, hkJK_83, jA_66_27, jA_66_8, jL_72, jL_83, jR_66_27, jR_66_8, hkP1_0, hkP1_2, hkP1_u, hkC8, List.map_cons, List.map_nil, List.sum_cons, List.sum_nil, hkCat_0, hkCat_1, hkCat_2, Nat.reduceAdd, Nat.reduceLeDiff, hkPush_s, hkPush_n, true_and, and_true, implies_true, true_implies, not_true_eq_false, not_false_eq_true, false_implies, hkTf_0, hkTf_n1, hkOr01, hkOr11, Int.reduceEq, Int.reduceLT, Int.reduceLE, hk102a, hk102b, hk102c, Nat.reduceEqDiff, or_true, true_or, or_false, false_or, and_false, false_and, Classical.not_not, true_implies, List.set_cons_zero, List.set_cons_succ, ne_eq]
    repeat' (first | exact hQ' | refine And.intro ?_ ?_ | intro _ | trivial | omega | (exfalso; omega))
  | succ m ih =>
    intro k g hk k0 hQ
    rw [show ((m + 1 : Nat) : Int) = (m : Int) + 1 from by omega, ← hkCpy_s (by decide) (by omega)] at hQ
    have IH := ih (k + 1) (hkSet g 83 k (g 72 k)) (by omega) (by omega) hQ
    have e1 : hkW (k + 1) = k + 1 := hkW_in (by omega) (by omega)
    rw [x_142_18]
    simp only [x_142_19, x_142_22, x_142_25, x_142_26, x_142_29, x_142_30, x_142_31, x_142_34, x_142_35, x_142_36, x_142_37, x_142_40, hkJK_66, hkJK_72, hkJK_83, jA_66_27, jA_66_8, jL_72, jL_83, jR_66_27, jR_66_8, hkP1_0, hkP1_2, hkP1_u, hkC8, List.map_cons, List.map_nil, List.sum_cons, List.sum_nil, hkCat_0, hkCat_1, hkCat_2, Nat.reduceAdd, Nat.reduceLeDiff, hkPush_s, hkPush_n, true_and, and_true, implies_true, true_implies, not_true_eq_false, not_false_eq_true, false_implies, hkTf_0, hkTf_n1, hkOr01, hkOr11, Int.reduceEq, Int.reduceLT, Int.reduceLE, hk102a, hk102b, hk102c, Nat.reduceEqDiff, or_true, true_or, or_false, false_or, and_false, false_and, Classical.not_not, true_implies, List.set_cons_zero, List.set_cons_succ, ne_eq, hkLe_t ht, e1]
    clear e1
    repeat' (first | exact IH | refine And.intro ?_ ?_ | intro _ | trivial | omega | (exfalso; omega))
theorem tie_multiply {g : hkG} {xs : Int → Int} {L l : Int} (ht : 190 ≤ t) (hR : Rel xs L g) : Tie xs L 17 (d + 13) [(2, 0), (0, l)] 142 [(2, 66), (0, l), hkU] t g := by
  obtain ⟨R, N, hb, hr⟩ := id hR
  have hc := bx_C hb.1.1
  by_cases hl : 0 ≤ l ∧ l < bxC R N
  · obtain ⟨l0, l1⟩ := id hl
    have y3 : g 66 2 = bxC R N := (MX_f hb.2.2.2.2.1).2.2.1
    have hS := hr.1
    have gA : gvec (bxC R N) (g 72) := fun p p0 p1 => by have h := hS p p0 p1; rw [y3] at h; exact h.2
    have gB : gvec (bxC R N) (unV l 1) := gvec_un l0 (by omega) ⟨by decide, by decide⟩
    generalize hgc : hkSet (hkFil g 54 0 280 0) 54 l 1 = gc
    have kc : ∀ q : Int, q ≠ 54 → gc q = g q := fun q hq => by rw [← hgc, hkSet_row hq, hkFil_row hq]
    have h54 : ∀ p : Int, 0 ≤ p → p < 280 → gc 54 p = unV l 1 p := fun p p0 p1 => by
      rw [← hgc, hkSet_rd]
      unfold unV
      by_cases e : p = l
      · rw [if_pos ⟨rfl, e⟩, if_pos e]
      · rw [if_neg (fun h => e h.2), if_neg e, hkFil_in p0 p1]
    have h52 : ∀ p : Int, 0 ≤ p → p < 280 → gc 52 p = g 72 p := fun p p0 p1 => by rw [kc 52 (by decide)]; exact (hS p p0 p1).1
    have gA' : gvec (bxC R N) (gc 52) := gvec_cong (fun p p0 p1 => (h52 p p0 p1).symm) gA
    have gB' : gvec (bxC R N) (gc 54) := gvec_cong (fun p p0 p1 => (h54 p p0 p1).symm) gB
    have hbc : RB gc R N := RB_c hb (fun q hq => kc q (by omega))
    have hfc : fitsP R N (gc 52) (gc 54) ↔ fitsP R N (g 72) (unV l 1) := fitsP_cong h52 h54
    have hpc : ∀ p : Int, mprod R N (gc 52) (gc 54) p = mprod R N (g 72) (unV l 1) p := fun p => mprod_cong h52 h54
    have qc : qKeep g gc := ⟨fun q hq => kc q (by unfold scr at hq; omega), fun k _ => by rw [kc 66 (by decide)], by rw [kc 24 (by decide)], by rw [kc 24 (by decide)]⟩
    -- the reference, from what the class leaves
    have MR : ∀ (g1 : hkG) (Q : Option hkV → Nat → hkG → Prop), (∀ q : Int, 66 ≤ q → g1 q = g q) → RB g1 R N → (¬ fitsP R N (g 72) (unV l 1) → ∀ g2 : hkG, qKeep g1 g2 → RB g2 R N → Q (some (0, -3)) t g2) → (fitsP R N (g 72) (unV l 1) → ∀ g2 : hkG, (∀ q : Int, ¬ scr q → q ≠ 72 → g2 q = g1 q) → (∀ k : Int, fld k → g2 66 k = g1 66 k) → g2 24 0 = g1 24 0 → g2 24 1 = g1 24 1 → RB g2 R N → (∀ p : Int, 0 ≤ p → p < 280 → g2 72 p = mprod R N (g 72) (unV l 1) p) → Q (some (0, cnS (g2 72) 280)) t g2) → Xp 142 (d + 13) 0 [(2, 66), (0, l), hkU] [] t g1 Q := by
      intro g1 Q k1 hb1 q1 q2
      have f1 : ∀ k : Int, k ≠ 29 → hkCpy (hkSet g1 66 29 0) 72 0 83 0 280 66 k = g1 66 k := fun k hk => by rw [hkCpy_row (by decide), hkSet_rd, if_neg (fun h => hk h.2)]
      have hbp : RB (hkSet (hkFil (hkCpy (hkSet g1 66 29 0) 72 0 83 0 280) 83 (280 * 1) (280 * 1 + 280) 0) 83 (280 * 1 + 35 * 0 + l) 1) R N := RB_s hb1 (fun q u1 u2 => by rw [hkSet_row (by omega), hkFil_row (by omega), hkCpy_row (by omega), hkSet_row u2]) (fun k u1 u2 => by rw [hkSet_row (by decide), hkFil_row (by decide), f1 k (by omega)])
      generalize hgp : hkSet (hkFil (hkCpy (hkSet g1 66 29 0) 72 0 83 0 280) 83 (280 * 1) (280 * 1 + 280) 0) 83 (280 * 1 + 35 * 0 + l) 1 = gp at hbp
      have kp : ∀ q : Int, q ≠ 66 → q ≠ 83 → gp q = g1 q := fun q h1 h2 => by rw [← hgp, hkSet_row h2, hkFil_row h2, hkCpy_row h2, hkSet_row h1]
      have kp66 : ∀ k : Int, k ≠ 29 → gp 66 k = g1 66 k := fun k hk => by rw [← hgp, hkSet_row (by decide), hkFil_row (by decide), f1 k hk]
      have kp29 : gp 66 29 = 0 := by rw [← hgp, hkSet_row (by decide), hkFil_row (by decide), hkCpy_row (by decide), hkSet_rd, if_pos ⟨rfl, rfl⟩]
      have pA : ∀ p : Int, 0 ≤ p → p < 280 → gp 83 (280 * 0 + p) = g 72 p := fun p p0 p1 => by
        rw [← hgp, hkSet_rd, if_neg (by omega), hkFil_rd, if_neg (by omega), hkCpy_rd, if_pos ⟨rfl, by omega, by omega⟩, hkSet_row (by decide), k1 72 (by decide)]
        congr 1; omega
      have pB : ∀ p : Int, 0 ≤ p → p < 280 → gp 83 (280 * 1 + p) = unV l 1 p := fun p p0 p1 => by
        rw [← hgp, hkSet_rd]
        unfold unV
        by_cases e : p = l
        · rw [if_pos ⟨rfl, by omega⟩, if_pos e]
        · rw [if_neg (by omega), if_neg e, hkFil_in (by omega) (by omega)]
      have qp : qKeep g1 gp := ⟨fun q hq => kp q (by unfold scr at hq; omega) (by unfold scr at hq; omega), fun k hk => kp66 k (by unfold fld at hk; omega), by rw [kp 24 (by decide) (by decide)], by rw [kp 24 (by decide) (by decide)]⟩
      have e0 : (False ∨ ¬ fitsP R N (g 72) (unV l 1)) = ¬ fitsP R N (g 72) (unV l 1) := propext ⟨fun h => h.elim False.elim id, Or.inr⟩
      have K : Xp 142 (d + 13) 51 [(2, 66), (0, l), (0, 280)] [] t gp Q := by
        simp only [x_142_51, x_142_52, x_142_53, x_142_54, hkJK_66, hkJK_72, hkJK_83, jA_66_27, jA_66_8, jL_72, jL_83, jR_66_27, jR_66_8, hkP1_0, hkP1_2, hkP1_u, hkC8, List.map_cons, List.map_nil, List.sum_cons, List.sum_nil, hkCat_0, hkCat_1, hkCat_2, Nat.reduceAdd, Nat.reduceLeDiff, hkPush_s, hkPush_n, true_and, and_true, implies_true, true_implies, not_true_eq_false, not_false_eq_true, false_implies, hkTf_0, hkTf_n1, hkOr01, hkOr11, Int.reduceEq, Int.reduceLT, Int.reduceLE, hk102a, hk102b, hk102c, Nat.reduceEqDiff, or_true, true_or, or_false, false_or, and_false, false_and, Classical.not_not, true_implies, List.set_cons_zero, List.set_cons_succ, ne_eq]
        refine sx_mmultiplies (d := d) ht hbp (to := 0) (ot := 1) (A := g 72) (B := unV l 1) (P := False) (by decide) (by decide) (by decide) (by decide) gA gB pA pB (by rw [kp29, hkTf_f (fun h => h)]) (fun g2 m1 hb2 m2 m3 m4 => ?_)
        rw [e0] at m2 m3 m4
        simp only [x_142_57, x_142_58, x_142_61, hkJK_66, hkJK_72, hkJK_83, jA_66_27, jA_66_8, jL_72, jL_83, jR_66_27, jR_66_8, hkP1_0, hkP1_2, hkP1_u, hkC8, List.map_cons, List.map_nil, List.sum_cons, List.sum_nil, hkCat_0, hkCat_1, hkCat_2, Nat.reduceAdd, Nat.reduceLeDiff, hkPush_s, hkPush_n, true_and, and_true, implies_true, true_implies, not_true_eq_false, not_false_eq_true, false_implies, hkTf_0, hkTf_n1, hkOr01, hkOr11, Int.reduceEq, Int.reduceLT, Int.reduceLE, hk102a, hk102b, hk102c, Nat.reduceEqDiff, or_true, true_or, or_false, false_or, and_false, false_and, Classical.not_not, true_implies, List.set_cons_zero, List.set_cons_succ, ne_eq]
        refine sx_mends (d := d + 11) ht m2 (fun h => ?_) (fun h => ?_)
        · simp only [x_142_61, hkJK_66, hkJK_72, hkJK_83, jA_66_27, jA_66_8, jL_72, jL_83, jR_66_27, jR_66_8, hkP1_0, hkP1_2, hkP1_u, hkC8, List.map_cons, List.map_nil, List.sum_cons, List.sum_nil, hkCat_0, hkCat_1, hkCat_2, Nat.reduceAdd, Nat.reduceLeDiff, hkPush_s, hkPush_n, true_and, and_true, implies_true, true_implies, not_true_eq_false, not_false_eq_true, false_implies, hkTf_0, hkTf_n1, hkOr01, hkOr11, Int.reduceEq, Int.reduceLT, Int.reduceLE, hk102a, hk102b, hk102c, Nat.reduceEqDiff, or_true, true_or, or_false, false_or, and_false, false_and, Classical.not_not, true_implies, List.set_cons_zero, List.set_cons_succ, ne_eq]
          exact q1 h g2 (qKeep_t qp (hdKeep_q m1)) hb2
        · simp only [x_142_61, hkJK_66, hkJK_72, hkJK_83, jA_66_27, jA_66_8, jL_72, jL_83, jR_66_27, jR_66_8, hkP1_0, hkP1_2, hkP1_u, hkC8, List.map_cons, List.map_nil, List.sum_cons, List.sum_nil, hkCat_0, hkCat_1, hkCat_2, Nat.reduceAdd, Nat.reduceLeDiff, hkPush_s, hkPush_n, true_and, and_true, implies_true, true_implies, not_true_eq_false, not_false_eq_true, false_implies, hkTf_0, hkTf_n1, hkOr01, hkOr11, Int.reduceEq, Int.reduceLT, Int.reduceLE, hk102a, hk102b, hk102c, Nat.reduceEqDiff, or_true, true_or, or_false, false_or, and_false, false_and, Classical.not_not, true_implies, List.set_cons_zero, List.set_cons_succ, ne_eq]
          have hf : fitsP R N (g 72) (unV l 1) := Classical.byContradiction h
          have qm := qKeep_t qp (hdKeep_q m1)
          have m4' := m4 h
          refine q2 hf (hkCpy g2 83 0 72 0 280) (fun q u1 u2 => by rw [hkCpy_row u2, qm.1 q u1]) (fun k hk => by rw [hkCpy_row (by decide), qm.2.1 k hk]) (by rw [hkCpy_row (by decide), qm.2.2.1]) (by rw [hkCpy_row (by decide), qm.2.2.2]) (RB_c hb2 (fun q hq => hkCpy_row (by omega))) (fun p p0 p1 => ?_)
          rw [hkCpy_rd, if_pos ⟨rfl, p0, by omega⟩, ← m4' p p0 p1]
          congr 1; omega
      have K1 : Xp 142 (d + 13) 43 [(2, 66), (0, l), (0, 280)] [] t (hkCpy (hkSet g1 66 29 0) 72 0 83 0 280) Q := by
        simp only [x_142_43, x_142_44, x_142_45, x_142_46, x_142_47, x_142_48, hkJK_66, hkJK_72, hkJK_83, jA_66_27, jA_66_8, jL_72, jL_83, jR_66_27, jR_66_8, hkP1_0, hkP1_2, hkP1_u, hkC8, List.map_cons, List.map_nil, List.sum_cons, List.sum_nil, hkCat_0, hkCat_1, hkCat_2, Nat.reduceAdd, Nat.reduceLeDiff, hkPush_s, hkPush_n, true_and, and_true, implies_true, true_implies, not_true_eq_false, not_false_eq_true, false_implies, hkTf_0, hkTf_n1, hkOr01, hkOr11, Int.reduceEq, Int.reduceLT, Int.reduceLE, hk102a, hk102b, hk102c, Nat.reduceEqDiff, or_true, true_or, or_false, false_or, and_false, false_and, Classical.not_not, true_implies, List.set_cons_zero, List.set_cons_succ, ne_eq, sx_mbecomes ht (show (0 : Int) ≤ 1 by decide) (show (1 : Int) ≤ 15 by decide) (show (0 : Int) ≤ 0 by decide) (show (0 : Int) ≤ 1 by decide) l0 (show l < 35 by omega), hgp]
        repeat' (first | exact K | refine And.intro ?_ ?_ | intro _ | trivial | omega | (exfalso; omega))
      have K2 := l_mmy (d := d + 13) (t := t) (Q := Q) (l := l) ht 280 0 (hkSet g1 66 29 0) (by decide) (by decide) K1
      simp only [x_142_0, x_142_1, x_142_2, x_142_5, x_142_8, x_142_10, x_142_11, x_142_12, x_142_13, x_142_16, x_142_17, hkJK_66, hkJK_72, hkJK_83, jA_66_27, jA_66_8, jL_72, jL_83, jR_66_27, jR_66_8, hkP1_0, hkP1_2, hkP1_u, hkC8, List.map_cons, List.map_nil, List.sum_cons, List.sum_nil, hkCat_0, hkCat_1, hkCat_2, Nat.reduceAdd, Nat.reduceLeDiff, hkPush_s, hkPush_n, true_and, and_true, implies_true, true_implies, not_true_eq_false, not_false_eq_true, false_implies, hkTf_0, hkTf_n1, hkOr01, hkOr11, Int.reduceEq, Int.reduceLT, Int.reduceLE, hk102a, hk102b, hk102c, Nat.reduceEqDiff, or_true, true_or, or_false, false_or, and_false, false_and, Classical.not_not, true_implies, List.set_cons_zero, List.set_cons_succ, ne_eq, sx_mIsShape ht hb1.2.2.2.2.1]
      repeat' (first | exact K2 | refine And.intro ?_ ?_ | intro _ | trivial | omega | (exfalso; omega))
    have C : ∀ Q : Option hkV → Nat → hkG → Prop, (fitsP R N (g 72) (unV l 1) → ∀ g' : hkG, mlK2 52 gc g' → RB g' R N → (∀ p : Int, 0 ≤ p → p < 280 → g' 52 p = mprod R N (g 72) (unV l 1) p) → Q (some (0, cnS (g' 52) 280)) t g') → (¬ fitsP R N (g 72) (unV l 1) → ∀ g' : hkG, mlKeep gc g' → RB g' R N → Q (some (0, -3)) t g') → Xp 17 (d + 13) 0 [(2, 0), (0, l)] [] t g Q := by
      intro Q q1 q2
      have K : Xp 17 (d + 13) 31 [(2, 0), (0, l)] [] t gc Q := by
        simp only [x_17_31, x_17_32, x_17_35, x_17_36, x_17_39, x_17_40, x_17_43, hkJK_0, hkJK_1, hkJK_22, hkJK_51, hkJK_53, jA_0_0, jA_0_4, jA_0_7, jA_0_8, jR_0_0, jR_0_4, jR_0_7, jR_0_8, hkP1_0, hkP1_2, hkP1_u, hkC8, List.map_cons, List.map_nil, List.sum_cons, List.sum_nil, hkCat_0, hkCat_1, hkCat_2, Nat.reduceAdd, Nat.reduceLeDiff, hkPush_s, hkPush_n, true_and, and_true, implies_true, true_implies, not_true_eq_false, not_false_eq_true, false_implies, hkTf_0, hkTf_n1, hkOr01, hkOr11, Int.reduceEq, Int.reduceLT, Int.reduceLE, hk102a, hk102b, hk102c, Nat.reduceEqDiff, or_true, true_or, or_false, false_or, and_false, false_and, Classical.not_not, true_implies, List.set_cons_zero, List.set_cons_succ, ne_eq, hkLe_t ht]
        refine sx_multiplied (d := d + 3) ht hbc sm_51 sm_53 (by decide) (by decide) (by decide) gA' gB' (fun h g' k' hb' v' => ?_) (fun h g' k' hb' => ?_)
        · have hq := q1 (hfc.1 h) g' k' hb' (fun p p0 p1 => by rw [v' p p0 p1, hpc])
          simp only [x_17_46, x_17_49, x_17_50, x_17_53, x_17_56, x_17_59, x_17_61, hkJK_0, hkJK_1, hkJK_22, hkJK_51, hkJK_53, jA_0_0, jA_0_4, jA_0_7, jA_0_8, jR_0_0, jR_0_4, jR_0_7, jR_0_8, hkP1_0, hkP1_2, hkP1_u, hkC8, List.map_cons, List.map_nil, List.sum_cons, List.sum_nil, hkCat_0, hkCat_1, hkCat_2, Nat.reduceAdd, Nat.reduceLeDiff, hkPush_s, hkPush_n, true_and, and_true, implies_true, true_implies, not_true_eq_false, not_false_eq_true, false_implies, hkTf_0, hkTf_n1, hkOr01, hkOr11, Int.reduceEq, Int.reduceLT, Int.reduceLE, hk102a, hk102b, hk102c, Nat.reduceEqDiff, or_true, true_or, or_false, false_or, and_false, false_and, Classical.not_not, true_implies, List.set_cons_zero, List.set_cons_succ, ne_eq, hkLe_t ht, sx_filled51 ht]
          repeat' (first | exact hq | refine And.intro ?_ ?_ | intro _ | trivial | omega | (exfalso; omega))
        · have hq := q2 (fun h2 => h (hfc.2 h2)) g' k' hb'
          simp only [x_17_46, x_17_49, x_17_50, x_17_53, x_17_56, x_17_59, x_17_61, hkJK_0, hkJK_1, hkJK_22, hkJK_51, hkJK_53, jA_0_0, jA_0_4, jA_0_7, jA_0_8, jR_0_0, jR_0_4, jR_0_7, jR_0_8, hkP1_0, hkP1_2, hkP1_u, hkC8, List.map_cons, List.map_nil, List.sum_cons, List.sum_nil, hkCat_0, hkCat_1, hkCat_2, Nat.reduceAdd, Nat.reduceLeDiff, hkPush_s, hkPush_n, true_and, and_true, implies_true, true_implies, not_true_eq_false, not_false_eq_true, false_implies, hkTf_0, hkTf_n1, hkOr01, hkOr11, Int.reduceEq, Int.reduceLT, Int.reduceLE, hk102a, hk102b, hk102c, Nat.reduceEqDiff, or_true, true_or, or_false, false_or, and_false, false_and, Classical.not_not, true_implies, List.set_cons_zero, List.set_cons_succ, ne_eq, hkLe_t ht]
          repeat' (first | exact hq | refine And.intro ?_ ?_ | intro _ | trivial | omega | (exfalso; omega))
      simp only [x_17_0, x_17_1, x_17_4, x_17_5, x_17_8, x_17_11, x_17_13, x_17_14, x_17_15, x_17_18, x_17_21, x_17_22, x_17_25, x_17_28, x_17_29, x_17_30, hkJK_0, hkJK_1, hkJK_22, hkJK_51, hkJK_53, jA_0_0, jA_0_4, jA_0_7, jA_0_8, jR_0_0, jR_0_4, jR_0_7, jR_0_8, hkP1_0, hkP1_2, hkP1_u, hkC8, List.map_cons, List.map_nil, List.sum_cons, List.sum_nil, hkCat_0, hkCat_1, hkCat_2, Nat.reduceAdd, Nat.reduceLeDiff, hkPush_s, hkPush_n, true_and, and_true, implies_true, true_implies, not_true_eq_false, not_false_eq_true, false_implies, hkTf_0, hkTf_n1, hkOr01, hkOr11, Int.reduceEq, Int.reduceLT, Int.reduceLE, hk102a, hk102b, hk102c, Nat.reduceEqDiff, or_true, true_or, or_false, false_or, and_false, false_and, Classical.not_not, true_implies, List.set_cons_zero, List.set_cons_succ, ne_eq, jA_51_0, jR_51_0, hkJK_51, jL_52, hkJK_52, jA_53_0, jR_53_0, hkJK_53, jL_54, hkJK_54, jA_55_0, jR_55_0, hkJK_55, jL_56, hkJK_56, hkLe_t ht, sx_isShape ht hb.1, sx_sclr ht sm_53, hgc]
      repeat' (first | exact K | refine And.intro ?_ ?_ | intro _ | trivial | omega | (exfalso; omega))
    refine C _ (fun hf g1 k1 hb1 v1 => ⟨_, rfl, rfl, ?_⟩) (fun hf g1 k1 hb1 => ⟨_, rfl, rfl, ?_⟩)
    · have k01 : ∀ q : Int, q ≠ 14 → q ≠ 15 → q ≠ 23 → q ≠ 52 → q ≠ 54 → g1 q = g q := fun q u1 u2 u3 u4 u5 => by rw [k1 q u1 u2 u3 u4, kc q u5]
      refine MR g1 _ (fun q hq => k01 q (by omega) (by omega) (by omega) (by omega) (by omega)) hb1 (fun h => absurd hf h) (fun _ g2 k2 k66 k240 k241 hb2 v2 => ⟨?_, rfl, ?_⟩)
      · have e52 : g2 52 = g1 52 := k2 52 (by unfold scr; omega) (by decide)
        rw [cnS_cong 280 (fun p p0 p1 => by rw [v2 p p0 (by omega), ← v1 p p0 (by omega)])]
      · refine Rel_m hb2 (fun q u1 u2 u3 => by rw [k2 q u1 u3, k01 q (by unfold scr at u1; omega) (by unfold scr at u1; omega) (by unfold scr at u1; omega) u2 (by unfold scr at u1; omega)]) (fun k hk => by rw [k66 k hk, k01 66 (by decide) (by decide) (by decide) (by decide) (by decide)]) (by rw [k240, k01 24 (by decide) (by decide) (by decide) (by decide) (by decide)]) (by rw [k241, k01 24 (by decide) (by decide) (by decide) (by decide) (by decide)]) (fun p p0 p1 => ?_) hr
        have hg := fits_gvec hf p p0 p1
        rw [k2 52 (by unfold scr; omega) (by decide), v1 p p0 p1, v2 p p0 p1, k66 2 (by unfold fld; omega), k01 66 (by decide) (by decide) (by decide) (by decide) (by decide), y3]
        exact ⟨rfl, hg⟩
    · have q01 : qKeep g g1 := qKeep_t qc (mlKeep_q k1)
      refine MR g1 _ (fun q hq => by rw [k1 q (by omega) (by omega) (by omega), kc q (by omega)]) hb1 (fun _ g2 k2 hb2 => ⟨rfl, rfl, Rel_q hb2 (qKeep_t q01 k2) hr⟩) (fun h => absurd h hf)
  · refine tie_still (v := (0, -2)) hR (fun Q hq => ?_) (fun Q hq => ?_)
    · simp only [x_17_0, x_17_1, x_17_4, x_17_5, x_17_8, x_17_11, x_17_13, hkJK_0, hkJK_1, hkJK_22, hkJK_51, hkJK_53, jA_0_0, jA_0_4, jA_0_7, jA_0_8, jR_0_0, jR_0_4, jR_0_7, jR_0_8, hkP1_0, hkP1_2, hkP1_u, hkC8, List.map_cons, List.map_nil, List.sum_cons, List.sum_nil, hkCat_0, hkCat_1, hkCat_2, Nat.reduceAdd, Nat.reduceLeDiff, hkPush_s, hkPush_n, true_and, and_true, implies_true, true_implies, not_true_eq_false, not_false_eq_true, false_implies, hkTf_0, hkTf_n1, hkOr01, hkOr11, Int.reduceEq, Int.reduceLT, Int.reduceLE, hk102a, hk102b, hk102c, Nat.reduceEqDiff, or_true, true_or, or_false, false_or, and_false, false_and, Classical.not_not, true_implies, List.set_cons_zero, List.set_cons_succ, ne_eq, hkLe_t ht, sx_isShape ht hb.1]
      repeat' (first | exact hq | refine And.intro ?_ ?_ | intro _ | trivial | omega | (exfalso; omega))
    · simp only [x_142_0, x_142_1, x_142_2, x_142_5, x_142_8, x_142_10, hkJK_66, hkJK_72, hkJK_83, jA_66_27, jA_66_8, jL_72, jL_83, jR_66_27, jR_66_8, hkP1_0, hkP1_2, hkP1_u, hkC8, List.map_cons, List.map_nil, List.sum_cons, List.sum_nil, hkCat_0, hkCat_1, hkCat_2, Nat.reduceAdd, Nat.reduceLeDiff, hkPush_s, hkPush_n, true_and, and_true, implies_true, true_implies, not_true_eq_false, not_false_eq_true, false_implies, hkTf_0, hkTf_n1, hkOr01, hkOr11, Int.reduceEq, Int.reduceLT, Int.reduceLE, hk102a, hk102b, hk102c, Nat.reduceEqDiff, or_true, true_or, or_false, false_or, and_false, false_and, Classical.not_not, true_implies, List.set_cons_zero, List.set_cons_succ, ne_eq, sx_mIsShape ht hb.2.2.2.2.1]
      repeat' (first | exact hq | refine And.intro ?_ ?_ | intro _ | trivial | omega | (exfalso; omega))
end SP
