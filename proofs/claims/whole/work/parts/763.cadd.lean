/-! the class adds sums -/
theorem hkAnd_t1 {p : Prop} : hkAnd (hkTf p) 1 = hkTf p := by
  by_cases h : p
  · rw [hkTf_t h]; decide
  · rw [hkTf_f h]; decide
theorem hkAnd_t0 {p : Prop} : hkAnd (hkTf p) 0 = 0 := by
  by_cases h : p
  · rw [hkTf_t h]; decide
  · rw [hkTf_f h]; decide
section SP
variable {t d : Nat} {Q : Option hkV → Nat → hkG → Prop}
theorem sx_absI {g : hkG} {a : Int} : Xp 178 d 0 [(0, a)] [] t g Q = Q (some (0, if a < 0 then hkW (-a) else a)) t g := Xp_ev s_abs (Nat.zero_le _)
theorem l_added {g : hkG} (ht : 190 ≤ t) {pl ql pr qr sg : Int} (hl : smOk pl ql) (hr : smOk pr qr) (hne : ql ≠ qr) (hsg : sg = 1 ∨ sg = -1) (hA : ∀ p : Int, 0 ≤ p → p < 280 → rngS (g ql p)) (hB : ∀ p : Int, 0 ≤ p → p < 280 → rngS (g qr p)) : ∀ (m : Nat) (p : Int) (P : Prop) (g1 : hkG), p + m = 280 → 0 ≤ p → (∀ q : Int, q ≠ ql → g1 q = g q) → (∀ x : Int, 0 ≤ x → x < p → g1 ql x = g ql x + sg * g qr x) → (∀ x : Int, p ≤ x → g1 ql x = g ql x) → (∀ g' : hkG, (∀ q : Int, q ≠ ql → g' q = g q) → (∀ x : Int, 0 ≤ x → x < 280 → g' ql x = g ql x + sg * g qr x) → Q (some (0, hkTf (P ∧ ∀ x : Int, p ≤ x → x < 280 → rngS (g ql x + sg * g qr x)))) t g') →
    Xp 91 (d + 1) 5 [(2, pl), (2, pr), (0, sg), (0, hkTf P), (0, p)] [] t g1 Q := by
  obtain ⟨l1, l2, l3, l4, l5⟩ := hl
  obtain ⟨r1, r2, r3, r4, r5⟩ := hr
  have lt : jA pl 0 ≤ t := Nat.le_trans l1 ht
  have rt : jA pr 0 ≤ t := Nat.le_trans r1 ht
  intro m
  induction m with
  | zero =>
    intro p P g1 hp p0 k1 k2 k3 hQ
    have e : p = 280 := by omega
    subst e
    have e2 : (P ∧ ∀ x : Int, 280 ≤ x → x < 280 → rngS (g ql x + sg * g qr x)) = P := propext ⟨fun h => h.1, fun h => ⟨h, fun x x0 x1 => by omega⟩⟩
    rw [e2] at hQ
    have hq := hQ g1 k1 k2
    rw [x_91_5]
    simp only [x_91_7, x_91_10, hkP1_0, hkP1_2, hkP1_u, hkC8, List.map_cons, List.map_nil, List.sum_cons, List.sum_nil, hkCat_0, hkCat_1, hkCat_2, Nat.reduceAdd, Nat.reduceLeDiff, hkPush_s, hkPush_n, true_and, and_true, implies_true, true_implies, not_true_eq_false, not_false_eq_true, false_implies, hkTf_0, hkTf_n1, hkOr01, hkOr11, Int.reduceEq, Int.reduceLT, Int.reduceLE, hk102a, hk102b, hk102c, Nat.reduceEqDiff, or_true, true_or, or_false, false_or, and_false, false_and, Classical.not_not, true_implies, List.set_cons_zero, List.set_cons_succ, ne_eq, x_91_61, x_91_62, hkP1_0, hkP1_2, hkP1_u, hkC8, List.map_cons, List.map_nil, List.sum_cons, List.sum_nil, hkCat_0, hkCat_1, hkCat_2, Nat.reduceAdd, Nat.reduceLeDiff, hkPush_s, hkPush_n, true_and, and_true, implies_true, true_implies, not_true_eq_false, not_false_eq_true, false_implies, hkTf_0, hkTf_n1, hkOr01, hkOr11, Int.reduceEq, Int.reduceLT, Int.reduceLE, hk102a, hk102b, hk102c, Nat.reduceEqDiff, or_true, true_or, or_false, false_or, and_false, false_and, Classical.not_not, true_implies, List.set_cons_zero, List.set_cons_succ, ne_eq]
    repeat' (first | exact hq | refine And.intro ?_ ?_ | intro _ | trivial | omega | (exfalso; omega))
  | succ m ih =>
    intro p P g1 hp p0 k1 k2 k3 hQ
    have rA := hA p p0 (by omega)
    have rB := hB p p0 (by omega)
    unfold rngS at rA rB
    have gA := k3 p (Int.le_refl _)
    have gB : g1 qr p = g qr p := by rw [k1 qr (Ne.symm hne)]
    have hbB : -1000000 ≤ sg * g qr p ∧ sg * g qr p ≤ 1000000 := by rcases hsg with e | e <;> subst e <;> omega
    have hv : hkSet g1 ql p (g ql p + sg * g qr p) ql p = g ql p + sg * g qr p := by rw [hkSet_rd, if_pos ⟨rfl, rfl⟩]
    have hab : (if g ql p + sg * g qr p < 0 then hkW (-(g ql p + sg * g qr p)) else g ql p + sg * g qr p) = (if g ql p + sg * g qr p < 0 then -(g ql p + sg * g qr p) else g ql p + sg * g qr p) := by
      by_cases h : g ql p + sg * g qr p < 0
      · rw [if_pos h, if_pos h]; exact hkW_in (by omega) (by omega)
      · rw [if_neg h, if_neg h]
    have e2 : (P ∧ ∀ x : Int, p ≤ x → x < 280 → rngS (g ql x + sg * g qr x)) = ((P ∧ rngS (g ql p + sg * g qr p)) ∧ ∀ x : Int, p + 1 ≤ x → x < 280 → rngS (g ql x + sg * g qr x)) := propext ⟨fun h => ⟨⟨h.1, h.2 p (Int.le_refl _) (by omega)⟩, fun x x0 x1 => h.2 x (by omega) x1⟩, fun h => ⟨h.1.1, fun x x0 x1 => by
      by_cases e : x = p
      · rw [e]; exact h.1.2
      · exact h.2 x (by omega) x1⟩⟩
    rw [e2] at hQ
    have IH := ih (p + 1) (P ∧ rngS (g ql p + sg * g qr p)) (hkSet g1 ql p (g ql p + sg * g qr p)) (by omega) (by omega) (fun q hq => by rw [hkSet_row hq, k1 q hq]) (fun x x0 x1 => by
      by_cases e : x = p
      · rw [e, hv]
      · rw [hkSet_rd, if_neg (fun h => e h.2)]; exact k2 x x0 (by omega)) (fun x hx => by rw [hkSet_rd, if_neg (fun h => by omega)]; exact k3 x (by omega)) hQ
    obtain ⟨hw, e3, e4⟩ : hkW (p + 1) = p + 1 ∧ hkW (sg * g qr p) = sg * g qr p ∧ hkW (g ql p + sg * g qr p) = g ql p + sg * g qr p := ⟨hkW_in (by omega) (by omega), hkW_in (by omega) (by omega), hkW_in (by omega) (by omega)⟩
    by_cases ok : rngS (g ql p + sg * g qr p)
    · have e5 : (P ∧ rngS (g ql p + sg * g qr p)) = P := propext ⟨fun h => h.1, fun h => ⟨h, ok⟩⟩
      rw [e5] at IH
      unfold rngS at ok
      have z : (if g ql p + sg * g qr p < 0 then -(g ql p + sg * g qr p) else g ql p + sg * g qr p) ≤ 1000000 := by
        by_cases h : g ql p + sg * g qr p < 0
        · rw [if_pos h]; clear hw e3 e4; omega
        · rw [if_neg h]; clear hw e3 e4; omega
      rw [x_91_5]
      simp only [x_91_7, x_91_10, x_91_13, x_91_14, x_91_17, x_91_19, x_91_20, x_91_21, x_91_22, x_91_23, x_91_26, x_91_28, x_91_29, x_91_30, x_91_31, x_91_32, x_91_33, x_91_34, x_91_37, x_91_39, x_91_40, x_91_43, x_91_45, x_91_48, x_91_49, x_91_52, x_91_53, x_91_54, x_91_55, x_91_58, hkP1_0, hkP1_2, hkP1_u, hkC8, List.map_cons, List.map_nil, List.sum_cons, List.sum_nil, hkCat_0, hkCat_1, hkCat_2, Nat.reduceAdd, Nat.reduceLeDiff, hkPush_s, hkPush_n, true_and, and_true, implies_true, true_implies, not_true_eq_false, not_false_eq_true, false_implies, hkTf_0, hkTf_n1, hkOr01, hkOr11, Int.reduceEq, Int.reduceLT, Int.reduceLE, hk102a, hk102b, hk102c, Nat.reduceEqDiff, or_true, true_or, or_false, false_or, and_false, false_and, Classical.not_not, true_implies, List.set_cons_zero, List.set_cons_succ, ne_eq, l2, lt, l3, l4, l5, r2, rt, r3, r4, r5, gA, gB, e3, e4, hv, sx_absI, hab, hkAnd_t0, hkAnd_t1, hw]
      clear hw e3 e4 hab
      repeat' (first | exact IH | refine And.intro ?_ ?_ | intro _ | trivial | omega | (exfalso; omega))
    · have e5 : hkTf (P ∧ rngS (g ql p + sg * g qr p)) = 0 := hkTf_f (fun h => ok h.2)
      rw [e5] at IH
      have z : ¬ (if g ql p + sg * g qr p < 0 then -(g ql p + sg * g qr p) else g ql p + sg * g qr p) ≤ 1000000 := by
        unfold rngS at ok
        by_cases h : g ql p + sg * g qr p < 0
        · rw [if_pos h]; clear hw e3 e4; omega
        · rw [if_neg h]; clear hw e3 e4; omega
      rw [x_91_5]
      simp only [x_91_7, x_91_10, x_91_13, x_91_14, x_91_17, x_91_19, x_91_20, x_91_21, x_91_22, x_91_23, x_91_26, x_91_28, x_91_29, x_91_30, x_91_31, x_91_32, x_91_33, x_91_34, x_91_37, x_91_39, x_91_40, x_91_43, x_91_45, x_91_48, x_91_49, x_91_52, x_91_53, x_91_54, x_91_55, x_91_58, hkP1_0, hkP1_2, hkP1_u, hkC8, List.map_cons, List.map_nil, List.sum_cons, List.sum_nil, hkCat_0, hkCat_1, hkCat_2, Nat.reduceAdd, Nat.reduceLeDiff, hkPush_s, hkPush_n, true_and, and_true, implies_true, true_implies, not_true_eq_false, not_false_eq_true, false_implies, hkTf_0, hkTf_n1, hkOr01, hkOr11, Int.reduceEq, Int.reduceLT, Int.reduceLE, hk102a, hk102b, hk102c, Nat.reduceEqDiff, or_true, true_or, or_false, false_or, and_false, false_and, Classical.not_not, true_implies, List.set_cons_zero, List.set_cons_succ, ne_eq, l2, lt, l3, l4, l5, r2, rt, r3, r4, r5, gA, gB, e3, e4, hv, sx_absI, hab, hkAnd_t0, hkAnd_t1, hw]
      clear hw e3 e4 hab
      repeat' (first | exact IH | refine And.intro ?_ ?_ | intro _ | trivial | omega | (exfalso; omega))
theorem sx_added {g : hkG} (ht : 190 ≤ t) {pl ql pr qr sg : Int} (hl : smOk pl ql) (hr : smOk pr qr) (hne : ql ≠ qr) (hsg : sg = 1 ∨ sg = -1) (hA : ∀ p : Int, 0 ≤ p → p < 280 → rngS (g ql p)) (hB : ∀ p : Int, 0 ≤ p → p < 280 → rngS (g qr p)) (hQ : ∀ g' : hkG, (∀ q : Int, q ≠ ql → g' q = g q) → (∀ x : Int, 0 ≤ x → x < 280 → g' ql x = g ql x + sg * g qr x) → Q (some (0, hkTf (addP (g ql) (g qr) sg))) t g') : Xp 91 (d + 1) 0 [(2, pl), (2, pr), (0, sg), hkU, hkU] [] t g Q := by
  have e : (True ∧ ∀ x : Int, 0 ≤ x → x < 280 → rngS (g ql x + sg * g qr x)) = addP (g ql) (g qr) sg := propext ⟨fun h => h.2, fun h => ⟨trivial, h⟩⟩
  have K := l_added (d := d) (Q := Q) ht hl hr hne hsg hA hB 280 0 True g (by decide) (by decide) (fun _ _ => rfl) (fun x x0 x1 => by omega) (fun _ _ => rfl) (fun g' k1 k2 => by rw [e]; exact hQ g' k1 k2)
  rw [hkTf_t trivial] at K
  simp only [x_91_0, x_91_1, x_91_2, x_91_3, hkP1_0, hkP1_2, hkP1_u, hkC8, List.map_cons, List.map_nil, List.sum_cons, List.sum_nil, hkCat_0, hkCat_1, hkCat_2, Nat.reduceAdd, Nat.reduceLeDiff, hkPush_s, hkPush_n, true_and, and_true, implies_true, true_implies, not_true_eq_false, not_false_eq_true, false_implies, hkTf_0, hkTf_n1, hkOr01, hkOr11, Int.reduceEq, Int.reduceLT, Int.reduceLE, hk102a, hk102b, hk102c, Nat.reduceEqDiff, or_true, true_or, or_false, false_or, and_false, false_and, Classical.not_not, true_implies, List.set_cons_zero, List.set_cons_succ, ne_eq]
  repeat' (first | exact K | refine And.intro ?_ ?_ | intro _ | trivial | omega | (exfalso; omega))
end SP
