/-! the reference's sums in hand: lays, becomes, adds, multiplies -/
theorem hkOr_t1 {p : Prop} : hkOr (hkTf p) 1 = 1 := by
  by_cases h : p
  · rw [hkTf_t h]; decide
  · rw [hkTf_f h]; decide
theorem hkOr_t0 {p : Prop} : hkOr (hkTf p) 0 = hkTf p := by
  by_cases h : p
  · rw [hkTf_t h]; decide
  · rw [hkTf_f h]; decide
def lyG (T : Int → Int) (x : Int) : Prop := (x < 280 → rngS (T x)) ∧ (280 ≤ x → T x = 0)
def lyK (T : Int → Int) (k : Int) : Prop := ∀ x : Int, 0 ≤ x → x < k → lyG T x
theorem lyK_s {T : Int → Int} {k : Int} (h0 : 0 ≤ k) : lyK T (k + 1) ↔ lyK T k ∧ lyG T k := by
  constructor
  · intro h; exact ⟨fun x x0 x1 => h x x0 (by omega), h k h0 (by omega)⟩
  · intro h x x0 x1
    by_cases e : x = k
    · rw [e]; exact h.2
    · exact h.1 x x0 (by omega)
section SP
variable {t d : Nat} {R N : Int} {Q : Option hkV → Nat → hkG → Prop}
theorem l_lays1 {g : hkG} (ht : 190 ≤ t) {to : Int} {P : Prop} {T : Int → Int} (hT : ∀ p : Int, 0 ≤ p → p < 840 → g 84 p = T p) : ∀ (m : Nat) (k : Int) (g1 : hkG), k + m = 840 → 0 ≤ k → (∀ q : Int, q ≠ 66 → g1 q = g q) → (∀ k : Int, k ≠ 29 → g1 66 k = g 66 k) → g1 66 29 = hkTf (P ∨ ¬ lyK T k) → (∀ g' : hkG, (∀ q : Int, q ≠ 66 → g' q = g q) → (∀ k : Int, k ≠ 29 → g' 66 k = g 66 k) → g' 66 29 = hkTf (P ∨ ¬ lyK T 840) → Xp 145 (d + 1) 75 [(2, 66), (0, to), (0, 840)] [] t g' Q) → Xp 145 (d + 1) 2 [(2, 66), (0, to), (0, k)] [] t g1 Q := by
  intro m
  induction m with
  | zero =>
    intro k g1 hk k0 k1 k2 h29 hQ
    have e : k = 840 := by omega
    subst e
    have hq := hQ g1 k1 k2 h29
    rw [x_145_2]
    simp only [x_145_3, x_145_4, x_145_7, x_145_8, hkJK_66, hkJK_83, hkJK_84, jA_66_27, jA_66_28, jL_83, jL_84, jR_66_27, jR_66_28, hkP1_0, hkP1_2, hkP1_u, hkC8, List.map_cons, List.map_nil, List.sum_cons, List.sum_nil, hkCat_0, hkCat_1, hkCat_2, Nat.reduceAdd, Nat.reduceLeDiff, hkPush_s, hkPush_n, true_and, and_true, implies_true, true_implies, not_true_eq_false, not_false_eq_true, false_implies, hkTf_0, hkTf_n1, hkOr01, hkOr11, Int.reduceEq, Int.reduceLT, Int.reduceLE, hk102a, hk102b, hk102c, Nat.reduceEqDiff, or_true, true_or, or_false, false_or, and_false, false_and, Classical.not_not, true_implies, List.set_cons_zero, List.set_cons_succ, ne_eq, hkLe_t ht]
    repeat' (first | exact hq | refine And.intro ?_ ?_ | intro _ | trivial | omega | (exfalso; omega))
  | succ m ih =>
    intro k g1 hk k0 k1 k2 h29 hQ
    have h84 : g1 84 k = T k := by rw [k1 84 (by decide)]; exact hT k k0 (by omega)
    have hs84 : ∀ v : Int, hkSet g1 66 29 v 84 = g1 84 := fun v => hkSet_row (by decide)
    have hw : hkW (k + 1) = k + 1 := hkW_in (by omega) (by omega)
    by_cases hG : lyG T k
    · have e1 : (P ∨ ¬ lyK T (k + 1)) = (P ∨ ¬ lyK T k) := propext (by rw [lyK_s k0]; constructor; (intro h; exact h.imp id (fun h1 h2 => h1 ⟨h2, hG⟩)); (intro h; exact h.imp id (fun h1 h2 => h1 h2.1)))
      have IH := ih (k + 1) (hkSet g1 66 29 (hkTf (P ∨ ¬ lyK T k))) (by clear hw; omega) (by clear hw; omega) (fun q hq => by rw [hkSet_row hq, k1 q hq]) (fun j hj => by rw [hkSet_rd, if_neg (fun h => hj h.2), k2 j hj]) (by rw [hkSet_rd, if_pos ⟨rfl, rfl⟩, e1]) hQ
      by_cases h280 : k < 280
      · have hr := hG.1 h280
        unfold rngS at hr
        rw [x_145_2]
        simp only [x_145_3, x_145_4, x_145_7, x_145_8, x_145_11, x_145_12, x_145_13, x_145_16, x_145_17, x_145_20, x_145_23, x_145_24, x_145_27, x_145_28, x_145_29, x_145_32, x_145_35, x_145_38, x_145_41, x_145_42, x_145_45, x_145_46, x_145_49, x_145_50, x_145_53, x_145_54, x_145_55, x_145_56, x_145_57, x_145_60, x_145_61, x_145_64, x_145_65, x_145_66, x_145_69, x_145_72, hkJK_66, hkJK_83, hkJK_84, jA_66_27, jA_66_28, jL_83, jL_84, jR_66_27, jR_66_28, hkP1_0, hkP1_2, hkP1_u, hkC8, List.map_cons, List.map_nil, List.sum_cons, List.sum_nil, hkCat_0, hkCat_1, hkCat_2, Nat.reduceAdd, Nat.reduceLeDiff, hkPush_s, hkPush_n, true_and, and_true, implies_true, true_implies, not_true_eq_false, not_false_eq_true, false_implies, hkTf_0, hkTf_n1, hkOr01, hkOr11, Int.reduceEq, Int.reduceLT, Int.reduceLE, hk102a, hk102b, hk102c, Nat.reduceEqDiff, or_true, true_or, or_false, false_or, and_false, false_and, Classical.not_not, true_implies, List.set_cons_zero, List.set_cons_succ, ne_eq, hkLe_t ht, h29, h84, sx_mIsIn, hkOr_t0, hkOr_t1, hw]
        clear hw
        repeat' (first | exact IH | refine And.intro ?_ ?_ | intro _ | trivial | omega | (exfalso; omega))
      · have hz := hG.2 (by clear hw; omega)
        rw [x_145_2]
        simp only [x_145_3, x_145_4, x_145_7, x_145_8, x_145_11, x_145_12, x_145_13, x_145_16, x_145_17, x_145_20, x_145_23, x_145_24, x_145_27, x_145_28, x_145_29, x_145_32, x_145_35, x_145_38, x_145_41, x_145_42, x_145_45, x_145_46, x_145_49, x_145_50, x_145_53, x_145_54, x_145_55, x_145_56, x_145_57, x_145_60, x_145_61, x_145_64, x_145_65, x_145_66, x_145_69, x_145_72, hkJK_66, hkJK_83, hkJK_84, jA_66_27, jA_66_28, jL_83, jL_84, jR_66_27, jR_66_28, hkP1_0, hkP1_2, hkP1_u, hkC8, List.map_cons, List.map_nil, List.sum_cons, List.sum_nil, hkCat_0, hkCat_1, hkCat_2, Nat.reduceAdd, Nat.reduceLeDiff, hkPush_s, hkPush_n, true_and, and_true, implies_true, true_implies, not_true_eq_false, not_false_eq_true, false_implies, hkTf_0, hkTf_n1, hkOr01, hkOr11, Int.reduceEq, Int.reduceLT, Int.reduceLE, hk102a, hk102b, hk102c, Nat.reduceEqDiff, or_true, true_or, or_false, false_or, and_false, false_and, Classical.not_not, true_implies, List.set_cons_zero, List.set_cons_succ, ne_eq, hkLe_t ht, h29, h84, hz, hkCmp_z, hkOr_t0, hkOr_t1, hw]
        clear hw
        repeat' (first | exact IH | refine And.intro ?_ ?_ | intro _ | trivial | omega | (exfalso; omega))
    · have e1 : P ∨ ¬ lyK T (k + 1) := Or.inr (fun h => hG ((lyK_s k0).1 h).2)
      have IH := ih (k + 1) (hkSet g1 66 29 1) (by clear hw; omega) (by clear hw; omega) (fun q hq => by rw [hkSet_row hq, k1 q hq]) (fun j hj => by rw [hkSet_rd, if_neg (fun h => hj h.2), k2 j hj]) (by rw [hkSet_rd, if_pos ⟨rfl, rfl⟩, hkTf_t e1]) hQ
      by_cases h280 : k < 280
      · have hr : ¬ (-1000000 ≤ T k ∧ T k ≤ 1000000) := fun h => hG ⟨fun _ => h, fun h2 => absurd h280 (by clear hw; omega)⟩
        rw [x_145_2]
        simp only [x_145_3, x_145_4, x_145_7, x_145_8, x_145_11, x_145_12, x_145_13, x_145_16, x_145_17, x_145_20, x_145_23, x_145_24, x_145_27, x_145_28, x_145_29, x_145_32, x_145_35, x_145_38, x_145_41, x_145_42, x_145_45, x_145_46, x_145_49, x_145_50, x_145_53, x_145_54, x_145_55, x_145_56, x_145_57, x_145_60, x_145_61, x_145_64, x_145_65, x_145_66, x_145_69, x_145_72, hkJK_66, hkJK_83, hkJK_84, jA_66_27, jA_66_28, jL_83, jL_84, jR_66_27, jR_66_28, hkP1_0, hkP1_2, hkP1_u, hkC8, List.map_cons, List.map_nil, List.sum_cons, List.sum_nil, hkCat_0, hkCat_1, hkCat_2, Nat.reduceAdd, Nat.reduceLeDiff, hkPush_s, hkPush_n, true_and, and_true, implies_true, true_implies, not_true_eq_false, not_false_eq_true, false_implies, hkTf_0, hkTf_n1, hkOr01, hkOr11, Int.reduceEq, Int.reduceLT, Int.reduceLE, hk102a, hk102b, hk102c, Nat.reduceEqDiff, or_true, true_or, or_false, false_or, and_false, false_and, Classical.not_not, true_implies, List.set_cons_zero, List.set_cons_succ, ne_eq, hkLe_t ht, h29, h84, sx_mIsIn, hkOr_t0, hkOr_t1, hw]
        clear hw
        repeat' (first | exact IH | refine And.intro ?_ ?_ | intro _ | trivial | omega | (exfalso; omega))
      · have hz : ¬ T k = 0 := fun h => hG ⟨fun h2 => absurd h2 h280, fun _ => h⟩
        rw [x_145_2]
        simp only [x_145_3, x_145_4, x_145_7, x_145_8, x_145_11, x_145_12, x_145_13, x_145_16, x_145_17, x_145_20, x_145_23, x_145_24, x_145_27, x_145_28, x_145_29, x_145_32, x_145_35, x_145_38, x_145_41, x_145_42, x_145_45, x_145_46, x_145_49, x_145_50, x_145_53, x_145_54, x_145_55, x_145_56, x_145_57, x_145_60, x_145_61, x_145_64, x_145_65, x_145_66, x_145_69, x_145_72, hkJK_66, hkJK_83, hkJK_84, jA_66_27, jA_66_28, jL_83, jL_84, jR_66_27, jR_66_28, hkP1_0, hkP1_2, hkP1_u, hkC8, List.map_cons, List.map_nil, List.sum_cons, List.sum_nil, hkCat_0, hkCat_1, hkCat_2, Nat.reduceAdd, Nat.reduceLeDiff, hkPush_s, hkPush_n, true_and, and_true, implies_true, true_implies, not_true_eq_false, not_false_eq_true, false_implies, hkTf_0, hkTf_n1, hkOr01, hkOr11, Int.reduceEq, Int.reduceLT, Int.reduceLE, hk102a, hk102b, hk102c, Nat.reduceEqDiff, or_true, true_or, or_false, false_or, and_false, false_and, Classical.not_not, true_implies, List.set_cons_zero, List.set_cons_succ, ne_eq, hkLe_t ht, h29, h84, hz, hkCmp_z, hkOr_t0, hkOr_t1, hw]
        clear hw
        repeat' (first | exact IH | refine And.intro ?_ ?_ | intro _ | trivial | omega | (exfalso; omega))
theorem l_lays2 {g : hkG} (ht : 190 ≤ t) {to : Int} {S : Prop} {T : Int → Int} (t0 : 0 ≤ to) (t15 : to ≤ 15) (h29 : g 66 29 = hkTf S) (hT : ∀ p : Int, 0 ≤ p → p < 280 → g 84 p = T p) (hr : ¬ S → ∀ p : Int, 0 ≤ p → p < 280 → rngS (T p)) : ∀ (m : Nat) (k : Int) (g1 : hkG), k + m = 280 → 0 ≤ k → (∀ q : Int, q ≠ 83 → g1 q = g q) → (∀ x : Int, x < 280 * to ∨ 280 * to + 280 ≤ x → g1 83 x = g 83 x) → (S → ∀ p : Int, 0 ≤ p → p < k → g1 83 (280 * to + p) = 0) → (¬ S → ∀ p : Int, 0 ≤ p → p < k → g1 83 (280 * to + p) = T p) → (∀ g' : hkG, (∀ q : Int, q ≠ 83 → g' q = g q) → (∀ x : Int, x < 280 * to ∨ 280 * to + 280 ≤ x → g' 83 x = g 83 x) → (S → ∀ p : Int, 0 ≤ p → p < 280 → g' 83 (280 * to + p) = 0) → (¬ S → ∀ p : Int, 0 ≤ p → p < 280 → g' 83 (280 * to + p) = T p) → Q none t g') → Xp 145 d 77 [(2, 66), (0, to), (0, k)] [] t g1 Q := by
  intro m
  induction m with
  | zero =>
    intro k g1 hk k0 k1 k2 k3 k4 hQ
    have e : k = 280 := by omega
    subst e
    have hq := hQ g1 k1 k2 k3 k4
    rw [x_145_77]
    simp only [x_145_78, x_145_81, hkJK_66, hkJK_83, hkJK_84, jA_66_27, jA_66_28, jL_83, jL_84, jR_66_27, jR_66_28, hkP1_0, hkP1_2, hkP1_u, hkC8, List.map_cons, List.map_nil, List.sum_cons, List.sum_nil, hkCat_0, hkCat_1, hkCat_2, Nat.reduceAdd, Nat.reduceLeDiff, hkPush_s, hkPush_n, true_and, and_true, implies_true, true_implies, not_true_eq_false, not_false_eq_true, false_implies, hkTf_0, hkTf_n1, hkOr01, hkOr11, Int.reduceEq, Int.reduceLT, Int.reduceLE, hk102a, hk102b, hk102c, Nat.reduceEqDiff, or_true, true_or, or_false, false_or, and_false, false_and, Classical.not_not, true_implies, List.set_cons_zero, List.set_cons_succ, ne_eq, x_145_120, hkJK_66, hkJK_83, hkJK_84, jA_66_27, jA_66_28, jL_83, jL_84, jR_66_27, jR_66_28, hkP1_0, hkP1_2, hkP1_u, hkC8, List.map_cons, List.map_nil, List.sum_cons, List.sum_nil, hkCat_0, hkCat_1, hkCat_2, Nat.reduceAdd, Nat.reduceLeDiff, hkPush_s, hkPush_n, true_and, and_true, implies_true, true_implies, not_true_eq_false, not_false_eq_true, false_implies, hkTf_0, hkTf_n1, hkOr01, hkOr11, Int.reduceEq, Int.reduceLT, Int.reduceLE, hk102a, hk102b, hk102c, Nat.reduceEqDiff, or_true, true_or, or_false, false_or, and_false, false_and, Classical.not_not, true_implies, List.set_cons_zero, List.set_cons_succ, ne_eq]
    repeat' (first | exact hq | refine And.intro ?_ ?_ | intro _ | trivial | omega | (exfalso; omega))
  | succ m ih =>
    intro k g1 hk k0 k1 k2 k3 k4 hQ
    have h29' : g1 66 29 = hkTf S := by rw [k1 66 (by decide)]; exact h29
    have hTk : g1 84 k = T k := by rw [k1 84 (by decide)]; exact hT k k0 (by omega)
    have IH := fun v (hv0 : S → v = 0) (hv1 : ¬ S → v = T k) => ih (k + 1) (hkSet g1 83 (280 * to + k) v) (by omega) (by omega) (fun q hq => by rw [hkSet_row hq, k1 q hq]) (fun x hx => by rw [hkSet_rd, if_neg (by omega), k2 x hx]) (fun h p p0 p1 => by
      by_cases e : p = k
      · rw [hkSet_rd, if_pos ⟨rfl, by omega⟩, hv0 h]
      · rw [hkSet_rd, if_neg (by omega)]; exact k3 h p p0 (by omega)) (fun h p p0 p1 => by
      by_cases e : p = k
      · rw [hkSet_rd, if_pos ⟨rfl, by omega⟩, hv1 h, e]
      · rw [hkSet_rd, if_neg (by omega)]; exact k4 h p p0 (by omega)) hQ
    by_cases hS : S
    · have K := IH 0 (fun _ => rfl) (fun h => absurd hS h)
      obtain ⟨hw, e1, e2⟩ : hkW (k + 1) = k + 1 ∧ hkW (280 * to) = 280 * to ∧ hkW (280 * to + k) = 280 * to + k := ⟨hkW_in (by omega) (by omega), hkW_in (by omega) (by omega), hkW_in (by omega) (by omega)⟩
      have h29'' : g1 66 29 = 1 := by rw [h29', hkTf_t hS]
      rw [x_145_77]
      simp only [x_145_78, x_145_81, x_145_84, x_145_85, x_145_88, x_145_91, x_145_92, x_145_93, x_145_94, x_145_95, x_145_96, x_145_99, x_145_102, x_145_103, x_145_106, x_145_107, x_145_110, x_145_111, x_145_112, x_145_113, x_145_114, x_145_117, hkJK_66, hkJK_83, hkJK_84, jA_66_27, jA_66_28, jL_83, jL_84, jR_66_27, jR_66_28, hkP1_0, hkP1_2, hkP1_u, hkC8, List.map_cons, List.map_nil, List.sum_cons, List.sum_nil, hkCat_0, hkCat_1, hkCat_2, Nat.reduceAdd, Nat.reduceLeDiff, hkPush_s, hkPush_n, true_and, and_true, implies_true, true_implies, not_true_eq_false, not_false_eq_true, false_implies, hkTf_0, hkTf_n1, hkOr01, hkOr11, Int.reduceEq, Int.reduceLT, Int.reduceLE, hk102a, hk102b, hk102c, Nat.reduceEqDiff, or_true, true_or, or_false, false_or, and_false, false_and, Classical.not_not, true_implies, List.set_cons_zero, List.set_cons_succ, ne_eq, hkLe_t ht, h29'', e1, e2, hw]
      clear hw e1 e2
      repeat' (first | exact K | refine And.intro ?_ ?_ | intro _ | trivial | omega | (exfalso; omega))
    · have K := IH (T k) (fun h => absurd h hS) (fun _ => rfl)
      have hrk := hr hS k k0 (by omega)
      unfold rngS at hrk
      obtain ⟨hw, e1, e2, e3⟩ : hkW (k + 1) = k + 1 ∧ hkW (280 * to) = 280 * to ∧ hkW (280 * to + k) = 280 * to + k ∧ hkW (T k) = T k := ⟨hkW_in (by omega) (by omega), hkW_in (by omega) (by omega), hkW_in (by omega) (by omega), hkW_in (by omega) (by omega)⟩
      have h29'' : g1 66 29 = 0 := by rw [h29', hkTf_f hS]
      rw [x_145_77]
      simp only [x_145_78, x_145_81, x_145_84, x_145_85, x_145_88, x_145_91, x_145_92, x_145_93, x_145_94, x_145_95, x_145_96, x_145_99, x_145_102, x_145_103, x_145_106, x_145_107, x_145_110, x_145_111, x_145_112, x_145_113, x_145_114, x_145_117, hkJK_66, hkJK_83, hkJK_84, jA_66_27, jA_66_28, jL_83, jL_84, jR_66_27, jR_66_28, hkP1_0, hkP1_2, hkP1_u, hkC8, List.map_cons, List.map_nil, List.sum_cons, List.sum_nil, hkCat_0, hkCat_1, hkCat_2, Nat.reduceAdd, Nat.reduceLeDiff, hkPush_s, hkPush_n, true_and, and_true, implies_true, true_implies, not_true_eq_false, not_false_eq_true, false_implies, hkTf_0, hkTf_n1, hkOr01, hkOr11, Int.reduceEq, Int.reduceLT, Int.reduceLE, hk102a, hk102b, hk102c, Nat.reduceEqDiff, or_true, true_or, or_false, false_or, and_false, false_and, Classical.not_not, true_implies, List.set_cons_zero, List.set_cons_succ, ne_eq, hkLe_t ht, h29'', hTk, e1, e2, e3, hw]
      clear hw e1 e2 e3
      repeat' (first | exact K | refine And.intro ?_ ?_ | intro _ | trivial | omega | (exfalso; omega))
theorem sx_lays {g : hkG} (ht : 190 ≤ t) {to : Int} {P : Prop} {T : Int → Int} (t0 : 0 ≤ to) (t15 : to ≤ 15) (h29 : g 66 29 = hkTf P) (hT : ∀ p : Int, 0 ≤ p → p < 840 → g 84 p = T p) (hQ : ∀ g' : hkG, (∀ q : Int, q ≠ 66 → q ≠ 83 → g' q = g q) → (∀ k : Int, k ≠ 29 → g' 66 k = g 66 k) → g' 66 29 = hkTf (P ∨ ¬ lyK T 840) → (∀ x : Int, x < 280 * to ∨ 280 * to + 280 ≤ x → g' 83 x = g 83 x) → ((P ∨ ¬ lyK T 840) → ∀ p : Int, 0 ≤ p → p < 280 → g' 83 (280 * to + p) = 0) → (¬ (P ∨ ¬ lyK T 840) → ∀ p : Int, 0 ≤ p → p < 280 → g' 83 (280 * to + p) = T p) → Q none t g') : Xp 145 (d + 1) 0 [(2, 66), (0, to), hkU] [] t g Q := by
  have e0 : (P ∨ ¬ lyK T 0) = P := propext ⟨fun h => h.elim id (fun h => absurd (fun x x0 x1 => by omega) h), Or.inl⟩
  have K := l_lays1 (d := d) (Q := Q) (g := g) (to := to) (P := P) (T := T) ht hT 840 0 g (by decide) (by decide) (fun _ _ => rfl) (fun _ _ => rfl) (by rw [e0]; exact h29) (fun g1 k1 k2 k3 => by
    have K2 := l_lays2 (d := d + 1) (Q := Q) (g := g1) (to := to) (S := P ∨ ¬ lyK T 840) (T := T) ht t0 t15 k3 (fun p p0 p1 => by rw [k1 84 (by decide)]; exact hT p p0 (by omega)) (fun h p p0 p1 => (Classical.byContradiction (fun h2 => h (Or.inr h2)) p p0 (by omega)).1 p1) 280 0 g1 (by decide) (by decide) (fun _ _ => rfl) (fun _ _ => rfl) (fun _ p p0 p1 => by omega) (fun _ p p0 p1 => by omega) (fun g2 m1 m2 m3 m4 => hQ g2 (fun q q1 q2 => by rw [m1 q q2, k1 q q1]) (fun k hk => by rw [m1 66 (by decide), k2 k hk]) (by rw [m1 66 (by decide)]; exact k3) (fun x hx => by rw [m2 x hx, k1 83 (by decide)]) m3 m4)
    simp only [x_145_75, x_145_76, hkJK_66, hkJK_83, hkJK_84, jA_66_27, jA_66_28, jL_83, jL_84, jR_66_27, jR_66_28, hkP1_0, hkP1_2, hkP1_u, hkC8, List.map_cons, List.map_nil, List.sum_cons, List.sum_nil, hkCat_0, hkCat_1, hkCat_2, Nat.reduceAdd, Nat.reduceLeDiff, hkPush_s, hkPush_n, true_and, and_true, implies_true, true_implies, not_true_eq_false, not_false_eq_true, false_implies, hkTf_0, hkTf_n1, hkOr01, hkOr11, Int.reduceEq, Int.reduceLT, Int.reduceLE, hk102a, hk102b, hk102c, Nat.reduceEqDiff, or_true, true_or, or_false, false_or, and_false, false_and, Classical.not_not, true_implies, List.set_cons_zero, List.set_cons_succ, ne_eq]
    repeat' (first | exact K2 | refine And.intro ?_ ?_ | intro _ | trivial | omega | (exfalso; omega)))
  simp only [x_145_0, x_145_1, hkJK_66, hkJK_83, hkJK_84, jA_66_27, jA_66_28, jL_83, jL_84, jR_66_27, jR_66_28, hkP1_0, hkP1_2, hkP1_u, hkC8, List.map_cons, List.map_nil, List.sum_cons, List.sum_nil, hkCat_0, hkCat_1, hkCat_2, Nat.reduceAdd, Nat.reduceLeDiff, hkPush_s, hkPush_n, true_and, and_true, implies_true, true_implies, not_true_eq_false, not_false_eq_true, false_implies, hkTf_0, hkTf_n1, hkOr01, hkOr11, Int.reduceEq, Int.reduceLT, Int.reduceLE, hk102a, hk102b, hk102c, Nat.reduceEqDiff, or_true, true_or, or_false, false_or, and_false, false_and, Classical.not_not, true_implies, List.set_cons_zero, List.set_cons_succ, ne_eq]
  repeat' (first | exact K | refine And.intro ?_ ?_ | intro _ | trivial | omega | (exfalso; omega))
theorem l_mbecomes {lv dd l v : Int} (v0 : 0 ≤ lv) (v15 : lv ≤ 15) : ∀ (m : Nat) (k : Int) (g : hkG), k + m = 280 → 0 ≤ k → Xp 143 d 31 [(2, 66), (0, lv), (0, dd), (0, l), (0, v), (0, 280)] [] t (hkFil g 83 (280 * lv + k) (280 * lv + 280) 0) Q → (190 ≤ t) → Xp 143 d 3 [(2, 66), (0, lv), (0, dd), (0, l), (0, v), (0, k)] [] t g Q := by
  intro m
  induction m with
  | zero =>
    intro k g hk k0 hQ ht
    have e : k = 280 := by omega
    subst e
    rw [hkFil_0] at hQ
    rw [x_143_3]
    simp only [x_143_5, x_143_8, hkJK_66, hkJK_83, jA_66_27, jL_83, jR_66_27, hkP1_0, hkP1_2, hkP1_u, hkC8, List.map_cons, List.map_nil, List.sum_cons, List.sum_nil, hkCat_0, hkCat_1, hkCat_2, Nat.reduceAdd, Nat.reduceLeDiff, hkPush_s, hkPush_n, true_and, and_true, implies_true, true_implies, not_true_eq_false, not_false_eq_true, false_implies, hkTf_0, hkTf_n1, hkOr01, hkOr11, Int.reduceEq, Int.reduceLT, Int.reduceLE, hk102a, hk102b, hk102c, Nat.reduceEqDiff, or_true, true_or, or_false, false_or, and_false, false_and, Classical.not_not, true_implies, List.set_cons_zero, List.set_cons_succ, ne_eq]
    repeat' (first | exact hQ | refine And.intro ?_ ?_ | intro _ | trivial | omega | (exfalso; omega))
  | succ m ih =>
    intro k g hk k0 hQ ht
    rw [← hkFil_n (by omega)] at hQ
    have IH := ih (k + 1) (hkSet g 83 (280 * lv + k) 0) (by omega) (by omega) (by rw [show 280 * lv + (k + 1) = 280 * lv + k + 1 from by omega]; exact hQ) ht
    obtain ⟨hw, e1, e2⟩ : hkW (k + 1) = k + 1 ∧ hkW (280 * lv) = 280 * lv ∧ hkW (280 * lv + k) = 280 * lv + k := ⟨hkW_in (by omega) (by omega), hkW_in (by omega) (by omega), hkW_in (by omega) (by omega)⟩
    rw [x_143_3]
    simp only [x_143_5, x_143_8, x_143_11, x_143_12, x_143_15, x_143_18, x_143_19, x_143_20, x_143_22, x_143_23, x_143_24, x_143_25, x_143_28, hkJK_66, hkJK_83, jA_66_27, jL_83, jR_66_27, hkP1_0, hkP1_2, hkP1_u, hkC8, List.map_cons, List.map_nil, List.sum_cons, List.sum_nil, hkCat_0, hkCat_1, hkCat_2, Nat.reduceAdd, Nat.reduceLeDiff, hkPush_s, hkPush_n, true_and, and_true, implies_true, true_implies, not_true_eq_false, not_false_eq_true, false_implies, hkTf_0, hkTf_n1, hkOr01, hkOr11, Int.reduceEq, Int.reduceLT, Int.reduceLE, hk102a, hk102b, hk102c, Nat.reduceEqDiff, or_true, true_or, or_false, false_or, and_false, false_and, Classical.not_not, true_implies, List.set_cons_zero, List.set_cons_succ, ne_eq, hkLe_t ht, e1, e2, hw]
    clear hw e1 e2
    repeat' (first | exact IH | refine And.intro ?_ ?_ | intro _ | trivial | omega | (exfalso; omega))
theorem sx_mbecomes {g : hkG} (ht : 190 ≤ t) {lv dd l v : Int} (v0 : 0 ≤ lv) (v15 : lv ≤ 15) (d0 : 0 ≤ dd) (d1 : dd ≤ 1) (l0 : 0 ≤ l) (l1 : l < 35) : Xp 143 d 0 [(2, 66), (0, lv), (0, dd), (0, l), (0, v), hkU] [] t g Q = Q none t (hkSet (hkFil g 83 (280 * lv) (280 * lv + 280) 0) 83 (280 * lv + 35 * dd + l) v) := by
  refine Xp_ev (d := 0) (Ev_of ?_) (Nat.zero_le _)
  have K := l_mbecomes (d := 0) (t := t) (lv := lv) (dd := dd) (l := l) (v := v) (Q := fun r2 t2 g2 => r2 = none ∧ t2 = t ∧ g2 = hkSet (hkFil g 83 (280 * lv) (280 * lv + 280) 0) 83 (280 * lv + 35 * dd + l) v) v0 v15 280 0 g (by decide) (by decide) (by
    rw [Int.add_zero]
    obtain ⟨e1, e2, e3, e4⟩ : hkW (280 * lv) = 280 * lv ∧ hkW (35 * dd) = 35 * dd ∧ hkW (280 * lv + 35 * dd) = 280 * lv + 35 * dd ∧ hkW (280 * lv + 35 * dd + l) = 280 * lv + 35 * dd + l := ⟨hkW_in (by omega) (by omega), hkW_in (by omega) (by omega), hkW_in (by omega) (by omega), hkW_in (by omega) (by omega)⟩
    simp only [x_143_31, x_143_32, x_143_35, x_143_38, x_143_39, x_143_40, x_143_42, x_143_43, x_143_44, x_143_45, x_143_46, x_143_47, x_143_49, x_143_50, hkJK_66, hkJK_83, jA_66_27, jL_83, jR_66_27, hkP1_0, hkP1_2, hkP1_u, hkC8, List.map_cons, List.map_nil, List.sum_cons, List.sum_nil, hkCat_0, hkCat_1, hkCat_2, Nat.reduceAdd, Nat.reduceLeDiff, hkPush_s, hkPush_n, true_and, and_true, implies_true, true_implies, not_true_eq_false, not_false_eq_true, false_implies, hkTf_0, hkTf_n1, hkOr01, hkOr11, Int.reduceEq, Int.reduceLT, Int.reduceLE, hk102a, hk102b, hk102c, Nat.reduceEqDiff, or_true, true_or, or_false, false_or, and_false, false_and, Classical.not_not, true_implies, List.set_cons_zero, List.set_cons_succ, ne_eq, hkLe_t ht, e1, e2, e3, e4]
    clear e1 e2 e3 e4
    repeat' (first | rfl | refine And.intro ?_ ?_ | intro _ | trivial | omega)) ht
  simp only [x_143_0, x_143_1, hkJK_66, hkJK_83, jA_66_27, jL_83, jR_66_27, hkP1_0, hkP1_2, hkP1_u, hkC8, List.map_cons, List.map_nil, List.sum_cons, List.sum_nil, hkCat_0, hkCat_1, hkCat_2, Nat.reduceAdd, Nat.reduceLeDiff, hkPush_s, hkPush_n, true_and, and_true, implies_true, true_implies, not_true_eq_false, not_false_eq_true, false_implies, hkTf_0, hkTf_n1, hkOr01, hkOr11, Int.reduceEq, Int.reduceLT, Int.reduceLE, hk102a, hk102b, hk102c, Nat.reduceEqDiff, or_true, true_or, or_false, false_or, and_false, false_and, Classical.not_not, true_implies, List.set_cons_zero, List.set_cons_succ, ne_eq]
  repeat' (first | exact K | refine And.intro ?_ ?_ | intro _ | trivial | omega | (exfalso; omega))
def adT (A B : Int → Int) (by' p : Int) : Int := if p < 280 then A p + by' * B p else 0
theorem l_madds {g : hkG} (ht : 190 ≤ t) {to ot by' : Int} {A B : Int → Int} (t0 : 0 ≤ to) (t15 : to ≤ 15) (o0 : 0 ≤ ot) (o15 : ot ≤ 15) (hby : by' = 1 ∨ by' = -1) (hA : ∀ p : Int, 0 ≤ p → p < 280 → g 83 (280 * to + p) = A p ∧ rngS (A p)) (hB : ∀ p : Int, 0 ≤ p → p < 280 → g 83 (280 * ot + p) = B p ∧ rngS (B p)) : ∀ (m : Nat) (k : Int) (g1 : hkG), k + m = 840 → 0 ≤ k → (∀ q : Int, q ≠ 84 → g1 q = g q) → (∀ x : Int, 0 ≤ x → x < k → g1 84 x = adT A B by' x) → (∀ g' : hkG, (∀ q : Int, q ≠ 84 → g' q = g q) → (∀ x : Int, 0 ≤ x → x < 840 → g' 84 x = adT A B by' x) → Xp 158 d 70 [(2, 66), (0, to), (0, ot), (0, by'), (0, 840)] [] t g' Q) → Xp 158 d 3 [(2, 66), (0, to), (0, ot), (0, by'), (0, k)] [] t g1 Q := by
  intro m
  induction m with
  | zero =>
    intro k g1 hk k0 k1 h hQ
    have e : k = 840 := by omega
    subst e
    have hq := hQ g1 k1 h
    rw [x_158_3]
    simp only [x_158_5, x_158_6, x_158_9, x_158_10, hkJK_66, hkJK_83, hkJK_84, jA_66_27, jA_66_28, jL_83, jL_84, jR_66_27, jR_66_28, hkP1_0, hkP1_2, hkP1_u, hkC8, List.map_cons, List.map_nil, List.sum_cons, List.sum_nil, hkCat_0, hkCat_1, hkCat_2, Nat.reduceAdd, Nat.reduceLeDiff, hkPush_s, hkPush_n, true_and, and_true, implies_true, true_implies, not_true_eq_false, not_false_eq_true, false_implies, hkTf_0, hkTf_n1, hkOr01, hkOr11, Int.reduceEq, Int.reduceLT, Int.reduceLE, hk102a, hk102b, hk102c, Nat.reduceEqDiff, or_true, true_or, or_false, false_or, and_false, false_and, Classical.not_not, true_implies, List.set_cons_zero, List.set_cons_succ, ne_eq, hkLe_t ht]
    repeat' (first | exact hq | refine And.intro ?_ ?_ | intro _ | trivial | omega | (exfalso; omega))
  | succ m ih =>
    intro k g1 hk k0 k1 h hQ
    have IH := ih (k + 1) (hkSet g1 84 k (adT A B by' k)) (by omega) (by omega) (fun q hq => by rw [hkSet_row hq, k1 q hq]) (fun x x0 x1 => by
      by_cases e : x = k
      · rw [e, hkSet_rd, if_pos ⟨rfl, rfl⟩]
      · rw [hkSet_rd, if_neg (fun h => e h.2)]; exact h x x0 (by omega)) hQ
    by_cases h280 : k < 280
    · obtain ⟨a1, a2⟩ := hA k k0 h280
      obtain ⟨c1, c2⟩ := hB k k0 h280
      unfold rngS at a2 c2
      have ga : g1 83 (280 * to + k) = A k := by rw [k1 83 (by decide)]; exact a1
      have gb : g1 83 (280 * ot + k) = B k := by rw [k1 83 (by decide)]; exact c1
      have hT : adT A B by' k = A k + by' * B k := by unfold adT; rw [if_pos h280]
      rw [hT] at IH
      have hbB : -1000000 ≤ by' * B k ∧ by' * B k ≤ 1000000 := by rcases hby with e | e <;> subst e <;> omega
      obtain ⟨hw, e1, e2, e3, e4, e5, e6⟩ : hkW (k + 1) = k + 1 ∧ hkW (280 * to) = 280 * to ∧ hkW (280 * to + k) = 280 * to + k ∧ hkW (280 * ot) = 280 * ot ∧ hkW (280 * ot + k) = 280 * ot + k ∧ hkL (by' * B k) = by' * B k ∧ hkL (A k + by' * B k) = A k + by' * B k := ⟨hkW_in (by omega) (by omega), hkW_in (by omega) (by omega), hkW_in (by omega) (by omega), hkW_in (by omega) (by omega), hkW_in (by omega) (by omega), hkL_in (by omega) (by omega), hkL_in (by omega) (by omega)⟩
      rw [x_158_3]
      simp only [x_158_5, x_158_6, x_158_9, x_158_10, x_158_13, x_158_14, x_158_17, x_158_19, x_158_21, x_158_24, x_158_27, x_158_28, x_158_31, x_158_34, x_158_35, x_158_36, x_158_38, x_158_39, x_158_40, x_158_41, x_158_42, x_158_43, x_158_44, x_158_47, x_158_50, x_158_51, x_158_52, x_158_54, x_158_55, x_158_56, x_158_57, x_158_58, x_158_59, x_158_62, x_158_63, x_158_64, x_158_67, hkJK_66, hkJK_83, hkJK_84, jA_66_27, jA_66_28, jL_83, jL_84, jR_66_27, jR_66_28, hkP1_0, hkP1_2, hkP1_u, hkC8, List.map_cons, List.map_nil, List.sum_cons, List.sum_nil, hkCat_0, hkCat_1, hkCat_2, Nat.reduceAdd, Nat.reduceLeDiff, hkPush_s, hkPush_n, true_and, and_true, implies_true, true_implies, not_true_eq_false, not_false_eq_true, false_implies, hkTf_0, hkTf_n1, hkOr01, hkOr11, Int.reduceEq, Int.reduceLT, Int.reduceLE, hk102a, hk102b, hk102c, Nat.reduceEqDiff, or_true, true_or, or_false, false_or, and_false, false_and, Classical.not_not, true_implies, List.set_cons_zero, List.set_cons_succ, ne_eq, hkLe_t ht, ga, gb, e1, e2, e3, e4, e5, e6, hw]
      clear hw e1 e2 e3 e4 e5 e6
      repeat' (first | exact IH | refine And.intro ?_ ?_ | intro _ | trivial | omega | (exfalso; omega))
    · have hT : adT A B by' k = 0 := by unfold adT; rw [if_neg h280]
      rw [hT] at IH
      have hw : hkW (k + 1) = k + 1 := hkW_in (by omega) (by omega)
      rw [x_158_3]
      simp only [x_158_5, x_158_6, x_158_9, x_158_10, x_158_13, x_158_14, x_158_17, x_158_19, x_158_21, x_158_24, x_158_27, x_158_28, x_158_31, x_158_34, x_158_35, x_158_36, x_158_38, x_158_39, x_158_40, x_158_41, x_158_42, x_158_43, x_158_44, x_158_47, x_158_50, x_158_51, x_158_52, x_158_54, x_158_55, x_158_56, x_158_57, x_158_58, x_158_59, x_158_62, x_158_63, x_158_64, x_158_67, hkJK_66, hkJK_83, hkJK_84, jA_66_27, jA_66_28, jL_83, jL_84, jR_66_27, jR_66_28, hkP1_0, hkP1_2, hkP1_u, hkC8, List.map_cons, List.map_nil, List.sum_cons, List.sum_nil, hkCat_0, hkCat_1, hkCat_2, Nat.reduceAdd, Nat.reduceLeDiff, hkPush_s, hkPush_n, true_and, and_true, implies_true, true_implies, not_true_eq_false, not_false_eq_true, false_implies, hkTf_0, hkTf_n1, hkOr01, hkOr11, Int.reduceEq, Int.reduceLT, Int.reduceLE, hk102a, hk102b, hk102c, Nat.reduceEqDiff, or_true, true_or, or_false, false_or, and_false, false_and, Classical.not_not, true_implies, List.set_cons_zero, List.set_cons_succ, ne_eq, hkLe_t ht, hw]
      clear hw
      repeat' (first | exact IH | refine And.intro ?_ ?_ | intro _ | trivial | omega | (exfalso; omega))
def addP (A B : Int → Int) (by' : Int) : Prop := ∀ p : Int, 0 ≤ p → p < 280 → rngS (A p + by' * B p)
theorem lyK_add {A B : Int → Int} {by' : Int} : lyK (adT A B by') 840 ↔ addP A B by' := by
  constructor
  · intro h p p0 p1
    have := (h p p0 (by omega)).1 p1
    unfold adT at this
    rw [if_pos p1] at this
    exact this
  · intro h x x0 x1
    refine ⟨fun hx => ?_, fun hx => ?_⟩
    · unfold adT; rw [if_pos hx]; exact h x x0 hx
    · unfold adT; rw [if_neg (by omega)]
/-- all that counts stays, but what is in hand from a level on -/
def hdKeep (lv : Int) (g g' : hkG) : Prop := (∀ q : Int, q < 66 ∨ q = 67 ∨ q = 68 ∨ q = 69 ∨ q = 72 ∨ q = 73 ∨ 85 ≤ q → g' q = g q) ∧ (∀ k : Int, k ≤ 15 ∨ (19 ≤ k ∧ k ≠ 29) → g' 66 k = g 66 k) ∧ ∀ x : Int, x < 280 * lv → g' 83 x = g 83 x
theorem hdKeep_r {lv : Int} {g : hkG} : hdKeep lv g g := ⟨fun _ _ => rfl, fun _ _ => rfl, fun _ _ => rfl⟩
theorem hdKeep_t {lv : Int} {g g' g'' : hkG} (h : hdKeep lv g g') (h' : hdKeep lv g' g'') : hdKeep lv g g'' := ⟨fun q a => by rw [h'.1 q a, h.1 q a], fun q a => by rw [h'.2.1 q a, h.2.1 q a], fun q a => by rw [h'.2.2 q a, h.2.2 q a]⟩
theorem hdKeep_w {lv lv' : Int} {g g' : hkG} (h : hdKeep lv g g') (hl : lv' ≤ lv) : hdKeep lv' g g' := ⟨h.1, h.2.1, fun x hx => h.2.2 x (by omega)⟩
theorem sx_madds {g : hkG} (ht : 190 ≤ t) {to ot by' : Int} {A B : Int → Int} {P : Prop} (t0 : 0 ≤ to) (t15 : to ≤ 15) (o0 : 0 ≤ ot) (o15 : ot ≤ 15) (hby : by' = 1 ∨ by' = -1) (hA : ∀ p : Int, 0 ≤ p → p < 280 → g 83 (280 * to + p) = A p ∧ rngS (A p)) (hB : ∀ p : Int, 0 ≤ p → p < 280 → g 83 (280 * ot + p) = B p ∧ rngS (B p)) (hb : RB g R N) (h29 : g 66 29 = hkTf P) (hQ : ∀ g' : hkG, hdKeep to g g' → RB g' R N → g' 66 29 = hkTf (P ∨ ¬ addP A B by') → ((P ∨ ¬ addP A B by') → ∀ p : Int, 0 ≤ p → p < 280 → g' 83 (280 * to + p) = 0) → (¬ (P ∨ ¬ addP A B by') → ∀ p : Int, 0 ≤ p → p < 280 → g' 83 (280 * to + p) = A p + by' * B p) → Q none t g') :
    Xp 158 (d + 2) 0 [(2, 66), (0, to), (0, ot), (0, by'), hkU] [] t g Q := by
  have K := l_madds (d := d + 2) (Q := Q) (g := g) (to := to) (ot := ot) (by' := by') ht t0 t15 o0 o15 hby hA hB 840 0 g (by decide) (by decide) (fun _ _ => rfl) (fun x x0 x1 => by omega) (fun g1 k1 h1 => by
    simp only [x_158_70, x_158_71, x_158_72, hkJK_66, hkJK_83, hkJK_84, jA_66_27, jA_66_28, jL_83, jL_84, jR_66_27, jR_66_28, hkP1_0, hkP1_2, hkP1_u, hkC8, List.map_cons, List.map_nil, List.sum_cons, List.sum_nil, hkCat_0, hkCat_1, hkCat_2, Nat.reduceAdd, Nat.reduceLeDiff, hkPush_s, hkPush_n, true_and, and_true, implies_true, true_implies, not_true_eq_false, not_false_eq_true, false_implies, hkTf_0, hkTf_n1, hkOr01, hkOr11, Int.reduceEq, Int.reduceLT, Int.reduceLE, hk102a, hk102b, hk102c, Nat.reduceEqDiff, or_true, true_or, or_false, false_or, and_false, false_and, Classical.not_not, true_implies, List.set_cons_zero, List.set_cons_succ, ne_eq]
    refine sx_lays (d := d) ht t0 t15 (P := P) (T := adT A B by') (by rw [k1 66 (by decide)]; exact h29) h1 (fun g2 m1 m2 m3 m4 m5 m6 => ?_)
    rw [lyK_add] at m3 m5 m6
    simp only [x_158_75, hkJK_66, hkJK_83, hkJK_84, jA_66_27, jA_66_28, jL_83, jL_84, jR_66_27, jR_66_28, hkP1_0, hkP1_2, hkP1_u, hkC8, List.map_cons, List.map_nil, List.sum_cons, List.sum_nil, hkCat_0, hkCat_1, hkCat_2, Nat.reduceAdd, Nat.reduceLeDiff, hkPush_s, hkPush_n, true_and, and_true, implies_true, true_implies, not_true_eq_false, not_false_eq_true, false_implies, hkTf_0, hkTf_n1, hkOr01, hkOr11, Int.reduceEq, Int.reduceLT, Int.reduceLE, hk102a, hk102b, hk102c, Nat.reduceEqDiff, or_true, true_or, or_false, false_or, and_false, false_and, Classical.not_not, true_implies, List.set_cons_zero, List.set_cons_succ, ne_eq]
    refine hQ g2 ⟨fun q hq => by rw [m1 q (by omega) (by omega), k1 q (by omega)], fun k hk => by rw [m2 k (by omega), k1 66 (by decide)], fun x hx => by rw [m4 x (Or.inl hx), k1 83 (by decide)]⟩ (RB_s hb (fun q q1 q2 => by rw [m1 q q2 (by omega), k1 q (by omega)]) (fun k _ _ => by rw [m2 k (by omega), k1 66 (by decide)])) m3 m5 (fun h p p0 p1 => ?_)
    rw [m6 h p p0 p1]
    unfold adT
    rw [if_pos p1])
  simp only [x_158_0, x_158_1, hkJK_66, hkJK_83, hkJK_84, jA_66_27, jA_66_28, jL_83, jL_84, jR_66_27, jR_66_28, hkP1_0, hkP1_2, hkP1_u, hkC8, List.map_cons, List.map_nil, List.sum_cons, List.sum_nil, hkCat_0, hkCat_1, hkCat_2, Nat.reduceAdd, Nat.reduceLeDiff, hkPush_s, hkPush_n, true_and, and_true, implies_true, true_implies, not_true_eq_false, not_false_eq_true, false_implies, hkTf_0, hkTf_n1, hkOr01, hkOr11, Int.reduceEq, Int.reduceLT, Int.reduceLE, hk102a, hk102b, hk102c, Nat.reduceEqDiff, or_true, true_or, or_false, false_or, and_false, false_and, Classical.not_not, true_implies, List.set_cons_zero, List.set_cons_succ, ne_eq]
  repeat' (first | exact K | refine And.intro ?_ ?_ | intro _ | trivial | omega | (exfalso; omega))
end SP
