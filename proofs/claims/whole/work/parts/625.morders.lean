/-! the reference: orders -/
section SP
variable {t d : Nat} {R N : Int}
def moKeep (g g' : hkG) : Prop := (∀ q : Int, q ≠ 66 → q ≠ 70 → q ≠ 75 → q ≠ 76 → q ≠ 77 → q ≠ 78 → q ≠ 79 → g' q = g q) ∧ ∀ k : Int, k ≠ 16 → k ≠ 17 → k ≠ 18 → g' 66 k = g 66 k
theorem moKeep_r {g : hkG} : moKeep g g := ⟨fun _ _ _ _ _ _ _ _ => rfl, fun _ _ _ _ => rfl⟩
theorem moKeep_t {g g' g'' : hkG} (h : moKeep g g') (h' : moKeep g' g'') : moKeep g g'' := ⟨fun q a b c e f i j => by rw [h'.1 q a b c e f i j, h.1 q a b c e f i j], fun k a b c => by rw [h'.2 k a b c, h.2 k a b c]⟩
theorem moKeep_m {g g' : hkG} (h : tmKeep g g') : moKeep g g' := ⟨fun q a b c e f i j => h.1 q a c e f i, h.2⟩
theorem moKeep_s {g : hkG} {p k v : Int} (hp : p = 70 ∨ p = 76 ∨ p = 79) : moKeep g (hkSet g p k v) := ⟨fun q a b c e f i j => hkSet_row (by omega), fun k a b c => by rw [hkSet_row (by omega)]⟩
theorem moKeep_X {g g' : hkG} (h : moKeep g g') (hX : MX g R N) : MX g' R N := MX_row hX (fun k hk => h.2 k (by omega) (by omega) (by omega)) (h.1 67 (by decide) (by decide) (by decide) (by decide) (by decide) (by decide) (by decide)) (h.1 68 (by decide) (by decide) (by decide) (by decide) (by decide) (by decide) (by decide)) (h.1 69 (by decide) (by decide) (by decide) (by decide) (by decide) (by decide) (by decide))
/-- the first row: the sign at i -/
theorem l_mo1 (ht : 190 ≤ t) {i j a used sg F : Int} {Q : Option hkV → Nat → hkG → Prop} : ∀ (m k : Nat) (g : hkG), (k : Int) + m = bxC R N → MX g R N →
    (∀ g' : hkG, (∀ q : Int, q ≠ 76 → g' q = g q) → (∀ x : Int, k ≤ x → x < bxC R N → g' 76 x = if x = i then sg else 0) → (∀ x : Int, x < k → g' 76 x = g 76 x) → Xp 122 d 50 [(2, 66), (0, i), (0, j), (0, a), (0, used), (0, sg), (0, F), (0, bxC R N)] [] t g' Q) →
    Xp 122 d 16 [(2, 66), (0, i), (0, j), (0, a), (0, used), (0, sg), (0, F), (0, (k : Int))] [] t g Q := by
  intro m
  induction m with
  | zero =>
    intro k g hk hX hQ
    obtain ⟨x1, x2, x3, x4, x5⟩ := MX_f hX
    rw [x_122_16]
    simp only [x_122_18, x_122_19, x_122_22, hkJK_66, hkJK_70, hkJK_76, hkJK_79, jA_66_19, jA_66_22, jA_66_6, jL_70, jL_76, jL_79, jR_66_19, jR_66_22, jR_66_6, hkP1_0, hkP1_2, hkP1_u, hkC8, List.map_cons, List.map_nil, List.sum_cons, List.sum_nil, hkCat_0, hkCat_1, hkCat_2, Nat.reduceAdd, Nat.reduceLeDiff, hkPush_s, hkPush_n, true_and, and_true, implies_true, true_implies, not_true_eq_false, not_false_eq_true, false_implies, hkTf_0, hkTf_n1, hkOr01, hkOr11, Int.reduceEq, Int.reduceLT, Int.reduceLE, hk102a, hk102b, hk102c, Nat.reduceEqDiff, or_true, true_or, or_false, false_or, and_false, false_and, Classical.not_not, true_implies, List.set_cons_zero, List.set_cons_succ, ne_eq, hkLe_t ht, x3]
    have := hQ g (fun _ _ => rfl) (fun x _ _ => by omega) (fun _ _ => rfl)
    rw [show bxC R N = (k : Int) from by omega] at this ⊢
    exact ⟨fun _ => this, fun h => absurd (by omega) h⟩
  | succ m ih =>
    intro k g hk hX hQ
    have hc := bx_C hX.1
    obtain ⟨x1, x2, x3, x4, x5⟩ := MX_f hX
    have hw : hkW ((k : Int) + 1) = ((k + 1 : Nat) : Int) := by rw [hkW_in (by omega) (by omega)]; omega
    have ST : ∀ v : Int, v = (if (k : Int) = i then sg else 0) → Xp 122 d 16 [(2, 66), (0, i), (0, j), (0, a), (0, used), (0, sg), (0, F), (0, ((k + 1 : Nat) : Int))] [] t (hkSet g 76 k v) Q := by
      intro v hv
      refine ih (k + 1) _ (by omega) (moKeep_X (moKeep_s (by decide)) hX) (fun g' k1 k2 k3 => hQ g' (fun q hq => by rw [k1 q hq, hkSet_row hq]) (fun x h0 h1 => ?_) (fun x hx => ?_))
      · by_cases e : x = k
        · rw [e, k3 _ (by omega), hkSet_rd, if_pos ⟨rfl, rfl⟩, hv]
        · exact k2 x (by omega) h1
      · rw [k3 x (by omega), hkSet_rd, if_neg (by omega)]
    rw [x_122_16]
    simp only [x_122_18, x_122_19, x_122_22, x_122_25, x_122_26, x_122_29, x_122_31, x_122_33, x_122_34, x_122_37, x_122_39, x_122_42, x_122_43, x_122_44, x_122_47, hkJK_66, hkJK_70, hkJK_76, hkJK_79, jA_66_19, jA_66_22, jA_66_6, jL_70, jL_76, jL_79, jR_66_19, jR_66_22, jR_66_6, hkP1_0, hkP1_2, hkP1_u, hkC8, List.map_cons, List.map_nil, List.sum_cons, List.sum_nil, hkCat_0, hkCat_1, hkCat_2, Nat.reduceAdd, Nat.reduceLeDiff, hkPush_s, hkPush_n, true_and, and_true, implies_true, true_implies, not_true_eq_false, not_false_eq_true, false_implies, hkTf_0, hkTf_n1, hkOr01, hkOr11, Int.reduceEq, Int.reduceLT, Int.reduceLE, hk102a, hk102b, hk102c, Nat.reduceEqDiff, or_true, true_or, or_false, false_or, and_false, false_and, Classical.not_not, true_implies, List.set_cons_zero, List.set_cons_succ, ne_eq, hkLe_t ht, x3, hw]
    clear hw
    refine ⟨fun h => absurd h (by omega), fun _ => ⟨fun h => ⟨by omega, ST 0 (by rw [if_neg h])⟩, fun h => ⟨by omega, ST sg (by rw [if_pos h])⟩⟩⟩
/-- the rows, one after the other -/
theorem l_mo2 (ht : 190 ≤ t) {i j a used sg : Int} (hj0 : 0 ≤ j) (hj : j < bxC R N) (hsg : sg = 1 ∨ sg = -1) {o : Int → Int} {Q : Option hkV → Nat → hkG → Prop} : ∀ (m k : Nat) (g : hkG), (k : Int) + m = bxF R N j → MX g R N → (∀ x : Int, 0 ≤ x → x < bxF R N j → g 79 x = o x ∧ 0 ≤ o x ∧ o x < 4) → (∀ x : Int, 0 ≤ x → x < bxC R N → g 76 x = gV R N (pq R N i j o k) (pv R N i j o k) sg x) →
    (∀ g' : hkG, tmKeep g g' → (∀ x : Int, 0 ≤ x → x < bxC R N → g' 76 x = gV R N (pq R N i j o (bxF R N j).toNat) (pv R N i j o (bxF R N j).toNat) sg x) → Xp 122 (d + 6) 88 [(2, 66), (0, i), (0, j), (0, a), (0, used), (0, sg), (0, bxF R N j), (0, bxF R N j)] [] t g' Q) →
    Xp 122 (d + 6) 53 [(2, 66), (0, i), (0, j), (0, a), (0, used), (0, sg), (0, bxF R N j), (0, (k : Int))] [] t g Q := by
  intro m
  induction m with
  | zero =>
    intro k g hk hX h79 h76 hQ
    rw [x_122_53]
    simp only [x_122_55, x_122_57, hkJK_66, hkJK_70, hkJK_76, hkJK_79, jA_66_19, jA_66_22, jA_66_6, jL_70, jL_76, jL_79, jR_66_19, jR_66_22, jR_66_6, hkP1_0, hkP1_2, hkP1_u, hkC8, List.map_cons, List.map_nil, List.sum_cons, List.sum_nil, hkCat_0, hkCat_1, hkCat_2, Nat.reduceAdd, Nat.reduceLeDiff, hkPush_s, hkPush_n, true_and, and_true, implies_true, true_implies, not_true_eq_false, not_false_eq_true, false_implies, hkTf_0, hkTf_n1, hkOr01, hkOr11, Int.reduceEq, Int.reduceLT, Int.reduceLE, hk102a, hk102b, hk102c, Nat.reduceEqDiff, or_true, true_or, or_false, false_or, and_false, false_and, Classical.not_not, true_implies, List.set_cons_zero, List.set_cons_succ, ne_eq, hkLe_t ht]
    have := hQ g tmKeep_r (by rw [show (bxF R N j).toNat = k from by omega]; exact h76)
    rw [show bxF R N j = (k : Int) from by omega] at this ⊢
    exact ⟨fun _ => this, fun h => absurd (by omega) h⟩
  | succ m ih =>
    intro k g hk hX h79 h76 hQ
    have hb := hX.1
    have hc := bx_C hb
    obtain ⟨b1, b2, b3, b4⟩ := id hb
    obtain ⟨f1, f2, f3⟩ := bx_F hb hj0 hj
    obtain ⟨o1, o2, o3⟩ := h79 k (by omega) (by omega)
    have hL := (bx_sh hb hj0 hj).1 (k : Int) (by omega) (by omega)
    have hk0 : (0 : Int) ≤ (k : Int) := by omega
    have hk4 : (k : Int) < 4 := by omega
    obtain ⟨e1, e2⟩ : hkW (bxL R N j k + o k) = bxL R N j k + o k ∧ hkW (bxL R N j k + o k - k) = bxL R N j k + o k - k := ⟨hkW_in (by omega) (by omega), hkW_in (by omega) (by omega)⟩
    rw [x_122_53]
    simp only [x_122_55, x_122_57, x_122_60, x_122_61, x_122_62, x_122_63, x_122_65, x_122_68, x_122_69, x_122_72, x_122_74, x_122_75, x_122_76, x_122_78, x_122_79, hkJK_66, hkJK_70, hkJK_76, hkJK_79, jA_66_19, jA_66_22, jA_66_6, jL_70, jL_76, jL_79, jR_66_19, jR_66_22, jR_66_6, hkP1_0, hkP1_2, hkP1_u, hkC8, List.map_cons, List.map_nil, List.sum_cons, List.sum_nil, hkCat_0, hkCat_1, hkCat_2, Nat.reduceAdd, Nat.reduceLeDiff, hkPush_s, hkPush_n, true_and, and_true, implies_true, true_implies, not_true_eq_false, not_false_eq_true, false_implies, hkTf_0, hkTf_n1, hkOr01, hkOr11, Int.reduceEq, Int.reduceLT, Int.reduceLE, hk102a, hk102b, hk102c, Nat.reduceEqDiff, or_true, true_or, or_false, false_or, and_false, false_and, Classical.not_not, true_implies, List.set_cons_zero, List.set_cons_succ, ne_eq, hkLe_t ht, sx_mAt ht hX hj0 hj hk0 hk4, o1, e1, e2]
    clear e1 e2
    obtain ⟨p1, p2⟩ := pow5 k (by omega)
    refine ⟨fun h => absurd h (by omega), fun _ => ⟨by omega, ?_⟩⟩
    refine sx_mtimesRow ht hX (n := bxL R N j k + o k - k) (by omega) (v := gV R N (pq R N i j o k) (pv R N i j o k) sg) (fun x a1 a2 => ?_) h76 (fun g' k1 k2 => ?_)
    · obtain ⟨z1, z2⟩ := bxSl_K a1 a2
      have hq0 : 0 ≤ bxQ R N x := Int.emod_nonneg _ (by omega)
      have hq1 : bxQ R N x < N := Int.emod_lt_of_pos _ (by omega)
      have z3 := (bx_A hb hq0 hq1).1
      have := pv_le (i := i) (j := j) (o := o) hb k (bxSl R N x) z1 (by omega)
      unfold gV
      split
      · rcases hsg with h | h <;> rw [h] <;> omega
      · omega
    · simp only [x_122_82, x_122_85, hkJK_66, hkJK_70, hkJK_76, hkJK_79, jA_66_19, jA_66_22, jA_66_6, jL_70, jL_76, jL_79, jR_66_19, jR_66_22, jR_66_6, hkP1_0, hkP1_2, hkP1_u, hkC8, List.map_cons, List.map_nil, List.sum_cons, List.sum_nil, hkCat_0, hkCat_1, hkCat_2, Nat.reduceAdd, Nat.reduceLeDiff, hkPush_s, hkPush_n, true_and, and_true, implies_true, true_implies, not_true_eq_false, not_false_eq_true, false_implies, hkTf_0, hkTf_n1, hkOr01, hkOr11, Int.reduceEq, Int.reduceLT, Int.reduceLE, hk102a, hk102b, hk102c, Nat.reduceEqDiff, or_true, true_or, or_false, false_or, and_false, false_and, Classical.not_not, true_implies, List.set_cons_zero, List.set_cons_succ, ne_eq]
      rw [hkW_in (by omega) (by omega), show (k : Int) + 1 = ((k + 1 : Nat) : Int) from by omega]
      refine ih (k + 1) g' (by omega) (tmKeep_X k1 hX) (fun x a1 a2 => by rw [k1.1 79 (by decide) (by decide) (by decide) (by decide) (by decide)]; exact h79 x a1 a2) (fun x a1 a2 => ?_) (fun g2 l1 l2 => hQ g2 (tmKeep_t k1 l1) l2)
      rw [k2 x a1 a2, tm_mp hb a1 a2]
      rfl
end SP
