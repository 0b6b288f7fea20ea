/-! the reference: a row of shapes, times a strip -/
def tmC (R N n : Int) (v : Int → Int) (k : Int) (x : Int) : Int := if 0 ≤ n ∧ n ≤ N - R then v x * sumAt (fun s => s) (st0 R N x n) k else 0
def tmS (R N n : Int) (v : Int → Int) (k : Int) : Nat → Int
  | 0 => 0
  | x + 1 => tmS R N n v k x + tmC R N n v k x
def tmV (R N n : Int) (v : Int → Int) (k : Int) : Int := tmS R N n v k (bxC R N).toNat
section SP
variable {t d : Nat} {R N : Int} {Q : Option hkV → Nat → hkG → Prop}
def tmKeep (g g' : hkG) : Prop := (∀ q : Int, q ≠ 66 → q ≠ 75 → q ≠ 76 → q ≠ 77 → q ≠ 78 → g' q = g q) ∧ ∀ k : Int, k ≠ 16 → k ≠ 17 → k ≠ 18 → g' 66 k = g 66 k
theorem tmKeep_r {g : hkG} : tmKeep g g := ⟨fun _ _ _ _ _ _ => rfl, fun _ _ _ _ => rfl⟩
theorem tmKeep_t {g g' g'' : hkG} (h : tmKeep g g') (h' : tmKeep g' g'') : tmKeep g g'' := ⟨fun q a b c e f => by rw [h'.1 q a b c e f, h.1 q a b c e f], fun k a b c => by rw [h'.2 k a b c, h.2 k a b c]⟩
theorem tmKeep_m {g g' : hkG} (h : msKeep g g') : tmKeep g g' := ⟨fun q a b c e f => h.1 q a b e f, h.2⟩
theorem tmKeep_X {g g' : hkG} (h : tmKeep g g') (hX : MX g R N) : MX g' R N := MX_row hX (fun k hk => h.2 k (by omega) (by omega) (by omega)) (h.1 67 (by decide) (by decide) (by decide) (by decide) (by decide)) (h.1 68 (by decide) (by decide) (by decide) (by decide) (by decide)) (h.1 69 (by decide) (by decide) (by decide) (by decide) (by decide))
theorem l_tm1 (ht : 190 ≤ t) {n : Int} : ∀ (m k : Nat) (g : hkG), (k : Int) + m = bxC R N → MX g R N →
    (∀ g' : hkG, (∀ q : Int, q ≠ 77 → g' q = g q) → (∀ x : Int, k ≤ x → x < bxC R N → g' 77 x = 0) → (∀ x : Int, x < k → g' 77 x = g 77 x) → Xp 123 d 23 [(2, 66), (0, n), (0, bxC R N)] [] t g' Q) →
    Xp 123 d 2 [(2, 66), (0, n), (0, (k : Int))] [] t g Q := by
  intro m
  induction m with
  | zero =>
    intro k g hk hX hQ
    obtain ⟨x1, x2, x3, x4, x5⟩ := MX_f hX
    rw [x_123_2]
    simp only [x_123_3, x_123_4, x_123_7, hkJK_66, hkJK_76, hkJK_77, jA_66_19, jA_66_20, jL_76, jL_77, jR_66_19, jR_66_20, hkP1_0, hkP1_2, hkP1_u, hkC8, List.map_cons, List.map_nil, List.sum_cons, List.sum_nil, hkCat_0, hkCat_1, hkCat_2, Nat.reduceAdd, Nat.reduceLeDiff, hkPush_s, hkPush_n, true_and, and_true, implies_true, true_implies, not_true_eq_false, not_false_eq_true, false_implies, hkTf_0, hkTf_n1, hkOr01, hkOr11, Int.reduceEq, Int.reduceLT, Int.reduceLE, hk102a, hk102b, hk102c, Nat.reduceEqDiff, or_true, true_or, or_false, false_or, and_false, false_and, Classical.not_not, true_implies, List.set_cons_zero, List.set_cons_succ, ne_eq, hkLe_t ht, x3]
    have := hQ g (fun _ _ => rfl) (fun x _ _ => by omega) (fun _ _ => rfl)
    rw [show bxC R N = (k : Int) from by omega] at this ⊢
    exact ⟨fun _ => this, fun h => absurd (by omega) h⟩
  | succ m ih =>
    intro k g hk hX hQ
    have hc := bx_C hX.1
    obtain ⟨x1, x2, x3, x4, x5⟩ := MX_f hX
    have hw : hkW ((k : Int) + 1) = ((k + 1 : Nat) : Int) := by rw [hkW_in (by omega) (by omega)]; omega
    rw [x_123_2]
    simp only [x_123_3, x_123_4, x_123_7, x_123_10, x_123_11, x_123_14, x_123_15, x_123_16, x_123_17, x_123_20, hkJK_66, hkJK_76, hkJK_77, jA_66_19, jA_66_20, jL_76, jL_77, jR_66_19, jR_66_20, hkP1_0, hkP1_2, hkP1_u, hkC8, List.map_cons, List.map_nil, List.sum_cons, List.sum_nil, hkCat_0, hkCat_1, hkCat_2, Nat.reduceAdd, Nat.reduceLeDiff, hkPush_s, hkPush_n, true_and, and_true, implies_true, true_implies, not_true_eq_false, not_false_eq_true, false_implies, hkTf_0, hkTf_n1, hkOr01, hkOr11, Int.reduceEq, Int.reduceLT, Int.reduceLE, hk102a, hk102b, hk102c, Nat.reduceEqDiff, or_true, true_or, or_false, false_or, and_false, false_and, Classical.not_not, true_implies, List.set_cons_zero, List.set_cons_succ, ne_eq, hkLe_t ht, x3, hw]
    clear hw
    refine ⟨fun h => absurd h (by omega), fun _ => ⟨by omega, ?_⟩⟩
    refine ih (k + 1) _ (by omega) (MX_row hX (fun _ _ => by rw [hkSet_row (by decide)]) (hkSet_row (by decide)) (hkSet_row (by decide)) (hkSet_row (by decide))) (fun g' k1 k2 k3 => hQ g' (fun q hq => by rw [k1 q hq, hkSet_row hq]) (fun x h0 h1 => ?_) (fun x hx => ?_))
    · by_cases e : x = k
      · rw [e, k3 _ (by omega), hkSet_rd, if_pos ⟨rfl, rfl⟩]
      · exact k2 x (by omega) h1
    · rw [k3 x (by omega), hkSet_rd, if_neg (by omega)]
theorem l_tm3 (ht : 190 ≤ t) {n : Int} : ∀ (m k : Nat) (g : hkG), (k : Int) + m = bxC R N → MX g R N →
    (∀ g' : hkG, (∀ q : Int, q ≠ 76 → g' q = g q) → (∀ x : Int, k ≤ x → x < bxC R N → g' 76 x = g 77 x) → (∀ x : Int, x < k → g' 76 x = g 76 x) → Q none t g') →
    Xp 123 d 82 [(2, 66), (0, n), (0, (k : Int))] [] t g Q := by
  intro m
  induction m with
  | zero =>
    intro k g hk hX hQ
    obtain ⟨x1, x2, x3, x4, x5⟩ := MX_f hX
    rw [x_123_82]
    simp only [x_123_83, x_123_84, x_123_87, hkJK_66, hkJK_76, hkJK_77, jA_66_19, jA_66_20, jL_76, jL_77, jR_66_19, jR_66_20, hkP1_0, hkP1_2, hkP1_u, hkC8, List.map_cons, List.map_nil, List.sum_cons, List.sum_nil, hkCat_0, hkCat_1, hkCat_2, Nat.reduceAdd, Nat.reduceLeDiff, hkPush_s, hkPush_n, true_and, and_true, implies_true, true_implies, not_true_eq_false, not_false_eq_true, false_implies, hkTf_0, hkTf_n1, hkOr01, hkOr11, Int.reduceEq, Int.reduceLT, Int.reduceLE, hk102a, hk102b, hk102c, Nat.reduceEqDiff, or_true, true_or, or_false, false_or, and_false, false_and, Classical.not_not, true_implies, List.set_cons_zero, List.set_cons_succ, ne_eq, x_123_108, hkJK_66, hkJK_76, hkJK_77, jA_66_19, jA_66_20, jL_76, jL_77, jR_66_19, jR_66_20, hkP1_0, hkP1_2, hkP1_u, hkC8, List.map_cons, List.map_nil, List.sum_cons, List.sum_nil, hkCat_0, hkCat_1, hkCat_2, Nat.reduceAdd, Nat.reduceLeDiff, hkPush_s, hkPush_n, true_and, and_true, implies_true, true_implies, not_true_eq_false, not_false_eq_true, false_implies, hkTf_0, hkTf_n1, hkOr01, hkOr11, Int.reduceEq, Int.reduceLT, Int.reduceLE, hk102a, hk102b, hk102c, Nat.reduceEqDiff, or_true, true_or, or_false, false_or, and_false, false_and, Classical.not_not, true_implies, List.set_cons_zero, List.set_cons_succ, ne_eq, hkLe_t ht, x3]
    exact ⟨fun _ => hQ g (fun _ _ => rfl) (fun x _ _ => by omega) (fun _ _ => rfl), fun h => absurd (by omega) h⟩
  | succ m ih =>
    intro k g hk hX hQ
    have hc := bx_C hX.1
    obtain ⟨x1, x2, x3, x4, x5⟩ := MX_f hX
    have hw : hkW ((k : Int) + 1) = ((k + 1 : Nat) : Int) := by rw [hkW_in (by omega) (by omega)]; omega
    rw [x_123_82]
    simp only [x_123_83, x_123_84, x_123_87, x_123_90, x_123_91, x_123_94, x_123_95, x_123_96, x_123_99, x_123_100, x_123_101, x_123_102, x_123_105, hkJK_66, hkJK_76, hkJK_77, jA_66_19, jA_66_20, jL_76, jL_77, jR_66_19, jR_66_20, hkP1_0, hkP1_2, hkP1_u, hkC8, List.map_cons, List.map_nil, List.sum_cons, List.sum_nil, hkCat_0, hkCat_1, hkCat_2, Nat.reduceAdd, Nat.reduceLeDiff, hkPush_s, hkPush_n, true_and, and_true, implies_true, true_implies, not_true_eq_false, not_false_eq_true, false_implies, hkTf_0, hkTf_n1, hkOr01, hkOr11, Int.reduceEq, Int.reduceLT, Int.reduceLE, hk102a, hk102b, hk102c, Nat.reduceEqDiff, or_true, true_or, or_false, false_or, and_false, false_and, Classical.not_not, true_implies, List.set_cons_zero, List.set_cons_succ, ne_eq, hkLe_t ht, x3, hw]
    clear hw
    refine ⟨fun h => absurd h (by omega), fun _ => ⟨by omega, by omega, ?_⟩⟩
    refine ih (k + 1) _ (by omega) (MX_row hX (fun _ _ => by rw [hkSet_row (by decide)]) (hkSet_row (by decide)) (hkSet_row (by decide)) (hkSet_row (by decide))) (fun g' k1 k2 k3 => hQ g' (fun q hq => by rw [k1 q hq, hkSet_row hq]) (fun x h0 h1 => ?_) (fun x hx => ?_))
    · by_cases e : x = k
      · rw [e, k3 _ (by omega), hkSet_rd, if_pos ⟨rfl, rfl⟩]
      · rw [k2 x (by omega) h1, hkSet_row (by decide)]
    · rw [k3 x (by omega), hkSet_rd, if_neg (by omega)]
theorem l_tm2 (ht : 190 ≤ t) {n : Int} (hn : -100 ≤ n ∧ n ≤ 100) {v : Int → Int} (hv : ∀ k : Int, 0 ≤ k → k < bxC R N → -1000 ≤ v k ∧ v k ≤ 1000) : ∀ (m k : Nat) (g : hkG), (k : Int) + m = bxC R N → MX g R N → (∀ x : Int, 0 ≤ x → x < bxC R N → g 76 x = v x) → (∀ x : Int, 0 ≤ x → x < bxC R N → g 77 x = tmS R N n v x k) → (∀ x : Int, 0 ≤ x → x < bxC R N → -(40000 * (k : Int)) ≤ g 77 x ∧ g 77 x ≤ 40000 * k) →
    (∀ g' : hkG, msKeep g g' → (∀ x : Int, 0 ≤ x → x < bxC R N → g' 77 x = tmV R N n v x) → (∀ x : Int, 0 ≤ x → x < bxC R N → -(40000 * bxC R N) ≤ g' 77 x ∧ g' 77 x ≤ 40000 * bxC R N) → Xp 123 (d + 5) 80 [(2, 66), (0, n), (0, bxC R N)] [] t g' Q) →
    Xp 123 (d + 5) 25 [(2, 66), (0, n), (0, (k : Int))] [] t g Q := by
  intro m
  induction m with
  | zero =>
    intro k g hk hX h76 h77 hB hQ
    have e : bxC R N = (k : Int) := by omega
    obtain ⟨x1, x2, x3, x4, x5⟩ := MX_f hX
    rw [x_123_25]
    simp only [x_123_26, x_123_27, x_123_30, hkJK_66, hkJK_76, hkJK_77, jA_66_19, jA_66_20, jL_76, jL_77, jR_66_19, jR_66_20, hkP1_0, hkP1_2, hkP1_u, hkC8, List.map_cons, List.map_nil, List.sum_cons, List.sum_nil, hkCat_0, hkCat_1, hkCat_2, Nat.reduceAdd, Nat.reduceLeDiff, hkPush_s, hkPush_n, true_and, and_true, implies_true, true_implies, not_true_eq_false, not_false_eq_true, false_implies, hkTf_0, hkTf_n1, hkOr01, hkOr11, Int.reduceEq, Int.reduceLT, Int.reduceLE, hk102a, hk102b, hk102c, Nat.reduceEqDiff, or_true, true_or, or_false, false_or, and_false, false_and, Classical.not_not, true_implies, List.set_cons_zero, List.set_cons_succ, ne_eq, hkLe_t ht, x3]
    have := hQ g msKeep_r (fun x h0 h1 => by unfold tmV; rw [e, Int.toNat_natCast]; exact h77 x h0 h1) (fun x h0 h1 => by rw [e]; exact hB x h0 h1)
    rw [e] at this ⊢
    exact ⟨fun _ => this, fun h => absurd (by omega) h⟩
  | succ m ih =>
    intro k g hk hX h76 h77 hB hQ
    have hb := hX.1
    obtain ⟨b1, b2, b3, b4⟩ := id hb
    have hc := bx_C hb
    obtain ⟨x1, x2, x3, x4, x5⟩ := MX_f hX
    have hvk := hv k (by omega) (by omega)
    have h76k := h76 k (by omega) (by omega)
    obtain ⟨hw, e1, e2⟩ : hkW ((k : Int) + 1) = ((k + 1 : Nat) : Int) ∧ hkW (N - R) = N - R ∧ hkW (R - 1) = R - 1 := ⟨by rw [hkW_in (by omega) (by omega)]; omega, hkW_in (by omega) (by omega), hkW_in (by omega) (by omega)⟩
    rw [x_123_25]
    simp only [x_123_26, x_123_27, x_123_30, x_123_33, x_123_34, x_123_37, x_123_38, x_123_39, x_123_42, x_123_43, x_123_44, x_123_45, x_123_46, x_123_49, x_123_50, x_123_53, x_123_56, x_123_57, x_123_58, x_123_59, x_123_62, x_123_63, x_123_64, x_123_65, x_123_66, x_123_69, x_123_70, x_123_71, x_123_74, x_123_77, hkJK_66, hkJK_76, hkJK_77, jA_66_19, jA_66_20, jL_76, jL_77, jR_66_19, jR_66_20, hkP1_0, hkP1_2, hkP1_u, hkC8, List.map_cons, List.map_nil, List.sum_cons, List.sum_nil, hkCat_0, hkCat_1, hkCat_2, Nat.reduceAdd, Nat.reduceLeDiff, hkPush_s, hkPush_n, true_and, and_true, implies_true, true_implies, not_true_eq_false, not_false_eq_true, false_implies, hkTf_0, hkTf_n1, hkOr01, hkOr11, Int.reduceEq, Int.reduceLT, Int.reduceLE, hk102a, hk102b, hk102c, Nat.reduceEqDiff, or_true, true_or, or_false, false_or, and_false, false_and, Classical.not_not, true_implies, List.set_cons_zero, List.set_cons_succ, ne_eq, hkLe_t ht, x1, x2, x3, h76k, sx_mWidth, e1, sx_mIsIn, e2, hw]
    clear hw e1 e2
    have hS : ∀ x : Int, tmS R N n v x (k + 1) = tmS R N n v x k + tmC R N n v x k := fun _ => rfl
    have SKIP : (∀ x : Int, tmC R N n v x k = 0) → Xp 123 (d + 5) 25 [(2, 66), (0, n), (0, ((k + 1 : Nat) : Int))] [] t g Q := by
      intro h0
      exact ih (k + 1) g (by omega) hX h76 (fun x a1 a2 => by rw [hS, h0, h77 x a1 a2]; omega) (fun x a1 a2 => by have := hB x a1 a2; omega) hQ
    refine ⟨fun h => absurd h (by omega), fun _ => ⟨by omega, fun h => SKIP (fun x => by unfold tmC; rw [h]; split <;> simp), fun h => ⟨fun h2 => SKIP (fun x => by unfold tmC; rw [if_neg h2]), fun h2 => ⟨by omega, ?_⟩⟩⟩⟩
    obtain ⟨st1, st2⟩ := st_all hb (i := (k : Int)) (n := n) (by omega) (by omega) h2.1 h2.2
    have hr2 : (((R - 1).toNat : Nat) : Int) = R - 1 := by omega
    have hst : st0 R N (k : Int) n = stL R N (k : Int) (R - 1).toNat n (fun _ => 0) := rfl
    generalize (R - 1).toNat = r at hr2 hst
    rw [hst] at st1 st2
    have hlen : ((stL R N (k : Int) r n (fun _ => 0)).length : Int) ≤ 40 := by exact_mod_cast st2
    obtain ⟨D, hD⟩ : ∃ D, d + 4 = D + r + 1 := ⟨d + 3 - r, by omega⟩
    rw [← hr2, hD]
    refine l_mstrips (d := D) (b := v k) ht hb (i := (k : Int)) (by omega) (by omega) hvk r n (fun _ => 0) g (40000 * (k : Int)) _ (by omega) h2.1 (by omega) (fun j j1 j2 => by omega) hX (by omega) (by omega) hB (fun q hq => by have := st1 q hq; exact ⟨this.1, this.2.1, this.2.2.1⟩) (fun g' k1 k2 k3 => ?_)
    have hkp : hkPush none [] = [] := rfl
    rw [hkp, ← hD]
    refine ih (k + 1) g' (by omega) (msKeep_X k1 hX) (fun x a1 a2 => by rw [k1.1 76 (by decide) (by decide) (by decide) (by decide)]; exact h76 x a1 a2) (fun x a1 a2 => ?_) (fun x a1 a2 => ?_) (fun g2 l1 l2 l3 => hQ g2 (msKeep_t k1 l1) l2 l3)
    · rw [k3 x a1 a2, h77 x a1 a2, hS]
      unfold tmC
      rw [if_pos h2, hst]
    · have h3 := by_sum (h := fun sh => sh) (k := x) hvk (stL R N (k : Int) r n (fun _ => 0)) (fun q hq => (st1 q hq).2.2.1)
      have h5 := hB x a1 a2
      rw [k3 x a1 a2]
      omega
theorem sx_mtimesRow {g : hkG} (ht : 190 ≤ t) (hX : MX g R N) {n : Int} (hn : -100 ≤ n ∧ n ≤ 100) {v : Int → Int} (hv : ∀ k : Int, 0 ≤ k → k < bxC R N → -1000 ≤ v k ∧ v k ≤ 1000) (h76 : ∀ x : Int, 0 ≤ x → x < bxC R N → g 76 x = v x)
    (hQ : ∀ g' : hkG, tmKeep g g' → (∀ x : Int, 0 ≤ x → x < bxC R N → g' 76 x = tmV R N n v x) → Q none t g') :
    Xp 123 (d + 5) 0 [(2, 66), (0, n), hkU] [] t g Q := by
  have hc := bx_C hX.1
  simp only [x_123_0, x_123_1, hkJK_66, hkJK_76, hkJK_77, jA_66_19, jA_66_20, jL_76, jL_77, jR_66_19, jR_66_20, hkP1_0, hkP1_2, hkP1_u, hkC8, List.map_cons, List.map_nil, List.sum_cons, List.sum_nil, hkCat_0, hkCat_1, hkCat_2, Nat.reduceAdd, Nat.reduceLeDiff, hkPush_s, hkPush_n, true_and, and_true, implies_true, true_implies, not_true_eq_false, not_false_eq_true, false_implies, hkTf_0, hkTf_n1, hkOr01, hkOr11, Int.reduceEq, Int.reduceLT, Int.reduceLE, hk102a, hk102b, hk102c, Nat.reduceEqDiff, or_true, true_or, or_false, false_or, and_false, false_and, Classical.not_not, true_implies, List.set_cons_zero, List.set_cons_succ, ne_eq]
  refine l_tm1 ht (bxC R N).toNat 0 g (by omega) hX (fun g1 k1 k2 k3 => ?_)
  have hX1 : MX g1 R N := MX_row hX (fun _ _ => by rw [k1 66 (by decide)]) (k1 67 (by decide)) (k1 68 (by decide)) (k1 69 (by decide))
  simp only [x_123_23, x_123_24, hkJK_66, hkJK_76, hkJK_77, jA_66_19, jA_66_20, jL_76, jL_77, jR_66_19, jR_66_20, hkP1_0, hkP1_2, hkP1_u, hkC8, List.map_cons, List.map_nil, List.sum_cons, List.sum_nil, hkCat_0, hkCat_1, hkCat_2, Nat.reduceAdd, Nat.reduceLeDiff, hkPush_s, hkPush_n, true_and, and_true, implies_true, true_implies, not_true_eq_false, not_false_eq_true, false_implies, hkTf_0, hkTf_n1, hkOr01, hkOr11, Int.reduceEq, Int.reduceLT, Int.reduceLE, hk102a, hk102b, hk102c, Nat.reduceEqDiff, or_true, true_or, or_false, false_or, and_false, false_and, Classical.not_not, true_implies, List.set_cons_zero, List.set_cons_succ, ne_eq]
  refine l_tm2 ht hn hv (bxC R N).toNat 0 g1 (by omega) hX1 (fun x a1 a2 => by rw [k1 76 (by decide)]; exact h76 x a1 a2) (fun x a1 a2 => by rw [k2 x (by omega) a2]; rfl) (fun x a1 a2 => by rw [k2 x (by omega) a2]; omega) (fun g2 l1 l2 l3 => ?_)
  have hX2 := msKeep_X l1 hX1
  simp only [x_123_80, x_123_81, hkJK_66, hkJK_76, hkJK_77, jA_66_19, jA_66_20, jL_76, jL_77, jR_66_19, jR_66_20, hkP1_0, hkP1_2, hkP1_u, hkC8, List.map_cons, List.map_nil, List.sum_cons, List.sum_nil, hkCat_0, hkCat_1, hkCat_2, Nat.reduceAdd, Nat.reduceLeDiff, hkPush_s, hkPush_n, true_and, and_true, implies_true, true_implies, not_true_eq_false, not_false_eq_true, false_implies, hkTf_0, hkTf_n1, hkOr01, hkOr11, Int.reduceEq, Int.reduceLT, Int.reduceLE, hk102a, hk102b, hk102c, Nat.reduceEqDiff, or_true, true_or, or_false, false_or, and_false, false_and, Classical.not_not, true_implies, List.set_cons_zero, List.set_cons_succ, ne_eq]
  refine l_tm3 ht (bxC R N).toNat 0 g2 (by omega) hX2 (fun g3 m1 m2 m3 => hQ g3 ⟨fun q q1 q2 q3 q4 q5 => by rw [m1 q q3, l1.1 q q1 q2 q4 q5, k1 q q4], fun k q1 q2 q3 => by rw [m1 66 (by decide), l1.2 k q1 q2 q3, k1 66 (by decide)]⟩ (fun x a1 a2 => by rw [m2 x (by omega) a2, l2 x a1 a2]))
end SP
