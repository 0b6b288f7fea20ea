/-! Products: a row of slots times a strip, walked -/
section SP
variable {t d : Nat} {R N : Int}
theorem l_mpIn (ht : 35 ≤ t) (hb : bxOk R N) {a q n x o i V : Int} (ha0 : 0 ≤ a) (ha : a ≤ 3) (hi0 : 0 ≤ i) (hi : i < bxC R N) (hn0 : 0 ≤ n) (hn : n ≤ N - R) (ho : -100000 ≤ o ∧ o ≤ 100000) (hV : 0 ≤ V ∧ V ≤ 1000000000) : ∀ (m : Nat) (s : Int) (g : hkG) (Q : Option hkV → Nat → hkG → Prop), s + m = 5 → 0 ≤ s → PST g R N → (∀ k : Int, 5 * a + 5 + s ≤ k → k < 5 * a + 10 → -V ≤ g 15 k ∧ g 15 k ≤ V) →
    (∀ g' : hkG, (∀ p : Int, p ≠ 15 → g' p = g p) → (∀ k : Int, k < 5 * a + 5 + s ∨ 5 * a + 10 ≤ k → g' 15 k = g 15 k) → (∀ s' : Int, s ≤ s' → s' < 5 → g' 15 (5 * a + 5 + s') = g 15 (5 * a + 5 + s') + o * SV R N i n s') → Xp 56 (d + 1) 123 [(2, 12), (0, a), (0, q), (0, n), (0, 5 * a), (0, 5 * a + 5), (0, x), (0, o), (0, (i * 7 + n) * 5), (0, 5)] [] t g' Q) →
    Xp 56 (d + 1) 85 [(2, 12), (0, a), (0, q), (0, n), (0, 5 * a), (0, 5 * a + 5), (0, x), (0, o), (0, (i * 7 + n) * 5), (0, s)] [] t g Q := by
  obtain ⟨b1, b2, b3, b4⟩ := id hb
  obtain ⟨c1, c2⟩ := bx_C hb
  intro m
  induction m with
  | zero =>
    intro s g Q hs h0 hP hg hQ
    rw [show s = 5 from by omega] at hQ ⊢
    rw [x_56_85]
    simp only [x_56_87, x_56_88, hkJK_1, hkJK_12, hkJK_13, hkJK_15, hkJK_5, hkJK_6, jA_12_0, jA_12_2, jA_12_4, jA_1_7, jA_1_8, jL_13, jL_15, jL_5, jL_6, jR_12_0, jR_12_2, jR_12_4, jR_1_7, jR_1_8, hkP1_0, hkP1_2, hkP1_u, hkC8, List.map_cons, List.map_nil, List.sum_cons, List.sum_nil, hkCat_0, hkCat_1, hkCat_2, Nat.reduceAdd, Nat.reduceLeDiff, hkPush_s, hkPush_n, true_and, and_true, implies_true, true_implies, not_true_eq_false, not_false_eq_true, false_implies, hkTf_0, hkTf_n1, hkOr01, hkOr11, Int.reduceEq, Int.reduceLT, Int.reduceLE, hk102a, hk102b, hk102c, Nat.reduceEqDiff, or_true, true_or, or_false, false_or, and_false, false_and, Classical.not_not, true_implies, List.set_cons_zero, List.set_cons_succ, ne_eq]
    exact hQ g (fun _ _ => rfl) (fun _ _ => rfl) (fun s' a1 a2 => by omega)
  | succ m ih =>
    intro s g Q hs h0 hP hg hQ
    have h1 := sv_01 hb hi0 hi hn0 hn h0 (show s < 5 by omega)
    have h2 := hg (5 * a + 5 + s) (by omega) (by omega)
    have h3 := hP i n s hi0 hi hn0 hn h0 (by omega)
    have h4 : -100000 ≤ o * SV R N i n s ∧ o * SV R N i n s ≤ 100000 := by
      rcases (show SV R N i n s = 0 ∨ SV R N i n s = 1 by omega) with h5 | h5 <;> rw [h5] <;> omega
    obtain ⟨e1, e2, e3, e4, e5⟩ : hkW (5 * a + 5 + s) = 5 * a + 5 + s ∧ hkW ((i * 7 + n) * 5 + s) = (i * 7 + n) * 5 + s ∧ hkW (o * SV R N i n s) = o * SV R N i n s ∧ hkW (g 15 (5 * a + 5 + s) + o * SV R N i n s) = g 15 (5 * a + 5 + s) + o * SV R N i n s ∧ hkW (s + 1) = s + 1 := ⟨hkW_in (by omega) (by omega), hkW_in (by omega) (by omega), hkW_in (by omega) (by omega), hkW_in (by omega) (by omega), hkW_in (by omega) (by omega)⟩
    rw [x_56_85]
    simp only [x_56_87, x_56_88, x_56_91, x_56_92, x_56_95, x_56_97, x_56_99, x_56_100, x_56_101, x_56_102, x_56_104, x_56_105, x_56_108, x_56_110, x_56_112, x_56_113, x_56_114, x_56_115, x_56_116, x_56_117, x_56_120, hkJK_1, hkJK_12, hkJK_13, hkJK_15, hkJK_5, hkJK_6, jA_12_0, jA_12_2, jA_12_4, jA_1_7, jA_1_8, jL_13, jL_15, jL_5, jL_6, jR_12_0, jR_12_2, jR_12_4, jR_1_7, jR_1_8, hkP1_0, hkP1_2, hkP1_u, hkC8, List.map_cons, List.map_nil, List.sum_cons, List.sum_nil, hkCat_0, hkCat_1, hkCat_2, Nat.reduceAdd, Nat.reduceLeDiff, hkPush_s, hkPush_n, true_and, and_true, implies_true, true_implies, not_true_eq_false, not_false_eq_true, false_implies, hkTf_0, hkTf_n1, hkOr01, hkOr11, Int.reduceEq, Int.reduceLT, Int.reduceLE, hk102a, hk102b, hk102c, Nat.reduceEqDiff, or_true, true_or, or_false, false_or, and_false, false_and, Classical.not_not, true_implies, List.set_cons_zero, List.set_cons_succ, ne_eq, hkLe_t ht, e1, e2, h3, e3, e4, e5]
    clear e1 e2 e3 e4 e5
    refine ⟨fun h => by omega, fun _ => ⟨⟨by omega, by omega⟩, ⟨by omega, by omega⟩, ⟨by omega, by omega⟩, ?_⟩⟩
    refine ih (s + 1) _ Q (by omega) (by omega) (fun i' n' s' q1 q2 q3 q4 q5 q6 => by rw [hkSet_row (by decide)]; exact hP i' n' s' q1 q2 q3 q4 q5 q6) (fun k k1 k2 => by rw [hkSet_rd, if_neg (by omega)]; exact hg k (by omega) k2) (fun g' k1 k2 k3 => hQ g' (fun p hp => by rw [k1 p hp]; exact hkSet_row hp) (fun k hk => ?_) (fun s' s1 s2 => ?_))
    · rw [k2 k (by omega), hkSet_rd, if_neg (by omega)]
    · by_cases e : s' = s
      · rw [k2 _ (by omega), hkSet_rd, if_pos (by omega), e]
      · rw [k3 s' (by omega) s2, hkSet_rd, if_neg (by omega)]
theorem l_mpOut (ht : 35 ≤ t) {g0 : hkG} {a q n V : Int} (ha0 : 0 ≤ a) (ha : a ≤ 3) (hq0 : 0 ≤ q) (hq : q < N) (hn0 : 0 ≤ n) (hn : n ≤ N - R) (hV : 0 ≤ V ∧ V ≤ 100000) (hv : ∀ x : Int, 0 ≤ x → x < 5 → -V ≤ g0 15 (5 * a + x) ∧ g0 15 (5 * a + x) ≤ V) : ∀ (m x : Nat) (g : hkG) (v7 v8 v9 : hkV) (Q : Option hkV → Nat → hkG → Prop), x + m = bxK R N q → hkP1 v7 → hkP1 v8 → BX g R N → PST g R N → (∀ x : Int, 0 ≤ x → x < 5 → g 15 (5 * a + x) = g0 15 (5 * a + x)) → (∀ s : Int, 0 ≤ s → s < 5 → g 15 (5 * a + 5 + s) = mpS R N q n (fun x => g0 15 (5 * a + x)) s x) →
    (∀ g' : hkG, (∀ p : Int, p ≠ 15 → g' p = g p) → (∀ k : Int, k < 5 * a + 5 ∨ 5 * a + 10 ≤ k → g' 15 k = g 15 k) → (∀ s : Int, 0 ≤ s → s < 5 → g' 15 (5 * a + 5 + s) = mpV R N q n (fun x => g0 15 (5 * a + x)) s) → Q none t g') →
    Xp 56 (d + 1) 28 [(2, 12), (0, a), (0, q), (0, n), (0, 5 * a), (0, 5 * a + 5), (0, (x : Int)), v7, v8, v9] [] t g Q := by
  intro m
  induction m with
  | zero =>
    intro x g v7 v8 v9 Q hm p7 p8 hX hP h1 h2 hQ
    obtain ⟨x1, x2, x3, x4, x5, x6, x7, x8⟩ := BX_f hX
    have hk : g 6 q = x := by rw [x7 q hq0 hq]; have := (bxCq_0 (R := R) (N := N) (q := q) (bxC R N).toNat).1; unfold bxK at hm; omega
    rw [x_56_28]
    simp only [x_56_30, x_56_31, x_56_34, x_56_37, x_56_38, x_56_39, hkJK_1, hkJK_12, hkJK_13, hkJK_15, hkJK_5, hkJK_6, jA_12_0, jA_12_2, jA_12_4, jA_1_7, jA_1_8, jL_13, jL_15, jL_5, jL_6, jR_12_0, jR_12_2, jR_12_4, jR_1_7, jR_1_8, hkP1_0, hkP1_2, hkP1_u, hkC8, List.map_cons, List.map_nil, List.sum_cons, List.sum_nil, hkCat_0, hkCat_1, hkCat_2, Nat.reduceAdd, Nat.reduceLeDiff, hkPush_s, hkPush_n, true_and, and_true, implies_true, true_implies, not_true_eq_false, not_false_eq_true, false_implies, hkTf_0, hkTf_n1, hkOr01, hkOr11, Int.reduceEq, Int.reduceLT, Int.reduceLE, hk102a, hk102b, hk102c, Nat.reduceEqDiff, or_true, true_or, or_false, false_or, and_false, false_and, Classical.not_not, true_implies, List.set_cons_zero, List.set_cons_succ, ne_eq, hkLe_t ht, hk, x_56_129]
    have := hX.1.2.2.2
    refine ⟨by omega, fun _ => hQ g (fun _ _ => rfl) (fun _ _ => rfl) (fun s s0 s1 => ?_), fun h => absurd (Int.le_refl _) h⟩
    rw [h2 s s0 s1, show x = bxK R N q from by omega]; rfl
  | succ m ih =>
    intro x g v7 v8 v9 Q hm p7 p8 hX hP h1 h2 hQ
    obtain ⟨x1, x2, x3, x4, x5, x6, x7, x8⟩ := BX_f hX
    have hb := hX.1
    obtain ⟨b1, b2, b3, b4⟩ := id hb
    obtain ⟨c1, c2⟩ := bx_C hb
    obtain ⟨y1, y2⟩ := bx_A hb hq0 hq
    obtain ⟨y3, y4, y5, y6⟩ := y2 x (by omega)
    have hk : g 6 q = bxK R N q := by rw [x7 q hq0 hq]; have := (bxCq_0 (R := R) (N := N) (q := q) (bxC R N).toNat).1; unfold bxK; omega
    have hal : g 5 (q * 5 + x) = bxA R N q x := by
      have := (x6 _ y3 y4).2.2.2
      rw [y5, y6, show 5 * q + (x : Int) = q * 5 + x from by omega] at this
      exact this
    have hvx := hv x (by omega) (by omega)
    have hgx := h1 x (by omega) (by omega)
    obtain ⟨e1, e2, e3, e4, e5, e6⟩ : hkW (5 * a + (x : Int)) = 5 * a + x ∧ hkW (q * 5) = q * 5 ∧ hkW (q * 5 + (x : Int)) = q * 5 + x ∧ hkW (bxA R N q x * 7) = bxA R N q x * 7 ∧ hkW (bxA R N q x * 7 + n) = bxA R N q x * 7 + n ∧ hkW ((bxA R N q x * 7 + n) * 5) = (bxA R N q x * 7 + n) * 5 := ⟨hkW_in (by omega) (by omega), hkW_in (by omega) (by omega), hkW_in (by omega) (by omega), hkW_in (by omega) (by omega), hkW_in (by omega) (by omega), hkW_in (by omega) (by omega)⟩
    have hxN : hkW ((x : Int) + 1) = ((x + 1 : Nat) : Int) := by rw [hkW_in (by omega) (by omega)]; omega
    have hstep : ∀ s : Int, mpS R N q n (fun x => g0 15 (5 * a + x)) s (x + 1) = mpS R N q n (fun x => g0 15 (5 * a + x)) s x + g0 15 (5 * a + x) * SV R N (bxA R N q x) n s := fun s => rfl
    rw [x_56_28]
    simp only [x_56_30, x_56_31, x_56_34, x_56_37, x_56_38, x_56_39, x_56_42, x_56_43, x_56_46, x_56_48, x_56_50, x_56_51, x_56_52, x_56_54, x_56_55, x_56_58, x_56_61, x_56_62, x_56_63, x_56_64, x_56_66, x_56_67, x_56_68, x_56_70, x_56_71, x_56_72, x_56_73, x_56_74, x_56_75, x_56_77, x_56_79, x_56_82, x_56_83, hkJK_1, hkJK_12, hkJK_13, hkJK_15, hkJK_5, hkJK_6, jA_12_0, jA_12_2, jA_12_4, jA_1_7, jA_1_8, jL_13, jL_15, jL_5, jL_6, jR_12_0, jR_12_2, jR_12_4, jR_1_7, jR_1_8, hkP1_0, hkP1_2, hkP1_u, hkC8, List.map_cons, List.map_nil, List.sum_cons, List.sum_nil, hkCat_0, hkCat_1, hkCat_2, Nat.reduceAdd, Nat.reduceLeDiff, hkPush_s, hkPush_n, true_and, and_true, implies_true, true_implies, not_true_eq_false, not_false_eq_true, false_implies, hkTf_0, hkTf_n1, hkOr01, hkOr11, Int.reduceEq, Int.reduceLT, Int.reduceLE, hk102a, hk102b, hk102c, Nat.reduceEqDiff, or_true, true_or, or_false, false_or, and_false, false_and, Classical.not_not, true_implies, List.set_cons_zero, List.set_cons_succ, ne_eq, x_56_123, x_56_126, hkJK_1, hkJK_12, hkJK_13, hkJK_15, hkJK_5, hkJK_6, jA_12_0, jA_12_2, jA_12_4, jA_1_7, jA_1_8, jL_13, jL_15, jL_5, jL_6, jR_12_0, jR_12_2, jR_12_4, jR_1_7, jR_1_8, hkP1_0, hkP1_2, hkP1_u, hkC8, List.map_cons, List.map_nil, List.sum_cons, List.sum_nil, hkCat_0, hkCat_1, hkCat_2, Nat.reduceAdd, Nat.reduceLeDiff, hkPush_s, hkPush_n, true_and, and_true, implies_true, true_implies, not_true_eq_false, not_false_eq_true, false_implies, hkTf_0, hkTf_n1, hkOr01, hkOr11, Int.reduceEq, Int.reduceLT, Int.reduceLE, hk102a, hk102b, hk102c, Nat.reduceEqDiff, or_true, true_or, or_false, false_or, and_false, false_and, Classical.not_not, true_implies, List.set_cons_zero, List.set_cons_succ, ne_eq, hkLe_t ht, hk, e1, e2, e3, hal, e4, e5, e6, hgx, hxN]
    clear e1 e2 e3 e4 e5 e6 hxN
    refine ⟨by omega, fun h => by omega, fun _ => ⟨⟨by omega, by omega⟩, ⟨by omega, by omega⟩, fun hz => ?_, fun hz => ?_⟩⟩
    · refine ih (x + 1) g _ _ _ Q (by omega) (by unfold hkP1; simp) (by unfold hkP1; simp) hX hP h1 (fun s s0 s1 => ?_) hQ
      rw [hstep, hz, Int.zero_mul, h2 s s0 s1]; omega
    · have hmb : ∀ s : Int, 0 ≤ s → s < 5 → -1000000 ≤ g 15 (5 * a + 5 + s) ∧ g 15 (5 * a + 5 + s) ≤ 1000000 := by
        intro s s0 s1
        rw [h2 s s0 s1]
        have := mpS_le hb hq0 hq hn0 hn s0 s1 hV.1 hv x (by omega)
        have h5 : (x : Int) * V ≤ 5 * V := Int.mul_le_mul_of_nonneg_right (by omega) hV.1
        omega
      refine l_mpIn ht hb ha0 ha y3 y4 hn0 hn (by omega) (V := 1000000) (by omega) 5 0 g Q (by omega) (by omega) hP (fun k k1 k2 => ?_) (fun g1 k1 k2 k3 => ?_)
      · have := hmb (k - (5 * a + 5)) (by omega) (by omega)
        rw [show 5 * a + 5 + (k - (5 * a + 5)) = k from by omega] at this
        exact this
      · have hxN : hkW ((x : Int) + 1) = ((x + 1 : Nat) : Int) := by rw [hkW_in (by omega) (by omega)]; omega
        simp only [x_56_123, x_56_126, hkJK_1, hkJK_12, hkJK_13, hkJK_15, hkJK_5, hkJK_6, jA_12_0, jA_12_2, jA_12_4, jA_1_7, jA_1_8, jL_13, jL_15, jL_5, jL_6, jR_12_0, jR_12_2, jR_12_4, jR_1_7, jR_1_8, hkP1_0, hkP1_2, hkP1_u, hkC8, List.map_cons, List.map_nil, List.sum_cons, List.sum_nil, hkCat_0, hkCat_1, hkCat_2, Nat.reduceAdd, Nat.reduceLeDiff, hkPush_s, hkPush_n, true_and, and_true, implies_true, true_implies, not_true_eq_false, not_false_eq_true, false_implies, hkTf_0, hkTf_n1, hkOr01, hkOr11, Int.reduceEq, Int.reduceLT, Int.reduceLE, hk102a, hk102b, hk102c, Nat.reduceEqDiff, or_true, true_or, or_false, false_or, and_false, false_and, Classical.not_not, true_implies, List.set_cons_zero, List.set_cons_succ, ne_eq, hxN]
        clear hxN
        refine ih (x + 1) g1 _ _ _ Q (by omega) (by unfold hkP1; simp) (by unfold hkP1; simp) (BX_row hX (fun p q1 q2 => k1 p (by omega))) (fun i' n' s' q1 q2 q3 q4 q5 q6 => by rw [k1 13 (by decide)]; exact hP i' n' s' q1 q2 q3 q4 q5 q6) (fun z z0 z1 => by rw [k2 _ (by omega)]; exact h1 z z0 z1) (fun s s0 s1 => ?_) (fun g2 l1 l2 l3 => hQ g2 (fun p hp => by rw [l1 p hp, k1 p hp]) (fun k hk => by rw [l2 k hk, k2 k (by omega)]) l3)
        rw [k3 s s0 s1, h2 s s0 s1, hstep]
theorem sx_multiplyPartial {g : hkG} {Q : Option hkV → Nat → hkG → Prop} (ht : 35 ≤ t) {a q n V : Int} (ha0 : 0 ≤ a) (ha : a ≤ 3) (hq0 : 0 ≤ q) (hq : q < N) (hn0 : 0 ≤ n) (hn : n ≤ N - R) (hV : 0 ≤ V ∧ V ≤ 100000) (hX : BX g R N) (hP : PST g R N) (hv : ∀ x : Int, 0 ≤ x → x < 5 → -V ≤ g 15 (5 * a + x) ∧ g 15 (5 * a + x) ≤ V)
    (hQ : ∀ g' : hkG, (∀ p : Int, p ≠ 15 → g' p = g p) → (∀ k : Int, k < 5 * a + 5 ∨ 5 * a + 10 ≤ k → g' 15 k = g 15 k) → (∀ s : Int, 0 ≤ s → s < 5 → g' 15 (5 * a + 5 + s) = mpV R N q n (fun x => g 15 (5 * a + x)) s) → Q none t g') :
    Xp 56 (d + 2) 0 [(2, 12), (0, a), (0, q), (0, n), hkU, hkU, hkU, hkU, hkU, hkU] [] t g Q := by
  obtain ⟨e1, e2, e3⟩ : hkW (a * 5) = 5 * a ∧ hkW (5 * a + 5) = 5 * a + 5 ∧ hkW (5 * a + 5 + 5) = 5 * a + 10 := ⟨by rw [hkW_in (by omega) (by omega)]; omega, hkW_in (by omega) (by omega), by rw [hkW_in (by omega) (by omega)]; omega⟩
  simp only [x_56_0, x_56_1, x_56_2, x_56_3, x_56_5, x_56_7, x_56_8, x_56_9, x_56_11, x_56_12, x_56_15, x_56_17, x_56_19, x_56_20, x_56_21, x_56_22, x_56_25, x_56_26, hkJK_1, hkJK_12, hkJK_13, hkJK_15, hkJK_5, hkJK_6, jA_12_0, jA_12_2, jA_12_4, jA_1_7, jA_1_8, jL_13, jL_15, jL_5, jL_6, jR_12_0, jR_12_2, jR_12_4, jR_1_7, jR_1_8, hkP1_0, hkP1_2, hkP1_u, hkC8, List.map_cons, List.map_nil, List.sum_cons, List.sum_nil, hkCat_0, hkCat_1, hkCat_2, Nat.reduceAdd, Nat.reduceLeDiff, hkPush_s, hkPush_n, true_and, and_true, implies_true, true_implies, not_true_eq_false, not_false_eq_true, false_implies, hkTf_0, hkTf_n1, hkOr01, hkOr11, Int.reduceEq, Int.reduceLT, Int.reduceLE, hk102a, hk102b, hk102c, Nat.reduceEqDiff, or_true, true_or, or_false, false_or, and_false, false_and, Classical.not_not, true_implies, List.set_cons_zero, List.set_cons_succ, ne_eq, hkLe_t ht, e1, e2, e3, sx_fillr (p := 15) (v := 0) (a := 5 * a + 5) (b := 5 * a + 10) hkJK_15 (by omega) (by omega) (by rw [jL_15]; omega) (by rw [jL_15]; decide)]
  clear e1 e2 e3
  refine l_mpOut (R := R) (N := N) ht (g0 := g) ha0 ha hq0 hq hn0 hn hV hv (bxK R N q) 0 _ hkU hkU hkU Q (by omega) (by rw [hkP1_u]; trivial) (by rw [hkP1_u]; trivial) (BX_row hX (fun p q1 q2 => hkFil_row (by omega))) (fun i' n' s' q1 q2 q3 q4 q5 q6 => by rw [hkFil_row (by decide)]; exact hP i' n' s' q1 q2 q3 q4 q5 q6) (fun x x0 x1 => hkFil_out (by omega)) (fun s s0 s1 => by rw [hkFil_in (by omega) (by omega)]; rfl) (fun g' k1 k2 k3 => hQ g' (fun p hp => by rw [k1 p hp, hkFil_row hp]) (fun k hk => by rw [k2 k hk, hkFil_out (by omega)]) k3)
end SP
