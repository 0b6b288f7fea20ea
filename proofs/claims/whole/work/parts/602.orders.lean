/-! Products: all orders, the class -/
theorem mpS_congr {R N q n : Int} {v v' : Int → Int} {s : Int} : ∀ k : Nat, k ≤ 5 → (∀ x : Int, 0 ≤ x → x < 5 → v x = v' x) → mpS R N q n v s k = mpS R N q n v' s k := by
  intro k
  induction k with
  | zero => intro _ _; rfl
  | succ k ih =>
    intro hk h
    unfold mpS
    rw [ih (by omega) h, h k (by omega) (by omega)]
theorem mpV_congr {R N q n : Int} {v v' : Int → Int} {s : Int} (hb : bxOk R N) (hq0 : 0 ≤ q) (hq : q < N) (h : ∀ x : Int, 0 ≤ x → x < 5 → v x = v' x) : mpV R N q n v s = mpV R N q n v' s := mpS_congr _ (bx_A hb hq0 hq).1 h
section SP
variable {t d : Nat} {R N : Int}
def ordT (R N j F : Int) (m : Nat) (a used q : Int) (v : Int → Int) (sg s : Int) (o : Nat) : Int :=
  if hkAnd (hkShr used o) 1 = 0 ∧ 0 ≤ bxL R N j a + o - a ∧ bxL R N j a + o - a ≤ N - R then
    ordV R N j F m (a + 1) (hkOr used (hkShl 1 o)) ((q + (bxL R N j a + o - a)) % N) (mpV R N q (bxL R N j a + o - a) v) (sg * sgO used o) s
  else 0
theorem ordV_s {j F : Int} {m : Nat} {a used q : Int} {v : Int → Int} {sg s : Int} : ordV R N j F (m + 1) a used q v sg s = ((List.range F.toNat).map (ordT R N j F m a used q v sg s)).sum := rfl
theorem sx_ordEntry {g : hkG} {Q : Option hkV → Nat → hkG → Prop} (ht : 35 ≤ t) (hX : BX g R N) {j place a used q sg : Int} (hj0 : 0 ≤ j) (hj : j < bxC R N) {D : Nat}
    (h1 : bxF R N j ≤ a → Xp 55 (D + 1) 19 [(2, 12), (0, place), (0, j), (0, a), (0, used), (0, q), (0, sg), (0, bxF R N j), (0, 0), hkU, hkU] [] t g Q)
    (h2 : a < bxF R N j → Xp 55 (D + 1) 61 [(2, 12), (0, place), (0, j), (0, a), (0, used), (0, q), (0, sg), (0, bxF R N j), (0, 0), hkU, hkU] [] t g Q) :
    Xp 55 (D + 1) 0 [(2, 12), (0, place), (0, j), (0, a), (0, used), (0, q), (0, sg), hkU, hkU, hkU, hkU] [] t g Q := by
  simp only [x_55_0, x_55_1, x_55_4, x_55_5, x_55_8, x_55_10, x_55_11, x_55_13, x_55_16, x_55_17, hkJK_1, hkJK_12, hkJK_14, hkJK_15, hkJK_2, jA_12_0, jA_12_3, jA_12_4, jA_1_4, jL_14, jL_15, jL_2, jR_12_0, jR_12_3, jR_12_4, jR_1_4, hkP1_0, hkP1_2, hkP1_u, hkC8, List.map_cons, List.map_nil, List.sum_cons, List.sum_nil, hkCat_0, hkCat_1, hkCat_2, Nat.reduceAdd, Nat.reduceLeDiff, hkPush_s, hkPush_n, true_and, and_true, implies_true, true_implies, not_true_eq_false, not_false_eq_true, false_implies, hkTf_0, hkTf_n1, hkOr01, hkOr11, Int.reduceEq, Int.reduceLT, Int.reduceLE, hk102a, hk102b, hk102c, Nat.reduceEqDiff, or_true, true_or, or_false, false_or, and_false, false_and, Classical.not_not, true_implies, List.set_cons_zero, List.set_cons_succ, ne_eq, x_55_58, x_55_59, hkJK_1, hkJK_12, hkJK_14, hkJK_15, hkJK_2, jA_12_0, jA_12_3, jA_12_4, jA_1_4, jL_14, jL_15, jL_2, jR_12_0, jR_12_3, jR_12_4, jR_1_4, hkP1_0, hkP1_2, hkP1_u, hkC8, List.map_cons, List.map_nil, List.sum_cons, List.sum_nil, hkCat_0, hkCat_1, hkCat_2, Nat.reduceAdd, Nat.reduceLeDiff, hkPush_s, hkPush_n, true_and, and_true, implies_true, true_implies, not_true_eq_false, not_false_eq_true, false_implies, hkTf_0, hkTf_n1, hkOr01, hkOr11, Int.reduceEq, Int.reduceLT, Int.reduceLE, hk102a, hk102b, hk102c, Nat.reduceEqDiff, or_true, true_or, or_false, false_or, and_false, false_and, Classical.not_not, true_implies, List.set_cons_zero, List.set_cons_succ, ne_eq, hkLe_t ht, sx_filledRows (Nat.le_trans (by decide) ht) hX hj0 hj]
  exact ⟨fun h => h2 (by omega), fun h => h1 (by omega)⟩
theorem l_addOrders (ht : 35 ≤ t) {j place : Int} (hj0 : 0 ≤ j) (hj : j < bxC R N) (hp0 : 0 ≤ place) (hp : place ≤ 6120) : ∀ (m : Nat) (a used q sg V B : Int) (v : Int → Int) (g : hkG) (Q : Option hkV → Nat → hkG → Prop), a + m = bxF R N j → 0 ≤ a → 0 ≤ used ∧ used < 16 → 0 ≤ q → q < N → (sg = 1 ∨ sg = -1) → 0 ≤ V → V * 5 ^ m ≤ 1000 → (∀ x : Int, 0 ≤ x → x < 5 → -V ≤ v x ∧ v x ≤ V) → 0 ≤ B → B + 1000 * 4 ^ m ≤ 1000000 → BX g R N → PST g R N → (∀ x : Int, 0 ≤ x → x < 5 → g 15 (5 * a + x) = v x) → (∀ x : Int, 0 ≤ x → x < 5 → -B ≤ g 14 (place + x) ∧ g 14 (place + x) ≤ B) →
    (∀ g' : hkG, (∀ p : Int, p ≠ 14 → p ≠ 15 → g' p = g p) → (∀ k : Int, k < 5 * a + 5 → g' 15 k = g 15 k) → (∀ k : Int, k < place ∨ place + 5 ≤ k → g' 14 k = g 14 k) → (∀ x : Int, 0 ≤ x → x < 5 → g' 14 (place + x) = g 14 (place + x) + ordV R N j (bxF R N j) m a used q v sg x) → (∀ x : Int, 0 ≤ x → x < 5 → -(B + 1000 * 4 ^ m) ≤ g' 14 (place + x) ∧ g' 14 (place + x) ≤ B + 1000 * 4 ^ m) → Q none t g') →
    Xp 55 (d + m + 3) 0 [(2, 12), (0, place), (0, j), (0, a), (0, used), (0, q), (0, sg), hkU, hkU, hkU, hkU] [] t g Q := by
  intro m
  induction m with
  | zero =>
    intro a used q sg V B v g Q hm ha0 hu hq0 hq hsg hV0 hV hv hB0 hB hX hP h15 h14 hQ
    have hb := hX.1
    obtain ⟨b1, b2, b3, b4⟩ := id hb
    obtain ⟨f1, f2, f3⟩ := bx_F hb hj0 hj
    simp only [Nat.pow_zero, Int.pow_zero, Int.mul_one] at hV hB hQ
    refine sx_ordEntry ht hX hj0 hj (fun h => ?_) (fun h => absurd h (by omega))
    refine l_ordLeaf (d := d) ht hp0 hp ha0 (by omega) hsg 5 0 g Q (by omega) (by omega) (fun x x0 x1 => ?_) (fun x x0 x1 => ?_) (fun g' k1 k2 k3 => hQ g' (fun p p1 p2 => k1 p p1) (fun k hk => by rw [k1 15 (by decide)]) (fun k hk => k2 k (by omega)) (fun x x0 x1 => ?_) (fun x x0 x1 => ?_))
    · rw [h15 x x0 x1]; have := hv x x0 x1; omega
    · have := h14 x x0 x1; omega
    · rw [k3 x x0 x1, h15 x x0 x1]; rfl
    · rw [k3 x x0 x1, h15 x x0 x1]
      have e1 := hv x x0 x1
      have e2 := h14 x x0 x1
      rcases hsg with h | h <;> rw [h] <;> omega
  | succ m ih =>
    intro a used q sg V B v g Q hm ha0 hu hq0 hq hsg hV0 hV hv hB0 hB hX hP h15 h14 hQ
    have hb := hX.1
    obtain ⟨b1, b2, b3, b4⟩ := id hb
    obtain ⟨f1, f2, f3⟩ := bx_F hb hj0 hj
    have hc := (bx_C hb).2
    refine sx_ordEntry (D := d + (m + 1) + 2) ht hX hj0 hj (fun h => absurd h (by omega)) (fun h => ?_)
    have hV5 : (5 * V) * 5 ^ m ≤ 1000 := by
      have : (5 * V) * 5 ^ m = V * 5 ^ (m + 1) := by rw [Int.pow_succ]; rw [Int.mul_comm 5 V, Int.mul_assoc, Int.mul_comm 5]
      omega
    have hVle : V ≤ 1000 := by
      have h1 : (1 : Int) ≤ 5 ^ (m + 1) := by exact_mod_cast Nat.one_le_pow _ _ (by decide)
      have : V * 1 ≤ V * 5 ^ (m + 1) := Int.mul_le_mul_of_nonneg_left h1 hV0
      omega
    have h4 : (1000 : Int) * 4 ^ (m + 1) = 4 * (1000 * 4 ^ m) := by rw [Int.pow_succ]; omega
    rw [h4] at hB hQ
    have hP0 : (0 : Int) ≤ 1000 * 4 ^ m := by
      have : (0 : Int) ≤ 4 ^ m := Int.pow_nonneg (by decide)
      omega
    generalize hPdef : (1000 : Int) * 4 ^ m = P at hB hQ hP0
    have LP : ∀ (c x : Nat) (g1 : hkG) (B1 : Int) (v9 v10 : hkV), (x : Int) + c = bxF R N j → hkP1 v9 → 0 ≤ B1 → B1 + c * P ≤ 1000000 → (∀ p : Int, p ≠ 14 → p ≠ 15 → g1 p = g p) → (∀ k : Int, k < 5 * a + 5 → g1 15 k = g 15 k) → (∀ k : Int, k < place ∨ place + 5 ≤ k → g1 14 k = g 14 k) → (∀ z : Int, 0 ≤ z → z < 5 → -B1 ≤ g1 14 (place + z) ∧ g1 14 (place + z) ≤ B1) →
        (∀ g' : hkG, (∀ p : Int, p ≠ 14 → p ≠ 15 → g' p = g p) → (∀ k : Int, k < 5 * a + 5 → g' 15 k = g 15 k) → (∀ k : Int, k < place ∨ place + 5 ≤ k → g' 14 k = g 14 k) → (∀ z : Int, 0 ≤ z → z < 5 → g' 14 (place + z) = g1 14 (place + z) + ((List.range' x c).map (ordT R N j (bxF R N j) m a used q v sg z)).sum) → (∀ z : Int, 0 ≤ z → z < 5 → -(B1 + c * P) ≤ g' 14 (place + z) ∧ g' 14 (place + z) ≤ B1 + c * P) → Q none t g') →
        Xp 55 (d + (m + 1) + 3) 61 [(2, 12), (0, place), (0, j), (0, a), (0, used), (0, q), (0, sg), (0, bxF R N j), (0, (x : Int)), v9, v10] [] t g1 Q := by
      intro c
      induction c with
      | zero =>
        intro x g1 B1 v9 v10 hx p9 p0 p1 p2 p3 p4 p5 pQ
        rw [x_55_61]
        simp only [x_55_63, x_55_65, hkJK_1, hkJK_12, hkJK_14, hkJK_15, hkJK_2, jA_12_0, jA_12_3, jA_12_4, jA_1_4, jL_14, jL_15, jL_2, jR_12_0, jR_12_3, jR_12_4, jR_1_4, hkP1_0, hkP1_2, hkP1_u, hkC8, List.map_cons, List.map_nil, List.sum_cons, List.sum_nil, hkCat_0, hkCat_1, hkCat_2, Nat.reduceAdd, Nat.reduceLeDiff, hkPush_s, hkPush_n, true_and, and_true, implies_true, true_implies, not_true_eq_false, not_false_eq_true, false_implies, hkTf_0, hkTf_n1, hkOr01, hkOr11, Int.reduceEq, Int.reduceLT, Int.reduceLE, hk102a, hk102b, hk102c, Nat.reduceEqDiff, or_true, true_or, or_false, false_or, and_false, false_and, Classical.not_not, true_implies, List.set_cons_zero, List.set_cons_succ, ne_eq, x_55_184]
        refine ⟨fun _ => pQ g1 p2 p3 p4 (fun z z0 z1 => by simp) (fun z z0 z1 => by have := p5 z z0 z1; simp only [Int.natCast_zero, Int.zero_mul]; omega), fun h => absurd (by omega) h⟩
      | succ c ihc =>
        intro x g1 B1 v9 v10 hx p9 p0 p1 p2 p3 p4 p5 pQ
        have hcP : ((c + 1 : Nat) : Int) * P = c * P + P := by rw [Int.natCast_succ, Int.add_mul, Int.one_mul]
        rw [hcP] at p1 pQ
        have hcP0 : 0 ≤ (c : Int) * P := Int.mul_nonneg (by omega) hP0
        have hX1 : BX g1 R N := BX_row hX (fun p q1 q2 => p2 p (by omega) (by omega))
        have hP1 : PST g1 R N := fun i' n' s' q1 q2 q3 q4 q5 q6 => by rw [p2 13 (by decide) (by decide)]; exact hP i' n' s' q1 q2 q3 q4 q5 q6
        obtain ⟨x1, x2, x3, x4, x5, x6, x7, x8⟩ := BX_f hX1
        have hL := (bx_sh hb hj0 hj).1 a ha0 (by omega)
        have hla := x5 j a hj0 hj ha0 (by omega)
        obtain ⟨e1, e2, e3, e4⟩ : hkW (j * 4) = 4 * j ∧ hkW (4 * j + a) = 4 * j + a ∧ hkW (bxL R N j a + x) = bxL R N j a + x ∧ hkW (bxL R N j a + x - a) = bxL R N j a + x - a := ⟨by rw [hkW_in (by omega) (by omega)]; omega, hkW_in (by omega) (by omega), hkW_in (by omega) (by omega), hkW_in (by omega) (by omega)⟩
        rw [x_55_61]
        simp only [x_55_63, x_55_65, x_55_68, x_55_69, x_55_72, x_55_75, x_55_76, x_55_77, x_55_78, x_55_79, x_55_80, x_55_81, x_55_83, x_55_84, x_55_85, x_55_86, x_55_88, x_55_90, x_55_92, x_55_93, x_55_94, x_55_95, x_55_98, x_55_100, x_55_103, x_55_105, x_55_106, x_55_109, x_55_112, hkJK_1, hkJK_12, hkJK_14, hkJK_15, hkJK_2, jA_12_0, jA_12_3, jA_12_4, jA_1_4, jL_14, jL_15, jL_2, jR_12_0, jR_12_3, jR_12_4, jR_1_4, hkP1_0, hkP1_2, hkP1_u, hkC8, List.map_cons, List.map_nil, List.sum_cons, List.sum_nil, hkCat_0, hkCat_1, hkCat_2, Nat.reduceAdd, Nat.reduceLeDiff, hkPush_s, hkPush_n, true_and, and_true, implies_true, true_implies, not_true_eq_false, not_false_eq_true, false_implies, hkTf_0, hkTf_n1, hkOr01, hkOr11, Int.reduceEq, Int.reduceLT, Int.reduceLE, hk102a, hk102b, hk102c, Nat.reduceEqDiff, or_true, true_or, or_false, false_or, and_false, false_and, Classical.not_not, true_implies, List.set_cons_zero, List.set_cons_succ, ne_eq, hkLe_t ht, e1, e2, hla, e3, e4, x3]
        clear e1 e2 e3 e4
        simp only [List.range'_succ, List.map_cons, List.sum_cons] at pQ
        have hxN : (x : Int) + 1 = ((x + 1 : Nat) : Int) := by omega
        have SK : ¬ (hkAnd (hkShr used x) 1 = 0 ∧ 0 ≤ bxL R N j a + x - a ∧ bxL R N j a + x - a ≤ N - R) → ∀ v9 v10 : hkV, hkP1 v9 → Xp 55 (d + (m + 1) + 3) 178 [(2, 12), (0, place), (0, j), (0, a), (0, used), (0, q), (0, sg), (0, bxF R N j), (0, (x : Int)), v9, v10] [] t g1 Q := by
          intro hno v9 v10 p9
          simp only [x_55_178, x_55_181, hkJK_1, hkJK_12, hkJK_14, hkJK_15, hkJK_2, jA_12_0, jA_12_3, jA_12_4, jA_1_4, jL_14, jL_15, jL_2, jR_12_0, jR_12_3, jR_12_4, jR_1_4, hkP1_0, hkP1_2, hkP1_u, hkC8, List.map_cons, List.map_nil, List.sum_cons, List.sum_nil, hkCat_0, hkCat_1, hkCat_2, Nat.reduceAdd, Nat.reduceLeDiff, hkPush_s, hkPush_n, true_and, and_true, implies_true, true_implies, not_true_eq_false, not_false_eq_true, false_implies, hkTf_0, hkTf_n1, hkOr01, hkOr11, Int.reduceEq, Int.reduceLT, Int.reduceLE, hk102a, hk102b, hk102c, Nat.reduceEqDiff, or_true, true_or, or_false, false_or, and_false, false_and, Classical.not_not, true_implies, List.set_cons_zero, List.set_cons_succ, ne_eq]
          rw [hkW_in (by omega) (by omega), hxN]
          refine ihc (x + 1) g1 B1 v9 v10 (by omega) p9 p0 (by omega) p2 p3 p4 p5 (fun g' l1 l2 l3 l4 l5 => pQ g' l1 l2 l3 (fun z z0 z1 => ?_) (fun z z0 z1 => ?_))
          · rw [l4 z z0 z1]; unfold ordT; rw [if_neg hno]; omega
          · have := l5 z z0 z1; omega
        refine ⟨fun h => by omega, fun _ => ⟨⟨by omega, by omega⟩, fun h => SK (fun h2 => h h2.1) _ _ (by unfold hkP1; simp), fun hbit => ⟨fun h => SK (fun h2 => by omega) _ _ (by unfold hkP1; simp), fun hn0 => ⟨fun h => SK (fun h2 => by omega) _ _ (by unfold hkP1; simp), fun hn1 => ?_⟩⟩⟩⟩
        have hn0' : 0 ≤ bxL R N j a + x - a := by omega
        have hn1' : bxL R N j a + x - a ≤ N - R := by omega
        have hcond : hkAnd (hkShr used x) 1 = 0 ∧ 0 ≤ bxL R N j a + x - a ∧ bxL R N j a + x - a ≤ N - R := ⟨hbit, hn0', hn1'⟩
        obtain ⟨u1, u2⟩ := used_16 (o := (x : Int)) hu (by omega)
        obtain ⟨w, hw⟩ : ∃ w : Nat, hkShr used x = (w : Int) := ⟨(hkShr used x).toNat, by omega⟩
        have hsgo : sgO used x = if (pbN w : Int) % 2 = 0 then 1 else -1 := by unfold sgO; rw [hw]; simp
        simp only [x_55_115, x_55_117, x_55_119, x_55_120, x_55_123, x_55_125, x_55_126, x_55_127, x_55_129, x_55_131, hkJK_1, hkJK_12, hkJK_14, hkJK_15, hkJK_2, jA_12_0, jA_12_3, jA_12_4, jA_1_4, jL_14, jL_15, jL_2, jR_12_0, jR_12_3, jR_12_4, jR_1_4, hkP1_0, hkP1_2, hkP1_u, hkC8, List.map_cons, List.map_nil, List.sum_cons, List.sum_nil, hkCat_0, hkCat_1, hkCat_2, Nat.reduceAdd, Nat.reduceLeDiff, hkPush_s, hkPush_n, true_and, and_true, implies_true, true_implies, not_true_eq_false, not_false_eq_true, false_implies, hkTf_0, hkTf_n1, hkOr01, hkOr11, Int.reduceEq, Int.reduceLT, Int.reduceLE, hk102a, hk102b, hk102c, Nat.reduceEqDiff, or_true, true_or, or_false, false_or, and_false, false_and, Classical.not_not, true_implies, List.set_cons_zero, List.set_cons_succ, ne_eq, hw, sx_bitCount (show w < 128 by omega)]
        refine sx_multiplyPartial ht (V := V) ha0 (by omega) hq0 hq hn0' hn1' (by omega) hX1 hP1 (fun z z0 z1 => by rw [p3 _ (by omega), h15 z z0 z1]; exact hv z z0 z1) (fun g2 k1 k2 k3 => ?_)
        have hX2 : BX g2 R N := BX_row hX1 (fun p q1 q2 => k1 p (by omega))
        have hP2 : PST g2 R N := fun i' n' s' q1 q2 q3 q4 q5 q6 => by rw [k1 13 (by decide)]; exact hP1 i' n' s' q1 q2 q3 q4 q5 q6
        obtain ⟨z1, z2, z3, z4, z5, z6, z7, z8⟩ := BX_f hX2
        have hqn : (q + (bxL R N j a + x - a)).tmod N = (q + (bxL R N j a + x - a)) % N := Int.tmod_eq_emod_of_nonneg (by omega)
        have hpm : ((pbN w : Nat) : Int).tmod 2 = (pbN w : Int) % 2 := Int.tmod_eq_emod_of_nonneg (by omega)
        have hqn0 : 0 ≤ (q + (bxL R N j a + x - a)) % N := Int.emod_nonneg _ (by omega)
        have hqn1 : (q + (bxL R N j a + x - a)) % N < N := Int.emod_lt_of_pos _ (by omega)
        have hN0 : ¬ N = 0 := by omega
        have CH : ∀ sg' : Int, sg' = sg * sgO used x → Xp 55 (d + m + 3) 0 [(2, 12), (0, place), (0, j), (0, a + 1), (0, hkOr used (hkShl 1 x)), (0, (q + (bxL R N j a + x - a)) % N), (0, sg'), hkU, hkU, hkU, hkU] [] t g2 (fun r t g => Xp 55 (d + (m + 1) + 3) 178 [(2, 12), (0, place), (0, j), (0, a), (0, used), (0, q), (0, sg), (0, bxF R N j), (0, (x : Int)), (0, bxL R N j a + x - a), (0, ((pbN w : Nat) : Int))] (hkPush r []) t g Q) := by
          intro sg' hsg'
          have hsg2 : sg' = 1 ∨ sg' = -1 := by
            rw [hsg']
            rcases hsg with h | h <;> rcases sgO_1 (used := used) (o := (x : Int)) with h2 | h2 <;> rw [h, h2] <;> decide
          refine ih (a + 1) (hkOr used (hkShl 1 x)) ((q + (bxL R N j a + x - a)) % N) sg' (5 * V) B1 (mpV R N q (bxL R N j a + x - a) v) g2 _ (by omega) (by omega) u1 hqn0 hqn1 hsg2 (by omega) hV5 (fun z z0 z1 => mpV_le hb hq0 hq hn0' hn1' z0 z1 hV0 hv) p0 (by rw [hPdef]; omega) hX2 hP2 (fun z z0 z1 => ?_) (fun z z0 z1 => by rw [k1 14 (by decide)]; exact p5 z z0 z1) (fun g3 l1 l2 l3 l4 l5 => ?_)
          · rw [show 5 * (a + 1) + z = 5 * a + 5 + z from by omega, k3 z z0 z1]
            exact mpV_congr hb hq0 hq (fun y y0 y1 => by rw [p3 _ (by omega), h15 y y0 y1])
          · simp only [x_55_178, x_55_181, hkJK_1, hkJK_12, hkJK_14, hkJK_15, hkJK_2, jA_12_0, jA_12_3, jA_12_4, jA_1_4, jL_14, jL_15, jL_2, jR_12_0, jR_12_3, jR_12_4, jR_1_4, hkP1_0, hkP1_2, hkP1_u, hkC8, List.map_cons, List.map_nil, List.sum_cons, List.sum_nil, hkCat_0, hkCat_1, hkCat_2, Nat.reduceAdd, Nat.reduceLeDiff, hkPush_s, hkPush_n, true_and, and_true, implies_true, true_implies, not_true_eq_false, not_false_eq_true, false_implies, hkTf_0, hkTf_n1, hkOr01, hkOr11, Int.reduceEq, Int.reduceLT, Int.reduceLE, hk102a, hk102b, hk102c, Nat.reduceEqDiff, or_true, true_or, or_false, false_or, and_false, false_and, Classical.not_not, true_implies, List.set_cons_zero, List.set_cons_succ, ne_eq]
            rw [hkW_in (by omega) (by omega), hxN]
            rw [hPdef] at l5
            refine ihc (x + 1) g3 (B1 + P) _ _ (by omega) (by unfold hkP1; simp) (by omega) (by omega) (fun p q1 q2 => by rw [l1 p q1 q2, k1 p q2, p2 p q1 q2]) (fun k hk => by rw [l2 k (by omega), k2 k (by omega), p3 k hk]) (fun k hk => by rw [l3 k hk, k1 14 (by decide), p4 k hk]) l5 (fun g' r1 r2 r3 r4 r5 => pQ g' r1 r2 r3 (fun z z0 z1 => ?_) (fun z z0 z1 => ?_))
            · rw [r4 z z0 z1, l4 z z0 z1, k1 14 (by decide), hsg']
              have : ordT R N j (bxF R N j) m a used q v sg z x = ordV R N j (bxF R N j) m (a + 1) (hkOr used (hkShl 1 x)) ((q + (bxL R N j a + x - a)) % N) (mpV R N q (bxL R N j a + x - a) v) (sg * sgO used x) z := by
                unfold ordT; rw [if_pos hcond]
              rw [this]; omega
            · have := r5 z z0 z1; omega
        obtain ⟨e1, e2, e3⟩ : hkW (a + 1) = a + 1 ∧ hkW (q + (bxL R N j a + x - a)) = q + (bxL R N j a + x - a) ∧ hkW (-sg) = -sg := ⟨hkW_in (by omega) (by omega), hkW_in (by omega) (by omega), hkW_in (by omega) (by omega)⟩
        simp only [x_55_134, x_55_135, x_55_136, x_55_137, x_55_138, x_55_139, x_55_140, x_55_142, x_55_143, x_55_145, x_55_146, x_55_147, x_55_149, x_55_151, x_55_152, x_55_153, x_55_156, x_55_159, x_55_160, x_55_162, x_55_163, x_55_164, x_55_167, x_55_169, x_55_172, x_55_174, x_55_175, hkJK_1, hkJK_12, hkJK_14, hkJK_15, hkJK_2, jA_12_0, jA_12_3, jA_12_4, jA_1_4, jL_14, jL_15, jL_2, jR_12_0, jR_12_3, jR_12_4, jR_1_4, hkP1_0, hkP1_2, hkP1_u, hkC8, List.map_cons, List.map_nil, List.sum_cons, List.sum_nil, hkCat_0, hkCat_1, hkCat_2, Nat.reduceAdd, Nat.reduceLeDiff, hkPush_s, hkPush_n, true_and, and_true, implies_true, true_implies, not_true_eq_false, not_false_eq_true, false_implies, hkTf_0, hkTf_n1, hkOr01, hkOr11, Int.reduceEq, Int.reduceLT, Int.reduceLE, hk102a, hk102b, hk102c, Nat.reduceEqDiff, or_true, true_or, or_false, false_or, and_false, false_and, Classical.not_not, true_implies, List.set_cons_zero, List.set_cons_succ, ne_eq, hkLe_t ht, z2, hqn, hpm, hN0, e1, e2, e3]
        clear e1 e2 e3
        refine ⟨fun h => CH (-sg) ?_, fun h => CH sg ?_⟩
        · rw [hsgo, if_neg h]; omega
        · rw [hsgo, if_pos h]; omega
    refine LP (bxF R N j).toNat 0 g B hkU hkU (by omega) (by rw [hkP1_u]; trivial) hB0 ?_ (fun _ _ _ => rfl) (fun _ _ => rfl) (fun _ _ => rfl) h14 (fun g' l1 l2 l3 l4 l5 => hQ g' l1 l2 l3 (fun z z0 z1 => ?_) (fun z z0 z1 => ?_))
    · have : ((bxF R N j).toNat : Int) * P ≤ 4 * P := Int.mul_le_mul_of_nonneg_right (by omega) hP0
      omega
    · rw [l4 z z0 z1, ordV_s, List.range_eq_range']
    · have h5 := l5 z z0 z1
      have : ((bxF R N j).toNat : Int) * P ≤ 4 * P := Int.mul_le_mul_of_nonneg_right (by omega) hP0
      omega
end SP
