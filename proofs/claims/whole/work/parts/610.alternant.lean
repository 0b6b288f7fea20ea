/-! Roots: the determinants -/
def alL (h : Int → Int) (u : Int) : Nat → Int → Int → Int → Int
  | 0, _, all, _ => all
  | k + 1, c, all, sg => if hkAnd (hkShr u c) 1 = 0 then alL h u k (c + 1) (all + sg * h c) (-sg) else alL h u k (c + 1) all sg
/-- the determinant of the rows behind, so many; B: the roots that are taken -/
def alV (R N : Int) (B : Int → Int) (i : Int) : Nat → Int → Int
  | 0, _ => 1
  | m + 1, u => alL (fun c => B c ^ (bxL R N i (R - (m + 1)) + m).toNat % 2521 * alV R N B i m (hkOr u (hkShl 1 c)) % 2521) u R.toNat 0 0 1 % 2521
theorem alV_r {R N : Int} {B : Int → Int} {i : Int} {m : Nat} {u : Int} : 0 ≤ alV R N B i m u ∧ alV R N B i m u < 2521 := by
  cases m with
  | zero => unfold alV; omega
  | succ m => unfold alV; exact ⟨Int.emod_nonneg _ (by decide), Int.emod_lt_of_pos _ (by decide)⟩
section SP
variable {t : Nat} {g : hkG} {R N : Int}
theorem l_alternant (ht : 46 ≤ t) (hX : BX g R N) {i p : Int} (hk : hkJK p = 100) (hL : jL p = 49) {K B : Int → Int} (hi0 : 0 ≤ i) (hi : i < bxC R N) (hK : ∀ c : Int, 0 ≤ c → c < R → g 21 c = K c ∧ 0 ≤ K c ∧ K c < N) (hP : ∀ c : Int, ∀ e : Nat, 0 ≤ c → c < R → e < 7 → g p (7 * K c + e) = B c ^ e % 2521) : ∀ (m : Nat) (d : Nat) (u r : Int) (Q : Option hkV → Nat → hkG → Prop), r + m = R → 0 ≤ r → 0 ≤ u ∧ u < 16 → Q (some (0, alV R N B i m u)) t g →
    Xp 69 (d + m) 0 [(2, 17), (2, p), (0, i), (0, r), (0, u), hkU, hkU, hkU, hkU, hkU] [] t g Q := by
  have hb := hX.1
  obtain ⟨b1, b2, b3, b4⟩ := id hb
  have hc := (bx_C hb).2
  obtain ⟨x1, x2, x3, x4, x5, x6, x7, x8⟩ := BX_f hX
  intro m
  induction m with
  | zero =>
    intro d u r Q hr hr0 hu hQ
    simp only [x_69_0, x_69_1, x_69_2, x_69_5, x_69_8, x_69_11, x_69_12, hkJK_1, hkJK_17, hkJK_2, hkJK_21, jA_17_1, jA_17_4, jA_1_4, jL_2, jL_21, jR_17_1, jR_17_4, jR_1_4, hkP1_0, hkP1_2, hkP1_u, hkC8, List.map_cons, List.map_nil, List.sum_cons, List.sum_nil, hkCat_0, hkCat_1, hkCat_2, Nat.reduceAdd, Nat.reduceLeDiff, hkPush_s, hkPush_n, true_and, and_true, implies_true, true_implies, not_true_eq_false, not_false_eq_true, false_implies, hkTf_0, hkTf_n1, hkOr01, hkOr11, Int.reduceEq, Int.reduceLT, Int.reduceLE, hk102a, hk102b, hk102c, Nat.reduceEqDiff, or_true, true_or, or_false, false_or, and_false, false_and, Classical.not_not, true_implies, List.set_cons_zero, List.set_cons_succ, ne_eq, hkLe_t ht, x1]
    exact ⟨fun h => absurd h (by omega), fun _ => hQ⟩
  | succ m ih =>
    intro d u r Q hr hr0 hu hQ
    have hl := x5 i r hi0 hi hr0 (by omega)
    have hL2 := (bx_sh hb hi0 hi).1 r hr0 (by omega)
    obtain ⟨e1, e2, e3, e4, e5⟩ : hkW (i * 4) = 4 * i ∧ hkW (4 * i + r) = 4 * i + r ∧ hkW (bxL R N i r + R) = bxL R N i r + R ∧ hkW (bxL R N i r + R - 1) = bxL R N i r + R - 1 ∧ hkW (bxL R N i r + R - 1 - r) = bxL R N i r + m := ⟨by rw [hkW_in (by omega) (by omega)]; omega, hkW_in (by omega) (by omega), hkW_in (by omega) (by omega), hkW_in (by omega) (by omega), by rw [hkW_in (by omega) (by omega)]; omega⟩
    rw [show d + (m + 1) = d + m + 1 from rfl]
    simp only [x_69_0, x_69_1, x_69_2, x_69_5, x_69_8, x_69_11, x_69_12, x_69_13, x_69_14, x_69_17, x_69_18, x_69_21, x_69_24, x_69_25, x_69_26, x_69_27, x_69_28, x_69_29, x_69_30, x_69_31, x_69_34, x_69_36, x_69_37, x_69_39, x_69_40, x_69_42, x_69_43, hkJK_1, hkJK_17, hkJK_2, hkJK_21, jA_17_1, jA_17_4, jA_1_4, jL_2, jL_21, jR_17_1, jR_17_4, jR_1_4, hkP1_0, hkP1_2, hkP1_u, hkC8, List.map_cons, List.map_nil, List.sum_cons, List.sum_nil, hkCat_0, hkCat_1, hkCat_2, Nat.reduceAdd, Nat.reduceLeDiff, hkPush_s, hkPush_n, true_and, and_true, implies_true, true_implies, not_true_eq_false, not_false_eq_true, false_implies, hkTf_0, hkTf_n1, hkOr01, hkOr11, Int.reduceEq, Int.reduceLT, Int.reduceLE, hk102a, hk102b, hk102c, Nat.reduceEqDiff, or_true, true_or, or_false, false_or, and_false, false_and, Classical.not_not, true_implies, List.set_cons_zero, List.set_cons_succ, ne_eq, hkLe_t ht, x1, e1, e2, hl, Xp_ev s_beadOf (Nat.zero_le _), e3, e4, e5]
    clear e1 e2 e3 e4 e5
    refine ⟨fun _ => ⟨by omega, ?_⟩, fun h => absurd hr (by omega)⟩
    have LP : ∀ (k : Nat) (c all sg : Int) (v9 : hkV), c + k = R → 0 ≤ c → (sg = 1 ∨ sg = -1) → -(2521 * c) ≤ all → all ≤ 2521 * c → hkP1 v9 → Q (some (0, alL (fun c => B c ^ (bxL R N i (R - (m + 1)) + m).toNat % 2521 * alV R N B i m (hkOr u (hkShl 1 c)) % 2521) u k c all sg % 2521)) t g →
        Xp 69 (d + m + 1) 45 [(2, 17), (2, p), (0, i), (0, r), (0, u), (0, bxL R N i r + m), (0, all), (0, sg), (0, c), v9] [] t g Q := by
      intro k
      induction k with
      | zero =>
        intro c all sg v9 hc1 hc0 hsg ha1 ha2 h9 hq
        rw [x_69_45]
        simp only [x_69_47, x_69_48, x_69_51, x_69_54, hkJK_1, hkJK_17, hkJK_2, hkJK_21, jA_17_1, jA_17_4, jA_1_4, jL_2, jL_21, jR_17_1, jR_17_4, jR_1_4, hkP1_0, hkP1_2, hkP1_u, hkC8, List.map_cons, List.map_nil, List.sum_cons, List.sum_nil, hkCat_0, hkCat_1, hkCat_2, Nat.reduceAdd, Nat.reduceLeDiff, hkPush_s, hkPush_n, true_and, and_true, implies_true, true_implies, not_true_eq_false, not_false_eq_true, false_implies, hkTf_0, hkTf_n1, hkOr01, hkOr11, Int.reduceEq, Int.reduceLT, Int.reduceLE, hk102a, hk102b, hk102c, Nat.reduceEqDiff, or_true, true_or, or_false, false_or, and_false, false_and, Classical.not_not, true_implies, List.set_cons_zero, List.set_cons_succ, ne_eq, x_69_126, x_69_128, x_69_131, x_69_134, hkJK_1, hkJK_17, hkJK_2, hkJK_21, jA_17_1, jA_17_4, jA_1_4, jL_2, jL_21, jR_17_1, jR_17_4, jR_1_4, hkP1_0, hkP1_2, hkP1_u, hkC8, List.map_cons, List.map_nil, List.sum_cons, List.sum_nil, hkCat_0, hkCat_1, hkCat_2, Nat.reduceAdd, Nat.reduceLeDiff, hkPush_s, hkPush_n, true_and, and_true, implies_true, true_implies, not_true_eq_false, not_false_eq_true, false_implies, hkTf_0, hkTf_n1, hkOr01, hkOr11, Int.reduceEq, Int.reduceLT, Int.reduceLE, hk102a, hk102b, hk102c, Nat.reduceEqDiff, or_true, true_or, or_false, false_or, and_false, false_and, Classical.not_not, true_implies, List.set_cons_zero, List.set_cons_succ, ne_eq, hkLe_t ht, x1]
        rw [Xp_ev (s_floorMod (by omega) (by omega)) (Nat.zero_le _)]
        simp only [x_69_134, hkJK_1, hkJK_17, hkJK_2, hkJK_21, jA_17_1, jA_17_4, jA_1_4, jL_2, jL_21, jR_17_1, jR_17_4, jR_1_4, hkP1_0, hkP1_2, hkP1_u, hkC8, List.map_cons, List.map_nil, List.sum_cons, List.sum_nil, hkCat_0, hkCat_1, hkCat_2, Nat.reduceAdd, Nat.reduceLeDiff, hkPush_s, hkPush_n, true_and, and_true, implies_true, true_implies, not_true_eq_false, not_false_eq_true, false_implies, hkTf_0, hkTf_n1, hkOr01, hkOr11, Int.reduceEq, Int.reduceLT, Int.reduceLE, hk102a, hk102b, hk102c, Nat.reduceEqDiff, or_true, true_or, or_false, false_or, and_false, false_and, Classical.not_not, true_implies, List.set_cons_zero, List.set_cons_succ, ne_eq]
        exact ⟨fun _ => hq, fun h => absurd (by omega) h⟩
      | succ k ihk =>
        intro c all sg v9 hc1 hc0 hsg ha1 ha2 h9 hq
        obtain ⟨q1, q2, q3⟩ := hK c hc0 (by omega)
        have hpe := hP c (bxL R N i r + m).toNat hc0 (by omega) (by omega)
        rw [show (((bxL R N i r + m).toNat : Nat) : Int) = bxL R N i r + m from by omega] at hpe
        obtain ⟨u1, u2⟩ := used_16 hu (o := c) (by omega)
        have hr1 : r = R - (m + 1) := by omega
        have hv := alV_r (R := R) (N := N) (B := B) (i := i) (m := m) (u := hkOr u (hkShl 1 c))
        obtain ⟨y1, y2⟩ := mul_lt2521 (a := B c ^ (bxL R N i r + m).toNat % 2521) (Int.emod_nonneg _ (by decide)) (Int.emod_lt_of_pos _ (by decide)) hv.1 hv.2
        have hz0 : 0 ≤ B c ^ (bxL R N i r + m).toNat % 2521 * alV R N B i m (hkOr u (hkShl 1 c)) % 2521 := Int.emod_nonneg _ (by decide)
        have hz1 : B c ^ (bxL R N i r + m).toNat % 2521 * alV R N B i m (hkOr u (hkShl 1 c)) % 2521 < 2521 := Int.emod_lt_of_pos _ (by decide)
        obtain ⟨e1, e2, e3, e4, e5⟩ : hkW (r + 1) = r + 1 ∧ hkW (c + 1) = c + 1 ∧ hkW (-sg) = -sg ∧ hkW (K c * 7) = 7 * K c ∧ hkW (7 * K c + (bxL R N i r + m)) = 7 * K c + (bxL R N i r + m) := ⟨hkW_in (by omega) (by omega), hkW_in (by omega) (by omega), hkW_in (by omega) (by omega), by rw [hkW_in (by omega) (by omega)]; omega, hkW_in (by omega) (by omega)⟩
        unfold alL at hq
        rw [x_69_45]
        simp only [x_69_47, x_69_48, x_69_51, x_69_54, x_69_57, x_69_59, x_69_61, x_69_62, x_69_63, x_69_64, x_69_67, x_69_68, x_69_69, x_69_70, x_69_71, x_69_72, x_69_73, x_69_75, x_69_76, x_69_78, x_69_79, x_69_80, hkJK_1, hkJK_17, hkJK_2, hkJK_21, jA_17_1, jA_17_4, jA_1_4, jL_2, jL_21, jR_17_1, jR_17_4, jR_1_4, hkP1_0, hkP1_2, hkP1_u, hkC8, List.map_cons, List.map_nil, List.sum_cons, List.sum_nil, hkCat_0, hkCat_1, hkCat_2, Nat.reduceAdd, Nat.reduceLeDiff, hkPush_s, hkPush_n, true_and, and_true, implies_true, true_implies, not_true_eq_false, not_false_eq_true, false_implies, hkTf_0, hkTf_n1, hkOr01, hkOr11, Int.reduceEq, Int.reduceLT, Int.reduceLE, hk102a, hk102b, hk102c, Nat.reduceEqDiff, or_true, true_or, or_false, false_or, and_false, false_and, Classical.not_not, true_implies, List.set_cons_zero, List.set_cons_succ, ne_eq, x_69_120, x_69_123, hkJK_1, hkJK_17, hkJK_2, hkJK_21, jA_17_1, jA_17_4, jA_1_4, jL_2, jL_21, jR_17_1, jR_17_4, jR_1_4, hkP1_0, hkP1_2, hkP1_u, hkC8, List.map_cons, List.map_nil, List.sum_cons, List.sum_nil, hkCat_0, hkCat_1, hkCat_2, Nat.reduceAdd, Nat.reduceLeDiff, hkPush_s, hkPush_n, true_and, and_true, implies_true, true_implies, not_true_eq_false, not_false_eq_true, false_implies, hkTf_0, hkTf_n1, hkOr01, hkOr11, Int.reduceEq, Int.reduceLT, Int.reduceLE, hk102a, hk102b, hk102c, Nat.reduceEqDiff, or_true, true_or, or_false, false_or, and_false, false_and, Classical.not_not, true_implies, List.set_cons_zero, List.set_cons_succ, ne_eq, hkLe_t ht, x1, e1, e2]
        refine ⟨fun h => absurd h (by omega), fun _ => ⟨fun h => ?_, fun h => ?_⟩⟩
        · rw [if_neg h] at hq
          exact ihk (c + 1) all sg v9 (by omega) (by omega) hsg (by omega) (by omega) h9 hq
        · rw [if_pos h] at hq
          refine ih d (hkOr u (hkShl 1 c)) (r + 1) _ (by omega) (by omega) u1 ?_
          simp only [x_69_83, x_69_85, x_69_87, x_69_89, x_69_90, x_69_91, x_69_94, x_69_96, x_69_97, x_69_99, x_69_100, x_69_102, x_69_103, x_69_104, x_69_106, x_69_107, x_69_110, x_69_111, x_69_112, x_69_113, x_69_115, x_69_117, x_69_118, hkJK_1, hkJK_17, hkJK_2, hkJK_21, jA_17_1, jA_17_4, jA_1_4, jL_2, jL_21, jR_17_1, jR_17_4, jR_1_4, hkP1_0, hkP1_2, hkP1_u, hkC8, List.map_cons, List.map_nil, List.sum_cons, List.sum_nil, hkCat_0, hkCat_1, hkCat_2, Nat.reduceAdd, Nat.reduceLeDiff, hkPush_s, hkPush_n, true_and, and_true, implies_true, true_implies, not_true_eq_false, not_false_eq_true, false_implies, hkTf_0, hkTf_n1, hkOr01, hkOr11, Int.reduceEq, Int.reduceLT, Int.reduceLE, hk102a, hk102b, hk102c, Nat.reduceEqDiff, or_true, true_or, or_false, false_or, and_false, false_and, Classical.not_not, true_implies, List.set_cons_zero, List.set_cons_succ, ne_eq, hkLe_t ht, q1, e4, e5]
          rw [← hr1] at hq
          rw [hpe]
          generalize B c ^ (bxL R N i r + m).toNat % 2521 * alV R N B i m (hkOr u (hkShl 1 c)) = y at hq y1 y2 hz0 hz1
          have hs : hkW (sg * (hkW y).tmod 2521) = sg * (y % 2521) := by
            rw [hkW_in (x := y) (by omega) (by omega), Int.tmod_eq_emod_of_nonneg y1]
            rcases hsg with h | h <;> rw [h, hkW_in (by omega) (by omega)]
          have ha3 : -(2521 * (c + 1)) ≤ all + sg * (y % 2521) ∧ all + sg * (y % 2521) ≤ 2521 * (c + 1) := by
            rcases hsg with h | h <;> rw [h] <;> omega
          have hs2 : hkW (all + sg * (y % 2521)) = all + sg * (y % 2521) := hkW_in (by omega) (by omega)
          simp only [hs, hs2, e3, x_69_120, x_69_123, hkJK_1, hkJK_17, hkJK_2, hkJK_21, jA_17_1, jA_17_4, jA_1_4, jL_2, jL_21, jR_17_1, jR_17_4, jR_1_4, hkP1_0, hkP1_2, hkP1_u, hkC8, List.map_cons, List.map_nil, List.sum_cons, List.sum_nil, hkCat_0, hkCat_1, hkCat_2, Nat.reduceAdd, Nat.reduceLeDiff, hkPush_s, hkPush_n, true_and, and_true, implies_true, true_implies, not_true_eq_false, not_false_eq_true, false_implies, hkTf_0, hkTf_n1, hkOr01, hkOr11, Int.reduceEq, Int.reduceLT, Int.reduceLE, hk102a, hk102b, hk102c, Nat.reduceEqDiff, or_true, true_or, or_false, false_or, and_false, false_and, Classical.not_not, true_implies, List.set_cons_zero, List.set_cons_succ, ne_eq, e2]
          clear hs hs2 e1 e2 e3 e4 e5
          refine ⟨⟨by omega, by omega⟩, ⟨hk, by omega, by omega⟩, ?_⟩
          exact ihk (c + 1) _ (-sg) _ (by omega) (by omega) (by omega) ha3.1 ha3.2 (by unfold hkP1; simp) (by rw [← hr1]; exact hq)
    exact LP R.toNat 0 0 1 hkU (by omega) (by decide) (Or.inl rfl) (by decide) (by decide) (by rw [hkP1_u]; trivial) hQ
theorem sx_alternant (ht : 46 ≤ t) (hX : BX g R N) {i p : Int} (hk : hkJK p = 100) (hL : jL p = 49) {K B : Int → Int} (hi0 : 0 ≤ i) (hi : i < bxC R N) (hK : ∀ c : Int, 0 ≤ c → c < R → g 21 c = K c ∧ 0 ≤ K c ∧ K c < N) (hP : ∀ c : Int, ∀ e : Nat, 0 ≤ c → c < R → e < 7 → g p (7 * K c + e) = B c ^ e % 2521) {d : Nat} {Q : Option hkV → Nat → hkG → Prop} :
    Xp 69 (d + 4) 0 [(2, 17), (2, p), (0, i), (0, 0), (0, 0), hkU, hkU, hkU, hkU, hkU] [] t g Q = Q (some (0, alV R N B i R.toNat 0)) t g := by
  have hb := hX.1
  obtain ⟨b1, b2, b3, b4⟩ := id hb
  refine Xp_ev (d := R.toNat) (Ev_of ?_) (by omega)
  have := l_alternant (Q := fun r t' g' => r = some (0, alV R N B i R.toNat 0) ∧ t' = t ∧ g' = g) ht hX hk hL hi0 hi hK hP R.toNat 0 0 0 (by omega) (by decide) (by decide) ⟨rfl, rfl, rfl⟩
  rw [Nat.zero_add] at this
  exact this
end SP
