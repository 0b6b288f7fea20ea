/-! ties: number; frames of the box -/
theorem RB_s {g g' : hkG} {R N : Int} (hb : RB g R N) (k1 : ∀ q : Int, q ≤ 71 → q ≠ 66 → g' q = g q) (k2 : ∀ k : Int, 0 ≤ k → k ≤ 2 → g' 66 k = g 66 k) : RB g' R N := by
  obtain ⟨hX, hP, hT, hRD, hM, hF⟩ := id hb
  refine ⟨BX_row hX (fun p p1 p2 => k1 p (by omega) (by omega)), fun i n s a1 a2 a3 a4 a5 a6 => by rw [k1 13 (by decide) (by decide)]; exact hP i n s a1 a2 a3 a4 a5 a6, by unfold TBI; rw [k1 14 (by decide) (by decide)]; exact hT, ?_, ?_, by unfold MF; rw [k1 71 (by decide) (by decide), k1 70 (by decide) (by decide)]; exact hF⟩
  · rw [k1 17 (by decide) (by decide)]
    rcases hRD with h | h
    · exact Or.inl h
    · exact Or.inr ⟨h.1, RDY_row h.2 (k1 19 (by decide) (by decide)) (k1 20 (by decide) (by decide))⟩
  · refine ⟨hM.1, ?_⟩
    obtain ⟨u1, u2, u3, u4⟩ := hM.2
    exact ⟨by rw [k2 0 (by decide) (by decide)]; exact u1, by rw [k2 1 (by decide) (by decide)]; exact u2, by rw [k2 2 (by decide) (by decide)]; exact u3, by rw [k1 67 (by decide) (by decide), k1 68 (by decide) (by decide), k1 69 (by decide) (by decide)]; exact u4⟩
theorem RB_c {g g' : hkG} {R N : Int} (hb : RB g R N) (k1 : ∀ q : Int, (1 ≤ q ∧ q ≤ 8) ∨ q = 13 ∨ q = 14 ∨ q = 17 ∨ q = 19 ∨ q = 20 ∨ (66 ≤ q ∧ q ≤ 71) → g' q = g q) : RB g' R N := by
  obtain ⟨hX, hP, hT, hRD, hM, hF⟩ := id hb
  refine ⟨BX_row hX (fun p p1 p2 => k1 p (by omega)), fun i n s a1 a2 a3 a4 a5 a6 => by rw [k1 13 (by omega)]; exact hP i n s a1 a2 a3 a4 a5 a6, by unfold TBI; rw [k1 14 (by omega)]; exact hT, ?_, MX_row hM (fun k _ => by rw [k1 66 (by omega)]) (k1 67 (by omega)) (k1 68 (by omega)) (k1 69 (by omega)), by unfold MF; rw [k1 71 (by omega), k1 70 (by omega)]; exact hF⟩
  rw [k1 17 (by omega)]
  rcases hRD with h | h
  · exact Or.inl h
  · exact Or.inr ⟨h.1, RDY_row h.2 (k1 19 (by omega)) (k1 20 (by omega))⟩
section SP
variable {t d : Nat} {g : hkG} {R N : Int} {Q : Option hkV → Nat → hkG → Prop}
theorem l_mcnt {n : Int} : ∀ (f : Nat) (x c : Int), 0 ≤ x → x ≤ 2147483647 → x < 10 ^ f → 0 ≤ c → c + f ≤ 1000 → Xp 111 (d + 2) 26 [(2, 66), (0, n), (0, c + dl f x), (0, 0), hkU] [] t g Q → Xp 111 (d + 2) 11 [(2, 66), (0, n), (0, c), (0, x), hkU] [] t g Q := by
  intro f
  induction f with
  | zero =>
    intro x c h0 hI h1 c0 c1 hq
    rw [Int.pow_zero] at h1
    have hx : x = 0 := by omega
    subst hx
    unfold dl at hq
    rw [Int.add_zero] at hq
    rw [x_111_11]
    simp only [x_111_12, hkJK_66, hkJK_74, jA_66_14, jL_74, jR_66_14, hkP1_0, hkP1_2, hkP1_u, hkC8, List.map_cons, List.map_nil, List.sum_cons, List.sum_nil, hkCat_0, hkCat_1, hkCat_2, Nat.reduceAdd, Nat.reduceLeDiff, hkPush_s, hkPush_n, true_and, and_true, implies_true, true_implies, not_true_eq_false, not_false_eq_true, false_implies, hkTf_0, hkTf_n1, hkOr01, hkOr11, Int.reduceEq, Int.reduceLT, Int.reduceLE, hk102a, hk102b, hk102c, Nat.reduceEqDiff, or_true, true_or, or_false, false_or, and_false, false_and, Classical.not_not, true_implies, List.set_cons_zero, List.set_cons_succ, ne_eq]
    repeat' (first | exact hq | refine And.intro ?_ ?_ | intro _ | omega | (exfalso; omega))
  | succ f ih =>
    intro x c h0 hI h1 c0 c1 hq
    rw [Int.pow_succ] at h1
    obtain ⟨e, e2⟩ : hkW (c + 1) = c + 1 ∧ hkW (x / 10) = x / 10 := ⟨hkW_in (by omega) (by omega), hkW_in (by omega) (by omega)⟩
    rw [x_111_11]
    simp only [x_111_12, x_111_15, x_111_18, x_111_19, x_111_21, x_111_22, x_111_23, hkJK_66, hkJK_74, jA_66_14, jL_74, jR_66_14, hkP1_0, hkP1_2, hkP1_u, hkC8, List.map_cons, List.map_nil, List.sum_cons, List.sum_nil, hkCat_0, hkCat_1, hkCat_2, Nat.reduceAdd, Nat.reduceLeDiff, hkPush_s, hkPush_n, true_and, and_true, implies_true, true_implies, not_true_eq_false, not_false_eq_true, false_implies, hkTf_0, hkTf_n1, hkOr01, hkOr11, Int.reduceEq, Int.reduceLT, Int.reduceLE, hk102a, hk102b, hk102c, Nat.reduceEqDiff, or_true, true_or, or_false, false_or, and_false, false_and, Classical.not_not, true_implies, List.set_cons_zero, List.set_cons_succ, ne_eq, e, e2, Int.tdiv_eq_ediv_of_nonneg h0]
    clear e e2
    unfold dl at hq
    refine And.intro (fun h => ?_) (fun h => ?_)
    · rw [if_neg (by omega), Int.add_zero] at hq
      rw [show x = 0 from by omega]; exact hq
    · rw [if_pos (by omega)] at hq
      exact ih (x / 10) (c + 1) (by omega) (by omega) (by omega) (by omega) (by omega) (by rw [Int.add_assoc]; exact hq)
theorem dgF_n {n m r : Nat} (h : r < m) : dgF n m r = ((n / 10 ^ (m - (r + 1)) % 10 : Nat) : Int) := by
  unfold dgF
  rw [show ((m : Int) - 1 - r).toNat = m - (r + 1) from by omega, Int.natCast_emod, Int.natCast_ediv, Int.natCast_pow]
  rfl
theorem l_mfill (ht : 190 ≤ t) {n m : Nat} (hm : m ≤ 4) (hn : n ≤ 2147483647) : ∀ (k : Nat) (g : hkG), k ≤ m → (∀ g' : hkG, (∀ q : Int, q ≠ 74 → g' q = g q) → (∀ r : Nat, r < k → g' 74 r = dgF n m r) → (∀ r : Nat, k ≤ r → g' 74 r = g 74 r) → Q none t g') →
    ∀ Q' : Option hkV → Nat → hkG → Prop, (∀ (g' : hkG) (v : hkV), Q none t g' → Xp 111 (d + 2) 67 [(2, 66), (0, (n : Int)), (0, (m : Int)), v, (0, -1)] [] t g' Q') → Xp 111 (d + 2) 40 [(2, 66), (0, (n : Int)), (0, (m : Int)), (0, ((n / 10 ^ (m - k) : Nat) : Int)), (0, (k : Int) - 1)] [] t g Q' := by
  intro k
  induction k with
  | zero =>
    intro g hk hQ Q' hF
    have K := hF g (0, ((n / 10 ^ (m - 0) : Nat) : Int)) (hQ g (fun _ _ => rfl) (fun r hr => by omega) (fun _ _ => rfl))
    rw [x_111_40]
    simp only [x_111_42, hkJK_66, hkJK_74, jA_66_14, jL_74, jR_66_14, hkP1_0, hkP1_2, hkP1_u, hkC8, List.map_cons, List.map_nil, List.sum_cons, List.sum_nil, hkCat_0, hkCat_1, hkCat_2, Nat.reduceAdd, Nat.reduceLeDiff, hkPush_s, hkPush_n, true_and, and_true, implies_true, true_implies, not_true_eq_false, not_false_eq_true, false_implies, hkTf_0, hkTf_n1, hkOr01, hkOr11, Int.reduceEq, Int.reduceLT, Int.reduceLE, hk102a, hk102b, hk102c, Nat.reduceEqDiff, or_true, true_or, or_false, false_or, and_false, false_and, Classical.not_not, true_implies, List.set_cons_zero, List.set_cons_succ, ne_eq]
    refine And.intro (fun _ => ?_) (fun h => absurd h (by omega))
    exact K
  | succ k ih =>
    intro g hk hQ Q' hF
    have hd : n / 10 ^ (m - (k + 1)) / 10 = n / 10 ^ (m - k) := by
      rw [Nat.div_div_eq_div_mul, ← Nat.pow_succ, show (m - (k + 1)).succ = m - k from by omega]
    have hle : n / 10 ^ (m - (k + 1)) ≤ n := Nat.div_le_self _ _
    have hdg := dgF_n (n := n) (m := m) (r := k) (by omega)
    have hkk : ((k + 1 : Nat) : Int) - 1 = (k : Int) := by omega
    have IH := ih (hkSet g 74 k (dgF n m k)) (by omega) (fun g' k1 k2 k3 => hQ g' (fun q hq => by rw [k1 q hq, hkSet_row hq]) (fun r hr => ?_) (fun r hr => ?_)) Q' hF
    · rw [← hd] at IH
      rw [hdg] at IH
      generalize n / 10 ^ (m - (k + 1)) = x at IH hle ⊢
      rw [hkk, x_111_40]
      obtain ⟨e1, e2⟩ : hkW ((x : Int) / 10) = (x : Int) / 10 ∧ hkW ((k : Int) + -1) = (k : Int) - 1 := ⟨hkW_in (by omega) (by omega), by rw [hkW_in (by omega) (by omega)]; omega⟩
      have x0 : (0 : Int) ≤ x := by omega
      simp only [x_111_42, x_111_45, x_111_46, x_111_49, x_111_51, x_111_52, x_111_54, x_111_55, x_111_56, x_111_57, x_111_59, x_111_60, x_111_61, x_111_64, hkJK_66, hkJK_74, jA_66_14, jL_74, jR_66_14, hkP1_0, hkP1_2, hkP1_u, hkC8, List.map_cons, List.map_nil, List.sum_cons, List.sum_nil, hkCat_0, hkCat_1, hkCat_2, Nat.reduceAdd, Nat.reduceLeDiff, hkPush_s, hkPush_n, true_and, and_true, implies_true, true_implies, not_true_eq_false, not_false_eq_true, false_implies, hkTf_0, hkTf_n1, hkOr01, hkOr11, Int.reduceEq, Int.reduceLT, Int.reduceLE, hk102a, hk102b, hk102c, Nat.reduceEqDiff, or_true, true_or, or_false, false_or, and_false, false_and, Classical.not_not, true_implies, List.set_cons_zero, List.set_cons_succ, ne_eq, hkLe_t ht, Int.tmod_eq_emod_of_nonneg x0, Int.tdiv_eq_ediv_of_nonneg x0, e1, e2]
      clear e1 e2
      refine And.intro (fun h => absurd h (by omega)) (fun _ => And.intro (by omega) ?_)
      rw [Int.natCast_ediv, Int.natCast_emod] at IH
      exact IH
    · by_cases e : r = k
      · subst e
        rw [k3 r (by omega), hkSet_rd, if_pos ⟨rfl, rfl⟩]
      · exact k2 r (by omega)
    · rw [k3 r (by omega), hkSet_rd, if_neg (by omega)]
theorem tie_number {xs : Int → Int} {L n : Int} (ht : 190 ≤ t) (hI : inI n) (hR : Rel xs L g) : Tie xs L 5 (d + 12) [(2, 0), (0, n)] 111 [(2, 66), (0, n), hkU, hkU, hkU] t g := by
  obtain ⟨R, N, hb, hr⟩ := id hR
  obtain ⟨hX, hP, hT, hRD, hM, hF⟩ := id hb
  obtain ⟨b1, b2, b3, b4⟩ := id hX.1
  have ht2 : 18 ≤ t := Nat.le_trans (by decide) ht
  unfold inI at hI
  by_cases hn : n < 0
  · refine tie_still (v := (0, -2)) hR (fun Q hq => ?_) (fun Q hq => ?_)
    · simp only [x_5_0, x_5_1, x_5_4, x_5_6, hkJK_0, hkJK_1, jA_0_0, jR_0_0, hkP1_0, hkP1_2, hkP1_u, hkC8, List.map_cons, List.map_nil, List.sum_cons, List.sum_nil, hkCat_0, hkCat_1, hkCat_2, Nat.reduceAdd, Nat.reduceLeDiff, hkPush_s, hkPush_n, true_and, and_true, implies_true, true_implies, not_true_eq_false, not_false_eq_true, false_implies, hkTf_0, hkTf_n1, hkOr01, hkOr11, Int.reduceEq, Int.reduceLT, Int.reduceLE, hk102a, hk102b, hk102c, Nat.reduceEqDiff, or_true, true_or, or_false, false_or, and_false, false_and, Classical.not_not, true_implies, List.set_cons_zero, List.set_cons_succ, ne_eq, x_5_17, hkJK_0, hkJK_1, jA_0_0, jR_0_0, hkP1_0, hkP1_2, hkP1_u, hkC8, List.map_cons, List.map_nil, List.sum_cons, List.sum_nil, hkCat_0, hkCat_1, hkCat_2, Nat.reduceAdd, Nat.reduceLeDiff, hkPush_s, hkPush_n, true_and, and_true, implies_true, true_implies, not_true_eq_false, not_false_eq_true, false_implies, hkTf_0, hkTf_n1, hkOr01, hkOr11, Int.reduceEq, Int.reduceLT, Int.reduceLE, hk102a, hk102b, hk102c, Nat.reduceEqDiff, or_true, true_or, or_false, false_or, and_false, false_and, Classical.not_not, true_implies, List.set_cons_zero, List.set_cons_succ, ne_eq]
      repeat' (first | exact hq | refine And.intro ?_ ?_ | intro _ | omega | (exfalso; omega))
    · simp only [x_111_0, x_111_1, x_111_4, x_111_6, hkJK_66, hkJK_74, jA_66_14, jL_74, jR_66_14, hkP1_0, hkP1_2, hkP1_u, hkC8, List.map_cons, List.map_nil, List.sum_cons, List.sum_nil, hkCat_0, hkCat_1, hkCat_2, Nat.reduceAdd, Nat.reduceLeDiff, hkPush_s, hkPush_n, true_and, and_true, implies_true, true_implies, not_true_eq_false, not_false_eq_true, false_implies, hkTf_0, hkTf_n1, hkOr01, hkOr11, Int.reduceEq, Int.reduceLT, Int.reduceLE, hk102a, hk102b, hk102c, Nat.reduceEqDiff, or_true, true_or, or_false, false_or, and_false, false_and, Classical.not_not, true_implies, List.set_cons_zero, List.set_cons_succ, ne_eq]
      repeat' (first | exact hq | refine And.intro ?_ ?_ | intro _ | omega | (exfalso; omega))
  · have n0 : 0 ≤ n := by omega
    have n1 : n ≤ 2147483647 := by omega
    obtain ⟨dp, dq⟩ := dl_p 10 n n0 (by omega)
    have dr := dl_r 10 n
    have A : ∀ Q : Option hkV → Nat → hkG → Prop, Q (some (0, nbV R N n)) t g → Xp 5 (d + 12) 0 [(2, 0), (0, n)] [] t g Q := by
      intro Q hq
      simp only [x_5_0, x_5_1, x_5_4, x_5_6, x_5_9, x_5_10, x_5_13, x_5_14, x_5_17, hkJK_0, hkJK_1, jA_0_0, jR_0_0, hkP1_0, hkP1_2, hkP1_u, hkC8, List.map_cons, List.map_nil, List.sum_cons, List.sum_nil, hkCat_0, hkCat_1, hkCat_2, Nat.reduceAdd, Nat.reduceLeDiff, hkPush_s, hkPush_n, true_and, and_true, implies_true, true_implies, not_true_eq_false, not_false_eq_true, false_implies, hkTf_0, hkTf_n1, hkOr01, hkOr11, Int.reduceEq, Int.reduceLT, Int.reduceLE, hk102a, hk102b, hk102c, Nat.reduceEqDiff, or_true, true_or, or_false, false_or, and_false, false_and, Classical.not_not, true_implies, List.set_cons_zero, List.set_cons_succ, ne_eq, hkLe_t ht, sx_numbered ht2 hX n0 n1]
      repeat' (first | exact hq | refine And.intro ?_ ?_ | intro _ | omega | (exfalso; omega))
    refine A _ ⟨_, rfl, rfl, ?_⟩
    have K : Xp 111 (d + 12) 26 [(2, 66), (0, n), (0, dl 10 n), (0, 0), hkU] [] t g (fun r2 t2 g2 => r2 = some (0, nbV R N n) ∧ t2 = t ∧ Rel xs L g2) := by
      simp only [x_111_26, x_111_27, x_111_28, x_111_31, x_111_32, x_111_33, hkJK_66, hkJK_74, jA_66_14, jL_74, jR_66_14, hkP1_0, hkP1_2, hkP1_u, hkC8, List.map_cons, List.map_nil, List.sum_cons, List.sum_nil, hkCat_0, hkCat_1, hkCat_2, Nat.reduceAdd, Nat.reduceLeDiff, hkPush_s, hkPush_n, true_and, and_true, implies_true, true_implies, not_true_eq_false, not_false_eq_true, false_implies, hkTf_0, hkTf_n1, hkOr01, hkOr11, Int.reduceEq, Int.reduceLT, Int.reduceLE, hk102a, hk102b, hk102c, Nat.reduceEqDiff, or_true, true_or, or_false, false_or, and_false, false_and, Classical.not_not, true_implies, List.set_cons_zero, List.set_cons_succ, ne_eq]
      refine And.intro (fun h4 => ?_) (fun h4 => ?_)
      · obtain ⟨m, hm⟩ : ∃ m : Nat, dl 10 n = m := ⟨(dl 10 n).toNat, by omega⟩
        obtain ⟨x, hx⟩ : ∃ x : Nat, n = x := ⟨n.toNat, by omega⟩
        subst hx
        have e1 : hkW (dl 10 (x : Int) - 1) = dl 10 (x : Int) - 1 := hkW_in (by omega) (by omega)
        simp only [x_111_34, x_111_35, x_111_36, x_111_37, x_111_38, hkJK_66, hkJK_74, jA_66_14, jL_74, jR_66_14, hkP1_0, hkP1_2, hkP1_u, hkC8, List.map_cons, List.map_nil, List.sum_cons, List.sum_nil, hkCat_0, hkCat_1, hkCat_2, Nat.reduceAdd, Nat.reduceLeDiff, hkPush_s, hkPush_n, true_and, and_true, implies_true, true_implies, not_true_eq_false, not_false_eq_true, false_implies, hkTf_0, hkTf_n1, hkOr01, hkOr11, Int.reduceEq, Int.reduceLT, Int.reduceLE, hk102a, hk102b, hk102c, Nat.reduceEqDiff, or_true, true_or, or_false, false_or, and_false, false_and, Classical.not_not, true_implies, List.set_cons_zero, List.set_cons_succ, ne_eq, e1]
        clear e1
        rw [hm] at dp dq h4 ⊢
        rw [Int.toNat_natCast] at dp dq
        have F := l_mfill (d := d + 10) (t := t) (n := x) (m := m) (Q := fun _ _ g' => (∀ q : Int, q ≠ 74 → g' q = g q) ∧ (∀ r : Nat, r < m → g' 74 r = dgF x m r)) ht (by omega) (by omega) m g (Nat.le_refl _) (fun g' k1 k2 k3 => ⟨k1, k2⟩) (fun r2 t2 g2 => r2 = some (0, nbV R N x) ∧ t2 = t ∧ Rel xs L g2) (fun g' v h => ?_)
        · rw [Nat.sub_self, Nat.pow_zero, Nat.div_one] at F
          exact F
        · obtain ⟨k1, k2⟩ := h
          have hb' : RB g' R N := RB_s hb (fun q q1 q2 => k1 q (by omega)) (fun k _ _ => by rw [k1 66 (by decide)])
          have hx10 : x < 10 ^ m := by exact_mod_cast dp
          have hf : ∀ r : Int, 0 ≤ r → r < m → g' 74 r = dgF x m r ∧ 0 ≤ dgF x m r ∧ dgF x m r ≤ 9 := by
            intro r r0 r1
            have := k2 r.toNat (by omega)
            rw [show ((r.toNat : Nat) : Int) = r from by omega] at this
            refine ⟨this, ?_⟩
            unfold dgF
            omega
          have hrel : Rel xs L g' := Rel_q hb' ⟨fun q hq => k1 q (by unfold scr at hq; omega), fun k _ => by rw [k1 66 (by decide)], by rw [k1 24 (by decide)], by rw [k1 24 (by decide)]⟩ hr
          have SH : ∀ Q : Option hkV → Nat → hkG → Prop, Xp 112 (d + 11) 0 [(2, 66), (0, (m : Int)), hkU, hkU, hkU, hkU] [] t g' Q = Q (some (0, shV R N (dgF x m) m)) t g' := fun Q => sx_mshapeOf (d := d + 10) ht hb'.2.2.2.2.1 hf (fun hmR => (nb_all hX.1 hmR hx10).2.2)
          simp only [x_111_67, x_111_68, x_111_69, x_111_72, hkJK_66, hkJK_74, jA_66_14, jL_74, jR_66_14, hkP1_0, hkP1_2, hkP1_u, hkC8, List.map_cons, List.map_nil, List.sum_cons, List.sum_nil, hkCat_0, hkCat_1, hkCat_2, Nat.reduceAdd, Nat.reduceLeDiff, hkPush_s, hkPush_n, true_and, and_true, implies_true, true_implies, not_true_eq_false, not_false_eq_true, false_implies, hkTf_0, hkTf_n1, hkOr01, hkOr11, Int.reduceEq, Int.reduceLT, Int.reduceLE, hk102a, hk102b, hk102c, Nat.reduceEqDiff, or_true, true_or, or_false, false_or, and_false, false_and, Classical.not_not, true_implies, List.set_cons_zero, List.set_cons_succ, ne_eq, SH]
          have hsh : shV R N (dgF x m) m = nbV R N x := by
            unfold shV nbV
            rw [hm, Int.toNat_natCast]
            by_cases h : R < m
            · rw [if_pos h, if_pos h]
            · rw [if_neg h, if_neg h]
              obtain ⟨n1, n2, n3⟩ := nb_all hX.1 (m := m) (n := x) (by omega) hx10
              rw [n2 ?_]
              rcases dq with ⟨q1, q2⟩ | q1
              · exact Or.inl (by omega)
              · exact Or.inr (by exact_mod_cast q1)
          rw [hsh]
          first | exact ⟨rfl, rfl, hrel⟩ | exact ⟨rfl, hrel⟩ | exact ⟨trivial, hrel⟩ | exact hrel
      · refine ⟨?_, hR⟩
        unfold nbV
        rw [if_pos (by omega)]
    simp only [x_111_0, x_111_1, x_111_4, x_111_6, x_111_7, x_111_8, x_111_9, x_111_10, hkJK_66, hkJK_74, jA_66_14, jL_74, jR_66_14, hkP1_0, hkP1_2, hkP1_u, hkC8, List.map_cons, List.map_nil, List.sum_cons, List.sum_nil, hkCat_0, hkCat_1, hkCat_2, Nat.reduceAdd, Nat.reduceLeDiff, hkPush_s, hkPush_n, true_and, and_true, implies_true, true_implies, not_true_eq_false, not_false_eq_true, false_implies, hkTf_0, hkTf_n1, hkOr01, hkOr11, Int.reduceEq, Int.reduceLT, Int.reduceLE, hk102a, hk102b, hk102c, Nat.reduceEqDiff, or_true, true_or, or_false, false_or, and_false, false_and, Classical.not_not, true_implies, List.set_cons_zero, List.set_cons_succ, ne_eq]
    have C := l_mcnt (d := d + 10) (t := t) (g := g) (n := n) (Q := fun r2 t2 g2 => r2 = some (0, nbV R N n) ∧ t2 = t ∧ Rel xs L g2) 10 n 0 n0 n1 (by omega) (by omega) (by omega) (by rw [Int.zero_add]; exact K)
    repeat' (first | exact C | refine And.intro ?_ ?_ | intro _ | omega | (exfalso; omega))
end SP
