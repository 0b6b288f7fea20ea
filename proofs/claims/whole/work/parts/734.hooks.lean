/-! ties: hooks -/
theorem pbCol : ∀ a : Nat, a < 128 → ∀ b : Nat, b < 7 → hkAnd (hkShr (a : Int) (b : Int)) 1 = 1 ∨ pbN (hkOr (a : Int) (hkShl 1 (b : Int))).toNat = pbN a + 1 := by decide +kernel
theorem pbLt : ∀ N : Nat, N < 8 → ∀ b : Nat, b < N → ∀ a : Nat, a < 2 ^ N → (hkOr (a : Int) (hkShl 1 (b : Int))).toNat < 2 ^ N := by decide +kernel
theorem wShp : ∀ R, R < 5 → ∀ N, N < 8 → bxOkB R N = true → ∀ w, w < 2 ^ N → (!Nat.beq (pbN w) R || decide (0 ≤ bxI R N w (bxC R N).toNat)) = true := by decide +kernel
theorem trW_pb {f : Int → Int} {R N : Int} (hb : bxOk R N) : ∀ k : Nat, trSg f R N k ≠ 0 → pbN (trW f R N k).toNat = k ∧ (trW f R N k).toNat < 2 ^ N.toNat := by
  obtain ⟨b1, b2, b3, b4⟩ := id hb
  intro k
  induction k with
  | zero => intro _; exact ⟨by show pbN (0 : Int).toNat = 0; decide, Nat.pow_pos (by decide)⟩
  | succ k ih =>
    intro h
    have h1 : trSg f R N k ≠ 0 := fun e => h (by rw [trSg, e, Int.zero_mul, Int.zero_mul])
    have h2 : trP f R N (trB f R N k) k ≠ 0 := fun e => h (by rw [trSg, e, Int.mul_zero])
    obtain ⟨i1, i2⟩ := ih h1
    have hw := trW_rng (f := f) hb k
    have hB := trB_rng (f := f) (k := k) hb
    have hno : ¬ hkAnd (hkShr (trW f R N k) (trB f R N k)) 1 = 1 := fun e => h2 (trP_hit k ((trHit hb ⟨hB.1, by omega⟩ k).1 e))
    have c1 := pbCol (trW f R N k).toNat (by omega) (trB f R N k).toNat (by omega)
    have c2 := pbLt N.toNat (by omega) (trB f R N k).toNat (by omega) (trW f R N k).toNat i2
    rw [show (((trW f R N k).toNat : Nat) : Int) = trW f R N k from by omega, show (((trB f R N k).toNat : Nat) : Int) = trB f R N k from by omega] at c1 c2
    refine ⟨?_, c2⟩
    show pbN (hkOr (trW f R N k) (hkShl 1 (trB f R N k))).toNat = k + 1
    rcases c1 with c1 | c1
    · exact absurd c1 hno
    · rw [c1, i1]
theorem trW_shape {f : Int → Int} {R N : Int} (hb : bxOk R N) (h : trSg f R N R.toNat ≠ 0) : 0 ≤ bxI R N (trW f R N R.toNat) (bxC R N).toNat := by
  obtain ⟨b1, b2, b3, b4⟩ := id hb
  have hw := trW_rng (f := f) hb R.toNat
  obtain ⟨p1, p2⟩ := trW_pb hb R.toNat h
  have c := wShp R.toNat (by omega) N.toNat (by omega) (by unfold bxOkB; simp only [Bool.and_eq_true, decide_eq_true_eq]; omega) (trW f R N R.toNat).toNat p2
  rw [p1, show Nat.beq R.toNat R.toNat = true from by rw [Nat.beq_eq], Bool.not_true, Bool.false_or, decide_eq_true_eq] at c
  rw [show ((R.toNat : Nat) : Int) = R from by omega, show ((N.toNat : Nat) : Int) = N from by omega, show (((trW f R N R.toNat).toNat : Nat) : Int) = trW f R N R.toNat from by omega] at c
  exact c
/-- the lengths are told in order -/
def hkOkF (f : Int → Int) (n : Int) : Prop := ∀ r : Int, 0 ≤ r → r < n → 0 ≤ f r ∧ f r ≤ 20 ∧ (r ≠ 0 → f r ≤ f (r - 1))
noncomputable def hoV (R N w : Int) (f : Int → Int) : Int := if w = 0 then trSg f R N R.toNat else if trSg f R N R.toNat = 0 then -1 else if w = 1 then trT f R N R.toNat else bxI R N (trW f R N R.toNat) (bxC R N).toNat
section SP
variable {t d : Nat} {g : hkG} {R N : Int} {Q : Option hkV → Nat → hkG → Prop}
theorem l_tellsRows {s n : Int} {f : Int → Int} (ht : 190 ≤ t) (s0 : 0 ≤ s) (s3 : s ≤ 3) (hn : g (58 + 2 * s) 1 = n) (hn40 : n ≤ 40) (hf : ∀ k : Int, 0 ≤ k → k < n → g (59 + 2 * s) k = f k) : ∀ (k : Nat) (r lo : Int), r + k = n → 0 ≤ r → lo ≤ 20 → (r = 0 → lo = 20) → (r ≠ 0 → lo = f (r - 1)) → (∀ x : Int, 0 ≤ x → x < r → 0 ≤ f x ∧ f x ≤ 20 ∧ (x ≠ 0 → f x ≤ f (x - 1))) → Q (some (0, hkTf (hkOkF f n))) t g → Xp 96 d 5 [(2, 58 + 2 * s), (0, lo), (0, r)] [] t g Q := by
  obtain ⟨a1, a2, a3, a4, a5, a6, a7⟩ := sh_f ht s0 s3
  intro k
  induction k with
  | zero =>
    intro r lo hr r0 hlo h1 h2 h3 hq
    have hok : hkOkF f n := fun x x0 x1 => h3 x x0 (by omega)
    rw [hkTf_t hok] at hq
    rw [x_96_5]
    simp only [x_96_6, x_96_7, x_96_10, hkP1_0, hkP1_2, hkP1_u, hkC8, List.map_cons, List.map_nil, List.sum_cons, List.sum_nil, hkCat_0, hkCat_1, hkCat_2, Nat.reduceAdd, Nat.reduceLeDiff, hkPush_s, hkPush_n, true_and, and_true, implies_true, true_implies, not_true_eq_false, not_false_eq_true, false_implies, hkTf_0, hkTf_n1, hkOr01, hkOr11, Int.reduceEq, Int.reduceLT, Int.reduceLE, hk102a, hk102b, hk102c, Nat.reduceEqDiff, or_true, true_or, or_false, false_or, and_false, false_and, Classical.not_not, true_implies, List.set_cons_zero, List.set_cons_succ, ne_eq, x_96_47, x_96_48, hkP1_0, hkP1_2, hkP1_u, hkC8, List.map_cons, List.map_nil, List.sum_cons, List.sum_nil, hkCat_0, hkCat_1, hkCat_2, Nat.reduceAdd, Nat.reduceLeDiff, hkPush_s, hkPush_n, true_and, and_true, implies_true, true_implies, not_true_eq_false, not_false_eq_true, false_implies, hkTf_0, hkTf_n1, hkOr01, hkOr11, Int.reduceEq, Int.reduceLT, Int.reduceLE, hk102a, hk102b, hk102c, Nat.reduceEqDiff, or_true, true_or, or_false, false_or, and_false, false_and, Classical.not_not, true_implies, List.set_cons_zero, List.set_cons_succ, ne_eq, a3, hn]
    repeat' (first | exact hq | refine And.intro ?_ ?_ | intro _ | trivial | omega | (exfalso; omega))
  | succ k ih =>
    intro r lo hr r0 hlo h1 h2 h3 hq
    have hfr := hf r r0 (by omega)
    have hw : hkW (r + 1) = r + 1 := hkW_in (by omega) (by omega)
    rw [x_96_5]
    simp only [x_96_6, x_96_7, x_96_10, x_96_13, x_96_14, x_96_17, x_96_18, x_96_19, x_96_22, x_96_23, x_96_26, x_96_27, x_96_28, x_96_29, x_96_32, x_96_33, x_96_34, x_96_35, x_96_38, x_96_39, x_96_40, x_96_41, x_96_44, hkP1_0, hkP1_2, hkP1_u, hkC8, List.map_cons, List.map_nil, List.sum_cons, List.sum_nil, hkCat_0, hkCat_1, hkCat_2, Nat.reduceAdd, Nat.reduceLeDiff, hkPush_s, hkPush_n, true_and, and_true, implies_true, true_implies, not_true_eq_false, not_false_eq_true, false_implies, hkTf_0, hkTf_n1, hkOr01, hkOr11, Int.reduceEq, Int.reduceLT, Int.reduceLE, hk102a, hk102b, hk102c, Nat.reduceEqDiff, or_true, true_or, or_false, false_or, and_false, false_and, Classical.not_not, true_implies, List.set_cons_zero, List.set_cons_succ, ne_eq, a3, a4, a5, a6, a7, hn, hfr, hw]
    clear hw
    by_cases hs : 0 ≤ f r ∧ f r ≤ lo
    · have IH := ih (r + 1) (f r) (by omega) (by omega) (by omega) (fun h => by omega) (fun _ => by rw [Int.add_sub_cancel]) (fun x x0 x1 => by
        by_cases e : x = r
        · subst e
          exact ⟨hs.1, by omega, fun h => by have := h2 h; omega⟩
        · exact h3 x x0 (by omega)) hq
      repeat' (first | exact IH | refine And.intro ?_ ?_ | intro _ | trivial | omega | (exfalso; omega))
    · have hno : ¬ hkOkF f n := fun h => by
        obtain ⟨q1, q2, q3⟩ := h r r0 (by omega)
        by_cases e : r = 0
        · have := h1 e; omega
        · have := h2 e; have := q3 e; omega
      rw [hkTf_f hno] at hq
      repeat' (first | exact hq | refine And.intro ?_ ?_ | intro _ | trivial | omega | (exfalso; omega))
theorem sx_tellsRows {s n : Int} {f : Int → Int} (ht : 190 ≤ t) (s0 : 0 ≤ s) (s3 : s ≤ 3) (hn : g (58 + 2 * s) 1 = n) (n0 : 0 ≤ n) (hn40 : n ≤ 40) (hf : ∀ k : Int, 0 ≤ k → k < n → g (59 + 2 * s) k = f k) : Xp 96 d 0 [(2, 58 + 2 * s), hkU, hkU] [] t g Q = Q (some (0, hkTf (hkOkF f n))) t g := by
  refine Xp_ev (d := 0) (Ev_of ?_) (Nat.zero_le _)
  simp only [x_96_0, x_96_2, x_96_3, x_96_4, hkP1_0, hkP1_2, hkP1_u, hkC8, List.map_cons, List.map_nil, List.sum_cons, List.sum_nil, hkCat_0, hkCat_1, hkCat_2, Nat.reduceAdd, Nat.reduceLeDiff, hkPush_s, hkPush_n, true_and, and_true, implies_true, true_implies, not_true_eq_false, not_false_eq_true, false_implies, hkTf_0, hkTf_n1, hkOr01, hkOr11, Int.reduceEq, Int.reduceLT, Int.reduceLE, hk102a, hk102b, hk102c, Nat.reduceEqDiff, or_true, true_or, or_false, false_or, and_false, false_and, Classical.not_not, true_implies, List.set_cons_zero, List.set_cons_succ, ne_eq]
  exact l_tellsRows ht s0 s3 hn hn40 hf n.toNat 0 20 (by omega) (by decide) (by decide) (fun _ => rfl) (fun h => absurd rfl h) (fun x x0 x1 => by omega) ⟨rfl, rfl, rfl⟩
/-- the reference's reading of the lengths -/
theorem l_mhooks {s w : Int} {f : Int → Int} (ht : 190 ≤ t) (s0 : 0 ≤ s) (s3 : s ≤ 3) (hb : bxOk R N) : ∀ (k : Nat) (r is : Int) (g1 : hkG), r + k = R → 0 ≤ r → (is = 0 ∨ is = 1) → g1 66 0 = R → (∀ k : Int, 0 ≤ k → k < 40 → g1 89 (40 * s + k) = f k) → (∀ x : Int, 0 ≤ x → x < r → is = 1 → g1 78 x = f x) → (is = 1 ↔ ∀ x : Int, 0 ≤ x → x < r → 0 ≤ f x ∧ f x ≤ 20 ∧ (x ≠ 0 → f x ≤ f (x - 1))) → (is = 0 → r ≠ 0) →
    (∀ g' : hkG, (∀ q : Int, q ≠ 78 → g' q = g1 q) → hkOkF f R → (∀ x : Int, 0 ≤ x → x < R → g' 78 x = f x) → Xp 129 (d + 1) 145 [(2, 66), (0, s), (0, w), (0, 1), (0, R)] [] t g' Q) →
    (∀ (g' : hkG) (r' : Int), (∀ q : Int, q ≠ 78 → g' q = g1 q) → ¬ hkOkF f R → Xp 129 (d + 1) 145 [(2, 66), (0, s), (0, w), (0, 0), (0, r')] [] t g' Q) →
    Xp 129 (d + 1) 59 [(2, 66), (0, s), (0, w), (0, is), (0, r)] [] t g1 Q := by
  obtain ⟨b1, b2, b3, b4⟩ := id hb
  intro k
  induction k with
  | zero =>
    intro r is g1 hr r0 his h0 h89 h78 hiff hz hY hN
    have e : r = R := by omega
    subst e
    rw [x_129_59]
    simp only [x_129_61, x_129_62, x_129_65, hkJK_66, hkJK_78, hkJK_87, hkJK_88, hkJK_89, jA_66_21, jA_66_36, jA_66_37, jA_66_38, jL_78, jL_87, jL_88, jL_89, jR_66_21, jR_66_36, jR_66_37, jR_66_38, hkP1_0, hkP1_2, hkP1_u, hkC8, List.map_cons, List.map_nil, List.sum_cons, List.sum_nil, hkCat_0, hkCat_1, hkCat_2, Nat.reduceAdd, Nat.reduceLeDiff, hkPush_s, hkPush_n, true_and, and_true, implies_true, true_implies, not_true_eq_false, not_false_eq_true, false_implies, hkTf_0, hkTf_n1, hkOr01, hkOr11, Int.reduceEq, Int.reduceLT, Int.reduceLE, hk102a, hk102b, hk102c, Nat.reduceEqDiff, or_true, true_or, or_false, false_or, and_false, false_and, Classical.not_not, true_implies, List.set_cons_zero, List.set_cons_succ, ne_eq, hkLe_t ht, h0]
    refine And.intro (fun _ => ?_) (fun h => absurd (by omega) h)
    rcases his with h | h
    · subst h
      exact hN g1 _ (fun _ _ => rfl) (fun h => absurd (hiff.2 (fun x x0 x1 => h x x0 x1)) (by decide))
    · subst h
      exact hY g1 (fun _ _ => rfl) (fun x x0 x1 => hiff.1 rfl x x0 x1) (fun x x0 x1 => h78 x x0 x1 rfl)
  | succ k ih =>
    intro r is g1 hr r0 his h0 h89 h78 hiff hz hY hN
    rcases his with h | h
    · subst h
      have K := hN g1 r (fun _ _ => rfl) (fun h => absurd (hiff.2 (fun x x0 x1 => h x x0 (by omega))) (by decide))
      rw [x_129_59]
      simp only [x_129_61, x_129_62, x_129_65, x_129_68, x_129_69, hkJK_66, hkJK_78, hkJK_87, hkJK_88, hkJK_89, jA_66_21, jA_66_36, jA_66_37, jA_66_38, jL_78, jL_87, jL_88, jL_89, jR_66_21, jR_66_36, jR_66_37, jR_66_38, hkP1_0, hkP1_2, hkP1_u, hkC8, List.map_cons, List.map_nil, List.sum_cons, List.sum_nil, hkCat_0, hkCat_1, hkCat_2, Nat.reduceAdd, Nat.reduceLeDiff, hkPush_s, hkPush_n, true_and, and_true, implies_true, true_implies, not_true_eq_false, not_false_eq_true, false_implies, hkTf_0, hkTf_n1, hkOr01, hkOr11, Int.reduceEq, Int.reduceLT, Int.reduceLE, hk102a, hk102b, hk102c, Nat.reduceEqDiff, or_true, true_or, or_false, false_or, and_false, false_and, Classical.not_not, true_implies, List.set_cons_zero, List.set_cons_succ, ne_eq, hkLe_t ht, h0]
      repeat' (first | exact K | refine And.intro ?_ ?_ | intro _ | trivial | omega | (exfalso; omega))
    · subst h
      have hfr := h89 r r0 (by omega)
      have hiff1 := hiff.1 rfl
      obtain ⟨hw, e1, e2, e3⟩ : hkW (r + 1) = r + 1 ∧ hkW (40 * s) = 40 * s ∧ hkW (40 * s + r) = 40 * s + r ∧ hkW (r - 1) = r - 1 := ⟨hkW_in (by omega) (by omega), hkW_in (by omega) (by omega), hkW_in (by omega) (by omega), hkW_in (by omega) (by omega)⟩
      have r1 : hkSet g1 78 r (f r) 78 r = f r := by rw [hkSet_rd, if_pos ⟨rfl, rfl⟩]
      have r2 : r ≠ 0 → hkSet g1 78 r (f r) 78 (r - 1) = f (r - 1) := fun h => by clear hw e1 e2 e3; rw [hkSet_rd, if_neg (by omega)]; exact h78 (r - 1) (by omega) (by omega) rfl
      have IH := fun is' a b c => ih (r + 1) is' (hkSet g1 78 r (f r)) (by clear hw e1 e2 e3; omega) (by clear hw e1 e2 e3; omega) a (by rw [hkSet_row (by decide)]; exact h0) (fun k k0 k1 => by rw [hkSet_row (by decide)]; exact h89 k k0 k1) b c (fun _ => by clear hw e1 e2 e3; omega) (fun g' m1 m2 m3 => hY g' (fun q hq => by rw [m1 q hq, hkSet_row hq]) m2 m3) (fun g' r' m1 m2 => hN g' r' (fun q hq => by rw [m1 q hq, hkSet_row hq]) m2)
      by_cases hs : 0 ≤ f r ∧ f r ≤ 20 ∧ (r ≠ 0 → f r ≤ f (r - 1))
      · have K := IH 1 (Or.inr rfl) (fun x x0 x1 _ => by
          clear hw e1 e2 e3
          by_cases e : x = r
          · rw [e, r1]
          · rw [hkSet_rd, if_neg (fun h => e h.2)]; exact h78 x x0 (by omega) rfl) ⟨fun _ x x0 x1 => by
            clear hw e1 e2 e3
            by_cases e : x = r
            · rw [e]; exact hs
            · exact hiff1 x x0 (by omega), fun _ => rfl⟩
        rw [x_129_59]
        by_cases hr0 : r = 0
        · simp only [x_129_61, x_129_62, x_129_65, x_129_68, x_129_69, x_129_72, x_129_73, x_129_76, x_129_78, x_129_79, x_129_82, x_129_84, x_129_85, x_129_86, x_129_88, x_129_89, x_129_90, x_129_91, x_129_92, x_129_95, x_129_97, x_129_98, x_129_99, x_129_100, x_129_103, x_129_106, x_129_109, x_129_111, x_129_114, x_129_115, x_129_118, x_129_120, x_129_121, x_129_122, x_129_125, x_129_127, x_129_128, x_129_129, x_129_130, x_129_133, x_129_134, x_129_137, x_129_138, x_129_139, x_129_142, hkJK_66, hkJK_78, hkJK_87, hkJK_88, hkJK_89, jA_66_21, jA_66_36, jA_66_37, jA_66_38, jL_78, jL_87, jL_88, jL_89, jR_66_21, jR_66_36, jR_66_37, jR_66_38, hkP1_0, hkP1_2, hkP1_u, hkC8, List.map_cons, List.map_nil, List.sum_cons, List.sum_nil, hkCat_0, hkCat_1, hkCat_2, Nat.reduceAdd, Nat.reduceLeDiff, hkPush_s, hkPush_n, true_and, and_true, implies_true, true_implies, not_true_eq_false, not_false_eq_true, false_implies, hkTf_0, hkTf_n1, hkOr01, hkOr11, Int.reduceEq, Int.reduceLT, Int.reduceLE, hk102a, hk102b, hk102c, Nat.reduceEqDiff, or_true, true_or, or_false, false_or, and_false, false_and, Classical.not_not, true_implies, List.set_cons_zero, List.set_cons_succ, ne_eq, hkLe_t ht, h0, e1, e2, e3, hfr, r1, sx_mIsIn, hw]
          clear hw e1 e2 e3
          repeat' (first | exact K | refine And.intro ?_ ?_ | intro _ | trivial | omega | (exfalso; omega))
        · have r3 := r2 hr0
          have s3' := hs.2.2 hr0
          simp only [x_129_61, x_129_62, x_129_65, x_129_68, x_129_69, x_129_72, x_129_73, x_129_76, x_129_78, x_129_79, x_129_82, x_129_84, x_129_85, x_129_86, x_129_88, x_129_89, x_129_90, x_129_91, x_129_92, x_129_95, x_129_97, x_129_98, x_129_99, x_129_100, x_129_103, x_129_106, x_129_109, x_129_111, x_129_114, x_129_115, x_129_118, x_129_120, x_129_121, x_129_122, x_129_125, x_129_127, x_129_128, x_129_129, x_129_130, x_129_133, x_129_134, x_129_137, x_129_138, x_129_139, x_129_142, hkJK_66, hkJK_78, hkJK_87, hkJK_88, hkJK_89, jA_66_21, jA_66_36, jA_66_37, jA_66_38, jL_78, jL_87, jL_88, jL_89, jR_66_21, jR_66_36, jR_66_37, jR_66_38, hkP1_0, hkP1_2, hkP1_u, hkC8, List.map_cons, List.map_nil, List.sum_cons, List.sum_nil, hkCat_0, hkCat_1, hkCat_2, Nat.reduceAdd, Nat.reduceLeDiff, hkPush_s, hkPush_n, true_and, and_true, implies_true, true_implies, not_true_eq_false, not_false_eq_true, false_implies, hkTf_0, hkTf_n1, hkOr01, hkOr11, Int.reduceEq, Int.reduceLT, Int.reduceLE, hk102a, hk102b, hk102c, Nat.reduceEqDiff, or_true, true_or, or_false, false_or, and_false, false_and, Classical.not_not, true_implies, List.set_cons_zero, List.set_cons_succ, ne_eq, hkLe_t ht, h0, e1, e2, e3, hfr, r1, r3, sx_mIsIn, hw]
          clear hw e1 e2 e3
          repeat' (first | exact K | refine And.intro ?_ ?_ | intro _ | trivial | omega | (exfalso; omega))
      · have K := IH 0 (Or.inl rfl) (fun x x0 x1 h => absurd h (by decide)) ⟨fun h => absurd h (by decide), fun h => absurd (h r r0 (by clear hw e1 e2 e3; omega)) hs⟩
        rw [x_129_59]
        by_cases hr0 : r = 0
        · have hs2 : ¬ (0 ≤ f r ∧ f r ≤ 20) := fun h => hs ⟨h.1, h.2, fun h3 => absurd hr0 h3⟩
          simp only [x_129_61, x_129_62, x_129_65, x_129_68, x_129_69, x_129_72, x_129_73, x_129_76, x_129_78, x_129_79, x_129_82, x_129_84, x_129_85, x_129_86, x_129_88, x_129_89, x_129_90, x_129_91, x_129_92, x_129_95, x_129_97, x_129_98, x_129_99, x_129_100, x_129_103, x_129_106, x_129_109, x_129_111, x_129_114, x_129_115, x_129_118, x_129_120, x_129_121, x_129_122, x_129_125, x_129_127, x_129_128, x_129_129, x_129_130, x_129_133, x_129_134, x_129_137, x_129_138, x_129_139, x_129_142, hkJK_66, hkJK_78, hkJK_87, hkJK_88, hkJK_89, jA_66_21, jA_66_36, jA_66_37, jA_66_38, jL_78, jL_87, jL_88, jL_89, jR_66_21, jR_66_36, jR_66_37, jR_66_38, hkP1_0, hkP1_2, hkP1_u, hkC8, List.map_cons, List.map_nil, List.sum_cons, List.sum_nil, hkCat_0, hkCat_1, hkCat_2, Nat.reduceAdd, Nat.reduceLeDiff, hkPush_s, hkPush_n, true_and, and_true, implies_true, true_implies, not_true_eq_false, not_false_eq_true, false_implies, hkTf_0, hkTf_n1, hkOr01, hkOr11, Int.reduceEq, Int.reduceLT, Int.reduceLE, hk102a, hk102b, hk102c, Nat.reduceEqDiff, or_true, true_or, or_false, false_or, and_false, false_and, Classical.not_not, true_implies, List.set_cons_zero, List.set_cons_succ, ne_eq, hkLe_t ht, h0, e1, e2, e3, hfr, r1, sx_mIsIn, hw]
          clear hw e1 e2 e3
          repeat' (first | exact K | refine And.intro ?_ ?_ | intro _ | trivial | omega | (exfalso; omega))
        · have r3 := r2 hr0
          have hs2 : ¬ (0 ≤ f r ∧ f r ≤ 20 ∧ f r ≤ f (r - 1)) := fun h => hs ⟨h.1, h.2.1, fun _ => h.2.2⟩
          simp only [x_129_61, x_129_62, x_129_65, x_129_68, x_129_69, x_129_72, x_129_73, x_129_76, x_129_78, x_129_79, x_129_82, x_129_84, x_129_85, x_129_86, x_129_88, x_129_89, x_129_90, x_129_91, x_129_92, x_129_95, x_129_97, x_129_98, x_129_99, x_129_100, x_129_103, x_129_106, x_129_109, x_129_111, x_129_114, x_129_115, x_129_118, x_129_120, x_129_121, x_129_122, x_129_125, x_129_127, x_129_128, x_129_129, x_129_130, x_129_133, x_129_134, x_129_137, x_129_138, x_129_139, x_129_142, hkJK_66, hkJK_78, hkJK_87, hkJK_88, hkJK_89, jA_66_21, jA_66_36, jA_66_37, jA_66_38, jL_78, jL_87, jL_88, jL_89, jR_66_21, jR_66_36, jR_66_37, jR_66_38, hkP1_0, hkP1_2, hkP1_u, hkC8, List.map_cons, List.map_nil, List.sum_cons, List.sum_nil, hkCat_0, hkCat_1, hkCat_2, Nat.reduceAdd, Nat.reduceLeDiff, hkPush_s, hkPush_n, true_and, and_true, implies_true, true_implies, not_true_eq_false, not_false_eq_true, false_implies, hkTf_0, hkTf_n1, hkOr01, hkOr11, Int.reduceEq, Int.reduceLT, Int.reduceLE, hk102a, hk102b, hk102c, Nat.reduceEqDiff, or_true, true_or, or_false, false_or, and_false, false_and, Classical.not_not, true_implies, List.set_cons_zero, List.set_cons_succ, ne_eq, hkLe_t ht, h0, e1, e2, e3, hfr, r1, r3, sx_mIsIn, hw]
          clear hw e1 e2 e3
          repeat' (first | exact K | refine And.intro ?_ ?_ | intro _ | trivial | omega | (exfalso; omega))
theorem tie_hooks {xs : Int → Int} {L s w : Int} (ht : 190 ≤ t) (hR : Rel xs L g) : Tie xs L 11 (d + 12) [(2, 0), (0, s), (0, w), hkU] 129 [(2, 66), (0, s), (0, w), hkU, hkU] t g := by
  obtain ⟨R, N, hb, hr⟩ := id hR
  have hX := hb.1
  have hM := hb.2.2.2.2.1
  obtain ⟨b1, b2, b3, b4⟩ := id hX.1
  obtain ⟨x1, x2, x3, x4, x5, x6, x7, x8⟩ := BX_f hX
  obtain ⟨y1, y2, y3, y4, y5⟩ := MX_f hM
  by_cases hv : (0 ≤ s ∧ s ≤ 3) ∧ (0 ≤ w ∧ w ≤ 2)
  · obtain ⟨⟨s0, s3⟩, ⟨w0, w1⟩⟩ := id hv
    obtain ⟨a1, a2, a3, a4, a5, a6, a7⟩ := sh_f ht s0 s3
    obtain ⟨c1, c2, c3, c4, c5, c6⟩ := hr.2.2.2.1 s s0 (by omega)
    have C : ∀ Q : Option hkV → Nat → hkG → Prop, Xp 11 (d + 12) 27 [(2, 0), (0, s), (0, w), (2, 58 + 2 * s)] [] t g Q → Xp 11 (d + 12) 0 [(2, 0), (0, s), (0, w), hkU] [] t g Q := by
      intro Q hq
      simp only [x_11_0, x_11_1, x_11_4, x_11_7, x_11_8, x_11_9, x_11_10, x_11_13, x_11_16, x_11_19, x_11_20, x_11_21, x_11_24, x_11_25, x_11_26, hkJK_0, hkJK_1, hkJK_10, hkJK_57, jA_0_0, jA_0_1, jA_0_12, jL_57, jR_0_0, jR_0_1, jR_0_12, hkP1_0, hkP1_2, hkP1_u, hkC8, List.map_cons, List.map_nil, List.sum_cons, List.sum_nil, hkCat_0, hkCat_1, hkCat_2, Nat.reduceAdd, Nat.reduceLeDiff, hkPush_s, hkPush_n, true_and, and_true, implies_true, true_implies, not_true_eq_false, not_false_eq_true, false_implies, hkTf_0, hkTf_n1, hkOr01, hkOr11, Int.reduceEq, Int.reduceLT, Int.reduceLE, hk102a, hk102b, hk102c, Nat.reduceEqDiff, or_true, true_or, or_false, false_or, and_false, false_and, Classical.not_not, true_implies, List.set_cons_zero, List.set_cons_succ, ne_eq, hkLe_t ht, sx_isNoSheet, sx_isOff, hkJK_57, jL_57, a1, a2]
      repeat' (first | exact hq | refine And.intro ?_ ?_ | intro _ | trivial | omega | (exfalso; omega))
    have M0 : ∀ (g : hkG) (Q : Option hkV → Nat → hkG → Prop), Xp 129 (d + 12) 23 [(2, 66), (0, s), (0, w), hkU, hkU] [] t g Q → Xp 129 (d + 12) 0 [(2, 66), (0, s), (0, w), hkU, hkU] [] t g Q := by
      intro g Q hq
      simp only [x_129_0, x_129_1, x_129_4, x_129_7, x_129_8, x_129_9, x_129_10, x_129_13, x_129_16, x_129_19, x_129_22, hkJK_66, hkJK_78, hkJK_87, hkJK_88, hkJK_89, jA_66_21, jA_66_36, jA_66_37, jA_66_38, jL_78, jL_87, jL_88, jL_89, jR_66_21, jR_66_36, jR_66_37, jR_66_38, hkP1_0, hkP1_2, hkP1_u, hkC8, List.map_cons, List.map_nil, List.sum_cons, List.sum_nil, hkCat_0, hkCat_1, hkCat_2, Nat.reduceAdd, Nat.reduceLeDiff, hkPush_s, hkPush_n, true_and, and_true, implies_true, true_implies, not_true_eq_false, not_false_eq_true, false_implies, hkTf_0, hkTf_n1, hkOr01, hkOr11, Int.reduceEq, Int.reduceLT, Int.reduceLE, hk102a, hk102b, hk102c, Nat.reduceEqDiff, or_true, true_or, or_false, false_or, and_false, false_and, Classical.not_not, true_implies, List.set_cons_zero, List.set_cons_succ, ne_eq, sx_mIsSheet, sx_mIsIn]
      repeat' (first | exact hq | refine And.intro ?_ ?_ | intro _ | trivial | omega | (exfalso; omega))
    have TRf : ∀ j : Nat, (j : Int) < g 88 s → g (59 + 2 * s) j = g 89 (40 * s + j) := fun j hj => c6 j (by omega) hj
    by_cases hm : g 87 s = -1
    · refine tie_still (v := (0, -1011)) hR (fun Q hq => C Q ?_) (fun Q hq => M0 g Q ?_)
      · simp only [x_11_27, x_11_28, x_11_31, x_11_34, x_11_37, hkJK_0, hkJK_1, hkJK_10, hkJK_57, jA_0_0, jA_0_1, jA_0_12, jL_57, jR_0_0, jR_0_1, jR_0_12, hkP1_0, hkP1_2, hkP1_u, hkC8, List.map_cons, List.map_nil, List.sum_cons, List.sum_nil, hkCat_0, hkCat_1, hkCat_2, Nat.reduceAdd, Nat.reduceLeDiff, hkPush_s, hkPush_n, true_and, and_true, implies_true, true_implies, not_true_eq_false, not_false_eq_true, false_implies, hkTf_0, hkTf_n1, hkOr01, hkOr11, Int.reduceEq, Int.reduceLT, Int.reduceLE, hk102a, hk102b, hk102c, Nat.reduceEqDiff, or_true, true_or, or_false, false_or, and_false, false_and, Classical.not_not, true_implies, List.set_cons_zero, List.set_cons_succ, ne_eq, sx_isMissing a3, c1]
        repeat' (first | exact hq | refine And.intro ?_ ?_ | intro _ | trivial | omega | (exfalso; omega))
      · simp only [x_129_23, x_129_24, x_129_27, x_129_28, x_129_29, x_129_30, x_129_33, x_129_36, hkJK_66, hkJK_78, hkJK_87, hkJK_88, hkJK_89, jA_66_21, jA_66_36, jA_66_37, jA_66_38, jL_78, jL_87, jL_88, jL_89, jR_66_21, jR_66_36, jR_66_37, jR_66_38, hkP1_0, hkP1_2, hkP1_u, hkC8, List.map_cons, List.map_nil, List.sum_cons, List.sum_nil, hkCat_0, hkCat_1, hkCat_2, Nat.reduceAdd, Nat.reduceLeDiff, hkPush_s, hkPush_n, true_and, and_true, implies_true, true_implies, not_true_eq_false, not_false_eq_true, false_implies, hkTf_0, hkTf_n1, hkOr01, hkOr11, Int.reduceEq, Int.reduceLT, Int.reduceLE, hk102a, hk102b, hk102c, Nat.reduceEqDiff, or_true, true_or, or_false, false_or, and_false, false_and, Classical.not_not, true_implies, List.set_cons_zero, List.set_cons_succ, ne_eq, hkLe_t ht]
        repeat' (first | exact hq | refine And.intro ?_ ?_ | intro _ | trivial | omega | (exfalso; omega))
    · -- the reference's reading, from a state that differs in scratch alone
      have MR : ∀ (g1 : hkG), qKeep g g1 → RB g1 R N → ∀ Q : Option hkV → Nat → hkG → Prop, (¬ (g 88 s = R ∧ hkOkF (fun k => g 89 (40 * s + k)) R) → ∀ g' : hkG, qKeep g g' → RB g' R N → Q (some (0, -1000)) t g') → ((g 88 s = R ∧ hkOkF (fun k => g 89 (40 * s + k)) R) → ∀ g' : hkG, qKeep g g' → RB g' R N → Q (some (0, hoV R N w (fun k => g 89 (40 * s + k)))) t g') → Xp 129 (d + 12) 0 [(2, 66), (0, s), (0, w), hkU, hkU] [] t g1 Q := by
        intro g1 k1 hb1 Q q1 q2
        have r87 : g1 87 = g 87 := k1.1 _ (by unfold scr; omega)
        have r88 : g1 88 = g 88 := k1.1 _ (by unfold scr; omega)
        have r89 : g1 89 = g 89 := k1.1 _ (by unfold scr; omega)
        have z1 : g1 66 0 = R := (MX_f hb1.2.2.2.2.1).1
        have FR : ∀ g' : hkG, (∀ q : Int, q ≠ 66 → q ≠ 75 → q ≠ 78 → g' q = g1 q) → (∀ i : Int, i ≠ 16 → i ≠ 17 → i ≠ 18 → g' 66 i = g1 66 i) → qKeep g g' ∧ RB g' R N := fun g' m1 m2 => ⟨qKeep_t k1 ⟨fun q hq => m1 q (by unfold scr at hq; omega) (by unfold scr at hq; omega) (by unfold scr at hq; omega), fun k hk => m2 k (by unfold fld at hk; omega) (by unfold fld at hk; omega) (by unfold fld at hk; omega), by rw [m1 24 (by decide) (by decide) (by decide)], by rw [m1 24 (by decide) (by decide) (by decide)]⟩, RB_s hb1 (fun q u1 u2 => m1 q u2 (by omega) (by omega)) (fun k u1 u2 => m2 k (by omega) (by omega) (by omega))⟩
        refine M0 g1 _ ?_
        by_cases hsz : g 88 s = R
        · have K := l_mhooks (d := d + 11) (t := t) (g1 := g1) (R := R) (N := N) (s := s) (w := w) (f := fun k => g 89 (40 * s + k)) (Q := Q) ht s0 s3 hX.1 R.toNat 0 1 (by omega) (by decide) (Or.inr rfl) z1 (fun k _ _ => by rw [r89]) (fun x x0 x1 => by omega) ⟨fun _ x x0 x1 => by omega, fun _ => rfl⟩ (fun h => absurd h (by decide)) (fun g2 m1 m2 m3 => ?_) (fun g2 r' m1 m2 => ?_)
          · simp only [x_129_23, x_129_24, x_129_27, x_129_28, x_129_29, x_129_30, x_129_33, x_129_36, x_129_37, x_129_38, x_129_41, x_129_42, x_129_43, x_129_44, x_129_47, x_129_50, x_129_51, x_129_54, x_129_55, x_129_56, x_129_57, hkJK_66, hkJK_78, hkJK_87, hkJK_88, hkJK_89, jA_66_21, jA_66_36, jA_66_37, jA_66_38, jL_78, jL_87, jL_88, jL_89, jR_66_21, jR_66_36, jR_66_37, jR_66_38, hkP1_0, hkP1_2, hkP1_u, hkC8, List.map_cons, List.map_nil, List.sum_cons, List.sum_nil, hkCat_0, hkCat_1, hkCat_2, Nat.reduceAdd, Nat.reduceLeDiff, hkPush_s, hkPush_n, true_and, and_true, implies_true, true_implies, not_true_eq_false, not_false_eq_true, false_implies, hkTf_0, hkTf_n1, hkOr01, hkOr11, Int.reduceEq, Int.reduceLT, Int.reduceLE, hk102a, hk102b, hk102c, Nat.reduceEqDiff, or_true, true_or, or_false, false_or, and_false, false_and, Classical.not_not, true_implies, List.set_cons_zero, List.set_cons_succ, ne_eq, hkLe_t ht, r87, r88, z1]
            repeat' (first | exact K | refine And.intro ?_ ?_ | intro _ | trivial | omega | (exfalso; omega))
          · simp only [x_129_145, x_129_146, x_129_149, x_129_152, x_129_153, x_129_154, x_129_155, x_129_158, hkJK_66, hkJK_78, hkJK_87, hkJK_88, hkJK_89, jA_66_21, jA_66_36, jA_66_37, jA_66_38, jL_78, jL_87, jL_88, jL_89, jR_66_21, jR_66_36, jR_66_37, jR_66_38, hkP1_0, hkP1_2, hkP1_u, hkC8, List.map_cons, List.map_nil, List.sum_cons, List.sum_nil, hkCat_0, hkCat_1, hkCat_2, Nat.reduceAdd, Nat.reduceLeDiff, hkPush_s, hkPush_n, true_and, and_true, implies_true, true_implies, not_true_eq_false, not_false_eq_true, false_implies, hkTf_0, hkTf_n1, hkOr01, hkOr11, Int.reduceEq, Int.reduceLT, Int.reduceLE, hk102a, hk102b, hk102c, Nat.reduceEqDiff, or_true, true_or, or_false, false_or, and_false, false_and, Classical.not_not, true_implies, List.set_cons_zero, List.set_cons_succ, ne_eq, hkLe_t ht]
            obtain ⟨f1, f2⟩ := FR g2 (fun q u1 u2 u3 => m1 q u3) (fun i _ _ _ => by rw [m1 66 (by decide)])
            obtain ⟨v1, v2, v3, v4, v5⟩ := MX_f f2.2.2.2.2.1
            refine sx_mtakesRound ht (f := fun k => g 89 (40 * s + k)) hX.1 (fun j hj => by have := m2 j (by omega) hj; exact ⟨this.1, Int.le_trans this.2.1 (by decide)⟩) v1 v2 (fun j hj => m3 j (by omega) hj) (fun g3 n1 n2 n3 n4 => ?_)
            obtain ⟨h1, h2⟩ := FR g3 (fun q u1 u2 u3 => by rw [n3 q u1 u2, m1 q u3]) (fun i i1 i2 i3 => by rw [n4 i i1 i2 i3, m1 66 (by decide)])
            have qq := q2 ⟨hsz, m2⟩ g3 h1 h2
            unfold hoV at qq
            simp only [x_129_161, x_129_162, x_129_165, x_129_166, x_129_169, x_129_172, x_129_173, x_129_176, x_129_179, x_129_180, x_129_183, x_129_184, x_129_185, x_129_188, x_129_189, x_129_192, x_129_195, x_129_196, x_129_199, hkJK_66, hkJK_78, hkJK_87, hkJK_88, hkJK_89, jA_66_21, jA_66_36, jA_66_37, jA_66_38, jL_78, jL_87, jL_88, jL_89, jR_66_21, jR_66_36, jR_66_37, jR_66_38, hkP1_0, hkP1_2, hkP1_u, hkC8, List.map_cons, List.map_nil, List.sum_cons, List.sum_nil, hkCat_0, hkCat_1, hkCat_2, Nat.reduceAdd, Nat.reduceLeDiff, hkPush_s, hkPush_n, true_and, and_true, implies_true, true_implies, not_true_eq_false, not_false_eq_true, false_implies, hkTf_0, hkTf_n1, hkOr01, hkOr11, Int.reduceEq, Int.reduceLT, Int.reduceLE, hk102a, hk102b, hk102c, Nat.reduceEqDiff, or_true, true_or, or_false, false_or, and_false, false_and, Classical.not_not, true_implies, List.set_cons_zero, List.set_cons_succ, ne_eq, hkLe_t ht, n1]
            by_cases hw : w = 0
            · rw [if_pos hw] at qq
              repeat' (first | exact qq | refine And.intro ?_ ?_ | intro _ | trivial | omega | (exfalso; omega))
            · rw [if_neg hw] at qq
              by_cases hz : trSg (fun k => g 89 (40 * s + k)) R N R.toNat = 0
              · rw [if_pos hz] at qq
                repeat' (first | exact qq | refine And.intro ?_ ?_ | intro _ | trivial | omega | (exfalso; omega))
              · rw [if_neg hz] at qq
                obtain ⟨n5, n6⟩ := n2 hz
                have hsh := mx_68 f2.2.2.2.2.1 (trW_shape hX.1 hz)
                rw [hsh] at n6
                rw [n5, n6]
                by_cases hw1 : w = 1
                · rw [if_pos hw1] at qq
                  repeat' (first | exact qq | refine And.intro ?_ ?_ | intro _ | trivial | omega | (exfalso; omega))
                · rw [if_neg hw1] at qq
                  repeat' (first | exact qq | refine And.intro ?_ ?_ | intro _ | trivial | omega | (exfalso; omega))
          · obtain ⟨f1, f2⟩ := FR g2 (fun q u1 u2 u3 => m1 q u3) (fun i _ _ _ => by rw [m1 66 (by decide)])
            have qq := q1 (fun h => m2 h.2) g2 f1 f2
            simp only [x_129_145, x_129_146, x_129_149, x_129_152, hkJK_66, hkJK_78, hkJK_87, hkJK_88, hkJK_89, jA_66_21, jA_66_36, jA_66_37, jA_66_38, jL_78, jL_87, jL_88, jL_89, jR_66_21, jR_66_36, jR_66_37, jR_66_38, hkP1_0, hkP1_2, hkP1_u, hkC8, List.map_cons, List.map_nil, List.sum_cons, List.sum_nil, hkCat_0, hkCat_1, hkCat_2, Nat.reduceAdd, Nat.reduceLeDiff, hkPush_s, hkPush_n, true_and, and_true, implies_true, true_implies, not_true_eq_false, not_false_eq_true, false_implies, hkTf_0, hkTf_n1, hkOr01, hkOr11, Int.reduceEq, Int.reduceLT, Int.reduceLE, hk102a, hk102b, hk102c, Nat.reduceEqDiff, or_true, true_or, or_false, false_or, and_false, false_and, Classical.not_not, true_implies, List.set_cons_zero, List.set_cons_succ, ne_eq]
            repeat' (first | exact qq | refine And.intro ?_ ?_ | intro _ | trivial | omega | (exfalso; omega))
        · have qq := q1 (fun h => hsz h.1) g1 k1 hb1
          have K : Xp 129 (d + 12) 59 [(2, 66), (0, s), (0, w), (0, 0), (0, 0)] [] t g1 Q := by
            rw [x_129_59]
            simp only [x_129_61, x_129_62, x_129_65, x_129_68, x_129_69, hkJK_66, hkJK_78, hkJK_87, hkJK_88, hkJK_89, jA_66_21, jA_66_36, jA_66_37, jA_66_38, jL_78, jL_87, jL_88, jL_89, jR_66_21, jR_66_36, jR_66_37, jR_66_38, hkP1_0, hkP1_2, hkP1_u, hkC8, List.map_cons, List.map_nil, List.sum_cons, List.sum_nil, hkCat_0, hkCat_1, hkCat_2, Nat.reduceAdd, Nat.reduceLeDiff, hkPush_s, hkPush_n, true_and, and_true, implies_true, true_implies, not_true_eq_false, not_false_eq_true, false_implies, hkTf_0, hkTf_n1, hkOr01, hkOr11, Int.reduceEq, Int.reduceLT, Int.reduceLE, hk102a, hk102b, hk102c, Nat.reduceEqDiff, or_true, true_or, or_false, false_or, and_false, false_and, Classical.not_not, true_implies, List.set_cons_zero, List.set_cons_succ, ne_eq, x_129_145, x_129_146, x_129_149, x_129_152, hkJK_66, hkJK_78, hkJK_87, hkJK_88, hkJK_89, jA_66_21, jA_66_36, jA_66_37, jA_66_38, jL_78, jL_87, jL_88, jL_89, jR_66_21, jR_66_36, jR_66_37, jR_66_38, hkP1_0, hkP1_2, hkP1_u, hkC8, List.map_cons, List.map_nil, List.sum_cons, List.sum_nil, hkCat_0, hkCat_1, hkCat_2, Nat.reduceAdd, Nat.reduceLeDiff, hkPush_s, hkPush_n, true_and, and_true, implies_true, true_implies, not_true_eq_false, not_false_eq_true, false_implies, hkTf_0, hkTf_n1, hkOr01, hkOr11, Int.reduceEq, Int.reduceLT, Int.reduceLE, hk102a, hk102b, hk102c, Nat.reduceEqDiff, or_true, true_or, or_false, false_or, and_false, false_and, Classical.not_not, true_implies, List.set_cons_zero, List.set_cons_succ, ne_eq, hkLe_t ht, z1]
            repeat' (first | exact qq | refine And.intro ?_ ?_ | intro _ | trivial | omega | (exfalso; omega))
          simp only [x_129_23, x_129_24, x_129_27, x_129_28, x_129_29, x_129_30, x_129_33, x_129_36, x_129_37, x_129_38, x_129_41, x_129_42, x_129_43, x_129_44, x_129_47, x_129_50, x_129_51, x_129_54, x_129_55, x_129_56, x_129_57, hkJK_66, hkJK_78, hkJK_87, hkJK_88, hkJK_89, jA_66_21, jA_66_36, jA_66_37, jA_66_38, jL_78, jL_87, jL_88, jL_89, jR_66_21, jR_66_36, jR_66_37, jR_66_38, hkP1_0, hkP1_2, hkP1_u, hkC8, List.map_cons, List.map_nil, List.sum_cons, List.sum_nil, hkCat_0, hkCat_1, hkCat_2, Nat.reduceAdd, Nat.reduceLeDiff, hkPush_s, hkPush_n, true_and, and_true, implies_true, true_implies, not_true_eq_false, not_false_eq_true, false_implies, hkTf_0, hkTf_n1, hkOr01, hkOr11, Int.reduceEq, Int.reduceLT, Int.reduceLE, hk102a, hk102b, hk102c, Nat.reduceEqDiff, or_true, true_or, or_false, false_or, and_false, false_and, Classical.not_not, true_implies, List.set_cons_zero, List.set_cons_succ, ne_eq, hkLe_t ht, r87, r88, z1]
          repeat' (first | exact K | refine And.intro ?_ ?_ | intro _ | trivial | omega | (exfalso; omega))
      refine C _ ?_
      by_cases hok : g 88 s = R ∧ hkOkF (fun k => g 89 (40 * s + k)) R
      · have TR : Xp 11 (d + 12) 63 [(2, 0), (0, s), (0, w), (2, 58 + 2 * s)] [] t g (fun r t1 g1 => ∃ v, r = some v ∧ t1 = t ∧ Xp 129 (d + 12) 0 [(2, 66), (0, s), (0, w), hkU, hkU] [] t g1 (fun r2 t2 g2 => r2 = some v ∧ t2 = t ∧ Rel xs L g2)) := by
          simp only [x_11_63, x_11_64, x_11_67, x_11_68, x_11_71, hkJK_0, hkJK_1, hkJK_10, hkJK_57, jA_0_0, jA_0_1, jA_0_12, jL_57, jR_0_0, jR_0_1, jR_0_12, hkP1_0, hkP1_2, hkP1_u, hkC8, List.map_cons, List.map_nil, List.sum_cons, List.sum_nil, hkCat_0, hkCat_1, hkCat_2, Nat.reduceAdd, Nat.reduceLeDiff, hkPush_s, hkPush_n, true_and, and_true, implies_true, true_implies, not_true_eq_false, not_false_eq_true, false_implies, hkTf_0, hkTf_n1, hkOr01, hkOr11, Int.reduceEq, Int.reduceLT, Int.reduceLE, hk102a, hk102b, hk102c, Nat.reduceEqDiff, or_true, true_or, or_false, false_or, and_false, false_and, Classical.not_not, true_implies, List.set_cons_zero, List.set_cons_succ, ne_eq, hkLe_t ht, a3, a4, a5]
          refine sx_takeRound (d := d + 10) (Nat.le_trans (by decide) ht) (f := fun k => g 89 (40 * s + k)) a6 (by rw [a7]; omega) (by omega) hX.1 (fun j hj => by have := hok.2 j (by omega) hj; exact ⟨this.1, Int.le_trans this.2.1 (by decide)⟩) x1 x2 (fun j hj => TRf j (by have := hok.1; omega)) (fun g1 m1 m2 m3 m4 => ?_)
          have k1 : qKeep g g1 := ⟨fun q hq => m4 q (by unfold scr at hq; omega) (by unfold scr at hq; omega), fun k _ => by rw [m4 66 (by decide) (by decide)], by rw [m4 24 (by decide) (by decide)], by rw [m4 24 (by decide) (by decide)]⟩
          have hb1 : RB g1 R N := RB_c hb (fun q hq => m4 q (by omega) (by omega))
          have FIN := MR g1 k1 hb1 (fun r2 t2 g2 => r2 = some (0, hoV R N w (fun k => g 89 (40 * s + k))) ∧ t2 = t ∧ Rel xs L g2) (fun h => absurd hok h) (fun _ g2 k2 hb2 => ⟨rfl, rfl, Rel_q hb2 k2 hr⟩)
          have hw8 := trW_rng (f := fun k => g 89 (40 * s + k)) hX.1 R.toNat
          rw [x8 _ hw8.1 hw8.2] at m3
          have G : ∀ (Q : Option hkV → Nat → hkG → Prop), Q (some (0, hoV R N w (fun k => g 89 (40 * s + k)))) t g1 → Xp 11 (d + 11 + 1) 74 [(2, 0), (0, s), (0, w), (2, 58 + 2 * s)] [] t g1 Q := by
            intro Q qq
            unfold hoV at qq
            simp only [x_11_74, x_11_75, x_11_78, x_11_79, x_11_82, x_11_85, x_11_86, x_11_87, x_11_90, x_11_93, x_11_96, x_11_97, x_11_98, x_11_99, x_11_100, x_11_103, x_11_104, x_11_107, x_11_110, x_11_113, x_11_114, x_11_117, x_11_120, hkJK_0, hkJK_1, hkJK_10, hkJK_57, jA_0_0, jA_0_1, jA_0_12, jL_57, jR_0_0, jR_0_1, jR_0_12, hkP1_0, hkP1_2, hkP1_u, hkC8, List.map_cons, List.map_nil, List.sum_cons, List.sum_nil, hkCat_0, hkCat_1, hkCat_2, Nat.reduceAdd, Nat.reduceLeDiff, hkPush_s, hkPush_n, true_and, and_true, implies_true, true_implies, not_true_eq_false, not_false_eq_true, false_implies, hkTf_0, hkTf_n1, hkOr01, hkOr11, Int.reduceEq, Int.reduceLT, Int.reduceLE, hk102a, hk102b, hk102c, Nat.reduceEqDiff, or_true, true_or, or_false, false_or, and_false, false_and, Classical.not_not, true_implies, List.set_cons_zero, List.set_cons_succ, ne_eq, hkLe_t ht, m1, m2, m3]
            by_cases hw : w = 0
            · rw [if_pos hw] at qq
              repeat' (first | exact qq | refine And.intro ?_ ?_ | intro _ | trivial | omega | (exfalso; omega))
            · rw [if_neg hw] at qq
              by_cases hz : trSg (fun k => g 89 (40 * s + k)) R N R.toNat = 0
              · rw [if_pos hz] at qq
                repeat' (first | exact qq | refine And.intro ?_ ?_ | intro _ | trivial | omega | (exfalso; omega))
              · rw [if_neg hz] at qq
                rw [if_neg hz]
                by_cases hw1 : w = 1
                · rw [if_pos hw1] at qq
                  repeat' (first | exact qq | refine And.intro ?_ ?_ | intro _ | trivial | omega | (exfalso; omega))
                · rw [if_neg hw1] at qq
                  repeat' (first | exact qq | refine And.intro ?_ ?_ | intro _ | trivial | omega | (exfalso; omega))
          exact G _ ⟨_, rfl, rfl, FIN⟩
        have hs1 := hok.1
        simp only [x_11_27, x_11_28, x_11_31, x_11_34, x_11_37, x_11_38, x_11_39, x_11_42, x_11_43, x_11_46, x_11_49, x_11_52, x_11_53, x_11_56, hkJK_0, hkJK_1, hkJK_10, hkJK_57, jA_0_0, jA_0_1, jA_0_12, jL_57, jR_0_0, jR_0_1, jR_0_12, hkP1_0, hkP1_2, hkP1_u, hkC8, List.map_cons, List.map_nil, List.sum_cons, List.sum_nil, hkCat_0, hkCat_1, hkCat_2, Nat.reduceAdd, Nat.reduceLeDiff, hkPush_s, hkPush_n, true_and, and_true, implies_true, true_implies, not_true_eq_false, not_false_eq_true, false_implies, hkTf_0, hkTf_n1, hkOr01, hkOr11, Int.reduceEq, Int.reduceLT, Int.reduceLE, hk102a, hk102b, hk102c, Nat.reduceEqDiff, or_true, true_or, or_false, false_or, and_false, false_and, Classical.not_not, true_implies, List.set_cons_zero, List.set_cons_succ, ne_eq, hkLe_t ht, sx_isMissing a3, a3, c1, c2, x1, sx_tellsRows ht s0 s3 c2 c4 c5 c6]
        have ho2 := hok.2
        rw [← hs1] at ho2
        exact And.intro (fun _ => And.intro (fun h => absurd hs1 h) (fun _ => And.intro (fun _ => TR) (fun h => absurd ho2 h))) (fun h => absurd h hm)
      · have FIN := MR g qKeep_r hb (fun r2 t2 g2 => r2 = some (0, -1000) ∧ t2 = t ∧ Rel xs L g2) (fun _ g2 k2 hb2 => ⟨rfl, rfl, Rel_q hb2 k2 hr⟩) (fun h => absurd h hok)
        have G : ∀ (Q : Option hkV → Nat → hkG → Prop), Q (some (0, -1000)) t g → Xp 11 (d + 12) 27 [(2, 0), (0, s), (0, w), (2, 58 + 2 * s)] [] t g Q := by
          intro Q qq
          simp only [x_11_27, x_11_28, x_11_31, x_11_34, x_11_37, x_11_38, x_11_39, x_11_42, x_11_43, x_11_46, x_11_49, x_11_52, x_11_53, x_11_56, x_11_59, x_11_62, hkJK_0, hkJK_1, hkJK_10, hkJK_57, jA_0_0, jA_0_1, jA_0_12, jL_57, jR_0_0, jR_0_1, jR_0_12, hkP1_0, hkP1_2, hkP1_u, hkC8, List.map_cons, List.map_nil, List.sum_cons, List.sum_nil, hkCat_0, hkCat_1, hkCat_2, Nat.reduceAdd, Nat.reduceLeDiff, hkPush_s, hkPush_n, true_and, and_true, implies_true, true_implies, not_true_eq_false, not_false_eq_true, false_implies, hkTf_0, hkTf_n1, hkOr01, hkOr11, Int.reduceEq, Int.reduceLT, Int.reduceLE, hk102a, hk102b, hk102c, Nat.reduceEqDiff, or_true, true_or, or_false, false_or, and_false, false_and, Classical.not_not, true_implies, List.set_cons_zero, List.set_cons_succ, ne_eq, hkLe_t ht, sx_isMissing a3, a3, c1, c2, x1, sx_tellsRows ht s0 s3 c2 c4 c5 c6]
          exact And.intro (fun _ => And.intro (fun _ => qq) (fun h => And.intro (fun h2 => absurd ⟨h, by rw [h] at h2; exact h2⟩ hok) (fun _ => qq))) (fun h => absurd h hm)
        exact G _ ⟨_, rfl, rfl, FIN⟩
  · refine tie_still (v := (0, -1000)) hR (fun Q hq => ?_) (fun Q hq => ?_)
    · simp only [x_11_0, x_11_1, x_11_4, x_11_7, x_11_8, x_11_9, x_11_10, x_11_13, x_11_16, x_11_19, hkJK_0, hkJK_1, hkJK_10, hkJK_57, jA_0_0, jA_0_1, jA_0_12, jL_57, jR_0_0, jR_0_1, jR_0_12, hkP1_0, hkP1_2, hkP1_u, hkC8, List.map_cons, List.map_nil, List.sum_cons, List.sum_nil, hkCat_0, hkCat_1, hkCat_2, Nat.reduceAdd, Nat.reduceLeDiff, hkPush_s, hkPush_n, true_and, and_true, implies_true, true_implies, not_true_eq_false, not_false_eq_true, false_implies, hkTf_0, hkTf_n1, hkOr01, hkOr11, Int.reduceEq, Int.reduceLT, Int.reduceLE, hk102a, hk102b, hk102c, Nat.reduceEqDiff, or_true, true_or, or_false, false_or, and_false, false_and, Classical.not_not, true_implies, List.set_cons_zero, List.set_cons_succ, ne_eq, sx_isNoSheet, sx_isOff]
      repeat' (first | exact hq | refine And.intro ?_ ?_ | intro _ | trivial | omega | (exfalso; omega))
    · simp only [x_129_0, x_129_1, x_129_4, x_129_7, x_129_8, x_129_9, x_129_10, x_129_13, x_129_16, x_129_19, x_129_22, hkJK_66, hkJK_78, hkJK_87, hkJK_88, hkJK_89, jA_66_21, jA_66_36, jA_66_37, jA_66_38, jL_78, jL_87, jL_88, jL_89, jR_66_21, jR_66_36, jR_66_37, jR_66_38, hkP1_0, hkP1_2, hkP1_u, hkC8, List.map_cons, List.map_nil, List.sum_cons, List.sum_nil, hkCat_0, hkCat_1, hkCat_2, Nat.reduceAdd, Nat.reduceLeDiff, hkPush_s, hkPush_n, true_and, and_true, implies_true, true_implies, not_true_eq_false, not_false_eq_true, false_implies, hkTf_0, hkTf_n1, hkOr01, hkOr11, Int.reduceEq, Int.reduceLT, Int.reduceLE, hk102a, hk102b, hk102c, Nat.reduceEqDiff, or_true, true_or, or_false, false_or, and_false, false_and, Classical.not_not, true_implies, List.set_cons_zero, List.set_cons_succ, ne_eq, sx_mIsSheet, sx_mIsIn]
      repeat' (first | exact hq | refine And.intro ?_ ?_ | intro _ | trivial | omega | (exfalso; omega))
end SP
