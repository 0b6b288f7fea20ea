/-! Box: its tables are made -/
theorem hkLe_t {t n k : Nat} (h : n ≤ t) (hk : k ≤ n) : (k ≤ t) = True := by simp; omega
def tzS (f : Int → Int) : Nat → Int → Int → Int
  | 0, _, s => s
  | k + 1, r, s => tzS f k (r + 1) (hkW (s + f r))
def tzB (R x r : Int) : Int := hkW (hkW (hkW (x + R) - 1) - r)
def tzW (f : Int → Int) (R : Int) : Nat → Int → Int → Int
  | 0, _, w => w
  | k + 1, r, w => tzW f R k (r + 1) (hkOr w (hkShl 1 (tzB R (f r) r)))
theorem tzS_congr {f f' : Int → Int} : ∀ (k : Nat) (r s : Int), (∀ j : Int, r ≤ j → j < r + k → f j = f' j) → tzS f k r s = tzS f' k r s := by
  intro k
  induction k with
  | zero => intro r s h; rfl
  | succ k ih =>
    intro r s h
    unfold tzS
    rw [h r (by omega) (by omega)]
    exact ih _ _ (fun j h1 h2 => h j (by omega) (by omega))
theorem tzW_congr {f f' : Int → Int} {R : Int} : ∀ (k : Nat) (r s : Int), (∀ j : Int, r ≤ j → j < r + k → f j = f' j) → tzW f R k r s = tzW f' R k r s := by
  intro k
  induction k with
  | zero => intro r s h; rfl
  | succ k ih =>
    intro r s h
    unfold tzW
    rw [h r (by omega) (by omega)]
    exact ih _ _ (fun j h1 h2 => h j (by omega) (by omega))
def bxTz (R N i : Int) : Prop := tzS (bxL R N i) R.toNat 0 0 = bxZ R N i ∧ tzW (bxL R N i) R R.toNat 0 0 = bxW R N i
def bxTzB (R N i : Nat) : Bool := decide (tzS (bxL R N i) R 0 0 = bxZ R N i) && decide (tzW (bxL R N i) R R 0 0 = bxW R N i)
theorem bxTzAll : ∀ R, R < 5 → ∀ N, N < 8 → bxOkB R N = true → ∀ i, i < (bxS R N).length → bxTzB R N i = true := by decide +kernel
theorem bx_tz {R N i : Int} (hb : bxOk R N) (h0 : 0 ≤ i) (hi : i < bxC R N) : bxTz R N i := bxAll1 (P := bxTz) (fun R hR N hN ho i hi => by
  have := bxTzAll R hR N hN ho i hi
  unfold bxTzB at this
  simp only [Bool.and_eq_true, decide_eq_true_eq] at this
  unfold bxTz
  simp only [Int.toNat_natCast]
  exact this) hb h0 hi
theorem bx_sh {R N i : Int} (hb : bxOk R N) (h0 : 0 ≤ i) (hi : i < bxC R N) : (∀ r : Int, 0 ≤ r → r < 4 → 0 ≤ bxL R N i r ∧ bxL R N i r ≤ N - R ∧ (R ≤ r → bxL R N i r = 0) ∧ (r + 1 < R → bxL R N i (r + 1) ≤ bxL R N i r)) ∧ bxZ R N i = bxL R N i 0 + bxL R N i 1 + bxL R N i 2 + bxL R N i 3 ∧ (0 ≤ bxW R N i ∧ bxW R N i < 128) ∧ bxSl R N i < 5 ∧ bxI R N (bxW R N i) (bxC R N).toNat = i ∧ bxI R N (bxW R N i) i.toNat = -1 := by
  refine bxAll1 (P := fun R N i => (∀ r : Int, 0 ≤ r → r < 4 → 0 ≤ bxL R N i r ∧ bxL R N i r ≤ N - R ∧ (R ≤ r → bxL R N i r = 0) ∧ (r + 1 < R → bxL R N i (r + 1) ≤ bxL R N i r)) ∧ bxZ R N i = bxL R N i 0 + bxL R N i 1 + bxL R N i 2 + bxL R N i 3 ∧ (0 ≤ bxW R N i ∧ bxW R N i < 128) ∧ bxSl R N i < 5 ∧ bxI R N (bxW R N i) (bxC R N).toNat = i ∧ bxI R N (bxW R N i) i.toNat = -1) (fun R hR N hN ho i hi => ?_) hb h0 hi
  have h1 := bxShAll R hR N hN ho i hi
  unfold bxShChk at h1
  simp only [Bool.and_eq_true, decide_eq_true_eq] at h1
  obtain ⟨a1, a2, a3, a4, a5, a6⟩ := h1
  refine ⟨fun r hr0 hr4 => ?_, a2, ⟨a3.1, ?_⟩, a4, ?_, a6⟩
  · obtain ⟨b1, b2, b3⟩ := a1 r.toNat (by omega)
    rw [show ((r.toNat : Nat) : Int) = r from by omega, show ((r.toNat + 1 : Nat) : Int) = r + 1 from by omega] at *
    refine ⟨by unfold bxL; omega, b1, fun h => b2 (by omega), fun h => b3 (by omega)⟩
  · have h2 : (2 : Int) ^ N ≤ 2 ^ 7 := by
      have : N ≤ 7 := by omega
      exact_mod_cast Nat.pow_le_pow_right (by decide) this
    have h3 := a3.2
    have h4 : (2 : Int) ^ 7 = 128 := by decide
    omega
  · unfold bxC
    simp only [Int.toNat_natCast]
    exact a5
/-- the tables hold the first k shapes -/
def TB (g : hkG) (R N : Int) (k : Nat) : Prop := g 1 0 = R ∧ g 1 1 = N ∧ g 1 2 = N - R ∧ g 1 3 = (k : Int) ∧
  (∀ i : Int, 0 ≤ i → i < k → (∀ r : Int, 0 ≤ r → r < 4 → g 2 (4 * i + r) = bxL R N i r) ∧ g 3 i = bxZ R N i ∧ g 4 i = bxW R N i ∧ g 7 i = bxSl R N i ∧ g 5 (5 * bxQ R N i + bxSl R N i) = i) ∧
  (∀ q : Int, 0 ≤ q → q < N → g 6 q = bxCq R N q k) ∧ ∀ w : Int, 0 ≤ w → w < 128 → g 8 w = bxI R N w k
theorem bxCq_0 {R N q : Int} : ∀ k : Nat, 0 ≤ bxCq R N q k ∧ bxCq R N q k ≤ k := by
  intro k
  induction k with
  | zero => exact ⟨Int.le_refl _, Int.le_refl _⟩
  | succ k ih =>
    unfold bxCq
    split <;> omega
section SP
variable {t d : Nat} {g : hkG} {Q : Option hkV → Nat → hkG → Prop} {R N : Int}
theorem sx_beadOf {x r : Int} : Xp 37 d 0 [(2, 1), (0, x), (0, r)] [] t g Q = Q (some (0, tzB (g 1 0) x r)) t g := Xp_ev s_beadOf (Nat.zero_le _)
theorem l_trial (ht : 18 ≤ t) (hR4 : g 1 0 ≤ 4) : ∀ (k : Nat) (r s w : Int), r + k = g 1 0 → 0 ≤ r → Xp 36 (d + 1) 45 [(2, 1), (0, tzS (g 9) k r s), (0, tzW (g 9) (g 1 0) k r w), (0, g 1 0)] [] t g Q → Xp 36 (d + 1) 6 [(2, 1), (0, s), (0, w), (0, r)] [] t g Q := by
  intro k
  induction k with
  | zero =>
    intro r s w hr h0 hq
    rw [x_36_6]
    simp only [x_36_7, x_36_8, x_36_11, x_36_14, x_36_15, x_36_16, x_36_19, x_36_20, x_36_21, x_36_22, x_36_23, x_36_24, x_36_25, x_36_26, x_36_27, x_36_30, x_36_31, x_36_32, x_36_33, x_36_36, x_36_37, x_36_38, x_36_39, x_36_42, hkJK_1, hkJK_2, hkJK_3, hkJK_4, hkJK_5, hkJK_6, hkJK_7, hkJK_8, hkJK_9, jA_1_10, jA_1_11, jA_1_4, jA_1_5, jA_1_6, jA_1_7, jA_1_8, jA_1_9, jL_2, jL_3, jL_4, jL_5, jL_6, jL_7, jL_8, jL_9, jR_1_10, jR_1_11, jR_1_4, jR_1_5, jR_1_6, jR_1_7, jR_1_8, jR_1_9, hkP1_0, hkP1_2, hkP1_u, hkC8, List.map_cons, List.map_nil, List.sum_cons, List.sum_nil, hkCat_0, hkCat_1, hkCat_2, Nat.reduceAdd, Nat.reduceLeDiff, hkPush_s, hkPush_n, true_and, and_true, implies_true, true_implies, not_true_eq_false, not_false_eq_true, false_implies, hkTf_0, hkTf_n1, hkOr01, hkOr11, Int.reduceEq, Int.reduceLT, Int.reduceLE, hk102a, hk102b, hk102c, Nat.reduceEqDiff, or_true, true_or, or_false, false_or, and_false, false_and, Classical.not_not, true_implies, List.set_cons_zero, List.set_cons_succ, ne_eq, hkLe_t ht]
    refine ⟨fun _ => ?_, fun h => absurd (by omega) h⟩
    rw [show r = g 1 0 from by omega]
    exact hq
  | succ k ih =>
    intro r s w hr h0 hq
    rw [x_36_6]
    simp only [x_36_7, x_36_8, x_36_11, x_36_14, x_36_15, x_36_16, x_36_19, x_36_20, x_36_21, x_36_22, x_36_23, x_36_24, x_36_25, x_36_26, x_36_27, x_36_30, x_36_31, x_36_32, x_36_33, x_36_36, x_36_37, x_36_38, x_36_39, x_36_42, hkJK_1, hkJK_2, hkJK_3, hkJK_4, hkJK_5, hkJK_6, hkJK_7, hkJK_8, hkJK_9, jA_1_10, jA_1_11, jA_1_4, jA_1_5, jA_1_6, jA_1_7, jA_1_8, jA_1_9, jL_2, jL_3, jL_4, jL_5, jL_6, jL_7, jL_8, jL_9, jR_1_10, jR_1_11, jR_1_4, jR_1_5, jR_1_6, jR_1_7, jR_1_8, jR_1_9, hkP1_0, hkP1_2, hkP1_u, hkC8, List.map_cons, List.map_nil, List.sum_cons, List.sum_nil, hkCat_0, hkCat_1, hkCat_2, Nat.reduceAdd, Nat.reduceLeDiff, hkPush_s, hkPush_n, true_and, and_true, implies_true, true_implies, not_true_eq_false, not_false_eq_true, false_implies, hkTf_0, hkTf_n1, hkOr01, hkOr11, Int.reduceEq, Int.reduceLT, Int.reduceLE, hk102a, hk102b, hk102c, Nat.reduceEqDiff, or_true, true_or, or_false, false_or, and_false, false_and, Classical.not_not, true_implies, List.set_cons_zero, List.set_cons_succ, ne_eq, hkLe_t ht, sx_beadOf]
    refine ⟨fun h => by omega, fun _ => ⟨⟨h0, by omega⟩, ⟨h0, by omega⟩, ?_⟩⟩
    rw [hkW_in (x := r + 1) (by omega) (by omega)]
    exact ih (r + 1) _ _ (by omega) (by omega) hq
theorem bx_Q {i : Int} (hb : bxOk R N) : 0 ≤ bxQ R N i ∧ bxQ R N i < N := by
  obtain ⟨h1, h2, h3, h4⟩ := hb
  unfold bxQ
  exact ⟨Int.emod_nonneg _ (by omega), Int.emod_lt_of_pos _ (by omega)⟩
theorem bxCq_mono {q : Int} {k m : Nat} (h : k ≤ m) : bxCq R N q k ≤ bxCq R N q m := by
  obtain ⟨j, rfl⟩ := Nat.le.dest h
  induction j with
  | zero => exact Int.le_refl _
  | succ j ih =>
    have := ih (by omega)
    have e : bxCq R N q (k + (j + 1)) = bxCq R N q (k + j) + (if bxQ R N ((k + j : Nat) : Int) = q then 1 else 0) := rfl
    rw [e]
    split <;> omega
theorem bxSl_lt {i : Int} {k : Nat} (h0 : 0 ≤ i) (h : i < k) : bxSl R N i < bxCq R N (bxQ R N i) k := by
  have h1 : bxCq R N (bxQ R N i) (i.toNat + 1) ≤ bxCq R N (bxQ R N i) k := bxCq_mono (by omega)
  unfold bxSl
  have h2 : bxCq R N (bxQ R N i) (i.toNat + 1) = bxCq R N (bxQ R N i) i.toNat + 1 := by
    show bxCq R N (bxQ R N i) i.toNat + (if bxQ R N ((i.toNat : Nat) : Int) = bxQ R N i then 1 else 0) = _
    rw [show ((i.toNat : Nat) : Int) = i from by omega, if_pos rfl]
  omega
theorem sx_addTrial {k : Nat} (ht : 18 ≤ t) (hb : bxOk R N) (hT : TB g R N k) (hk : (k : Int) < bxC R N) (hx : ∀ r : Int, 0 ≤ r → r < 4 → g 9 r = bxL R N k r) (hQ : ∀ g' : hkG, TB g' R N (k + 1) → (∀ p : Int, (p < 1 ∨ 8 < p) → g' p = g p) → Q none t g') : Xp 36 (d + 1) 0 [(2, 1), hkU, hkU, hkU] [] t g Q := by
  obtain ⟨t1, t2, t3, t4, t5, t6, t7⟩ := hT
  obtain ⟨b1, b2, b3, b4⟩ := id hb
  obtain ⟨z1, z2⟩ := bx_tz hb (by omega) hk
  obtain ⟨f1, f2, f3, f4, f5, f6⟩ := bx_sh hb (by omega) hk
  obtain ⟨c1, c2⟩ := bx_C hb
  obtain ⟨q1, q2⟩ := bx_Q (i := (k : Int)) hb
  simp only [x_36_0, x_36_1, x_36_2, x_36_3, x_36_4, x_36_5, hkJK_1, hkJK_2, hkJK_3, hkJK_4, hkJK_5, hkJK_6, hkJK_7, hkJK_8, hkJK_9, jA_1_10, jA_1_11, jA_1_4, jA_1_5, jA_1_6, jA_1_7, jA_1_8, jA_1_9, jL_2, jL_3, jL_4, jL_5, jL_6, jL_7, jL_8, jL_9, jR_1_10, jR_1_11, jR_1_4, jR_1_5, jR_1_6, jR_1_7, jR_1_8, jR_1_9, hkP1_0, hkP1_2, hkP1_u, hkC8, List.map_cons, List.map_nil, List.sum_cons, List.sum_nil, hkCat_0, hkCat_1, hkCat_2, Nat.reduceAdd, Nat.reduceLeDiff, hkPush_s, hkPush_n, true_and, and_true, implies_true, true_implies, not_true_eq_false, not_false_eq_true, false_implies, hkTf_0, hkTf_n1, hkOr01, hkOr11, Int.reduceEq, Int.reduceLT, Int.reduceLE, hk102a, hk102b, hk102c, Nat.reduceEqDiff, or_true, true_or, or_false, false_or, and_false, false_and, Classical.not_not, true_implies, List.set_cons_zero, List.set_cons_succ, ne_eq]
  refine l_trial ht (by omega) R.toNat 0 0 0 (by omega) (Int.le_refl _) ?_
  rw [t1, tzS_congr (f' := bxL R N k) _ _ _ (fun j h1 h2 => hx j h1 (by omega)), tzW_congr (f' := bxL R N k) _ _ _ (fun j h1 h2 => hx j h1 (by omega)), z1, z2]
  have hz : 0 ≤ bxZ R N k ∧ bxZ R N k ≤ 100 := by
    have e0 := f1 0 (by omega) (by omega)
    have e1 := f1 1 (by omega) (by omega)
    have e2 := f1 2 (by omega) (by omega)
    have e3 := f1 3 (by omega) (by omega)
    omega
  have hrem : (bxZ R N k).tmod N = bxQ R N k := by
    unfold bxQ; exact Int.tmod_eq_emod_of_nonneg hz.1
  have ha := t6 (bxQ R N k) q1 q2
  have hsl : bxCq R N (bxQ R N k) k = bxSl R N k := by unfold bxSl; simp
  have hs0 : 0 ≤ bxSl R N k := by unfold bxSl; exact (bxCq_0 _).1
  have hw4 : hkW ((k : Int) * 4) = (k : Int) * 4 := hkW_in (by omega) (by omega)
  have hw5 : hkW (bxQ R N k * 5) = bxQ R N k * 5 := hkW_in (by omega) (by omega)
  have hw6 : hkW (bxQ R N k * 5 + bxSl R N k) = bxQ R N k * 5 + bxSl R N k := hkW_in (by omega) (by omega)
  have hw7 : hkW (bxSl R N k + 1) = bxSl R N k + 1 := hkW_in (by omega) (by omega)
  have hw8 : hkW ((k : Int) + 1) = (k : Int) + 1 := hkW_in (by omega) (by omega)
  simp only [x_36_45, x_36_46, x_36_47, x_36_50, x_36_51, x_36_52, x_36_53, x_36_56, x_36_58, x_36_61, x_36_62, x_36_65, x_36_66, x_36_67, x_36_68, x_36_71, x_36_72, x_36_73, x_36_76, x_36_77, x_36_78, x_36_81, x_36_82, x_36_85, x_36_86, x_36_87, x_36_88, x_36_91, x_36_92, x_36_95, x_36_96, x_36_99, x_36_100, x_36_101, x_36_102, x_36_105, x_36_106, x_36_109, x_36_110, x_36_111, x_36_112, x_36_115, x_36_116, x_36_117, x_36_120, x_36_121, x_36_122, x_36_125, x_36_126, x_36_129, x_36_130, x_36_133, x_36_134, x_36_135, x_36_136, x_36_137, x_36_140, x_36_141, x_36_142, x_36_143, x_36_144, x_36_147, x_36_148, x_36_149, x_36_150, x_36_151, x_36_154, x_36_155, x_36_156, x_36_159, x_36_160, x_36_161, x_36_162, x_36_163, x_36_164, x_36_165, x_36_166, x_36_167, x_36_170, x_36_171, x_36_172, x_36_175, hkJK_1, hkJK_2, hkJK_3, hkJK_4, hkJK_5, hkJK_6, hkJK_7, hkJK_8, hkJK_9, jA_1_10, jA_1_11, jA_1_4, jA_1_5, jA_1_6, jA_1_7, jA_1_8, jA_1_9, jL_2, jL_3, jL_4, jL_5, jL_6, jL_7, jL_8, jL_9, jR_1_10, jR_1_11, jR_1_4, jR_1_5, jR_1_6, jR_1_7, jR_1_8, jR_1_9, hkP1_0, hkP1_2, hkP1_u, hkC8, List.map_cons, List.map_nil, List.sum_cons, List.sum_nil, hkCat_0, hkCat_1, hkCat_2, Nat.reduceAdd, Nat.reduceLeDiff, hkPush_s, hkPush_n, true_and, and_true, implies_true, true_implies, not_true_eq_false, not_false_eq_true, false_implies, hkTf_0, hkTf_n1, hkOr01, hkOr11, Int.reduceEq, Int.reduceLT, Int.reduceLE, hk102a, hk102b, hk102c, Nat.reduceEqDiff, or_true, true_or, or_false, false_or, and_false, false_and, Classical.not_not, true_implies, List.set_cons_zero, List.set_cons_succ, ne_eq, hkSet_rd, hkCpy_rd, hkFil_rd, if_true, if_false, Int.reduceEq, false_and, true_and, hkLe_t ht, t2, hrem, t4, ha, hsl, ne_eq, hw4, hw5, hw6, hw7, hw8]
  clear hw4 hw5 hw6 hw7 hw8 hrem f5 f6 z1 z2
  refine ⟨by omega, fun h => by omega, fun _ => ⟨⟨q1, by omega⟩, fun _ => ?_, fun h => absurd f4 h⟩⟩
  (repeat' apply And.intro) <;> (try omega)
  refine hQ _ ?_ (fun p hp => ?_)
  · refine ⟨?_, ?_, ?_, ?_, fun i hi0 hik => ?_, fun q hq0 hqN => ?_, fun w hw0 hw1 => ?_⟩
    · simp only [hkSet_rd, hkCpy_rd, hkFil_rd, if_true, if_false, Int.reduceEq, false_and, true_and]; exact t1
    · simp only [hkSet_rd, hkCpy_rd, hkFil_rd, if_true, if_false, Int.reduceEq, false_and, true_and]; exact t2
    · simp only [hkSet_rd, hkCpy_rd, hkFil_rd, if_true, if_false, Int.reduceEq, false_and, true_and]; exact t3
    · simp only [hkSet_rd, hkCpy_rd, hkFil_rd, if_true, if_false, Int.reduceEq, false_and, true_and, and_self]; omega
    · obtain ⟨qi1, qi2⟩ := bx_Q (R := R) (N := N) (i := i) hb
      have hsi0 : 0 ≤ bxSl R N i := (bxCq_0 _).1
      by_cases hi : i = k
      · subst hi
        simp only [hkSet_rd, hkCpy_rd, hkFil_rd, if_true, if_false, Int.reduceEq, false_and, true_and, and_self]
        refine ⟨fun r hr0 hr4 => ?_, ?_⟩
        · rw [if_pos (by omega), show 0 + (4 * (k : Int) + r - (k : Int) * 4) = r from by omega]
          exact hx r hr0 hr4
        · rw [if_pos (by omega)]
      · obtain ⟨u1, u2, u3, u4, u5⟩ := t5 i hi0 (by omega)
        simp only [hkSet_rd, hkCpy_rd, hkFil_rd, if_true, if_false, Int.reduceEq, false_and, true_and, hi, and_false]
        refine ⟨fun r hr0 hr4 => ?_, u2, u3, u4, ?_⟩
        · rw [if_neg (by omega)]; exact u1 r hr0 hr4
        · have hlt := bxSl_lt (R := R) (N := N) (i := i) (k := k) hi0 (by omega)
          have hne : ¬ (5 * bxQ R N i + bxSl R N i = bxQ R N k * 5 + bxSl R N k) := by
            intro he
            have h4i := (bx_sh hb hi0 (by omega)).2.2.2.1
            have : bxQ R N i = bxQ R N k := by omega
            rw [this, hsl] at hlt
            omega
          rw [if_neg hne]; exact u5
    · simp only [hkSet_rd, hkCpy_rd, hkFil_rd, if_true, if_false, Int.reduceEq, false_and, true_and]
      have e : bxCq R N q (k + 1) = bxCq R N q k + (if bxQ R N k = q then 1 else 0) := rfl
      rw [e]
      by_cases h : q = bxQ R N k
      · rw [if_pos h, if_pos h.symm, h, hsl]
      · rw [if_neg h, if_neg (fun h2 => h h2.symm), t6 q hq0 hqN]; omega
    · simp only [hkSet_rd, hkCpy_rd, hkFil_rd, if_true, if_false, Int.reduceEq, false_and, true_and]
      have e : bxI R N w (k + 1) = if bxW R N k = w then (k : Int) else bxI R N w k := rfl
      rw [e]
      by_cases h : w = bxW R N k
      · rw [if_pos h, if_pos h.symm]
      · rw [if_neg h, if_neg (fun h2 => h h2.symm), t7 w hw0 hw1]
  · funext j
    simp only [hkSet_rd, hkCpy_rd]
    rw [if_neg (by omega), if_neg (by omega), if_neg (by omega), if_neg (by omega), if_neg (by omega), if_neg (by omega), if_neg (by omega), if_neg (by omega)]
end SP
