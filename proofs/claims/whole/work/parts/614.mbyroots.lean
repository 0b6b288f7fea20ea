/-! the reference: often by roots -/
section SP
variable {t d : Nat} {g : hkG} {R N : Int} {Q : Option hkV → Nat → hkG → Prop}
theorem sx_mdet (ht : 190 ≤ t) (hX : MX g R N) {i : Int} {ov : Int} {B : Int → Int} (hi0 : 0 ≤ i) (hi : i < bxC R N) (hK : ∀ c : Int, 0 ≤ c → c < R → 0 ≤ g 81 c ∧ g 81 c < 2521 ∧ (ov = 0 → B c = g 81 c) ∧ (ov ≠ 0 → B c = g 81 c ^ 2519 % 2521)) :
    Xp 135 (d + 6) 0 [(2, 66), (0, i), (0, 0), (0, 0), (0, ov), hkU, hkU, hkU, hkU] [] t g Q = Q (some (0, alV R N B i R.toNat 0)) t g := by
  have hb := hX.1
  obtain ⟨b1, b2, b3, b4⟩ := id hb
  refine Xp_ev (d := 0 + 2 + R.toNat) (Ev_of ?_) (by omega)
  exact l_mdet (Q := fun r t' g' => r = some (0, alV R N B i R.toNat 0) ∧ t' = t ∧ g' = g) ht hX hi0 hi hK R.toNat 0 0 0 (by omega) (by decide) (by decide) ⟨rfl, rfl, rfl⟩
theorem l_mtake (ht : 190 ≤ t) (hb : bxOk R N) {s : Nat} (hs : s < 2 ^ N.toNat) (hp : (pbN s : Int) = R) {l all : Int} {v6 v7 v8 : hkV} : ∀ (m k : Nat) (g : hkG), k + m = N → g 66 1 = N → (∀ r : Nat, (r : Int) < N → g 80 r = rtX R N r) → (∀ j : Nat, j < chFn s k → g 81 j = rtX R N (chBn s j)) →
    (∀ g' : hkG, (∀ q : Int, q ≠ 81 → g' q = g q) → (∀ j : Nat, (j : Int) < R → g' 81 j = rtX R N (chBn s j)) → Xp 132 d 80 [(2, 66), (0, l), (0, all), (0, (s : Int)), (0, R), (0, N), v6, v7, v8] [] t g' Q) →
    Xp 132 d 38 [(2, 66), (0, l), (0, all), (0, (s : Int)), (0, ((chFn s k : Nat) : Int)), (0, (k : Int)), v6, v7, v8] [] t g Q := by
  obtain ⟨b1, b2, b3, b4⟩ := id hb
  obtain ⟨h1, h2, h3⟩ := cbEnds N.toNat (by omega) s hs
  have hs7 : s < 128 := Nat.lt_of_lt_of_le hs (Nat.pow_le_pow_right (by decide) (show N.toNat ≤ 7 by omega))
  have MO : ∀ k : Nat, k ≤ N → chFn s k ≤ R := by
    intro k hk
    have := cbMono s (a := k) (N.toNat - k)
    rw [show k + (N.toNat - k) = N.toNat from by omega] at this
    omega
  intro m
  induction m with
  | zero =>
    intro k g hk hg h80 hj hQ
    have e : k = N.toNat := by omega
    subst e
    have e2 : (chFn s N.toNat : Int) = R := by omega
    rw [x_132_38]
    simp only [x_132_40, x_132_41, x_132_44, hkJK_66, hkJK_80, hkJK_81, hkJK_82, jA_66_23, jA_66_24, jA_66_25, jL_80, jL_81, jL_82, jR_66_23, jR_66_24, jR_66_25, hkP1_0, hkP1_2, hkP1_u, hkC8, List.map_cons, List.map_nil, List.sum_cons, List.sum_nil, hkCat_0, hkCat_1, hkCat_2, Nat.reduceAdd, Nat.reduceLeDiff, hkPush_s, hkPush_n, true_and, and_true, implies_true, true_implies, not_true_eq_false, not_false_eq_true, false_implies, hkTf_0, hkTf_n1, hkOr01, hkOr11, Int.reduceEq, Int.reduceLT, Int.reduceLE, hk102a, hk102b, hk102c, Nat.reduceEqDiff, or_true, true_or, or_false, false_or, and_false, false_and, Classical.not_not, true_implies, List.set_cons_zero, List.set_cons_succ, ne_eq, hkLe_t ht, hg, e2]
    have := hQ g (fun _ _ => rfl) (fun j hj1 => hj j (by omega))
    rw [show N = ((N.toNat : Nat) : Int) from by omega] at this
    exact ⟨fun _ => this, fun h => absurd (by omega) h⟩
  | succ m ih =>
    intro k g hk hg h80 hj hQ
    have hM := MO (k + 1) (by omega)
    have hC := cbAll s hs7 k (by omega)
    have h80k := h80 k (by omega)
    have hM0 := MO k (by omega)
    obtain ⟨hw, hw2⟩ : hkW ((k : Int) + 1) = ((k + 1 : Nat) : Int) ∧ hkW (((chFn s k : Nat) : Int) + 1) = ((chFn s k + 1 : Nat) : Int) := ⟨by rw [hkW_in (by omega) (by omega)]; omega, by rw [hkW_in (by omega) (by omega)]; omega⟩
    rw [x_132_38]
    simp only [x_132_40, x_132_41, x_132_44, x_132_47, x_132_48, x_132_50, x_132_51, x_132_52, x_132_53, x_132_54, x_132_57, x_132_58, x_132_61, x_132_63, x_132_64, x_132_67, x_132_69, x_132_70, x_132_71, x_132_74, x_132_77, hkJK_66, hkJK_80, hkJK_81, hkJK_82, jA_66_23, jA_66_24, jA_66_25, jL_80, jL_81, jL_82, jR_66_23, jR_66_24, jR_66_25, hkP1_0, hkP1_2, hkP1_u, hkC8, List.map_cons, List.map_nil, List.sum_cons, List.sum_nil, hkCat_0, hkCat_1, hkCat_2, Nat.reduceAdd, Nat.reduceLeDiff, hkPush_s, hkPush_n, true_and, and_true, implies_true, true_implies, not_true_eq_false, not_false_eq_true, false_implies, hkTf_0, hkTf_n1, hkOr01, hkOr11, Int.reduceEq, Int.reduceLT, Int.reduceLE, hk102a, hk102b, hk102c, Nat.reduceEqDiff, or_true, true_or, or_false, false_or, and_false, false_and, Classical.not_not, true_implies, List.set_cons_zero, List.set_cons_succ, ne_eq, hkLe_t ht, hg, hw, hw2, h80k]
    clear hw hw2
    refine ⟨fun h => by omega, fun _ => ⟨fun h => ?_, fun h => ?_⟩⟩
    · rcases hC with ⟨c1, c2⟩ | ⟨c1, c2, c3⟩
      · rw [← c2]
        exact ih (k + 1) g (by omega) hg h80 (by rw [c2]; exact hj) hQ
      · exact absurd c1 h
    · rcases hC with ⟨c1, c2⟩ | ⟨c1, c2, c3⟩
      · omega
      · refine ⟨by omega, by omega, ?_⟩
        rw [← c2]
        refine ih (k + 1) _ (by omega) (by rw [hkSet_row (by decide)]; exact hg) (by rw [hkSet_row (by decide)]; exact h80) (fun j hj1 => ?_) (fun g' k1 k2 => hQ g' (fun q hq => by rw [k1 q hq, hkSet_row hq]) k2)
        rw [hkSet_rd]
        by_cases e : j = chFn s k
        · rw [e, c3, if_pos ⟨rfl, rfl⟩]
        · rw [if_neg (by omega)]
          exact hj j (by omega)
/-- what is taken is what the class takes -/
theorem mtk_K (hb : bxOk R N) {s : Nat} (hs : s < 2 ^ N.toNat) (hp : (pbN s : Int) = R) (h81 : ∀ j : Nat, (j : Int) < R → g 81 j = rtX R N (chBn s j)) :
    (∀ c : Int, 0 ≤ c → c < R → 0 ≤ g 81 c ∧ g 81 c < 2521 ∧ ((0 : Int) = 0 → rtB R N s c = g 81 c) ∧ ((0 : Int) ≠ 0 → rtB R N s c = g 81 c ^ 2519 % 2521)) ∧ (∀ c : Int, 0 ≤ c → c < R → 0 ≤ g 81 c ∧ g 81 c < 2521 ∧ ((1 : Int) = 0 → rtI R N s c = g 81 c) ∧ ((1 : Int) ≠ 0 → rtI R N s c = g 81 c ^ 2519 % 2521)) := by
  obtain ⟨b1, b2, b3, b4⟩ := id hb
  obtain ⟨h1, h2, h3⟩ := cbEnds N.toNat (by omega) s hs
  obtain ⟨e1, e2, e3, e4⟩ := rt_end hb
  have hK : ∀ c : Int, 0 ≤ c → c < R → g 81 c = rtX R N (chK s c) ∧ 0 ≤ g 81 c ∧ g 81 c < 2521 := by
    intro c c0 c1
    have h4 := h3 c.toNat (by omega)
    have h5 := h81 c.toNat (by omega)
    rw [show ((c.toNat : Nat) : Int) = c from by omega] at h5
    have h6 := e4 (chBn s c.toNat) (by omega) (by omega)
    unfold chK
    exact ⟨h5, by omega, by omega⟩
  refine ⟨fun c c0 c1 => ?_, fun c c0 c1 => ?_⟩
  · obtain ⟨q1, q2, q3⟩ := hK c c0 c1
    exact ⟨q2, q3, fun _ => by unfold rtB; rw [q1], fun h => absurd rfl h⟩
  · obtain ⟨q1, q2, q3⟩ := hK c c0 c1
    exact ⟨q2, q3, fun h => absurd h (by decide), fun _ => by unfold rtI; rw [q1]⟩
theorem l_mshare (ht : 190 ≤ t) (hX : MX g R N) {s : Nat} (hs : s < 2 ^ N.toNat) (hp : (pbN s : Int) = R) (h81 : ∀ j : Nat, (j : Int) < R → g 81 j = rtX R N (chBn s j)) {n : Nat} (hn : n ≤ 8) (h26 : g 66 26 = n) {F : Int → Int} (hF : ∀ k : Int, 0 ≤ k → k < n → g 82 k = F k ∧ 0 ≤ F k ∧ F k < bxC R N) {l all e v4 : Int} : ∀ (m k : Nat), k + m = n → Xp 132 (d + 7) 162 [(2, 66), (0, l), (0, all), (0, (s : Int)), (0, v4), (0, e), (0, alA R N s 0 ^ 2519 % 2521), (0, shF R N s F l n), (0, (n : Int))] [] t g Q →
    Xp 132 (d + 7) 117 [(2, 66), (0, l), (0, all), (0, (s : Int)), (0, v4), (0, e), (0, alA R N s 0 ^ 2519 % 2521), (0, shF R N s F l k), (0, (k : Int))] [] t g Q := by
  have hb := hX.1
  obtain ⟨b1, b2, b3, b4⟩ := id hb
  obtain ⟨y1, y2⟩ := mtk_K hb hs hp h81
  intro m
  induction m with
  | zero =>
    intro k hk hQ
    have e : k = n := by omega
    subst e
    rw [x_132_117]
    simp only [x_132_119, x_132_120, x_132_123, hkJK_66, hkJK_80, hkJK_81, hkJK_82, jA_66_23, jA_66_24, jA_66_25, jL_80, jL_81, jL_82, jR_66_23, jR_66_24, jR_66_25, hkP1_0, hkP1_2, hkP1_u, hkC8, List.map_cons, List.map_nil, List.sum_cons, List.sum_nil, hkCat_0, hkCat_1, hkCat_2, Nat.reduceAdd, Nat.reduceLeDiff, hkPush_s, hkPush_n, true_and, and_true, implies_true, true_implies, not_true_eq_false, not_false_eq_true, false_implies, hkTf_0, hkTf_n1, hkOr01, hkOr11, Int.reduceEq, Int.reduceLT, Int.reduceLE, hk102a, hk102b, hk102c, Nat.reduceEqDiff, or_true, true_or, or_false, false_or, and_false, false_and, Classical.not_not, true_implies, List.set_cons_zero, List.set_cons_succ, ne_eq, hkLe_t ht, h26]
    exact ⟨fun _ => hQ, fun h => absurd (by omega) h⟩
  | succ m ih =>
    intro k hk hQ
    obtain ⟨f1, f2, f3⟩ := hF k (by omega) (by omega)
    have hA2 := alA_r (R := R) (N := N) (s := s) (i := F k)
    have hS := shF_r (R := R) (N := N) (s := s) (F := F) (l := l) (n := k)
    have hI : 0 ≤ alA R N s 0 ^ 2519 % 2521 ∧ alA R N s 0 ^ 2519 % 2521 < 2521 := ⟨Int.emod_nonneg _ (by decide), Int.emod_lt_of_pos _ (by decide)⟩
    obtain ⟨z1, z2⟩ := mul_lt2521 hA2.1 hA2.2 hI.1 hI.2
    have hM : 0 ≤ alA R N s (F k) * (alA R N s 0 ^ 2519 % 2521) % 2521 ∧ alA R N s (F k) * (alA R N s 0 ^ 2519 % 2521) % 2521 < 2521 := ⟨Int.emod_nonneg _ (by decide), Int.emod_lt_of_pos _ (by decide)⟩
    obtain ⟨z3, z4⟩ := mul_lt2521 hS.1 hS.2 hM.1 hM.2
    have A1 : ∀ Q : Option hkV → Nat → hkG → Prop, Xp 135 (d + 6) 0 [(2, 66), (0, F k), (0, 0), (0, 0), (0, 0), hkU, hkU, hkU, hkU] [] t g Q = Q (some (0, alA R N s (F k))) t g := fun Q => sx_mdet (d := d) ht hX f2 f3 y1
    have eM : (alA R N s (F k) * (alA R N s 0 ^ 2519 % 2521)).tmod 2521 = alA R N s (F k) * (alA R N s 0 ^ 2519 % 2521) % 2521 := Int.tmod_eq_emod_of_nonneg z1
    have eN : (shF R N s F l k * (alA R N s (F k) * (alA R N s 0 ^ 2519 % 2521) % 2521)).tmod 2521 = shF R N s F l (k + 1) := Int.tmod_eq_emod_of_nonneg z3
    obtain ⟨e1, e2, hw⟩ : hkW (alA R N s (F k) * (alA R N s 0 ^ 2519 % 2521)) = alA R N s (F k) * (alA R N s 0 ^ 2519 % 2521) ∧ hkW (shF R N s F l k * (alA R N s (F k) * (alA R N s 0 ^ 2519 % 2521) % 2521)) = shF R N s F l k * (alA R N s (F k) * (alA R N s 0 ^ 2519 % 2521) % 2521) ∧ hkW ((k : Int) + 1) = ((k + 1 : Nat) : Int) := ⟨hkW_in (by omega) (by omega), hkW_in (by omega) (by omega), by rw [hkW_in (by omega) (by omega)]; omega⟩
    rw [x_132_117]
    simp only [x_132_119, x_132_120, x_132_123, x_132_126, x_132_128, x_132_129, x_132_130, x_132_133, x_132_135, x_132_136, x_132_137, x_132_138, x_132_139, x_132_142, x_132_144, x_132_145, x_132_148, x_132_149, x_132_150, x_132_153, x_132_154, x_132_156, x_132_159, hkJK_66, hkJK_80, hkJK_81, hkJK_82, jA_66_23, jA_66_24, jA_66_25, jL_80, jL_81, jL_82, jR_66_23, jR_66_24, jR_66_25, hkP1_0, hkP1_2, hkP1_u, hkC8, List.map_cons, List.map_nil, List.sum_cons, List.sum_nil, hkCat_0, hkCat_1, hkCat_2, Nat.reduceAdd, Nat.reduceLeDiff, hkPush_s, hkPush_n, true_and, and_true, implies_true, true_implies, not_true_eq_false, not_false_eq_true, false_implies, hkTf_0, hkTf_n1, hkOr01, hkOr11, Int.reduceEq, Int.reduceLT, Int.reduceLE, hk102a, hk102b, hk102c, Nat.reduceEqDiff, or_true, true_or, or_false, false_or, and_false, false_and, Classical.not_not, true_implies, List.set_cons_zero, List.set_cons_succ, ne_eq, hkLe_t ht, h26, f1, A1, e1, eM, e2, eN, hw]
    clear e1 e2 hw
    exact ⟨fun h => absurd h (by omega), fun _ => ⟨by omega, ih (k + 1) (by omega) hQ⟩⟩
theorem l_mbyRoots (ht : 190 ≤ t) {n : Nat} (hn : n ≤ 8) {F : Int → Int} {l : Int} (hl0 : 0 ≤ l) (hl : l < bxC R N) : ∀ (m k : Nat) (g : hkG) (v4 v5 v6 v7 v8 : hkV), k + m = 2 ^ N.toNat → hkP1 v4 → hkP1 v5 → hkP1 v6 → hkP1 v7 → hkP1 v8 → MX g R N → g 66 26 = n → (∀ r : Nat, (r : Int) < N → g 80 r = rtX R N r) → (∀ k : Int, 0 ≤ k → k < n → g 82 k = F k ∧ 0 ≤ F k ∧ F k < bxC R N) →
    (∀ g' : hkG, (∀ q : Int, q ≠ 81 → g' q = g q) → Q (some (0, RTS R N F n l)) t g') →
    Xp 132 (d + 7) 8 [(2, 66), (0, l), (0, rtS R N F n l k % 2521), (0, (k : Int)), v4, v5, v6, v7, v8] [] t g Q := by
  intro m
  induction m with
  | zero =>
    intro k g v4 v5 v6 v7 v8 hk p4 p5 p6 p7 p8 hX h26 h80 hF hQ
    have hb := hX.1
    obtain ⟨b1, b2, b3, b4⟩ := id hb
    obtain ⟨p1, p2⟩ := shlChk N.toNat (by omega)
    rw [show ((N.toNat : Nat) : Int) = N from by omega] at p1
    have e : k = 2 ^ N.toNat := by omega
    obtain ⟨x1, x2, x3, x4, x5⟩ := MX_f hX
    have hp : ∀ Q : Option hkV → Nat → hkG → Prop, Xp 134 (d + 6) 0 [(0, N), (0, R), hkU, hkU] [] t g Q = Q (some (0, N ^ R.toNat % 2521)) t g := by
      intro Q
      have := sx_mpower (t := t) (g := g) (d := d + 6) (Q := Q) (x := N) (n := R.toNat) (by omega) (by omega) (by omega)
      rw [show ((R.toNat : Nat) : Int) = R from by omega] at this
      exact this
    have hP : 0 ≤ N ^ R.toNat % 2521 ∧ N ^ R.toNat % 2521 < 2521 := ⟨Int.emod_nonneg _ (by decide), Int.emod_lt_of_pos _ (by decide)⟩
    have hI : 0 ≤ (N ^ R.toNat % 2521) ^ 2519 % 2521 ∧ (N ^ R.toNat % 2521) ^ 2519 % 2521 < 2521 := ⟨Int.emod_nonneg _ (by decide), Int.emod_lt_of_pos _ (by decide)⟩
    have hi : ∀ Q : Option hkV → Nat → hkG → Prop, Xp 136 (d + 6) 0 [(0, N ^ R.toNat % 2521)] [] t g Q = Q (some (0, (N ^ R.toNat % 2521) ^ 2519 % 2521)) t g := fun Q => sx_minverse (d := d + 5) hP.1 hP.2
    have hM : 0 ≤ rtS R N F n l k % 2521 ∧ rtS R N F n l k % 2521 < 2521 := ⟨Int.emod_nonneg _ (by decide), Int.emod_lt_of_pos _ (by decide)⟩
    obtain ⟨z1, z2⟩ := mul_lt2521 hM.1 hM.2 hI.1 hI.2
    have e1 : hkW (rtS R N F n l k % 2521 * ((N ^ R.toNat % 2521) ^ 2519 % 2521)) = rtS R N F n l k % 2521 * ((N ^ R.toNat % 2521) ^ 2519 % 2521) := hkW_in (by omega) (by omega)
    rw [x_132_8]
    simp only [x_132_9, x_132_10, x_132_11, x_132_14, x_132_15, hkJK_66, hkJK_80, hkJK_81, hkJK_82, jA_66_23, jA_66_24, jA_66_25, jL_80, jL_81, jL_82, jR_66_23, jR_66_24, jR_66_25, hkP1_0, hkP1_2, hkP1_u, hkC8, List.map_cons, List.map_nil, List.sum_cons, List.sum_nil, hkCat_0, hkCat_1, hkCat_2, Nat.reduceAdd, Nat.reduceLeDiff, hkPush_s, hkPush_n, true_and, and_true, implies_true, true_implies, not_true_eq_false, not_false_eq_true, false_implies, hkTf_0, hkTf_n1, hkOr01, hkOr11, Int.reduceEq, Int.reduceLT, Int.reduceLE, hk102a, hk102b, hk102c, Nat.reduceEqDiff, or_true, true_or, or_false, false_or, and_false, false_and, Classical.not_not, true_implies, List.set_cons_zero, List.set_cons_succ, ne_eq, x_132_177, x_132_178, x_132_179, x_132_182, x_132_183, x_132_186, x_132_189, x_132_192, x_132_193, x_132_196, x_132_197, hkJK_66, hkJK_80, hkJK_81, hkJK_82, jA_66_23, jA_66_24, jA_66_25, jL_80, jL_81, jL_82, jR_66_23, jR_66_24, jR_66_25, hkP1_0, hkP1_2, hkP1_u, hkC8, List.map_cons, List.map_nil, List.sum_cons, List.sum_nil, hkCat_0, hkCat_1, hkCat_2, Nat.reduceAdd, Nat.reduceLeDiff, hkPush_s, hkPush_n, true_and, and_true, implies_true, true_implies, not_true_eq_false, not_false_eq_true, false_implies, hkTf_0, hkTf_n1, hkOr01, hkOr11, Int.reduceEq, Int.reduceLT, Int.reduceLE, hk102a, hk102b, hk102c, Nat.reduceEqDiff, or_true, true_or, or_false, false_or, and_false, false_and, Classical.not_not, true_implies, List.set_cons_zero, List.set_cons_succ, ne_eq, hkLe_t ht, x1, x2, p1, hp, hi, e1, Int.tmod_eq_emod_of_nonneg z1]
    clear e1
    have := hQ g (fun _ _ => rfl)
    unfold RTS at this
    rw [← e] at this
    exact ⟨fun _ => this, fun h => absurd (by omega) h⟩
  | succ m ih =>
    intro k g v4 v5 v6 v7 v8 hk p4 p5 p6 p7 p8 hX h26 h80 hF hQ
    have hb := hX.1
    obtain ⟨b1, b2, b3, b4⟩ := id hb
    have hC := bx_C hb
    obtain ⟨p1, p2⟩ := shlChk N.toNat (by omega)
    rw [show ((N.toNat : Nat) : Int) = N from by omega] at p1
    obtain ⟨x1, x2, x3, x4, x5⟩ := MX_f hX
    have h128 : k < 128 := by omega
    have hSF := shF_r (R := R) (N := N) (s := k) (F := F) (l := l) (n := n)
    have hM : 0 ≤ rtS R N F n l k % 2521 ∧ rtS R N F n l k % 2521 < 2521 := ⟨Int.emod_nonneg _ (by decide), Int.emod_lt_of_pos _ (by decide)⟩
    have hs1 : rtS R N F n l (k + 1) = rtS R N F n l k + (if (pbN k : Int) = R then shF R N k F l n else 0) := rfl
    have hw : hkW ((k : Int) + 1) = ((k + 1 : Nat) : Int) := by rw [hkW_in (by omega) (by omega)]; omega
    rw [x_132_8]
    simp only [x_132_9, x_132_10, x_132_11, x_132_14, x_132_15, x_132_18, x_132_19, x_132_22, x_132_23, x_132_26, x_132_29, x_132_32, x_132_33, x_132_35, x_132_36, hkJK_66, hkJK_80, hkJK_81, hkJK_82, jA_66_23, jA_66_24, jA_66_25, jL_80, jL_81, jL_82, jR_66_23, jR_66_24, jR_66_25, hkP1_0, hkP1_2, hkP1_u, hkC8, List.map_cons, List.map_nil, List.sum_cons, List.sum_nil, hkCat_0, hkCat_1, hkCat_2, Nat.reduceAdd, Nat.reduceLeDiff, hkPush_s, hkPush_n, true_and, and_true, implies_true, true_implies, not_true_eq_false, not_false_eq_true, false_implies, hkTf_0, hkTf_n1, hkOr01, hkOr11, Int.reduceEq, Int.reduceLT, Int.reduceLE, hk102a, hk102b, hk102c, Nat.reduceEqDiff, or_true, true_or, or_false, false_or, and_false, false_and, Classical.not_not, true_implies, List.set_cons_zero, List.set_cons_succ, ne_eq, x_132_171, x_132_174, hkJK_66, hkJK_80, hkJK_81, hkJK_82, jA_66_23, jA_66_24, jA_66_25, jL_80, jL_81, jL_82, jR_66_23, jR_66_24, jR_66_25, hkP1_0, hkP1_2, hkP1_u, hkC8, List.map_cons, List.map_nil, List.sum_cons, List.sum_nil, hkCat_0, hkCat_1, hkCat_2, Nat.reduceAdd, Nat.reduceLeDiff, hkPush_s, hkPush_n, true_and, and_true, implies_true, true_implies, not_true_eq_false, not_false_eq_true, false_implies, hkTf_0, hkTf_n1, hkOr01, hkOr11, Int.reduceEq, Int.reduceLT, Int.reduceLE, hk102a, hk102b, hk102c, Nat.reduceEqDiff, or_true, true_or, or_false, false_or, and_false, false_and, Classical.not_not, true_implies, List.set_cons_zero, List.set_cons_succ, ne_eq, hkLe_t ht, x1, x2, p1, sx_bits h128, hw]
    clear hw
    refine ⟨fun h => absurd h (by omega), fun _ => ⟨fun hpk => ?_, fun hpk => ?_⟩⟩
    · rw [if_pos hpk] at hs1
      have hks : k < 2 ^ N.toNat := by omega
      have hc0 : chFn k 0 = 0 := by simp [chFn]
      have L := l_mtake (d := d + 7) (Q := Q) ht hb hks hpk (l := l) (all := rtS R N F n l k % 2521) (v6 := v6) (v7 := v7) (v8 := v8) N.toNat 0 g (by omega) x2 h80 (fun j hj => by rw [hc0] at hj; omega)
      rw [hc0] at L
      refine L (fun g1 k1 k2 => ?_)
      have hX1 : MX g1 R N := MX_row hX (fun k _ => by rw [k1 66 (by decide)]) (k1 67 (by decide)) (k1 68 (by decide)) (k1 69 (by decide))
      obtain ⟨y1, y2⟩ := mtk_K hb hks hpk k2
      have A1 : ∀ Q : Option hkV → Nat → hkG → Prop, Xp 135 (d + 6) 0 [(2, 66), (0, 0), (0, 0), (0, 0), (0, 0), hkU, hkU, hkU, hkU] [] t g1 Q = Q (some (0, alA R N k 0)) t g1 := fun Q => sx_mdet (d := d) ht hX1 (by decide) (by omega) y1
      have A2 : ∀ Q : Option hkV → Nat → hkG → Prop, Xp 135 (d + 6) 0 [(2, 66), (0, l), (0, 0), (0, 0), (0, 1), hkU, hkU, hkU, hkU] [] t g1 Q = Q (some (0, alO R N k l)) t g1 := fun Q => sx_mdet (d := d) ht hX1 hl0 hl y2
      have hA := alA_r (R := R) (N := N) (s := k) (i := 0)
      have hO := alO_r (R := R) (N := N) (s := k) (i := l)
      have A3 : ∀ Q : Option hkV → Nat → hkG → Prop, Xp 136 (d + 6) 0 [(0, alA R N k 0)] [] t g1 Q = Q (some (0, alA R N k 0 ^ 2519 % 2521)) t g1 := fun Q => sx_minverse (d := d + 5) hA.1 hA.2
      obtain ⟨z1, z2⟩ := mul_lt2521 hA.1 hA.2 hO.1 hO.2
      have eN : (alA R N k 0 * alO R N k l).tmod 2521 = shF R N k F l 0 := Int.tmod_eq_emod_of_nonneg z1
      have e1 : hkW (alA R N k 0 * alO R N k l) = alA R N k 0 * alO R N k l := hkW_in (by omega) (by omega)
      simp only [x_132_80, x_132_81, x_132_82, x_132_83, x_132_84, x_132_85, x_132_88, x_132_90, x_132_92, x_132_95, x_132_97, x_132_99, x_132_100, x_132_101, x_132_102, x_132_103, x_132_104, x_132_107, x_132_108, x_132_111, x_132_112, x_132_114, x_132_115, hkJK_66, hkJK_80, hkJK_81, hkJK_82, jA_66_23, jA_66_24, jA_66_25, jL_80, jL_81, jL_82, jR_66_23, jR_66_24, jR_66_25, hkP1_0, hkP1_2, hkP1_u, hkC8, List.map_cons, List.map_nil, List.sum_cons, List.sum_nil, hkCat_0, hkCat_1, hkCat_2, Nat.reduceAdd, Nat.reduceLeDiff, hkPush_s, hkPush_n, true_and, and_true, implies_true, true_implies, not_true_eq_false, not_false_eq_true, false_implies, hkTf_0, hkTf_n1, hkOr01, hkOr11, Int.reduceEq, Int.reduceLT, Int.reduceLE, hk102a, hk102b, hk102c, Nat.reduceEqDiff, or_true, true_or, or_false, false_or, and_false, false_and, Classical.not_not, true_implies, List.set_cons_zero, List.set_cons_succ, ne_eq, hkLe_t ht, A1, A2, A3, e1, eN]
      clear e1
      refine l_mshare (d := d) ht hX1 hks hpk k2 hn (by rw [k1 66 (by decide)]; exact h26) (fun q a1 a2 => by rw [k1 82 (by decide)]; exact hF q a1 a2) n 0 (by omega) ?_
      have eT : (rtS R N F n l k % 2521 + shF R N k F l n).tmod 2521 = rtS R N F n l (k + 1) % 2521 := by
        rw [Int.tmod_eq_emod_of_nonneg (by omega), hs1]; omega
      obtain ⟨e1, hw⟩ : hkW (rtS R N F n l k % 2521 + shF R N k F l n) = rtS R N F n l k % 2521 + shF R N k F l n ∧ hkW ((k : Int) + 1) = ((k + 1 : Nat) : Int) := ⟨hkW_in (by omega) (by omega), by rw [hkW_in (by omega) (by omega)]; omega⟩
      simp only [x_132_162, x_132_163, x_132_165, x_132_166, x_132_169, x_132_170, x_132_171, x_132_174, hkJK_66, hkJK_80, hkJK_81, hkJK_82, jA_66_23, jA_66_24, jA_66_25, jL_80, jL_81, jL_82, jR_66_23, jR_66_24, jR_66_25, hkP1_0, hkP1_2, hkP1_u, hkC8, List.map_cons, List.map_nil, List.sum_cons, List.sum_nil, hkCat_0, hkCat_1, hkCat_2, Nat.reduceAdd, Nat.reduceLeDiff, hkPush_s, hkPush_n, true_and, and_true, implies_true, true_implies, not_true_eq_false, not_false_eq_true, false_implies, hkTf_0, hkTf_n1, hkOr01, hkOr11, Int.reduceEq, Int.reduceLT, Int.reduceLE, hk102a, hk102b, hk102c, Nat.reduceEqDiff, or_true, true_or, or_false, false_or, and_false, false_and, Classical.not_not, true_implies, List.set_cons_zero, List.set_cons_succ, ne_eq, e1, eT, hw]
      clear e1 hw
      exact ih (k + 1) g1 _ _ _ _ _ (by omega) (by unfold hkP1; simp) (by unfold hkP1; simp) (by unfold hkP1; simp) (by unfold hkP1; simp) (by unfold hkP1; simp) hX1 (by rw [k1 66 (by decide)]; exact h26) (by rw [k1 80 (by decide)]; exact h80) (fun q a1 a2 => by rw [k1 82 (by decide)]; exact hF q a1 a2) (fun g' m1 => hQ g' (fun q hq => by rw [m1 q hq, k1 q hq]))
    · rw [if_neg hpk, Int.add_zero] at hs1
      rw [← hs1]
      exact ih (k + 1) g v4 v5 v6 v7 v8 (by omega) p4 p5 p6 p7 p8 hX h26 h80 hF hQ
theorem sx_mbyRoots (ht : 190 ≤ t) (hX : MX g R N) {n : Nat} (hn : n ≤ 8) (h26 : g 66 26 = n) {F : Int → Int} {l : Int} (hl0 : 0 ≤ l) (hl : l < bxC R N) (hF : ∀ k : Int, 0 ≤ k → k < n → g 82 k = F k ∧ 0 ≤ F k ∧ F k < bxC R N)
    (hQ : ∀ g' : hkG, (∀ q : Int, q ≠ 80 → q ≠ 81 → g' q = g q) → Q (some (0, RTS R N F n l)) t g') :
    Xp 132 (d + 7) 0 [(2, 66), (0, l), hkU, hkU, hkU, hkU, hkU, hkU, hkU] [] t g Q := by
  have hb := hX.1
  obtain ⟨x1, x2, x3, x4, x5⟩ := MX_f hX
  simp only [x_132_0, x_132_1, hkJK_66, hkJK_80, hkJK_81, hkJK_82, jA_66_23, jA_66_24, jA_66_25, jL_80, jL_81, jL_82, jR_66_23, jR_66_24, jR_66_25, hkP1_0, hkP1_2, hkP1_u, hkC8, List.map_cons, List.map_nil, List.sum_cons, List.sum_nil, hkCat_0, hkCat_1, hkCat_2, Nat.reduceAdd, Nat.reduceLeDiff, hkPush_s, hkPush_n, true_and, and_true, implies_true, true_implies, not_true_eq_false, not_false_eq_true, false_implies, hkTf_0, hkTf_n1, hkOr01, hkOr11, Int.reduceEq, Int.reduceLT, Int.reduceLE, hk102a, hk102b, hk102c, Nat.reduceEqDiff, or_true, true_or, or_false, false_or, and_false, false_and, Classical.not_not, true_implies, List.set_cons_zero, List.set_cons_succ, ne_eq]
  refine sx_mrootsNow ht hb x1 x2 (fun g1 k1 k2 => ?_)
  simp only [x_132_4, x_132_5, x_132_6, x_132_7, hkJK_66, hkJK_80, hkJK_81, hkJK_82, jA_66_23, jA_66_24, jA_66_25, jL_80, jL_81, jL_82, jR_66_23, jR_66_24, jR_66_25, hkP1_0, hkP1_2, hkP1_u, hkC8, List.map_cons, List.map_nil, List.sum_cons, List.sum_nil, hkCat_0, hkCat_1, hkCat_2, Nat.reduceAdd, Nat.reduceLeDiff, hkPush_s, hkPush_n, true_and, and_true, implies_true, true_implies, not_true_eq_false, not_false_eq_true, false_implies, hkTf_0, hkTf_n1, hkOr01, hkOr11, Int.reduceEq, Int.reduceLT, Int.reduceLE, hk102a, hk102b, hk102c, Nat.reduceEqDiff, or_true, true_or, or_false, false_or, and_false, false_and, Classical.not_not, true_implies, List.set_cons_zero, List.set_cons_succ, ne_eq]
  have hX1 : MX g1 R N := MX_row hX (fun k _ => by rw [k1 66 (by decide)]) (k1 67 (by decide)) (k1 68 (by decide)) (k1 69 (by decide))
  have L := l_mbyRoots (d := d) (Q := Q) ht hn (F := F) hl0 hl (2 ^ N.toNat) 0 g1 hkU hkU hkU hkU hkU (Nat.zero_add _) (by rw [hkP1_u]; trivial) (by rw [hkP1_u]; trivial) (by rw [hkP1_u]; trivial) (by rw [hkP1_u]; trivial) (by rw [hkP1_u]; trivial) hX1 (by rw [k1 66 (by decide)]; exact h26) k2 (fun q a1 a2 => by rw [k1 82 (by decide)]; exact hF q a1 a2) (fun g' m1 => hQ g' (fun q q1 q2 => by rw [m1 q q2, k1 q q1]))
  exact L
end SP
