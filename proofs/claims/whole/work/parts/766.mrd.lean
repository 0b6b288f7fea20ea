/-! the reference reads: leaves -/
def mSt (R N F : Int) (T : Int → Int) (pl op : Int) (sp : Prop) (w : Int) (g : hkG) : Prop := RB g R N ∧ g 66 32 = F ∧ (∀ k : Int, 0 ≤ k → k < F → g 85 k = T k) ∧ g 66 33 = pl ∧ g 66 34 = op ∧ (w = 1 → g 66 29 = hkTf sp)
section SP
variable {t d : Nat} {R N F pl op w : Int} {T : Int → Int} {sp : Prop} {g : hkG} {Q : Option hkV → Nat → hkG → Prop}
theorem sx_here (ht : 190 ≤ t) (hS : mSt R N F T pl op sp w g) (F60 : F ≤ 60) (p0 : 0 ≤ pl) : Xp 155 d 0 [(2, 66)] [] t g Q = Q (some (0, hrC T F pl)) t g := by
  obtain ⟨-, h0, hT, h33, -⟩ := hS
  refine Xp_ev (d := 0) (Ev_of ?_) (Nat.zero_le _)
  by_cases hp : pl < F
  · have e : hrC T F pl = T pl := by unfold hrC; rw [if_pos hp]
    have eT := hT pl p0 hp
    rw [e]
    simp only [x_155_0, x_155_1, x_155_4, x_155_5, x_155_8, x_155_11, x_155_12, x_155_15, x_155_16, x_155_19, x_155_20, x_155_23, x_155_24, hkJK_66, hkJK_85, jA_66_30, jL_85, jR_66_30, hkP1_0, hkP1_2, hkP1_u, hkC8, List.map_cons, List.map_nil, List.sum_cons, List.sum_nil, hkCat_0, hkCat_1, hkCat_2, Nat.reduceAdd, Nat.reduceLeDiff, hkPush_s, hkPush_n, true_and, and_true, implies_true, true_implies, not_true_eq_false, not_false_eq_true, false_implies, hkTf_0, hkTf_n1, hkOr01, hkOr11, Int.reduceEq, Int.reduceLT, Int.reduceLE, hk102a, hk102b, hk102c, Nat.reduceEqDiff, or_true, true_or, or_false, false_or, and_false, false_and, Classical.not_not, true_implies, List.set_cons_zero, List.set_cons_succ, ne_eq, hkLe_t ht, h0, h33, eT]
    repeat' (first | rfl | refine And.intro ?_ ?_ | intro _ | trivial | omega | (exfalso; omega))
  · have e : hrC T F pl = -1 := by unfold hrC; rw [if_neg hp]
    rw [e]
    simp only [x_155_0, x_155_1, x_155_4, x_155_5, x_155_8, x_155_11, x_155_12, x_155_15, x_155_16, x_155_19, x_155_20, x_155_23, x_155_24, hkJK_66, hkJK_85, jA_66_30, jL_85, jR_66_30, hkP1_0, hkP1_2, hkP1_u, hkC8, List.map_cons, List.map_nil, List.sum_cons, List.sum_nil, hkCat_0, hkCat_1, hkCat_2, Nat.reduceAdd, Nat.reduceLeDiff, hkPush_s, hkPush_n, true_and, and_true, implies_true, true_implies, not_true_eq_false, not_false_eq_true, false_implies, hkTf_0, hkTf_n1, hkOr01, hkOr11, Int.reduceEq, Int.reduceLT, Int.reduceLE, hk102a, hk102b, hk102c, Nat.reduceEqDiff, or_true, true_or, or_false, false_or, and_false, false_and, Classical.not_not, true_implies, List.set_cons_zero, List.set_cons_succ, ne_eq, hkLe_t ht, h0, h33]
    repeat' (first | rfl | refine And.intro ?_ ?_ | intro _ | trivial | omega | (exfalso; omega))
theorem sx_isDigit (ht : 190 ≤ t) (hS : mSt R N F T pl op sp w g) (F60 : F ≤ 60) (p0 : 0 ≤ pl) : Xp 154 (d + 1) 0 [(2, 66)] [] t g Q = Q (some (0, hkTf (48 ≤ hrC T F pl ∧ hrC T F pl ≤ 57))) t g := by
  simp only [x_154_0, x_154_1, x_154_4, x_154_5, x_154_8, x_154_11, x_154_14, hkJK_66, hkP1_0, hkP1_2, hkP1_u, hkC8, List.map_cons, List.map_nil, List.sum_cons, List.sum_nil, hkCat_0, hkCat_1, hkCat_2, Nat.reduceAdd, Nat.reduceLeDiff, hkPush_s, hkPush_n, true_and, and_true, implies_true, true_implies, not_true_eq_false, not_false_eq_true, false_implies, hkTf_0, hkTf_n1, hkOr01, hkOr11, Int.reduceEq, Int.reduceLT, Int.reduceLE, hk102a, hk102b, hk102c, Nat.reduceEqDiff, or_true, true_or, or_false, false_or, and_false, false_and, Classical.not_not, true_implies, List.set_cons_zero, List.set_cons_succ, ne_eq, sx_here ht hS F60 p0, sx_mIsIn]
theorem mSt_at {pl' : Int} (hS : mSt R N F T pl op sp w g) : mSt R N F T pl' op sp w (hkSet g 66 33 pl') := by
  obtain ⟨hb, h0, hT, h33, h34, h29⟩ := hS
  refine ⟨RB_s hb (fun q q1 q2 => hkSet_row q2) (fun k _ _ => by rw [hkSet_rd, if_neg (by omega)]), ?_, fun k k0 k1 => ?_, ?_, ?_, fun h => ?_⟩
  · rw [hkSet_rd, if_neg (by decide)]; exact h0
  · rw [hkSet_row (by decide)]; exact hT k k0 k1
  · rw [hkSet_rd, if_pos ⟨rfl, rfl⟩]
  · rw [hkSet_rd, if_neg (by decide)]; exact h34
  · rw [hkSet_rd, if_neg (by decide)]; exact h29 h
theorem mSt_op {op' : Int} (hS : mSt R N F T pl op sp w g) : mSt R N F T pl op' sp w (hkSet g 66 34 op') := by
  obtain ⟨hb, h0, hT, h33, h34, h29⟩ := hS
  refine ⟨RB_s hb (fun q q1 q2 => hkSet_row q2) (fun k _ _ => by rw [hkSet_rd, if_neg (by omega)]), ?_, fun k k0 k1 => ?_, ?_, ?_, fun h => ?_⟩
  · rw [hkSet_rd, if_neg (by decide)]; exact h0
  · rw [hkSet_row (by decide)]; exact hT k k0 k1
  · rw [hkSet_rd, if_neg (by decide)]; exact h33
  · rw [hkSet_rd, if_pos ⟨rfl, rfl⟩]
  · rw [hkSet_rd, if_neg (by decide)]; exact h29 h
/-- rows that a state of the reading does not speak of -/
theorem mSt_k {g' : hkG} (hS : mSt R N F T pl op sp w g) (k : ∀ q : Int, q ≠ 74 → q ≠ 83 → q ≠ 84 → g' q = g q) : mSt R N F T pl op sp w g' := by
  obtain ⟨hb, h0, hT, h33, h34, h29⟩ := hS
  have k66 := k 66 (by decide) (by decide) (by decide)
  exact ⟨RB_c hb (fun q hq => k q (by omega) (by omega) (by omega)), by rw [k66]; exact h0, fun x x0 x1 => by rw [k 85 (by decide) (by decide) (by decide)]; exact hT x x0 x1, by rw [k66]; exact h33, by rw [k66]; exact h34, fun h => by rw [k66]; exact h29 h⟩
theorem l_mdig (ht : 190 ≤ t) (F60 : F ≤ 60) : ∀ (m : Nat) (c pl : Int) (g : hkG), c + m = 4 → 0 ≤ c → mSt R N F T pl op sp w g → 0 ≤ pl → (∀ g' : hkG, (∀ q : Int, q ≠ 66 → q ≠ 74 → g' q = g q) → (∀ k : Int, k ≠ 33 → g' 66 k = g 66 k) → g' 66 33 = pl + dgN T F m pl → (∀ r : Nat, r < dgN T F m pl → g' 74 (c + r) = T (pl + r) - 48) → (∀ x : Int, x < c → g' 74 x = g 74 x) → Q (some (0, c + dgN T F m pl)) t g') →
    Xp 156 (d + 2) 2 [(2, 66), (0, 4), (0, c)] [] t g Q := by
  intro m
  induction m with
  | zero =>
    intro c pl g hc c0 hS p0 hQ
    have hq := hQ g (fun _ _ _ => rfl) (fun _ _ => rfl) (by rw [hS.2.2.2.1]; unfold dgN; omega) (fun r hr => by unfold dgN at hr; omega) (fun _ _ => rfl)
    have e : dgN T F 0 pl = 0 := rfl
    rw [e, show c + ((0 : Nat) : Int) = c from by omega] at hq
    rw [x_156_2]
    simp only [x_156_3, x_156_4, hkJK_66, hkJK_74, jA_66_14, jL_74, jR_66_14, hkP1_0, hkP1_2, hkP1_u, hkC8, List.map_cons, List.map_nil, List.sum_cons, List.sum_nil, hkCat_0, hkCat_1, hkCat_2, Nat.reduceAdd, Nat.reduceLeDiff, hkPush_s, hkPush_n, true_and, and_true, implies_true, true_implies, not_true_eq_false, not_false_eq_true, false_implies, hkTf_0, hkTf_n1, hkOr01, hkOr11, Int.reduceEq, Int.reduceLT, Int.reduceLE, hk102a, hk102b, hk102c, Nat.reduceEqDiff, or_true, true_or, or_false, false_or, and_false, false_and, Classical.not_not, true_implies, List.set_cons_zero, List.set_cons_succ, ne_eq, x_156_43, x_156_44, hkJK_66, hkJK_74, jA_66_14, jL_74, jR_66_14, hkP1_0, hkP1_2, hkP1_u, hkC8, List.map_cons, List.map_nil, List.sum_cons, List.sum_nil, hkCat_0, hkCat_1, hkCat_2, Nat.reduceAdd, Nat.reduceLeDiff, hkPush_s, hkPush_n, true_and, and_true, implies_true, true_implies, not_true_eq_false, not_false_eq_true, false_implies, hkTf_0, hkTf_n1, hkOr01, hkOr11, Int.reduceEq, Int.reduceLT, Int.reduceLE, hk102a, hk102b, hk102c, Nat.reduceEqDiff, or_true, true_or, or_false, false_or, and_false, false_and, Classical.not_not, true_implies, List.set_cons_zero, List.set_cons_succ, ne_eq]
    repeat' (first | exact hq | refine And.intro ?_ ?_ | intro _ | trivial | omega | (exfalso; omega))
  | succ m ih =>
    intro c pl g hc c0 hS p0 hQ
    have hu : dgN T F (m + 1) pl = if 48 ≤ hrC T F pl ∧ hrC T F pl ≤ 57 then dgN T F m (pl + 1) + 1 else 0 := rfl
    have hd : ∀ (D : Nat) (Q' : Option hkV → Nat → hkG → Prop), Xp 154 (D + 1) 0 [(2, 66)] [] t g Q' = Q' (some (0, hkTf (48 ≤ hrC T F pl ∧ hrC T F pl ≤ 57))) t g := fun D Q' => sx_isDigit ht hS F60 p0
    have hh : ∀ (D : Nat) (Q' : Option hkV → Nat → hkG → Prop), Xp 155 D 0 [(2, 66)] [] t g Q' = Q' (some (0, hrC T F pl)) t g := fun D Q' => sx_here ht hS F60 p0
    by_cases h : 48 ≤ hrC T F pl ∧ hrC T F pl ≤ 57
    · rw [if_pos h] at hu
      have hF := hrC_lt (T := T) (F := F) (p := pl) (by omega)
      have hTp : hrC T F pl = T pl := by unfold hrC; rw [if_pos hF]
      have h33 := hS.2.2.2.1
      have hS1 : mSt R N F T (pl + 1) op sp w (hkSet (hkSet g 74 c (hrC T F pl - 48)) 66 33 (pl + 1)) := mSt_at (mSt_k (g' := hkSet g 74 c (hrC T F pl - 48)) hS (fun q q1 q2 q3 => hkSet_row q1))
      have IH := ih (c + 1) (pl + 1) (hkSet (hkSet g 74 c (hrC T F pl - 48)) 66 33 (pl + 1)) (by omega) (by omega) hS1 (by omega) (fun g' k1 k2 k3 k4 k5 => by
        have hq := hQ g' (fun q q1 q2 => by rw [k1 q q1 q2, hkSet_row q1, hkSet_row q2]) (fun k hk => by rw [k2 k hk, hkSet_rd, if_neg (fun h => hk h.2), hkSet_row (by decide)]) (by rw [k3, hu]; omega) (fun r hr => by
          rw [hu] at hr
          by_cases e : r = 0
          · subst e
            rw [show c + ((0 : Nat) : Int) = c from by omega, show pl + ((0 : Nat) : Int) = pl from by omega, k5 c (by omega), hkSet_row (by decide), hkSet_rd, if_pos ⟨rfl, rfl⟩, hTp]
          · have := k4 (r - 1) (by omega)
            rw [show c + 1 + ((r - 1 : Nat) : Int) = c + r from by omega, show pl + 1 + ((r - 1 : Nat) : Int) = pl + r from by omega] at this
            exact this) (fun x hx => by rw [k5 x (by omega), hkSet_row (by decide), hkSet_rd, if_neg (by omega)])
        rw [hu, show c + ((dgN T F m (pl + 1) + 1 : Nat) : Int) = c + 1 + dgN T F m (pl + 1) from by omega] at hq
        exact hq)
      have h33' : hkSet g 74 c (hrC T F pl - 48) 66 33 = pl := by rw [hkSet_row (by decide)]; exact h33
      obtain ⟨hw, e1, e2⟩ : hkW (c + 1) = c + 1 ∧ hkW (hrC T F pl - 48) = hrC T F pl - 48 ∧ hkW (pl + 1) = pl + 1 := ⟨hkW_in (by omega) (by omega), hkW_in (by omega) (by omega), hkW_in (by omega) (by omega)⟩
      rw [x_156_2]
      simp only [x_156_3, x_156_4, x_156_7, x_156_8, hkJK_66, hkJK_74, jA_66_14, jL_74, jR_66_14, hkP1_0, hkP1_2, hkP1_u, hkC8, List.map_cons, List.map_nil, List.sum_cons, List.sum_nil, hkCat_0, hkCat_1, hkCat_2, Nat.reduceAdd, Nat.reduceLeDiff, hkPush_s, hkPush_n, true_and, and_true, implies_true, true_implies, not_true_eq_false, not_false_eq_true, false_implies, hkTf_0, hkTf_n1, hkOr01, hkOr11, Int.reduceEq, Int.reduceLT, Int.reduceLE, hk102a, hk102b, hk102c, Nat.reduceEqDiff, or_true, true_or, or_false, false_or, and_false, false_and, Classical.not_not, true_implies, List.set_cons_zero, List.set_cons_succ, ne_eq, hd]
      rw [hkTf_t h]
      simp only [x_156_11, x_156_14, x_156_15, x_156_18, x_156_19, x_156_20, x_156_23, x_156_25, x_156_26, x_156_27, x_156_30, x_156_31, x_156_32, x_156_35, x_156_36, x_156_37, x_156_40, hkJK_66, hkJK_74, jA_66_14, jL_74, jR_66_14, hkP1_0, hkP1_2, hkP1_u, hkC8, List.map_cons, List.map_nil, List.sum_cons, List.sum_nil, hkCat_0, hkCat_1, hkCat_2, Nat.reduceAdd, Nat.reduceLeDiff, hkPush_s, hkPush_n, true_and, and_true, implies_true, true_implies, not_true_eq_false, not_false_eq_true, false_implies, hkTf_0, hkTf_n1, hkOr01, hkOr11, Int.reduceEq, Int.reduceLT, Int.reduceLE, hk102a, hk102b, hk102c, Nat.reduceEqDiff, or_true, true_or, or_false, false_or, and_false, false_and, Classical.not_not, true_implies, List.set_cons_zero, List.set_cons_succ, ne_eq, hkLe_t ht, hh, e1, h33', e2, hw]
      clear hw e1 e2
      repeat' (first | exact IH | refine And.intro ?_ ?_ | intro _ | trivial | omega | (exfalso; omega))
    · rw [if_neg h] at hu
      have hq := hQ g (fun _ _ _ => rfl) (fun _ _ => rfl) (by rw [hS.2.2.2.1, hu]; omega) (fun r hr => by rw [hu] at hr; omega) (fun _ _ => rfl)
      rw [hu, show c + ((0 : Nat) : Int) = c from by omega] at hq
      rw [x_156_2]
      simp only [x_156_3, x_156_4, x_156_7, x_156_8, hkJK_66, hkJK_74, jA_66_14, jL_74, jR_66_14, hkP1_0, hkP1_2, hkP1_u, hkC8, List.map_cons, List.map_nil, List.sum_cons, List.sum_nil, hkCat_0, hkCat_1, hkCat_2, Nat.reduceAdd, Nat.reduceLeDiff, hkPush_s, hkPush_n, true_and, and_true, implies_true, true_implies, not_true_eq_false, not_false_eq_true, false_implies, hkTf_0, hkTf_n1, hkOr01, hkOr11, Int.reduceEq, Int.reduceLT, Int.reduceLE, hk102a, hk102b, hk102c, Nat.reduceEqDiff, or_true, true_or, or_false, false_or, and_false, false_and, Classical.not_not, true_implies, List.set_cons_zero, List.set_cons_succ, ne_eq, hd]
      rw [hkTf_f h]
      simp only [x_156_11, hkJK_66, hkJK_74, jA_66_14, jL_74, jR_66_14, hkP1_0, hkP1_2, hkP1_u, hkC8, List.map_cons, List.map_nil, List.sum_cons, List.sum_nil, hkCat_0, hkCat_1, hkCat_2, Nat.reduceAdd, Nat.reduceLeDiff, hkPush_s, hkPush_n, true_and, and_true, implies_true, true_implies, not_true_eq_false, not_false_eq_true, false_implies, hkTf_0, hkTf_n1, hkOr01, hkOr11, Int.reduceEq, Int.reduceLT, Int.reduceLE, hk102a, hk102b, hk102c, Nat.reduceEqDiff, or_true, true_or, or_false, false_or, and_false, false_and, Classical.not_not, true_implies, List.set_cons_zero, List.set_cons_succ, ne_eq, x_156_43, x_156_44, hkJK_66, hkJK_74, jA_66_14, jL_74, jR_66_14, hkP1_0, hkP1_2, hkP1_u, hkC8, List.map_cons, List.map_nil, List.sum_cons, List.sum_nil, hkCat_0, hkCat_1, hkCat_2, Nat.reduceAdd, Nat.reduceLeDiff, hkPush_s, hkPush_n, true_and, and_true, implies_true, true_implies, not_true_eq_false, not_false_eq_true, false_implies, hkTf_0, hkTf_n1, hkOr01, hkOr11, Int.reduceEq, Int.reduceLT, Int.reduceLE, hk102a, hk102b, hk102c, Nat.reduceEqDiff, or_true, true_or, or_false, false_or, and_false, false_and, Classical.not_not, true_implies, List.set_cons_zero, List.set_cons_succ, ne_eq]
      repeat' (first | exact hq | refine And.intro ?_ ?_ | intro _ | trivial | omega | (exfalso; omega))
theorem sx_mdigits (ht : 190 ≤ t) (F60 : F ≤ 60) (hS : mSt R N F T pl op sp w g) (p0 : 0 ≤ pl) (hQ : ∀ g' : hkG, (∀ q : Int, q ≠ 66 → q ≠ 74 → g' q = g q) → (∀ k : Int, k ≠ 33 → g' 66 k = g 66 k) → g' 66 33 = pl + dgN T F 4 pl → (∀ r : Nat, r < dgN T F 4 pl → g' 74 r = T (pl + r) - 48) → Q (some (0, dgN T F 4 pl)) t g') : Xp 156 (d + 2) 0 [(2, 66), (0, 4), hkU] [] t g Q := by
  have K := l_mdig (d := d) (Q := Q) ht F60 4 0 pl g (by decide) (by decide) hS p0 (fun g' k1 k2 k3 k4 _ => by
    have hq := hQ g' k1 k2 k3 (fun r hr => by have := k4 r hr; rw [Int.zero_add] at this; exact this)
    rw [Int.zero_add]
    exact hq)
  simp only [x_156_0, x_156_1, hkJK_66, hkJK_74, jA_66_14, jL_74, jR_66_14, hkP1_0, hkP1_2, hkP1_u, hkC8, List.map_cons, List.map_nil, List.sum_cons, List.sum_nil, hkCat_0, hkCat_1, hkCat_2, Nat.reduceAdd, Nat.reduceLeDiff, hkPush_s, hkPush_n, true_and, and_true, implies_true, true_implies, not_true_eq_false, not_false_eq_true, false_implies, hkTf_0, hkTf_n1, hkOr01, hkOr11, Int.reduceEq, Int.reduceLT, Int.reduceLE, hk102a, hk102b, hk102c, Nat.reduceEqDiff, or_true, true_or, or_false, false_or, and_false, false_and, Classical.not_not, true_implies, List.set_cons_zero, List.set_cons_succ, ne_eq]
  repeat' (first | exact K | refine And.intro ?_ ?_ | intro _ | trivial | omega | (exfalso; omega))
theorem l_mnum (ht : 190 ≤ t) {k : Nat} {p : Int} (hk : k ≤ 4) (hd : ∀ r : Nat, r < k → g 74 r = T (p + r) - 48 ∧ 48 ≤ T (p + r) ∧ T (p + r) ≤ 57) : ∀ (m j : Nat) (v : Int), j + m = k → 0 ≤ v → v < 10 ^ j → Q (some (0, dgVl T m (p + j) v)) t g → Xp 157 d 4 [(2, 66), (0, (k : Int)), (0, v), (0, (j : Int))] [] t g Q := by
  intro m
  induction m with
  | zero =>
    intro j v hj v0 v1 hQ
    have hq : Q (some (0, v)) t g := hQ
    rw [x_157_4]
    simp only [x_157_5, x_157_6, hkJK_66, hkJK_74, jA_66_14, jL_74, jR_66_14, hkP1_0, hkP1_2, hkP1_u, hkC8, List.map_cons, List.map_nil, List.sum_cons, List.sum_nil, hkCat_0, hkCat_1, hkCat_2, Nat.reduceAdd, Nat.reduceLeDiff, hkPush_s, hkPush_n, true_and, and_true, implies_true, true_implies, not_true_eq_false, not_false_eq_true, false_implies, hkTf_0, hkTf_n1, hkOr01, hkOr11, Int.reduceEq, Int.reduceLT, Int.reduceLE, hk102a, hk102b, hk102c, Nat.reduceEqDiff, or_true, true_or, or_false, false_or, and_false, false_and, Classical.not_not, true_implies, List.set_cons_zero, List.set_cons_succ, ne_eq, x_157_27, x_157_28, hkJK_66, hkJK_74, jA_66_14, jL_74, jR_66_14, hkP1_0, hkP1_2, hkP1_u, hkC8, List.map_cons, List.map_nil, List.sum_cons, List.sum_nil, hkCat_0, hkCat_1, hkCat_2, Nat.reduceAdd, Nat.reduceLeDiff, hkPush_s, hkPush_n, true_and, and_true, implies_true, true_implies, not_true_eq_false, not_false_eq_true, false_implies, hkTf_0, hkTf_n1, hkOr01, hkOr11, Int.reduceEq, Int.reduceLT, Int.reduceLE, hk102a, hk102b, hk102c, Nat.reduceEqDiff, or_true, true_or, or_false, false_or, and_false, false_and, Classical.not_not, true_implies, List.set_cons_zero, List.set_cons_succ, ne_eq]
    repeat' (first | exact hq | refine And.intro ?_ ?_ | intro _ | trivial | omega | (exfalso; omega))
  | succ m ih =>
    intro j v hj v0 v1 hQ
    obtain ⟨h74, d0, d1⟩ := hd j (by omega)
    have hp4 := pw4 j (by omega)
    have hp5 := pw4 (j + 1) (by omega)
    rw [Int.pow_succ] at hp5
    have hq : Q (some (0, dgVl T m (p + j + 1) (v * 10 + T (p + j) - 48))) t g := hQ
    have IH := ih (j + 1) (10 * v + (T (p + j) - 48)) (by omega) (by omega) (by rw [Int.pow_succ]; omega) (by rw [show p + ((j + 1 : Nat) : Int) = p + j + 1 from by omega, show 10 * v + (T (p + j) - 48) = v * 10 + T (p + j) - 48 from by omega]; exact hq)
    obtain ⟨hw, e1, e2⟩ : hkW ((j : Int) + 1) = ((j + 1 : Nat) : Int) ∧ hkW (10 * v) = 10 * v ∧ hkW (10 * v + (T (p + j) - 48)) = 10 * v + (T (p + j) - 48) := ⟨by rw [hkW_in (by omega) (by omega)]; omega, hkW_in (by omega) (by omega), hkW_in (by omega) (by omega)⟩
    rw [x_157_4]
    simp only [x_157_5, x_157_6, x_157_9, x_157_11, x_157_12, x_157_13, x_157_14, x_157_17, x_157_18, x_157_19, x_157_20, x_157_21, x_157_24, hkJK_66, hkJK_74, jA_66_14, jL_74, jR_66_14, hkP1_0, hkP1_2, hkP1_u, hkC8, List.map_cons, List.map_nil, List.sum_cons, List.sum_nil, hkCat_0, hkCat_1, hkCat_2, Nat.reduceAdd, Nat.reduceLeDiff, hkPush_s, hkPush_n, true_and, and_true, implies_true, true_implies, not_true_eq_false, not_false_eq_true, false_implies, hkTf_0, hkTf_n1, hkOr01, hkOr11, Int.reduceEq, Int.reduceLT, Int.reduceLE, hk102a, hk102b, hk102c, Nat.reduceEqDiff, or_true, true_or, or_false, false_or, and_false, false_and, Classical.not_not, true_implies, List.set_cons_zero, List.set_cons_succ, ne_eq, hkLe_t ht, h74, e1, e2, hw]
    clear hw e1 e2
    repeat' (first | exact IH | refine And.intro ?_ ?_ | intro _ | trivial | omega | (exfalso; omega))
theorem sx_mnum (ht : 190 ≤ t) {k : Nat} {p : Int} (hk : k ≤ 4) (hd : ∀ r : Nat, r < k → g 74 r = T (p + r) - 48 ∧ 48 ≤ T (p + r) ∧ T (p + r) ≤ 57) : Xp 157 d 0 [(2, 66), (0, (k : Int)), hkU, hkU] [] t g Q = Q (some (0, dgVl T k p 0)) t g := by
  refine Xp_ev (d := 0) (Ev_of ?_) (Nat.zero_le _)
  have K := l_mnum (d := 0) (t := t) (g := g) (T := T) (Q := fun r2 t2 g2 => r2 = some (0, dgVl T k p 0) ∧ t2 = t ∧ g2 = g) ht hk hd k 0 0 (by omega) (by decide) (by decide) ⟨by rw [show p + ((0 : Nat) : Int) = p from by omega], rfl, rfl⟩
  rw [show ((0 : Nat) : Int) = 0 from rfl] at K
  simp only [x_157_0, x_157_1, x_157_2, x_157_3, hkJK_66, hkJK_74, jA_66_14, jL_74, jR_66_14, hkP1_0, hkP1_2, hkP1_u, hkC8, List.map_cons, List.map_nil, List.sum_cons, List.sum_nil, hkCat_0, hkCat_1, hkCat_2, Nat.reduceAdd, Nat.reduceLeDiff, hkPush_s, hkPush_n, true_and, and_true, implies_true, true_implies, not_true_eq_false, not_false_eq_true, false_implies, hkTf_0, hkTf_n1, hkOr01, hkOr11, Int.reduceEq, Int.reduceLT, Int.reduceLE, hk102a, hk102b, hk102c, Nat.reduceEqDiff, or_true, true_or, or_false, false_or, and_false, false_and, Classical.not_not, true_implies, List.set_cons_zero, List.set_cons_succ, ne_eq]
  repeat' (first | exact K | refine And.intro ?_ ?_ | intro _ | trivial | omega | (exfalso; omega))
end SP
