/-! the reference: its shapes -/
def pbF : Nat → Int → Int → Option Int
  | 0, _, _ => none
  | f + 1, x, n => if x = 0 then some n else pbF f (hkAnd x (hkW (x - 1))) (hkW (n + 1))
def pbN (x : Nat) : Nat := ((List.range 7).map (fun b => x / 2 ^ b % 2)).sum
theorem pbOk : ∀ x : Nat, x < 128 → pbF 9 (x : Int) 0 = some ((pbN x : Nat) : Int) := by decide +kernel
def rbF (w R : Int) : Nat → Int → Int → Int × List Int
  | 0, _, a => (a, [])
  | c + 1, r, a => if hkAnd (hkShr w c) 1 = 1 then (let v := hkW (c - hkW (hkW (R - 1) - r)); let q := rbF w R c (r + 1) (hkW (a + v)); (q.1, v :: q.2)) else rbF w R c r a
def rbB (N R w : Nat) : Bool := !(pbN w == R) || decide ((rbF w R N 0 0).2.length = R)
theorem rbOk : ∀ N, N < 8 → ∀ R, R < 5 → ∀ w, w < 128 → w < 2 ^ N → rbB N R w = true := by decide +kernel
def mrow (R N : Nat) (s w : Nat) : Bool := decide (s < (bxS R N).length) && (decide (bxW R N s = w) && (decide (bxZ R N s = (rbF w R N 0 0).1) && decide (∀ r : Nat, r < 4 → bxL R N s r = if r < R then (rbF w R N 0 0).2.getD r 0 else 0)))
def chMw (R N n : Nat) : Nat → Nat → Option Nat
  | 0, s => some s
  | w + 1, s => if pbN w = R ∧ (rbF w R N 0 0).1 = (n : Int) then (if mrow R N s w = true then chMw R N n w (s + 1) else none) else chMw R N n w s
def chMn (R N : Nat) : Nat → Option Nat
  | 0 => some 0
  | n + 1 => match chMn R N n with
    | some s => chMw R N n (2 ^ N) s
    | none => none
theorem chMok : ∀ R, R < 5 → ∀ N, N < 8 → bxOkB R N = true → chMn R N (R * (N - R) + 1) = some (bxS R N).length ∧ hkW (hkShl 1 N - 1) = 2 ^ N - 1 := by decide +kernel
def TM (g : hkG) (R N : Int) (k : Nat) : Prop := g 66 0 = R ∧ g 66 1 = N ∧ g 66 2 = (k : Int) ∧
  ∀ i : Int, 0 ≤ i → i < k → (∀ r : Int, 0 ≤ r → r < 4 → g 67 (4 * i + r) = bxL R N i r) ∧ g 69 i = bxZ R N i ∧ g 68 (bxW R N i) = i
section SP
variable {t d : Nat} {g : hkG} {Q : Option hkV → Nat → hkG → Prop}
theorem sx_mWidth : Xp 103 d 0 [(2, 66)] [] t g Q = Q (some (0, hkW (g 66 1 - g 66 0))) t g := Xp_ev s_mWidth (Nat.zero_le _)
theorem l_bits {x0 : Int} : ∀ (f : Nat) (x n r : Int) (Q : Option hkV → Nat → hkG → Prop), pbF f x n = some r → Q (some (0, r)) t g → Xp 104 d 4 [(0, x0), (0, n), (0, x)] [] t g Q := by
  intro f
  induction f with
  | zero => intro x n r Q h; cases h
  | succ f ih =>
    intro x n r Q h hq
    unfold pbF at h
    rw [x_104_4]
    simp only [x_104_5, x_104_8, x_104_11, x_104_12, x_104_13, x_104_14, x_104_15, x_104_16, x_104_17, x_104_20, x_104_21, hkP1_0, hkP1_2, hkP1_u, hkC8, List.map_cons, List.map_nil, List.sum_cons, List.sum_nil, hkCat_0, hkCat_1, hkCat_2, Nat.reduceAdd, Nat.reduceLeDiff, hkPush_s, hkPush_n, true_and, and_true, implies_true, true_implies, not_true_eq_false, not_false_eq_true, false_implies, hkTf_0, hkTf_n1, hkOr01, hkOr11, Int.reduceEq, Int.reduceLT, Int.reduceLE, hk102a, hk102b, hk102c, Nat.reduceEqDiff, or_true, true_or, or_false, false_or, and_false, false_and, Classical.not_not, true_implies, List.set_cons_zero, List.set_cons_succ, ne_eq]
    refine ⟨fun hx => ?_, fun hx => ?_⟩
    · rw [if_pos hx] at h
      cases h
      exact hq
    · rw [if_neg hx] at h
      exact ih _ _ _ Q h hq
theorem sx_bits {x : Nat} (hx : x < 128) : Xp 104 d 0 [(0, (x : Int)), hkU, hkU] [] t g Q = Q (some (0, ((pbN x : Nat) : Int))) t g := by
  refine Xp_ev (d := 0) (Ev_of ?_) (Nat.zero_le _)
  simp only [x_104_0, x_104_1, x_104_2, x_104_3, hkP1_0, hkP1_2, hkP1_u, hkC8, List.map_cons, List.map_nil, List.sum_cons, List.sum_nil, hkCat_0, hkCat_1, hkCat_2, Nat.reduceAdd, Nat.reduceLeDiff, hkPush_s, hkPush_n, true_and, and_true, implies_true, true_implies, not_true_eq_false, not_false_eq_true, false_implies, hkTf_0, hkTf_n1, hkOr01, hkOr11, Int.reduceEq, Int.reduceLT, Int.reduceLE, hk102a, hk102b, hk102c, Nat.reduceEqDiff, or_true, true_or, or_false, false_or, and_false, false_and, Classical.not_not, true_implies, List.set_cons_zero, List.set_cons_succ, ne_eq]
  exact l_bits 9 _ _ _ _ (pbOk x hx) ⟨rfl, rfl, rfl⟩
theorem l_rowsBy (ht : 190 ≤ t) {w R N : Int} (hR : 0 ≤ R ∧ R ≤ 4) (hN : 0 ≤ N ∧ N ≤ 7) : ∀ (c : Nat) (r a : Int) (g : hkG) (Q : Option hkV → Nat → hkG → Prop), c ≤ 7 → 0 ≤ r → r + (rbF w R c r a).2.length ≤ 4 → g 66 0 = R →
    (∀ g' : hkG, (∀ p : Int, p ≠ 74 → g' p = g p) → (∀ j : Int, 0 ≤ j → j < r → g' 74 j = g 74 j) → (∀ j : Nat, j < (rbF w R c r a).2.length → g' 74 (r + j) = (rbF w R c r a).2.getD j 0) → Q (some (0, (rbF w R c r a).1)) t g') →
    Xp 105 d 12 [(2, 66), (0, w), (0, r), (0, a), (0, (c : Int) - 1)] [] t g Q := by
  intro c
  induction c with
  | zero =>
    intro r a g Q hc hr hl hg hQ
    rw [x_105_12]
    simp only [x_105_14, x_105_17, x_105_18, x_105_20, x_105_21, x_105_22, x_105_23, x_105_24, x_105_27, x_105_28, x_105_31, x_105_32, x_105_34, x_105_35, x_105_38, x_105_39, x_105_40, x_105_41, x_105_42, x_105_43, x_105_44, x_105_45, x_105_46, x_105_49, x_105_50, x_105_51, x_105_52, x_105_53, x_105_56, x_105_59, x_105_62, x_105_63, hkJK_66, hkJK_74, jA_66_14, jL_74, jR_66_14, hkP1_0, hkP1_2, hkP1_u, hkC8, List.map_cons, List.map_nil, List.sum_cons, List.sum_nil, hkCat_0, hkCat_1, hkCat_2, Nat.reduceAdd, Nat.reduceLeDiff, hkPush_s, hkPush_n, true_and, and_true, implies_true, true_implies, not_true_eq_false, not_false_eq_true, false_implies, hkTf_0, hkTf_n1, hkOr01, hkOr11, Int.reduceEq, Int.reduceLT, Int.reduceLE, hk102a, hk102b, hk102c, Nat.reduceEqDiff, or_true, true_or, or_false, false_or, and_false, false_and, Classical.not_not, true_implies, List.set_cons_zero, List.set_cons_succ, ne_eq]
    refine ⟨fun _ => hQ g (fun _ _ => rfl) (fun _ _ _ => rfl) (fun j hj => by simp [rbF] at hj), fun h => absurd (by omega) h⟩
  | succ c ih =>
    intro r a g Q hc hr hl hg hQ
    rw [x_105_12]
    simp only [x_105_14, x_105_17, x_105_18, x_105_20, x_105_21, x_105_22, x_105_23, x_105_24, x_105_27, x_105_28, x_105_31, x_105_32, x_105_34, x_105_35, x_105_38, x_105_39, x_105_40, x_105_41, x_105_42, x_105_43, x_105_44, x_105_45, x_105_46, x_105_49, x_105_50, x_105_51, x_105_52, x_105_53, x_105_56, x_105_59, hkJK_66, hkJK_74, jA_66_14, jL_74, jR_66_14, hkP1_0, hkP1_2, hkP1_u, hkC8, List.map_cons, List.map_nil, List.sum_cons, List.sum_nil, hkCat_0, hkCat_1, hkCat_2, Nat.reduceAdd, Nat.reduceLeDiff, hkPush_s, hkPush_n, true_and, and_true, implies_true, true_implies, not_true_eq_false, not_false_eq_true, false_implies, hkTf_0, hkTf_n1, hkOr01, hkOr11, Int.reduceEq, Int.reduceLT, Int.reduceLE, hk102a, hk102b, hk102c, Nat.reduceEqDiff, or_true, true_or, or_false, false_or, and_false, false_and, Classical.not_not, true_implies, List.set_cons_zero, List.set_cons_succ, ne_eq, hkLe_t ht, hg, hkSet_rd, hkCpy_rd, hkFil_rd, if_true, if_false, Int.reduceEq, false_and, true_and, and_self]
    rw [show ((c + 1 : Nat) : Int) - 1 = (c : Int) from by omega, hkW_in (x := (c : Int) + -1) (by omega) (by omega), show (c : Int) + -1 = (c : Int) - 1 from by omega]
    refine ⟨fun h => by omega, fun _ => ⟨fun h1 => ?_, fun h1 => ?_⟩⟩
    · have e : rbF w R (c + 1) r a = rbF w R c r a := by
        conv => lhs; unfold rbF
        rw [if_neg h1]
      rw [e] at hl hQ
      exact ih r a g Q (by omega) hr hl hg hQ
    · have e : rbF w R (c + 1) r a = ((rbF w R c (r + 1) (hkW (a + hkW (c - hkW (hkW (R - 1) - r))))).1, hkW (c - hkW (hkW (R - 1) - r)) :: (rbF w R c (r + 1) (hkW (a + hkW (c - hkW (hkW (R - 1) - r))))).2) := by
        conv => lhs; unfold rbF
        rw [if_pos h1]
      rw [e] at hl hQ
      simp only [List.length_cons] at hl hQ
      rw [hkW_in (x := r + 1) (by omega) (by omega)]
      refine ⟨⟨hr, by omega⟩, ⟨hr, by omega⟩, ih (r + 1) _ _ Q (by omega) (by omega) (by omega) (by rw [hkSet_row (by decide)]; exact hg) (fun g' k1 k2 k3 => hQ g' (fun p hp => ?_) (fun j h2 h3 => ?_) (fun j hj => ?_))⟩
      · rw [k1 p hp]; exact hkSet_row hp
      · rw [k2 j h2 (by omega), hkSet_rd, if_neg (by omega)]
      · cases j with
        | zero =>
          rw [show r + ((0 : Nat) : Int) = r from by omega, k2 r hr (by omega), hkSet_rd, if_pos ⟨rfl, rfl⟩]
          rfl
        | succ j =>
          rw [show r + ((j + 1 : Nat) : Int) = r + 1 + (j : Int) from by omega, k3 j (by omega)]
          rfl
/-- the row of a new shape -/
theorem l_mlen (ht : 190 ≤ t) {s n w R : Int} (hs : 0 ≤ s ∧ s < 35) : ∀ (k : Nat) (r : Int) (g : hkG) (Q : Option hkV → Nat → hkG → Prop), r + k = 4 → 0 ≤ r → g 66 0 = R → g 66 2 = s →
    (∀ g' : hkG, (∀ p : Int, p ≠ 67 → g' p = g p) → (∀ j : Int, r ≤ j → j < 4 → g' 67 (4 * s + j) = if j < R then g 74 j else 0) → (∀ i : Int, i < 4 * s + r → g' 67 i = g 67 i) → Xp 102 (d + 1) 97 [(2, 66), (0, n), (0, w), (0, 4)] [] t g' Q) →
    Xp 102 (d + 1) 55 [(2, 66), (0, n), (0, w), (0, r)] [] t g Q := by
  intro k
  induction k with
  | zero =>
    intro r g Q hr h0 h1 h2 hQ
    rw [show r = 4 from by omega]
    rw [x_102_55]
    simp only [x_102_56, x_102_57, x_102_60, x_102_61, x_102_64, x_102_65, x_102_66, x_102_69, x_102_70, x_102_71, x_102_72, x_102_73, x_102_74, x_102_77, x_102_80, x_102_81, x_102_84, x_102_85, x_102_86, x_102_89, x_102_90, x_102_91, x_102_94, hkJK_66, hkJK_67, hkJK_68, hkJK_69, hkJK_71, hkJK_74, jA_66_14, jA_66_3, jA_66_4, jA_66_5, jA_66_7, jL_67, jL_68, jL_69, jL_71, jL_74, jR_66_14, jR_66_3, jR_66_4, jR_66_5, jR_66_7, hkP1_0, hkP1_2, hkP1_u, hkC8, List.map_cons, List.map_nil, List.sum_cons, List.sum_nil, hkCat_0, hkCat_1, hkCat_2, Nat.reduceAdd, Nat.reduceLeDiff, hkPush_s, hkPush_n, true_and, and_true, implies_true, true_implies, not_true_eq_false, not_false_eq_true, false_implies, hkTf_0, hkTf_n1, hkOr01, hkOr11, Int.reduceEq, Int.reduceLT, Int.reduceLE, hk102a, hk102b, hk102c, Nat.reduceEqDiff, or_true, true_or, or_false, false_or, and_false, false_and, Classical.not_not, true_implies, List.set_cons_zero, List.set_cons_succ, ne_eq]
    exact hQ g (fun _ _ => rfl) (fun j a b => by omega) (fun _ _ => rfl)
  | succ k ih =>
    intro r g Q hr h0 h1 h2 hQ
    rw [x_102_55]
    simp only [x_102_56, x_102_57, x_102_60, x_102_61, x_102_64, x_102_65, x_102_66, x_102_69, x_102_70, x_102_71, x_102_72, x_102_73, x_102_74, x_102_77, x_102_80, x_102_81, x_102_84, x_102_85, x_102_86, x_102_89, x_102_90, x_102_91, x_102_94, hkJK_66, hkJK_67, hkJK_68, hkJK_69, hkJK_71, hkJK_74, jA_66_14, jA_66_3, jA_66_4, jA_66_5, jA_66_7, jL_67, jL_68, jL_69, jL_71, jL_74, jR_66_14, jR_66_3, jR_66_4, jR_66_5, jR_66_7, hkP1_0, hkP1_2, hkP1_u, hkC8, List.map_cons, List.map_nil, List.sum_cons, List.sum_nil, hkCat_0, hkCat_1, hkCat_2, Nat.reduceAdd, Nat.reduceLeDiff, hkPush_s, hkPush_n, true_and, and_true, implies_true, true_implies, not_true_eq_false, not_false_eq_true, false_implies, hkTf_0, hkTf_n1, hkOr01, hkOr11, Int.reduceEq, Int.reduceLT, Int.reduceLE, hk102a, hk102b, hk102c, Nat.reduceEqDiff, or_true, true_or, or_false, false_or, and_false, false_and, Classical.not_not, true_implies, List.set_cons_zero, List.set_cons_succ, ne_eq, hkLe_t ht, h1, h2]
    rw [hkW_in (x := 4 * s) (by omega) (by omega), hkW_in (x := 4 * s + r) (by omega) (by omega), hkW_in (x := r + 1) (by omega) (by omega)]
    have KK : ∀ v : Int, v = (if r < R then g 74 r else 0) → Xp 102 (d + 1) 55 [(2, 66), (0, n), (0, w), (0, r + 1)] [] t (hkSet g 67 (4 * s + r) v) Q := by
      intro v hv
      refine ih (r + 1) _ Q (by omega) (by omega) (by rw [hkSet_row (by decide)]; exact h1) (by rw [hkSet_row (by decide)]; exact h2) (fun g' k1 k2 k3 => hQ g' (fun p hp => by rw [k1 p hp]; exact hkSet_row hp) (fun j a1 a2 => ?_) (fun i a1 => ?_))
      · by_cases e : j = r
        · rw [e, k3 _ (by omega), hkSet_rd, if_pos ⟨rfl, rfl⟩, hv]
        · rw [k2 j (by omega) a2, hkSet_row (by decide)]
      · rw [k3 i (by omega), hkSet_rd, if_neg (by omega)]
    refine ⟨fun h => by omega, fun _ => ⟨fun h => ⟨⟨by omega, by omega⟩, KK _ (by rw [if_neg (by omega)])⟩, fun h => ⟨⟨by omega, by omega⟩, ⟨by omega, by omega⟩, KK _ (by rw [if_pos (by omega)])⟩⟩⟩
theorem l_mfound (ht : 190 ≤ t) {w x : hkV} : ∀ (k : Nat) (i : Int) (g : hkG) (Q : Option hkV → Nat → hkG → Prop), i + k = 1225 → 0 ≤ i → Q none t (hkFil g 71 i 1225 0) → Xp 102 (d + 1) 141 [(2, 66), (0, i), w, x] [] t g Q := by
  intro k
  induction k with
  | zero =>
    intro i g Q hi h0 hq
    rw [show i = 1225 from by omega] at hq ⊢
    rw [x_102_141]
    simp only [x_102_142, x_102_145, x_102_148, x_102_149, x_102_152, x_102_153, x_102_154, x_102_155, x_102_158, x_102_161, hkJK_66, hkJK_67, hkJK_68, hkJK_69, hkJK_71, hkJK_74, jA_66_14, jA_66_3, jA_66_4, jA_66_5, jA_66_7, jL_67, jL_68, jL_69, jL_71, jL_74, jR_66_14, jR_66_3, jR_66_4, jR_66_5, jR_66_7, hkP1_0, hkP1_2, hkP1_u, hkC8, List.map_cons, List.map_nil, List.sum_cons, List.sum_nil, hkCat_0, hkCat_1, hkCat_2, Nat.reduceAdd, Nat.reduceLeDiff, hkPush_s, hkPush_n, true_and, and_true, implies_true, true_implies, not_true_eq_false, not_false_eq_true, false_implies, hkTf_0, hkTf_n1, hkOr01, hkOr11, Int.reduceEq, Int.reduceLT, Int.reduceLE, hk102a, hk102b, hk102c, Nat.reduceEqDiff, or_true, true_or, or_false, false_or, and_false, false_and, Classical.not_not, true_implies, List.set_cons_zero, List.set_cons_succ, ne_eq]
    rw [hkFil_0] at hq
    exact hq
  | succ k ih =>
    intro i g Q hi h0 hq
    rw [x_102_141]
    simp only [x_102_142, x_102_145, x_102_148, x_102_149, x_102_152, x_102_153, x_102_154, x_102_155, x_102_158, x_102_161, hkJK_66, hkJK_67, hkJK_68, hkJK_69, hkJK_71, hkJK_74, jA_66_14, jA_66_3, jA_66_4, jA_66_5, jA_66_7, jL_67, jL_68, jL_69, jL_71, jL_74, jR_66_14, jR_66_3, jR_66_4, jR_66_5, jR_66_7, hkP1_0, hkP1_2, hkP1_u, hkC8, List.map_cons, List.map_nil, List.sum_cons, List.sum_nil, hkCat_0, hkCat_1, hkCat_2, Nat.reduceAdd, Nat.reduceLeDiff, hkPush_s, hkPush_n, true_and, and_true, implies_true, true_implies, not_true_eq_false, not_false_eq_true, false_implies, hkTf_0, hkTf_n1, hkOr01, hkOr11, Int.reduceEq, Int.reduceLT, Int.reduceLE, hk102a, hk102b, hk102c, Nat.reduceEqDiff, or_true, true_or, or_false, false_or, and_false, false_and, Classical.not_not, true_implies, List.set_cons_zero, List.set_cons_succ, ne_eq, hkLe_t ht]
    refine ⟨fun h => by omega, fun _ => ⟨⟨h0, by omega⟩, ?_⟩⟩
    rw [hkW_in (by omega) (by omega)]
    refine ih (i + 1) _ Q (by omega) (by omega) ?_
    have : hkFil (hkSet g 71 i 0) 71 (i + 1) 1225 0 = hkFil g 71 i 1225 0 := by
      (funext q j; simp only [hkSet, hkFil, hkCpy]; (repeat' split) <;> first | rfl | (exfalso; omega) | (congr 1; omega))
    rw [this]; exact hq
end SP
section SP
variable {t d : Nat} {R N : Nat}
def mKeep (g g' : hkG) : Prop := ∀ p : Int, p ≠ 66 → p ≠ 67 → p ≠ 68 → p ≠ 69 → p ≠ 71 → p ≠ 74 → g' p = g p
def m66 (g g' : hkG) : Prop := ∀ j : Int, j ≠ 2 → g' 66 j = g 66 j
theorem l_mword (ht : 190 ≤ t) (hb : bxOk R N) {n : Nat} (hn : n ≤ 24) {v3 : hkV} : ∀ (c s s' : Nat) (g : hkG) (v3 : hkV) (Q : Option hkV → Nat → hkG → Prop), c ≤ 2 ^ N → hkP1 v3 → chMw R N n c s = some s' → TM g R N s →
    (∀ (g' : hkG) (v3 : hkV), hkP1 v3 → TM g' R N s' → mKeep g g' → m66 g g' → g' 71 = g 71 → Xp 102 (d + 1) 133 [(2, 66), (0, (n : Int)), (0, -1), v3] [] t g' Q) →
    Xp 102 (d + 1) 29 [(2, 66), (0, (n : Int)), (0, (c : Int) - 1), v3] [] t g Q := by
  obtain ⟨b1, b2, b3, b4⟩ := id hb
  have h128 : 2 ^ N ≤ 128 := Nat.pow_le_pow_right (n := 2) (by decide) (show N ≤ 7 by omega)
  intro c
  induction c with
  | zero =>
    intro s s' g v3 Q hc hv hch hT hQ
    unfold chMw at hch
    cases hch
    rw [x_102_29, show ((0 : Nat) : Int) - 1 = -1 from rfl]
    simp only [x_102_30, hkJK_66, hkJK_67, hkJK_68, hkJK_69, hkJK_71, hkJK_74, jA_66_14, jA_66_3, jA_66_4, jA_66_5, jA_66_7, jL_67, jL_68, jL_69, jL_71, jL_74, jR_66_14, jR_66_3, jR_66_4, jR_66_5, jR_66_7, hkP1_0, hkP1_2, hkP1_u, hkC8, List.map_cons, List.map_nil, List.sum_cons, List.sum_nil, hkCat_0, hkCat_1, hkCat_2, Nat.reduceAdd, Nat.reduceLeDiff, hkPush_s, hkPush_n, true_and, and_true, implies_true, true_implies, not_true_eq_false, not_false_eq_true, false_implies, hkTf_0, hkTf_n1, hkOr01, hkOr11, Int.reduceEq, Int.reduceLT, Int.reduceLE, hk102a, hk102b, hk102c, Nat.reduceEqDiff, or_true, true_or, or_false, false_or, and_false, false_and, Classical.not_not, true_implies, List.set_cons_zero, List.set_cons_succ, ne_eq]
    exact hQ g v3 hv hT (fun _ _ _ _ _ _ _ => rfl) (fun _ _ => rfl) rfl
  | succ c ih =>
    intro s s' g v3 Q hc hv hch hT hQ
    obtain ⟨t1, t2, t3, t4⟩ := id hT
    unfold chMw at hch
    have hcw : c < 128 := by omega
    rw [x_102_29, show ((c + 1 : Nat) : Int) - 1 = (c : Int) from by omega]
    have KN : chMw R N n c s = some s' → Xp 102 (d + 1) 127 [(2, 66), (0, (n : Int)), (0, (c : Int)), v3] [] t g Q := by
      intro hch
      simp only [x_102_127, x_102_130, hkJK_66, hkJK_67, hkJK_68, hkJK_69, hkJK_71, hkJK_74, jA_66_14, jA_66_3, jA_66_4, jA_66_5, jA_66_7, jL_67, jL_68, jL_69, jL_71, jL_74, jR_66_14, jR_66_3, jR_66_4, jR_66_5, jR_66_7, hkP1_0, hkP1_2, hkP1_u, hkC8, List.map_cons, List.map_nil, List.sum_cons, List.sum_nil, hkCat_0, hkCat_1, hkCat_2, Nat.reduceAdd, Nat.reduceLeDiff, hkPush_s, hkPush_n, true_and, and_true, implies_true, true_implies, not_true_eq_false, not_false_eq_true, false_implies, hkTf_0, hkTf_n1, hkOr01, hkOr11, Int.reduceEq, Int.reduceLT, Int.reduceLE, hk102a, hk102b, hk102c, Nat.reduceEqDiff, or_true, true_or, or_false, false_or, and_false, false_and, Classical.not_not, true_implies, List.set_cons_zero, List.set_cons_succ, ne_eq]
      rw [hkW_in (by omega) (by omega), show (c : Int) + -1 = (c : Int) - 1 from by omega]
      exact ih s s' g v3 Q (by omega) hv hch hT hQ
    have hpb : pbN c = R → (rbF c R N 0 0).2.length = R := fun h => by
      have := rbOk N (by omega) R (by omega) c hcw (by omega)
      unfold rbB at this
      simp [h] at this
      exact this
    simp only [x_102_30, x_102_33, x_102_34, x_102_37, x_102_38, x_102_41, x_102_44, x_102_45, x_102_46, hkJK_66, hkJK_67, hkJK_68, hkJK_69, hkJK_71, hkJK_74, jA_66_14, jA_66_3, jA_66_4, jA_66_5, jA_66_7, jL_67, jL_68, jL_69, jL_71, jL_74, jR_66_14, jR_66_3, jR_66_4, jR_66_5, jR_66_7, hkP1_0, hkP1_2, hkP1_u, hkC8, List.map_cons, List.map_nil, List.sum_cons, List.sum_nil, hkCat_0, hkCat_1, hkCat_2, Nat.reduceAdd, Nat.reduceLeDiff, hkPush_s, hkPush_n, true_and, and_true, implies_true, true_implies, not_true_eq_false, not_false_eq_true, false_implies, hkTf_0, hkTf_n1, hkOr01, hkOr11, Int.reduceEq, Int.reduceLT, Int.reduceLE, hk102a, hk102b, hk102c, Nat.reduceEqDiff, or_true, true_or, or_false, false_or, and_false, false_and, Classical.not_not, true_implies, List.set_cons_zero, List.set_cons_succ, ne_eq, hkLe_t ht, t1, sx_bits hcw]
    refine ⟨fun h => by omega, fun _ => ⟨fun h => KN ?_, fun h => ?_⟩⟩
    · rw [if_neg (by rintro ⟨h1, -⟩; exact h (by rw [h1]))] at hch
      exact hch
    · have hp : pbN c = R := by omega
      have hlen := hpb hp
      simp only [x_105_0, x_105_1, x_105_2, x_105_3, x_105_4, x_105_5, x_105_8, x_105_9, x_105_10, hkJK_66, hkJK_74, jA_66_14, jL_74, jR_66_14, hkP1_0, hkP1_2, hkP1_u, hkC8, List.map_cons, List.map_nil, List.sum_cons, List.sum_nil, hkCat_0, hkCat_1, hkCat_2, Nat.reduceAdd, Nat.reduceLeDiff, hkPush_s, hkPush_n, true_and, and_true, implies_true, true_implies, not_true_eq_false, not_false_eq_true, false_implies, hkTf_0, hkTf_n1, hkOr01, hkOr11, Int.reduceEq, Int.reduceLT, Int.reduceLE, hk102a, hk102b, hk102c, Nat.reduceEqDiff, or_true, true_or, or_false, false_or, and_false, false_and, Classical.not_not, true_implies, List.set_cons_zero, List.set_cons_succ, ne_eq, t2]
      rw [hkW_in (x := (N : Int) - 1) (by omega) (by omega)]
      refine l_rowsBy ht (R := (R : Int)) (N := (N : Int)) (by omega) (by omega) N 0 0 g _ (by omega) (by omega) (by rw [hlen]; omega) t1 (fun g1 k1 k2 k3 => ?_)
      have T1 : TM g1 R N s := by
        refine ⟨by rw [k1 66 (by decide)]; exact t1, by rw [k1 66 (by decide)]; exact t2, by rw [k1 66 (by decide)]; exact t3, fun i a1 a2 => ?_⟩
        rw [k1 67 (by decide), k1 69 (by decide), k1 68 (by decide)]
        exact t4 i a1 a2
      have kp1 : mKeep g g1 := fun p a1 a2 a3 a4 a5 a6 => k1 p a6
      simp only [x_102_49, x_102_50, x_102_53, x_102_54, hkJK_66, hkJK_67, hkJK_68, hkJK_69, hkJK_71, hkJK_74, jA_66_14, jA_66_3, jA_66_4, jA_66_5, jA_66_7, jL_67, jL_68, jL_69, jL_71, jL_74, jR_66_14, jR_66_3, jR_66_4, jR_66_5, jR_66_7, hkP1_0, hkP1_2, hkP1_u, hkC8, List.map_cons, List.map_nil, List.sum_cons, List.sum_nil, hkCat_0, hkCat_1, hkCat_2, Nat.reduceAdd, Nat.reduceLeDiff, hkPush_s, hkPush_n, true_and, and_true, implies_true, true_implies, not_true_eq_false, not_false_eq_true, false_implies, hkTf_0, hkTf_n1, hkOr01, hkOr11, Int.reduceEq, Int.reduceLT, Int.reduceLE, hk102a, hk102b, hk102c, Nat.reduceEqDiff, or_true, true_or, or_false, false_or, and_false, false_and, Classical.not_not, true_implies, List.set_cons_zero, List.set_cons_succ, ne_eq, T1.2.2.1]
      refine ⟨fun h => ?_, fun h => ?_⟩
      · simp only [x_102_127, x_102_130, hkJK_66, hkJK_67, hkJK_68, hkJK_69, hkJK_71, hkJK_74, jA_66_14, jA_66_3, jA_66_4, jA_66_5, jA_66_7, jL_67, jL_68, jL_69, jL_71, jL_74, jR_66_14, jR_66_3, jR_66_4, jR_66_5, jR_66_7, hkP1_0, hkP1_2, hkP1_u, hkC8, List.map_cons, List.map_nil, List.sum_cons, List.sum_nil, hkCat_0, hkCat_1, hkCat_2, Nat.reduceAdd, Nat.reduceLeDiff, hkPush_s, hkPush_n, true_and, and_true, implies_true, true_implies, not_true_eq_false, not_false_eq_true, false_implies, hkTf_0, hkTf_n1, hkOr01, hkOr11, Int.reduceEq, Int.reduceLT, Int.reduceLE, hk102a, hk102b, hk102c, Nat.reduceEqDiff, or_true, true_or, or_false, false_or, and_false, false_and, Classical.not_not, true_implies, List.set_cons_zero, List.set_cons_succ, ne_eq]
        rw [hkW_in (by omega) (by omega), show (c : Int) + -1 = (c : Int) - 1 from by omega]
        rw [if_neg (by rintro ⟨-, h1⟩; exact h h1)] at hch
        refine ih s s' g1 v3 Q (by omega) hv hch T1 (fun g' v3 a1 a2 a3 a4 a5 => hQ g' v3 a1 a2 (fun p b1 b2 b3 b4 b5 b6 => by rw [a3 p b1 b2 b3 b4 b5 b6, k1 p b6]) (fun j hj => by rw [a4 j hj, k1 66 (by decide)]) (by rw [a5, k1 71 (by decide)]))
      · rw [if_pos ⟨hp, h⟩] at hch
        split at hch
        · rename_i hrow
          unfold mrow at hrow
          simp only [Bool.and_eq_true, decide_eq_true_eq] at hrow
          obtain ⟨r1, r2, r3, r4⟩ := hrow
          have hbC : (s : Int) < bxC R N := by unfold bxC; simp only [Int.toNat_natCast]; omega
          have hs35 := (bx_C hb).2
          obtain ⟨f1, f2, f3, -⟩ := bx_sh hb (i := (s : Int)) (by omega) hbC
          refine l_mlen ht (s := (s : Int)) (R := (R : Int)) (by omega) 4 0 g1 Q (by omega) (by omega) T1.1 T1.2.2.1 (fun g2 m1 m2 m3 => ?_)
          simp only [x_102_97, x_102_98, x_102_101, x_102_102, x_102_103, x_102_106, x_102_107, x_102_108, x_102_111, x_102_112, x_102_115, x_102_116, x_102_117, x_102_118, x_102_119, x_102_122, x_102_123, x_102_124, x_102_127, x_102_130, hkJK_66, hkJK_67, hkJK_68, hkJK_69, hkJK_71, hkJK_74, jA_66_14, jA_66_3, jA_66_4, jA_66_5, jA_66_7, jL_67, jL_68, jL_69, jL_71, jL_74, jR_66_14, jR_66_3, jR_66_4, jR_66_5, jR_66_7, hkP1_0, hkP1_2, hkP1_u, hkC8, List.map_cons, List.map_nil, List.sum_cons, List.sum_nil, hkCat_0, hkCat_1, hkCat_2, Nat.reduceAdd, Nat.reduceLeDiff, hkPush_s, hkPush_n, true_and, and_true, implies_true, true_implies, not_true_eq_false, not_false_eq_true, false_implies, hkTf_0, hkTf_n1, hkOr01, hkOr11, Int.reduceEq, Int.reduceLT, Int.reduceLE, hk102a, hk102b, hk102c, Nat.reduceEqDiff, or_true, true_or, or_false, false_or, and_false, false_and, Classical.not_not, true_implies, List.set_cons_zero, List.set_cons_succ, ne_eq, hkLe_t ht, hkSet_rd, hkCpy_rd, hkFil_rd, if_true, if_false, Int.reduceEq, false_and, true_and, m1 66 (by decide), T1.2.2.1]
          rw [hkW_in (x := (s : Int) + 1) (by omega) (by omega), hkW_in (x := (c : Int) + -1) (by omega) (by omega), show (c : Int) + -1 = (c : Int) - 1 from by omega]
          refine ⟨⟨by omega, by omega⟩, ⟨by omega, by omega⟩, ?_⟩
          refine ih (s + 1) s' _ _ Q (by omega) (by unfold hkP1; simp) hch ?_ (fun g' v3 a1 a2 a3 a4 a5 => hQ g' v3 a1 a2 (fun p b1 b2 b3 b4 b5 b6 => ?_) (fun j hj => ?_) ?_)
          · refine ⟨?_, ?_, ?_, fun i a1 a2 => ?_⟩
            · simp only [hkSet_rd, hkCpy_rd, hkFil_rd, if_true, if_false, Int.reduceEq, false_and, true_and, m1 66 (by decide)]; exact T1.1
            · simp only [hkSet_rd, hkCpy_rd, hkFil_rd, if_true, if_false, Int.reduceEq, false_and, true_and, m1 66 (by decide)]; exact T1.2.1
            · simp only [hkSet_rd, hkCpy_rd, hkFil_rd, if_true, if_false, Int.reduceEq, false_and, true_and, and_self]; omega
            · by_cases e : i = s
              · subst e
                refine ⟨fun r q1 q2 => ?_, ?_, ?_⟩
                · simp only [hkSet_rd, hkCpy_rd, hkFil_rd, if_true, if_false, Int.reduceEq, false_and, true_and]
                  rw [m2 r q1 q2]
                  have := r4 r.toNat (by omega)
                  rw [show ((r.toNat : Nat) : Int) = r from by omega] at this
                  rw [this]
                  by_cases hr : r < (R : Int)
                  · rw [if_pos hr, if_pos (by omega)]
                    have := k3 r.toNat (by omega)
                    rw [show (0 : Int) + ((r.toNat : Nat) : Int) = r from by omega] at this
                    exact this
                  · rw [if_neg hr, if_neg (by omega)]
                · simp only [hkSet_rd, hkCpy_rd, hkFil_rd, if_true, if_false, Int.reduceEq, false_and, true_and, and_self]
                  omega
                · simp only [hkSet_rd, hkCpy_rd, hkFil_rd, if_true, if_false, Int.reduceEq, false_and, true_and]
                  rw [if_pos (by rw [r2])]
              · obtain ⟨u1, u2, u3⟩ := T1.2.2.2 i a1 (by omega)
                refine ⟨fun r q1 q2 => ?_, ?_, ?_⟩
                · simp only [hkSet_rd, hkCpy_rd, hkFil_rd, if_true, if_false, Int.reduceEq, false_and, true_and]
                  rw [m3 _ (by omega)]; exact u1 r q1 q2
                · simp only [hkSet_rd, hkCpy_rd, hkFil_rd, if_true, if_false, Int.reduceEq, false_and, true_and]
                  rw [if_neg e, m1 69 (by decide)]; exact u2
                · have hw : bxW R N i ≠ c := by
                    intro he
                    have e1 := (bx_sh hb (i := i) (by omega) (by omega)).2.2.2.2.1
                    have e2 := (bx_sh hb (i := (s : Int)) (by omega) hbC).2.2.2.2.1
                    rw [he] at e1
                    rw [r2, e1] at e2
                    omega
                  simp only [hkSet_rd, hkCpy_rd, hkFil_rd, if_true, if_false, Int.reduceEq, false_and, true_and]
                  rw [if_neg hw, m1 68 (by decide)]; exact u3
          · rw [a3 p b1 b2 b3 b4 b5 b6]
            funext j
            simp only [hkSet_rd]
            rw [if_neg (by omega), if_neg (by omega), if_neg (by omega), m1 p b2, k1 p b6]
          · rw [a4 j hj]
            simp only [hkSet_rd, hkCpy_rd, hkFil_rd, if_true, if_false, Int.reduceEq, false_and, true_and, hj, and_false]
            rw [m1 66 (by decide), k1 66 (by decide)]
          · rw [a5]
            funext j
            simp only [hkSet_rd, hkCpy_rd, hkFil_rd, if_true, if_false, Int.reduceEq, false_and, true_and]
            rw [m1 71 (by decide), k1 71 (by decide)]
        · cases hch
theorem l_mn (ht : 190 ≤ t) (hb : bxOk R N) : ∀ (c n s s' : Nat) (g : hkG) (v2 v3 : hkV) (Q : Option hkV → Nat → hkG → Prop), n + c = R * (N - R) + 1 → hkP1 v2 → hkP1 v3 → chMn R N n = some s → chMn R N (R * (N - R) + 1) = some s' → TM g R N s →
    (∀ g' : hkG, TM g' R N s' → mKeep g g' → m66 g g' → (∀ j : Int, 0 ≤ j → j < 1225 → g' 71 j = 0) → Q none t g') →
    Xp 102 (d + 1) 7 [(2, 66), (0, (n : Int)), v2, v3] [] t g Q := by
  obtain ⟨b1, b2, b3, b4⟩ := id hb
  have hprod : ((R : Int) * ((N : Int) - R)) = ((R * (N - R) : Nat) : Int) := by
    rw [Int.natCast_mul, Int.ofNat_sub (by omega)]
  have hple : R * (N - R) ≤ 4 * 6 := Nat.mul_le_mul (by omega) (by omega)
  obtain ⟨-, hpow⟩ := chMok R (by omega) N (by omega) (by unfold bxOkB; simp only [Bool.and_eq_true, decide_eq_true_eq]; omega)
  intro c
  induction c with
  | zero =>
    intro n s s' g v2 v3 Q hc hv2 hv3 hs hs' hT hQ
    rw [show n = R * (N - R) + 1 from by omega, hs'] at hs
    cases hs
    have t1 := hT.1
    have t2 := hT.2.1
    rw [x_102_7]
    simp only [x_102_8, x_102_9, x_102_12, x_102_13, x_102_16, x_102_17, hkJK_66, hkJK_67, hkJK_68, hkJK_69, hkJK_71, hkJK_74, jA_66_14, jA_66_3, jA_66_4, jA_66_5, jA_66_7, jL_67, jL_68, jL_69, jL_71, jL_74, jR_66_14, jR_66_3, jR_66_4, jR_66_5, jR_66_7, hkP1_0, hkP1_2, hkP1_u, hkC8, List.map_cons, List.map_nil, List.sum_cons, List.sum_nil, hkCat_0, hkCat_1, hkCat_2, Nat.reduceAdd, Nat.reduceLeDiff, hkPush_s, hkPush_n, true_and, and_true, implies_true, true_implies, not_true_eq_false, not_false_eq_true, false_implies, hkTf_0, hkTf_n1, hkOr01, hkOr11, Int.reduceEq, Int.reduceLT, Int.reduceLE, hk102a, hk102b, hk102c, Nat.reduceEqDiff, or_true, true_or, or_false, false_or, and_false, false_and, Classical.not_not, true_implies, List.set_cons_zero, List.set_cons_succ, ne_eq, sx_mWidth, t1, t2, x_102_139, x_102_140]
    rw [hkW_in (x := (N : Int) - R) (by omega) (by omega), hkW_in (x := (R : Int) * _) (by omega) (by omega)]
    refine ⟨fun _ => ?_, fun h => absurd (by omega) h⟩
    refine l_mfound ht 1225 0 g Q (by omega) (by omega) (hQ _ ?_ (fun p a1 a2 a3 a4 a5 a6 => hkFil_row a5) (fun j _ => by rw [hkFil_row (by decide)]) (fun j a1 a2 => hkFil_in a1 a2))
    obtain ⟨u1, u2, u3, u4⟩ := hT
    refine ⟨?_, ?_, ?_, fun i a1 a2 => ?_⟩ <;> simp only [hkSet_rd, hkCpy_rd, hkFil_rd, if_true, if_false, Int.reduceEq, false_and, true_and]
    · exact u1
    · exact u2
    · exact u3
    · exact u4 i a1 a2
  | succ c ih =>
    intro n s s' g v2 v3 Q hc hv2 hv3 hs hs' hT hQ
    have t1 := hT.1
    have t2 := hT.2.1
    have hnext : ∃ s1, chMw R N n (2 ^ N) s = some s1 ∧ chMn R N (n + 1) = some s1 := by
      have hmono : ∀ m, n + 1 ≤ m → chMn R N (n + 1) = none → chMn R N m = none := by
        intro m hm hnone
        obtain ⟨j, rfl⟩ := Nat.le.dest hm
        induction j with
        | zero => exact hnone
        | succ j ihj =>
          show (match chMn R N (n + 1 + j) with | some s => chMw R N (n + 1 + j) (2 ^ N) s | none => none) = none
          rw [ihj (by omega)]
      cases hn : chMn R N (n + 1) with
      | none =>
        rw [hmono _ (by omega) hn] at hs'
        cases hs'
      | some s1 =>
        refine ⟨s1, ?_, rfl⟩
        have : (match chMn R N n with | some s => chMw R N n (2 ^ N) s | none => none) = some s1 := hn
        rw [hs] at this
        exact this
    obtain ⟨s1, hs1, hs1'⟩ := hnext
    rw [x_102_7]
    simp only [x_102_8, x_102_9, x_102_12, x_102_13, x_102_16, x_102_17, x_102_20, x_102_21, x_102_22, x_102_25, x_102_26, x_102_27, x_102_28, hkJK_66, hkJK_67, hkJK_68, hkJK_69, hkJK_71, hkJK_74, jA_66_14, jA_66_3, jA_66_4, jA_66_5, jA_66_7, jL_67, jL_68, jL_69, jL_71, jL_74, jR_66_14, jR_66_3, jR_66_4, jR_66_5, jR_66_7, hkP1_0, hkP1_2, hkP1_u, hkC8, List.map_cons, List.map_nil, List.sum_cons, List.sum_nil, hkCat_0, hkCat_1, hkCat_2, Nat.reduceAdd, Nat.reduceLeDiff, hkPush_s, hkPush_n, true_and, and_true, implies_true, true_implies, not_true_eq_false, not_false_eq_true, false_implies, hkTf_0, hkTf_n1, hkOr01, hkOr11, Int.reduceEq, Int.reduceLT, Int.reduceLE, hk102a, hk102b, hk102c, Nat.reduceEqDiff, or_true, true_or, or_false, false_or, and_false, false_and, Classical.not_not, true_implies, List.set_cons_zero, List.set_cons_succ, ne_eq, sx_mWidth, t1, t2, hpow]
    rw [hkW_in (x := (N : Int) - R) (by omega) (by omega), hkW_in (x := (R : Int) * _) (by omega) (by omega)]
    refine ⟨fun h => by omega, fun _ => ?_⟩
    rw [show (2 : Int) ^ N - 1 = ((2 ^ N : Nat) : Int) - 1 from by rw [Int.natCast_pow]; rfl]
    refine l_mword ht hb (by omega) (v3 := v3) (2 ^ N) s s1 g v3 Q (Nat.le_refl _) hv3 hs1 hT (fun g1 v3' hv3' T1 k1 k2 k3 => ?_)
    simp only [x_102_133, x_102_136, hkJK_66, hkJK_67, hkJK_68, hkJK_69, hkJK_71, hkJK_74, jA_66_14, jA_66_3, jA_66_4, jA_66_5, jA_66_7, jL_67, jL_68, jL_69, jL_71, jL_74, jR_66_14, jR_66_3, jR_66_4, jR_66_5, jR_66_7, hkP1_0, hkP1_2, hkP1_u, hkC8, List.map_cons, List.map_nil, List.sum_cons, List.sum_nil, hkCat_0, hkCat_1, hkCat_2, Nat.reduceAdd, Nat.reduceLeDiff, hkPush_s, hkPush_n, true_and, and_true, implies_true, true_implies, not_true_eq_false, not_false_eq_true, false_implies, hkTf_0, hkTf_n1, hkOr01, hkOr11, Int.reduceEq, Int.reduceLT, Int.reduceLE, hk102a, hk102b, hk102c, Nat.reduceEqDiff, or_true, true_or, or_false, false_or, and_false, false_and, Classical.not_not, true_implies, List.set_cons_zero, List.set_cons_succ, ne_eq]
    rw [hkW_in (by omega) (by omega), show (n : Int) + 1 = ((n + 1 : Nat) : Int) from by omega]
    exact ih (n + 1) s1 s' g1 _ v3' Q (by omega) (by unfold hkP1; simp) hv3' hs1' hs' T1 (fun g' T' a1 a2 a3 => hQ g' T' (fun p b1 b2 b3 b4 b5 b6 => by rw [a1 p b1 b2 b3 b4 b5 b6, k1 p b1 b2 b3 b4 b5 b6]) (fun j hj => by rw [a2 j hj, k2 j hj]) a3)
theorem sx_shapesOf {g : hkG} {Q : Option hkV → Nat → hkG → Prop} (ht : 190 ≤ t) (hb : bxOk R N) (h1 : g 66 0 = R) (h2 : g 66 1 = N) (hQ : ∀ g' : hkG, TM g' R N (bxS R N).length → mKeep g g' → m66 g g' → (∀ j : Int, 0 ≤ j → j < 1225 → g' 71 j = 0) → Q none t g') : Xp 102 (d + 1) 0 [(2, 66), hkU, hkU, hkU] [] t g Q := by
  obtain ⟨b1, b2, b3, b4⟩ := id hb
  obtain ⟨hok, -⟩ := chMok R (by omega) N (by omega) (by unfold bxOkB; simp only [Bool.and_eq_true, decide_eq_true_eq]; omega)
  simp only [x_102_0, x_102_1, x_102_2, x_102_5, x_102_6, hkJK_66, hkJK_67, hkJK_68, hkJK_69, hkJK_71, hkJK_74, jA_66_14, jA_66_3, jA_66_4, jA_66_5, jA_66_7, jL_67, jL_68, jL_69, jL_71, jL_74, jR_66_14, jR_66_3, jR_66_4, jR_66_5, jR_66_7, hkP1_0, hkP1_2, hkP1_u, hkC8, List.map_cons, List.map_nil, List.sum_cons, List.sum_nil, hkCat_0, hkCat_1, hkCat_2, Nat.reduceAdd, Nat.reduceLeDiff, hkPush_s, hkPush_n, true_and, and_true, implies_true, true_implies, not_true_eq_false, not_false_eq_true, false_implies, hkTf_0, hkTf_n1, hkOr01, hkOr11, Int.reduceEq, Int.reduceLT, Int.reduceLE, hk102a, hk102b, hk102c, Nat.reduceEqDiff, or_true, true_or, or_false, false_or, and_false, false_and, Classical.not_not, true_implies, List.set_cons_zero, List.set_cons_succ, ne_eq]
  refine l_mn ht hb (R * (N - R) + 1) 0 0 _ _ hkU hkU Q (by omega) (by rw [hkP1_u]; trivial) (by rw [hkP1_u]; trivial) rfl hok ⟨?_, ?_, ?_, fun i a1 a2 => by omega⟩ (fun g' T a1 a2 a3 => hQ g' T (fun p b1 b2 b3 b4 b5 b6 => by rw [a1 p b1 b2 b3 b4 b5 b6]; exact hkSet_row b1) (fun j hj => by rw [a2 j hj, hkSet_rd, if_neg (by omega)]) a3)
  · simp only [hkSet_rd, hkCpy_rd, hkFil_rd, if_true, if_false, Int.reduceEq, false_and, true_and]; exact h1
  · simp only [hkSet_rd, hkCpy_rd, hkFil_rd, if_true, if_false, Int.reduceEq, false_and, true_and]; exact h2
  · simp only [hkSet_rd, hkCpy_rd, hkFil_rd, if_true, if_false, Int.reduceEq, false_and, true_and, and_self]; rfl
end SP
