/-! the reference: often, found once -/
/-- the reference's table of OFTEN -/
def MF (g : hkG) (R N : Int) : Prop := ∀ i j : Int, 0 ≤ i → i < bxC R N → 0 ≤ j → j < bxC R N → g 71 (35 * i + j) = 0 ∨ (g 71 (35 * i + j) = 1 ∧ ∀ l : Int, 0 ≤ l → l < bxC R N → g 70 (35 * (35 * i + j) + l) = OFC R N i j l)
def mfKeep (g g' : hkG) : Prop := (∀ q : Int, q ≠ 66 → q ≠ 70 → q ≠ 71 → q ≠ 75 → q ≠ 76 → q ≠ 77 → q ≠ 78 → q ≠ 79 → g' q = g q) ∧ ∀ k : Int, k ≠ 16 → k ≠ 17 → k ≠ 18 → g' 66 k = g 66 k
theorem mfKeep_r {g : hkG} : mfKeep g g := ⟨fun _ _ _ _ _ _ _ _ _ => rfl, fun _ _ _ _ => rfl⟩
theorem mfKeep_t {g g' g'' : hkG} (h : mfKeep g g') (h' : mfKeep g' g'') : mfKeep g g'' := ⟨fun q a b c e f i j k => by rw [h'.1 q a b c e f i j k, h.1 q a b c e f i j k], fun k a b c => by rw [h'.2 k a b c, h.2 k a b c]⟩
theorem mfKeep_X {g g' : hkG} {R N : Int} (h : mfKeep g g') (hX : MX g R N) : MX g' R N := MX_row hX (fun k hk => h.2 k (by omega) (by omega) (by omega)) (h.1 67 (by decide) (by decide) (by decide) (by decide) (by decide) (by decide) (by decide) (by decide)) (h.1 68 (by decide) (by decide) (by decide) (by decide) (by decide) (by decide) (by decide) (by decide)) (h.1 69 (by decide) (by decide) (by decide) (by decide) (by decide) (by decide) (by decide) (by decide))
theorem OFC_rest {R N i j l : Int} (hb : bxOk R N) : ((bxZ R N i + bxZ R N j - bxZ R N l).tmod N = 0) ↔ (bxQ R N l = (bxZ R N i + bxZ R N j) % N) := by
  unfold bxQ
  constructor
  · intro h
    have h1 := Int.dvd_of_tmod_eq_zero h
    exact (Int.emod_eq_emod_iff_emod_sub_eq_zero.2 (Int.emod_eq_zero_of_dvd h1)).symm
  · intro h
    have h1 := Int.emod_eq_emod_iff_emod_sub_eq_zero.1 h.symm
    exact Int.tmod_eq_zero_of_dvd (Int.dvd_of_emod_eq_zero h1)
theorem OFC_mo {R N i j l : Int} (hb : bxOk R N) : moT R N i j (bxF R N j).toNat 0 0 (fun _ => 0) 1 l = OFC R N i j l := by
  unfold moT OFC
  by_cases e : bxQ R N l = (bxZ R N i + bxZ R N j) % N
  · rw [if_pos e, if_pos ((OFC_rest hb).2 e), ordM_V]; rfl
  · rw [if_neg e, if_neg (fun h => e ((OFC_rest hb).1 h))]
section SP
variable {t d : Nat} {R N : Int}
theorem l_mof (ht : 190 ≤ t) {i j l : Int} (hi0 : 0 ≤ i) (hi : i < 35) (hj0 : 0 ≤ j) (hj : j < 35) {Q : Option hkV → Nat → hkG → Prop} : ∀ (m k : Nat) (g : hkG), k + m = 35 →
    (∀ g' : hkG, (∀ q : Int, q ≠ 70 → g' q = g q) → (∀ x : Int, k ≤ x → x < 35 → g' 70 (35 * (35 * i + j) + x) = 0) → (∀ y : Int, y < 35 * (35 * i + j) + k ∨ 35 * (35 * i + j) + 35 ≤ y → g' 70 y = g 70 y) → Xp 121 d 48 [(2, 66), (0, i), (0, j), (0, l), (0, 35)] [] t g' Q) →
    Xp 121 d 17 [(2, 66), (0, i), (0, j), (0, l), (0, (k : Int))] [] t g Q := by
  intro m
  induction m with
  | zero =>
    intro k g hk hQ
    have e : k = 35 := by omega
    subst e
    rw [x_121_17]
    simp only [x_121_19, x_121_21, hkJK_66, hkJK_70, hkJK_71, jA_66_6, jA_66_7, jL_70, jL_71, jR_66_6, jR_66_7, hkP1_0, hkP1_2, hkP1_u, hkC8, List.map_cons, List.map_nil, List.sum_cons, List.sum_nil, hkCat_0, hkCat_1, hkCat_2, Nat.reduceAdd, Nat.reduceLeDiff, hkPush_s, hkPush_n, true_and, and_true, implies_true, true_implies, not_true_eq_false, not_false_eq_true, false_implies, hkTf_0, hkTf_n1, hkOr01, hkOr11, Int.reduceEq, Int.reduceLT, Int.reduceLE, hk102a, hk102b, hk102c, Nat.reduceEqDiff, or_true, true_or, or_false, false_or, and_false, false_and, Classical.not_not, true_implies, List.set_cons_zero, List.set_cons_succ, ne_eq]
    exact ⟨fun _ => hQ g (fun _ _ => rfl) (fun x _ _ => by omega) (fun _ _ => rfl), fun h => absurd (by decide) h⟩
  | succ m ih =>
    intro k g hk hQ
    obtain ⟨hw, e2, e3, e4, e5⟩ : hkW ((k : Int) + 1) = ((k + 1 : Nat) : Int) ∧ hkW (35 * i) = 35 * i ∧ hkW (35 * i + j) = 35 * i + j ∧ hkW (35 * (35 * i + j)) = 35 * (35 * i + j) ∧ hkW (35 * (35 * i + j) + k) = 35 * (35 * i + j) + k := ⟨by rw [hkW_in (by omega) (by omega)]; omega, hkW_in (by omega) (by omega), hkW_in (by omega) (by omega), hkW_in (by omega) (by omega), hkW_in (by omega) (by omega)⟩
    rw [x_121_17]
    simp only [x_121_19, x_121_21, x_121_24, x_121_25, x_121_28, x_121_30, x_121_32, x_121_33, x_121_34, x_121_35, x_121_36, x_121_37, x_121_39, x_121_40, x_121_41, x_121_42, x_121_45, hkJK_66, hkJK_70, hkJK_71, jA_66_6, jA_66_7, jL_70, jL_71, jR_66_6, jR_66_7, hkP1_0, hkP1_2, hkP1_u, hkC8, List.map_cons, List.map_nil, List.sum_cons, List.sum_nil, hkCat_0, hkCat_1, hkCat_2, Nat.reduceAdd, Nat.reduceLeDiff, hkPush_s, hkPush_n, true_and, and_true, implies_true, true_implies, not_true_eq_false, not_false_eq_true, false_implies, hkTf_0, hkTf_n1, hkOr01, hkOr11, Int.reduceEq, Int.reduceLT, Int.reduceLE, hk102a, hk102b, hk102c, Nat.reduceEqDiff, or_true, true_or, or_false, false_or, and_false, false_and, Classical.not_not, true_implies, List.set_cons_zero, List.set_cons_succ, ne_eq, hkLe_t ht, e2, e3, e4, e5, hw]
    clear hw e2 e3 e4 e5
    refine ⟨fun h => absurd h (by omega), fun _ => ⟨by omega, ?_⟩⟩
    refine ih (k + 1) _ (by omega) (fun g' k1 k2 k3 => hQ g' (fun q hq => by rw [k1 q hq, hkSet_row hq]) (fun x h0 h1 => ?_) (fun y hy => ?_))
    · by_cases e : x = k
      · rw [e, k3 _ (by omega), hkSet_rd, if_pos ⟨rfl, rfl⟩]
      · exact k2 x (by omega) h1
    · rw [k3 y (by omega), hkSet_rd, if_neg (by omega)]
theorem sx_moftenOf {g : hkG} {Q : Option hkV → Nat → hkG → Prop} (ht : 190 ≤ t) (hX : MX g R N) (hF : MF g R N) {i j l : Int} (hi0 : 0 ≤ i) (hi : i < bxC R N) (hj0 : 0 ≤ j) (hj : j < bxC R N) (hl0 : 0 ≤ l) (hl : l < bxC R N)
    (hQ : ∀ g' : hkG, mfKeep g g' → MF g' R N → Q (some (0, OFC R N i j l)) t g') :
    Xp 121 (d + 11) 0 [(2, 66), (0, i), (0, j), (0, l), hkU] [] t g Q := by
  have hb := hX.1
  have hc := bx_C hb
  obtain ⟨b1, b2, b3, b4⟩ := id hb
  obtain ⟨f1, f2, f3⟩ := bx_F hb hj0 hj
  obtain ⟨e2, e3, e4, e5⟩ : hkW (35 * i) = 35 * i ∧ hkW (35 * i + j) = 35 * i + j ∧ hkW (35 * (35 * i + j)) = 35 * (35 * i + j) ∧ hkW (35 * (35 * i + j) + l) = 35 * (35 * i + j) + l := ⟨hkW_in (by omega) (by omega), hkW_in (by omega) (by omega), hkW_in (by omega) (by omega), hkW_in (by omega) (by omega)⟩
  have END : ∀ (g' : hkG) (v4 : hkV), mfKeep g g' → MF g' R N → g' 71 (35 * i + j) = 1 → Xp 121 (d + 11) 69 [(2, 66), (0, i), (0, j), (0, l), v4] [] t g' Q := by
    intro g' v4 k1 k2 k3
    simp only [x_121_69, x_121_70, x_121_73, x_121_75, x_121_77, x_121_78, x_121_79, x_121_80, x_121_81, x_121_82, x_121_83, x_121_84, x_121_85, hkJK_66, hkJK_70, hkJK_71, jA_66_6, jA_66_7, jL_70, jL_71, jR_66_6, jR_66_7, hkP1_0, hkP1_2, hkP1_u, hkC8, List.map_cons, List.map_nil, List.sum_cons, List.sum_nil, hkCat_0, hkCat_1, hkCat_2, Nat.reduceAdd, Nat.reduceLeDiff, hkPush_s, hkPush_n, true_and, and_true, implies_true, true_implies, not_true_eq_false, not_false_eq_true, false_implies, hkTf_0, hkTf_n1, hkOr01, hkOr11, Int.reduceEq, Int.reduceLT, Int.reduceLE, hk102a, hk102b, hk102c, Nat.reduceEqDiff, or_true, true_or, or_false, false_or, and_false, false_and, Classical.not_not, true_implies, List.set_cons_zero, List.set_cons_succ, ne_eq, hkLe_t ht, e2, e3, e4, e5]
    have h := (k2 i j hi0 hi hj0 hj).resolve_left (by omega)
    rw [h.2 l hl0 hl]
    clear e2 e3 e4 e5
    exact ⟨by omega, hQ g' k1 k2⟩
  simp only [x_121_0, x_121_1, x_121_4, x_121_6, x_121_7, x_121_8, x_121_9, x_121_10, x_121_11, x_121_14, x_121_15, hkJK_66, hkJK_70, hkJK_71, jA_66_6, jA_66_7, jL_70, jL_71, jR_66_6, jR_66_7, hkP1_0, hkP1_2, hkP1_u, hkC8, List.map_cons, List.map_nil, List.sum_cons, List.sum_nil, hkCat_0, hkCat_1, hkCat_2, Nat.reduceAdd, Nat.reduceLeDiff, hkPush_s, hkPush_n, true_and, and_true, implies_true, true_implies, not_true_eq_false, not_false_eq_true, false_implies, hkTf_0, hkTf_n1, hkOr01, hkOr11, Int.reduceEq, Int.reduceLT, Int.reduceLE, hk102a, hk102b, hk102c, Nat.reduceEqDiff, or_true, true_or, or_false, false_or, and_false, false_and, Classical.not_not, true_implies, List.set_cons_zero, List.set_cons_succ, ne_eq, hkLe_t ht, e2, e3]
  clear e2 e3 e4 e5
  refine ⟨by omega, fun h => END g _ mfKeep_r hF (by rcases hF i j hi0 hi hj0 hj with h2 | h2; exact absurd h2 h; exact h2.1), fun h => ?_⟩
  refine l_mof ht hi0 (by omega) hj0 (by omega) 35 0 g rfl (fun g1 k1 k2 k3 => ?_)
  have hX1 : MX g1 R N := MX_row hX (fun _ _ => by rw [k1 66 (by decide)]) (k1 67 (by decide)) (k1 68 (by decide)) (k1 69 (by decide))
  simp only [x_121_48, x_121_49, x_121_50, x_121_51, x_121_52, x_121_53, x_121_54, hkJK_66, hkJK_70, hkJK_71, jA_66_6, jA_66_7, jL_70, jL_71, jR_66_6, jR_66_7, hkP1_0, hkP1_2, hkP1_u, hkC8, List.map_cons, List.map_nil, List.sum_cons, List.sum_nil, hkCat_0, hkCat_1, hkCat_2, Nat.reduceAdd, Nat.reduceLeDiff, hkPush_s, hkPush_n, true_and, and_true, implies_true, true_implies, not_true_eq_false, not_false_eq_true, false_implies, hkTf_0, hkTf_n1, hkOr01, hkOr11, Int.reduceEq, Int.reduceLT, Int.reduceLE, hk102a, hk102b, hk102c, Nat.reduceEqDiff, or_true, true_or, or_false, false_or, and_false, false_and, Classical.not_not, true_implies, List.set_cons_zero, List.set_cons_succ, ne_eq]
  obtain ⟨D, hD⟩ : ∃ D, d + 10 = D + (bxF R N j).toNat + 6 := ⟨d + 4 - (bxF R N j).toNat, by omega⟩
  rw [hD]
  have hpw : (1000 : Int) * 4 ^ (bxF R N j).toNat ≤ 256000 := by
    have : ((4 : Int) ^ (bxF R N j).toNat) ≤ 4 ^ 4 := by exact_mod_cast Nat.pow_le_pow_right (by decide) (show (bxF R N j).toNat ≤ 4 by omega)
    omega
  refine l_morders ht hb hi0 hi hj0 hj (bxF R N j).toNat 0 0 1 0 (fun _ => 0) g1 _ (by omega) ⟨by decide, Int.pow_pos (by decide)⟩ (by decide) ?_ (Or.inl rfl) (by decide) (by omega) hX1 (fun x x0 x1 => by omega) (fun x x0 x1 => by rw [k2 x (by omega) (by omega)]; decide) (fun g2 l1 l2 l3 l4 l5 => ?_)
  · have z1 : sS (0 : Int).toNat = 0 := by decide
    have z2 : zS R N j 0 = 0 := rfl
    rw [z1, z2]
    show bxZ R N i % N = _
    congr 1
  · obtain ⟨e2, e3⟩ : hkW (35 * i) = 35 * i ∧ hkW (35 * i + j) = 35 * i + j := ⟨hkW_in (by omega) (by omega), hkW_in (by omega) (by omega)⟩
    simp only [x_121_57, x_121_58, x_121_61, x_121_63, x_121_64, x_121_65, x_121_66, x_121_67, x_121_68, hkJK_66, hkJK_70, hkJK_71, jA_66_6, jA_66_7, jL_70, jL_71, jR_66_6, jR_66_7, hkP1_0, hkP1_2, hkP1_u, hkC8, List.map_cons, List.map_nil, List.sum_cons, List.sum_nil, hkCat_0, hkCat_1, hkCat_2, Nat.reduceAdd, Nat.reduceLeDiff, hkPush_s, hkPush_n, true_and, and_true, implies_true, true_implies, not_true_eq_false, not_false_eq_true, false_implies, hkTf_0, hkTf_n1, hkOr01, hkOr11, Int.reduceEq, Int.reduceLT, Int.reduceLE, hk102a, hk102b, hk102c, Nat.reduceEqDiff, or_true, true_or, or_false, false_or, and_false, false_and, Classical.not_not, true_implies, List.set_cons_zero, List.set_cons_succ, ne_eq, hkLe_t ht, e2, e3]
    clear e2 e3
    rw [show D + (bxF R N j).toNat + 6 + 1 = d + 11 from by omega]
    refine ⟨by omega, END (hkSet g2 71 (35 * i + j) 1) _ ⟨fun q q1 q2 q3 q4 q5 q6 q7 q8 => ?_, fun k q1 q2 q3 => ?_⟩ (fun i' j' i0 i1 j0 j1 => ?_) (by rw [hkSet_rd, if_pos ⟨rfl, rfl⟩])⟩
    · rw [hkSet_row q3, l1.1 q q1 q2 q4 q5 q6 q7 q8, k1 q q2]
    · rw [hkSet_row (by decide), l1.2 k q1 q2 q3, k1 66 (by decide)]
    · have k71 : g2 71 = g 71 := by rw [l1.1 71 (by decide) (by decide) (by decide) (by decide) (by decide) (by decide) (by decide), k1 71 (by decide)]
      rw [hkSet_rd, hkSet_row (by decide)]
      by_cases e : i' = i ∧ j' = j
      · obtain ⟨e1, e2⟩ := e
        subst e1
        subst e2
        rw [if_pos ⟨rfl, rfl⟩]
        refine Or.inr ⟨rfl, fun x x0 x1 => ?_⟩
        rw [l4 x x0 x1, k2 x (by omega) (by omega), Int.zero_add, OFC_mo hb]
      · rw [if_neg (fun h => by omega), k71]
        rcases hF i' j' i0 i1 j0 j1 with h1 | ⟨h1, h2⟩
        · exact Or.inl h1
        · refine Or.inr ⟨h1, fun x x0 x1 => ?_⟩
          rw [l3 _ (by omega), k3 _ (by omega)]
          exact h2 x x0 x1
end SP
