/-! ties: film -/
/-- all stays but scratch and a row -/
def wKeep (p : Int) (g g' : hkG) : Prop := (∀ q : Int, ¬ scr q → q ≠ p → g' q = g q) ∧ (∀ k : Int, fld k → g' 66 k = g 66 k) ∧ g' 24 0 = g 24 0 ∧ g' 24 1 = g 24 1
theorem wKeep_r {p : Int} {g : hkG} : wKeep p g g := ⟨fun _ _ _ => rfl, fun _ _ => rfl, rfl, rfl⟩
theorem wKeep_t {p : Int} {g g' g'' : hkG} (h : wKeep p g g') (h' : wKeep p g' g'') : wKeep p g g'' := ⟨fun q a b => by rw [h'.1 q a b, h.1 q a b], fun k a => by rw [h'.2.1 k a, h.2.1 k a], by rw [h'.2.2.1, h.2.2.1], by rw [h'.2.2.2, h.2.2.2]⟩
theorem wKeep_q {p : Int} {g g' : hkG} (h : qKeep g g') : wKeep p g g' := ⟨fun q a _ => h.1 q a, h.2⟩
theorem wKeep_s {p i v : Int} {g : hkG} (hp : p ≠ 66) (hp2 : p ≠ 24) : wKeep p g (hkSet g p i v) := ⟨fun q _ b => hkSet_row b, fun k _ => by rw [hkSet_row (Ne.symm hp)], by rw [hkSet_row (Ne.symm hp2)], by rw [hkSet_row (Ne.symm hp2)]⟩
def sKeep (g g' : hkG) : Prop := (∀ q : Int, ¬ scr q → ¬ (58 ≤ q ∧ q ≤ 65) → ¬ (87 ≤ q ∧ q ≤ 89) → g' q = g q) ∧ (∀ k : Int, fld k → g' 66 k = g 66 k) ∧ g' 24 0 = g 24 0 ∧ g' 24 1 = g 24 1
theorem sKeep_r {g : hkG} : sKeep g g := ⟨fun _ _ _ _ => rfl, fun _ _ => rfl, rfl, rfl⟩
theorem sKeep_t {g g' g'' : hkG} (h : sKeep g g') (h' : sKeep g' g'') : sKeep g g'' := ⟨fun q a b c => by rw [h'.1 q a b c, h.1 q a b c], fun k a => by rw [h'.2.1 k a, h.2.1 k a], by rw [h'.2.2.1, h.2.2.1], by rw [h'.2.2.2, h.2.2.2]⟩
theorem sKeep_w {p : Int} {g g' : hkG} (hp : (58 ≤ p ∧ p ≤ 65) ∨ (87 ≤ p ∧ p ≤ 89)) (h : wKeep p g g') : sKeep g g' := ⟨fun q a b c => h.1 q a (by omega), h.2⟩
theorem Rel_s {g g' : hkG} {xs : Int → Int} {L R N : Int} (hb : RB g' R N) (k : sKeep g g') (hH : RH g') (hr : RS g ∧ RK g ∧ RT g ∧ RH g ∧ RL xs L g) : Rel xs L g' := by
  obtain ⟨h1, h2, h3, h4, h5⟩ := hr
  have f : ∀ q : Int, ¬ scr q → ¬ (58 ≤ q ∧ q ≤ 65) → ¬ (87 ≤ q ∧ q ≤ 89) → g' q = g q := k.1
  refine ⟨R, N, hb, ?_, ?_, ?_, hH, ?_⟩
  · exact RS_row h1 (f 52 (by unfold scr; omega) (by decide) (by decide)) (f 72 (by unfold scr; omega) (by decide) (by decide)) (k.2.1 2 (by unfold fld; omega))
  · exact RK_row h2 (f 0 (by unfold scr; omega) (by decide) (by decide)) (f 56 (by unfold scr; omega) (by decide) (by decide)) (f 73 (by unfold scr; omega) (by decide) (by decide)) (fun x a b => k.2.1 x (by unfold fld; omega))
  · exact RT_row h3 k.2.2.1 k.2.2.2 (f 27 (by unfold scr; omega) (by decide) (by decide)) (f 85 (by unfold scr; omega) (by decide) (by decide)) (k.2.1 12 (by unfold fld; omega)) (k.2.1 32 (by unfold fld; omega))
  · exact RL_row h5 (f (-1) (by unfold scr; omega) (by decide) (by decide)) (f (-2) (by unfold scr; omega) (by decide) (by decide))
section SP
variable {t d : Nat} {R N : Int} {Q : Option hkV → Nat → hkG → Prop}
theorem l_film (ht : 190 ≤ t) {s i j : Int} (hv : tlOk R N s i j) : ∀ (m : Nat) (l : Int) (g1 : hkG), l + m = bxC R N → 0 ≤ l → RB g1 R N → g1 (58 + 2 * s) 0 = 0 → g1 (58 + 2 * s) 1 = bxC R N → (∀ g' : hkG, wKeep (59 + 2 * s) g1 g' → RB g' R N → (∀ x : Int, l ≤ x → x < bxC R N → g' (59 + 2 * s) x = OFC R N i j x) → (∀ x : Int, x < l ∨ bxC R N ≤ x → g' (59 + 2 * s) x = g1 (59 + 2 * s) x) → Q (some (0, bxC R N)) t g') →
    Xp 25 (d + 12) 56 [(2, 0), (0, s), (0, i), (0, j), (2, 58 + 2 * s), (0, l)] [] t g1 Q := by
  obtain ⟨⟨s0, s3⟩, ⟨i0, i1⟩, ⟨j0, j1⟩⟩ := id hv
  obtain ⟨a1, a2, a3, a4, a5, a6, a7⟩ := sh_f ht s0 s3
  intro m
  induction m with
  | zero =>
    intro l g1 hl l0 hb h0 h1 hQ
    have hq := hQ g1 wKeep_r hb (fun x x0 x1 => by omega) (fun _ _ => rfl)
    have hx3 : g1 1 3 = bxC R N := (BX_f hb.1).2.2.2.1
    rw [x_25_56]
    simp only [x_25_58, x_25_59, x_25_62, x_25_65, hkJK_0, hkJK_1, hkJK_12, hkJK_57, jA_0_0, jA_0_12, jA_0_2, jL_57, jR_0_0, jR_0_12, jR_0_2, hkP1_0, hkP1_2, hkP1_u, hkC8, List.map_cons, List.map_nil, List.sum_cons, List.sum_nil, hkCat_0, hkCat_1, hkCat_2, Nat.reduceAdd, Nat.reduceLeDiff, hkPush_s, hkPush_n, true_and, and_true, implies_true, true_implies, not_true_eq_false, not_false_eq_true, false_implies, hkTf_0, hkTf_n1, hkOr01, hkOr11, Int.reduceEq, Int.reduceLT, Int.reduceLE, hk102a, hk102b, hk102c, Nat.reduceEqDiff, or_true, true_or, or_false, false_or, and_false, false_and, Classical.not_not, true_implies, List.set_cons_zero, List.set_cons_succ, ne_eq, x_25_92, x_25_93, x_25_96, x_25_99, hkJK_0, hkJK_1, hkJK_12, hkJK_57, jA_0_0, jA_0_12, jA_0_2, jL_57, jR_0_0, jR_0_12, jR_0_2, hkP1_0, hkP1_2, hkP1_u, hkC8, List.map_cons, List.map_nil, List.sum_cons, List.sum_nil, hkCat_0, hkCat_1, hkCat_2, Nat.reduceAdd, Nat.reduceLeDiff, hkPush_s, hkPush_n, true_and, and_true, implies_true, true_implies, not_true_eq_false, not_false_eq_true, false_implies, hkTf_0, hkTf_n1, hkOr01, hkOr11, Int.reduceEq, Int.reduceLT, Int.reduceLE, hk102a, hk102b, hk102c, Nat.reduceEqDiff, or_true, true_or, or_false, false_or, and_false, false_and, Classical.not_not, true_implies, List.set_cons_zero, List.set_cons_succ, ne_eq, hkLe_t ht, hx3]
    repeat' (first | exact hq | refine And.intro ?_ ?_ | intro _ | trivial | omega | (exfalso; omega))
  | succ m ih =>
    intro l g1 hl l0 hb h0 h1 hQ
    have hc := bx_C hb.1.1
    have hx3 : g1 1 3 = bxC R N := (BX_f hb.1).2.2.2.1
    have hlc : l < bxC R N := by omega
    rw [x_25_56]
    simp only [x_25_58, x_25_59, x_25_62, x_25_65, x_25_68, x_25_70, x_25_72, x_25_73, x_25_76, x_25_77, x_25_78, x_25_80, hkJK_0, hkJK_1, hkJK_12, hkJK_57, jA_0_0, jA_0_12, jA_0_2, jL_57, jR_0_0, jR_0_12, jR_0_2, hkP1_0, hkP1_2, hkP1_u, hkC8, List.map_cons, List.map_nil, List.sum_cons, List.sum_nil, hkCat_0, hkCat_1, hkCat_2, Nat.reduceAdd, Nat.reduceLeDiff, hkPush_s, hkPush_n, true_and, and_true, implies_true, true_implies, not_true_eq_false, not_false_eq_true, false_implies, hkTf_0, hkTf_n1, hkOr01, hkOr11, Int.reduceEq, Int.reduceLT, Int.reduceLE, hk102a, hk102b, hk102c, Nat.reduceEqDiff, or_true, true_or, or_false, false_or, and_false, false_and, Classical.not_not, true_implies, List.set_cons_zero, List.set_cons_succ, ne_eq, hkLe_t ht, hx3]
    refine And.intro (fun h => absurd hlc (by omega)) (fun _ => ?_)
    refine r_often ht hb i0 i1 j0 j1 l0 hlc (fun g2 k2 hb2 => ?_)
    have z0 : g2 (58 + 2 * s) 0 = 0 := by rw [k2.1 _ (by unfold scr; omega)]; exact h0
    have z1 : g2 (58 + 2 * s) 1 = bxC R N := by rw [k2.1 _ (by unfold scr; omega)]; exact h1
    have zr : g2 (59 + 2 * s) = g1 (59 + 2 * s) := k2.1 _ (by unfold scr; omega)
    have ho := ((ofc_all hb.1.1 i0 i1 j0 j1).1 l l0 hlc)
    have hv2 : shV2 (g2 (58 + 2 * s) 0) (OFC R N i j l) = OFC R N i j l := by
      unfold shV2
      rw [if_pos z0]
      exact Int.bmod_eq_of_le (by omega) (by omega)
    have IH := ih (l + 1) (hkSet g2 (59 + 2 * s) l (OFC R N i j l)) (by omega) (by omega) (RB_c hb2 (fun q hq => hkSet_row (by omega))) (by rw [hkSet_row (by omega)]; exact z0) (by rw [hkSet_row (by omega)]; exact z1) (fun g' m1 m2 m3 m4 => hQ g' (wKeep_t (wKeep_t (wKeep_q k2) (wKeep_s (by omega) (by omega))) m1) m2 (fun x x0 x1 => by
      by_cases e : x = l
      · rw [e, m4 l (by omega), hkSet_rd, if_pos ⟨rfl, rfl⟩]
      · exact m3 x (by omega) x1) (fun x hx => by rw [m4 x (by omega), hkSet_rd, if_neg (by omega), zr]))
    have hw : hkW (l + 1) = l + 1 := hkW_in (by omega) (by omega)
    simp only [x_25_83, x_25_86, x_25_89, hkJK_0, hkJK_1, hkJK_12, hkJK_57, jA_0_0, jA_0_12, jA_0_2, jL_57, jR_0_0, jR_0_12, jR_0_2, hkP1_0, hkP1_2, hkP1_u, hkC8, List.map_cons, List.map_nil, List.sum_cons, List.sum_nil, hkCat_0, hkCat_1, hkCat_2, Nat.reduceAdd, Nat.reduceLeDiff, hkPush_s, hkPush_n, true_and, and_true, implies_true, true_implies, not_true_eq_false, not_false_eq_true, false_implies, hkTf_0, hkTf_n1, hkOr01, hkOr11, Int.reduceEq, Int.reduceLT, Int.reduceLE, hk102a, hk102b, hk102c, Nat.reduceEqDiff, or_true, true_or, or_false, false_or, and_false, false_and, Classical.not_not, true_implies, List.set_cons_zero, List.set_cons_succ, ne_eq, sx_set ht s0 s3 (show 0 ≤ l ∧ l < g2 (58 + 2 * s) 1 by rw [z1]; exact ⟨l0, hlc⟩) (show g2 (58 + 2 * s) 1 ≤ 40 by rw [z1]; omega), hv2, a3, hw]
    clear hw
    repeat' (first | exact IH | refine And.intro ?_ ?_ | intro _ | trivial | omega | (exfalso; omega))
theorem l_mfilm (ht : 190 ≤ t) {s i j : Int} (hv : tlOk R N s i j) : ∀ (m : Nat) (l : Int) (g1 : hkG), l + m = bxC R N → 0 ≤ l → RB g1 R N → (∀ g' : hkG, wKeep 89 g1 g' → RB g' R N → (∀ x : Int, l ≤ x → x < bxC R N → g' 89 (40 * s + x) = OFC R N i j x) → (∀ x : Int, x < 40 * s + l ∨ 40 * s + bxC R N ≤ x → g' 89 x = g1 89 x) → Q (some (0, bxC R N)) t g') →
    Xp 164 (d + 12) 46 [(2, 66), (0, s), (0, i), (0, j), (0, l)] [] t g1 Q := by
  obtain ⟨⟨s0, s3⟩, ⟨i0, i1⟩, ⟨j0, j1⟩⟩ := id hv
  intro m
  induction m with
  | zero =>
    intro l g1 hl l0 hb hQ
    have hq := hQ g1 wKeep_r hb (fun x x0 x1 => by omega) (fun _ _ => rfl)
    have hx3 : g1 66 2 = bxC R N := (MX_f hb.2.2.2.2.1).2.2.1
    rw [x_164_46]
    simp only [x_164_48, x_164_49, x_164_52, hkJK_66, hkJK_87, hkJK_88, hkJK_89, jA_66_36, jA_66_37, jA_66_38, jL_87, jL_88, jL_89, jR_66_36, jR_66_37, jR_66_38, hkP1_0, hkP1_2, hkP1_u, hkC8, List.map_cons, List.map_nil, List.sum_cons, List.sum_nil, hkCat_0, hkCat_1, hkCat_2, Nat.reduceAdd, Nat.reduceLeDiff, hkPush_s, hkPush_n, true_and, and_true, implies_true, true_implies, not_true_eq_false, not_false_eq_true, false_implies, hkTf_0, hkTf_n1, hkOr01, hkOr11, Int.reduceEq, Int.reduceLT, Int.reduceLE, hk102a, hk102b, hk102c, Nat.reduceEqDiff, or_true, true_or, or_false, false_or, and_false, false_and, Classical.not_not, true_implies, List.set_cons_zero, List.set_cons_succ, ne_eq, x_164_82, x_164_83, x_164_86, hkJK_66, hkJK_87, hkJK_88, hkJK_89, jA_66_36, jA_66_37, jA_66_38, jL_87, jL_88, jL_89, jR_66_36, jR_66_37, jR_66_38, hkP1_0, hkP1_2, hkP1_u, hkC8, List.map_cons, List.map_nil, List.sum_cons, List.sum_nil, hkCat_0, hkCat_1, hkCat_2, Nat.reduceAdd, Nat.reduceLeDiff, hkPush_s, hkPush_n, true_and, and_true, implies_true, true_implies, not_true_eq_false, not_false_eq_true, false_implies, hkTf_0, hkTf_n1, hkOr01, hkOr11, Int.reduceEq, Int.reduceLT, Int.reduceLE, hk102a, hk102b, hk102c, Nat.reduceEqDiff, or_true, true_or, or_false, false_or, and_false, false_and, Classical.not_not, true_implies, List.set_cons_zero, List.set_cons_succ, ne_eq, hkLe_t ht, hx3]
    repeat' (first | exact hq | refine And.intro ?_ ?_ | intro _ | trivial | omega | (exfalso; omega))
  | succ m ih =>
    intro l g1 hl l0 hb hQ
    have hc := bx_C hb.1.1
    have hx3 : g1 66 2 = bxC R N := (MX_f hb.2.2.2.2.1).2.2.1
    have hlc : l < bxC R N := by omega
    have ho := ((ofc_all hb.1.1 i0 i1 j0 j1).1 l l0 hlc)
    have hv2 : Int.bmod (OFC R N i j l) 65536 = OFC R N i j l := Int.bmod_eq_of_le (by omega) (by omega)
    obtain ⟨hw, e1, e2⟩ : hkW (l + 1) = l + 1 ∧ hkW (40 * s) = 40 * s ∧ hkW (40 * s + l) = 40 * s + l := ⟨hkW_in (by omega) (by omega), hkW_in (by omega) (by omega), hkW_in (by omega) (by omega)⟩
    rw [x_164_46]
    simp only [x_164_48, x_164_49, x_164_52, x_164_55, x_164_56, x_164_59, x_164_61, x_164_62, x_164_63, x_164_65, x_164_66, x_164_67, x_164_68, x_164_69, x_164_71, hkJK_66, hkJK_87, hkJK_88, hkJK_89, jA_66_36, jA_66_37, jA_66_38, jL_87, jL_88, jL_89, jR_66_36, jR_66_37, jR_66_38, hkP1_0, hkP1_2, hkP1_u, hkC8, List.map_cons, List.map_nil, List.sum_cons, List.sum_nil, hkCat_0, hkCat_1, hkCat_2, Nat.reduceAdd, Nat.reduceLeDiff, hkPush_s, hkPush_n, true_and, and_true, implies_true, true_implies, not_true_eq_false, not_false_eq_true, false_implies, hkTf_0, hkTf_n1, hkOr01, hkOr11, Int.reduceEq, Int.reduceLT, Int.reduceLE, hk102a, hk102b, hk102c, Nat.reduceEqDiff, or_true, true_or, or_false, false_or, and_false, false_and, Classical.not_not, true_implies, List.set_cons_zero, List.set_cons_succ, ne_eq, hkLe_t ht, hx3, e1, e2]
    clear e1 e2
    refine And.intro (fun h => absurd hlc (by clear hw; omega)) (fun _ => ?_)
    refine r_moften ht hb i0 i1 j0 j1 l0 hlc (fun g2 k2 hb2 => ?_)
    have zr : g2 89 = g1 89 := k2.1 _ (by unfold scr; clear hw; omega)
    have IH := ih (l + 1) (hkSet g2 89 (40 * s + l) (OFC R N i j l)) (by clear hw; omega) (by clear hw; omega) (RB_c hb2 (fun q hq => hkSet_row (by clear hw; omega))) (fun g' m1 m2 m3 m4 => hQ g' (wKeep_t (wKeep_t (wKeep_q k2) (wKeep_s (by decide) (by decide))) m1) m2 (fun x x0 x1 => by
      clear hw
      by_cases e : x = l
      · rw [e, m4 _ (by omega), hkSet_rd, if_pos ⟨rfl, rfl⟩]
      · exact m3 x (by omega) x1) (fun x hx => by clear hw; rw [m4 x (by omega), hkSet_rd, if_neg (by omega), zr]))
    simp only [x_164_74, x_164_75, x_164_76, x_164_79, hkJK_66, hkJK_87, hkJK_88, hkJK_89, jA_66_36, jA_66_37, jA_66_38, jL_87, jL_88, jL_89, jR_66_36, jR_66_37, jR_66_38, hkP1_0, hkP1_2, hkP1_u, hkC8, List.map_cons, List.map_nil, List.sum_cons, List.sum_nil, hkCat_0, hkCat_1, hkCat_2, Nat.reduceAdd, Nat.reduceLeDiff, hkPush_s, hkPush_n, true_and, and_true, implies_true, true_implies, not_true_eq_false, not_false_eq_true, false_implies, hkTf_0, hkTf_n1, hkOr01, hkOr11, Int.reduceEq, Int.reduceLT, Int.reduceLE, hk102a, hk102b, hk102c, Nat.reduceEqDiff, or_true, true_or, or_false, false_or, and_false, false_and, Classical.not_not, true_implies, List.set_cons_zero, List.set_cons_succ, ne_eq, hkLe_t ht, hv2, hw]
    clear hw
    repeat' (first | exact IH | refine And.intro ?_ ?_ | intro _ | trivial | omega | (exfalso; omega))
theorem tie_film {g : hkG} {xs : Int → Int} {L s i j : Int} (ht : 190 ≤ t) (hR : Rel xs L g) : Tie xs L 25 (d + 12) [(2, 0), (0, s), (0, i), (0, j), hkU, hkU] 164 [(2, 66), (0, s), (0, i), (0, j), hkU] t g := by
  obtain ⟨R, N, hb, hr⟩ := id hR
  by_cases hv : tlOk R N s i j
  · obtain ⟨⟨s0, s3⟩, ⟨i0, i1⟩, ⟨j0, j1⟩⟩ := id hv
    obtain ⟨a1, a2, a3, a4, a5, a6, a7⟩ := sh_f ht s0 s3
    have hc := bx_C hb.1.1
    have hx3 : g 1 3 = bxC R N := (BX_f hb.1).2.2.2.1
    have M0 : ∀ (g : hkG), RB g R N → ∀ (Q : Option hkV → Nat → hkG → Prop), Xp 164 (d + 12) 26 [(2, 66), (0, s), (0, i), (0, j), hkU] [] t g Q → Xp 164 (d + 12) 0 [(2, 66), (0, s), (0, i), (0, j), hkU] [] t g Q := by
      intro g hb Q hq
      simp only [x_164_0, x_164_1, x_164_4, x_164_7, x_164_8, x_164_9, x_164_12, x_164_15, x_164_16, x_164_17, x_164_20, x_164_23, x_164_25, hkJK_66, hkJK_87, hkJK_88, hkJK_89, jA_66_36, jA_66_37, jA_66_38, jL_87, jL_88, jL_89, jR_66_36, jR_66_37, jR_66_38, hkP1_0, hkP1_2, hkP1_u, hkC8, List.map_cons, List.map_nil, List.sum_cons, List.sum_nil, hkCat_0, hkCat_1, hkCat_2, Nat.reduceAdd, Nat.reduceLeDiff, hkPush_s, hkPush_n, true_and, and_true, implies_true, true_implies, not_true_eq_false, not_false_eq_true, false_implies, hkTf_0, hkTf_n1, hkOr01, hkOr11, Int.reduceEq, Int.reduceLT, Int.reduceLE, hk102a, hk102b, hk102c, Nat.reduceEqDiff, or_true, true_or, or_false, false_or, and_false, false_and, Classical.not_not, true_implies, List.set_cons_zero, List.set_cons_succ, ne_eq, sx_mIsSheet, sx_mIsShape ht hb.2.2.2.2.1]
      repeat' (first | exact hq | refine And.intro ?_ ?_ | intro _ | trivial | omega | (exfalso; omega))
    have kb : wKeep (59 + 2 * s) (hkSet (hkSet g (58 + 2 * s) 0 0) (58 + 2 * s) 1 (bxC R N)) (bcM g s 0 (bxC R N)) := by
      unfold bcM
      exact ⟨fun q _ b => hkFil_row b, fun k _ => by rw [hkFil_row (by omega)], by rw [hkFil_row (by omega)], by rw [hkFil_row (by omega)]⟩
    have kb2 : sKeep g (bcM g s 0 (bxC R N)) := sKeep_t (sKeep_t (sKeep_w (p := 58 + 2 * s) (by omega) (wKeep_s (by omega) (by omega))) (sKeep_w (p := 58 + 2 * s) (by omega) (wKeep_s (by omega) (by omega)))) (sKeep_w (by omega) kb)
    have hbb : RB (bcM g s 0 (bxC R N)) R N := by
      unfold bcM
      exact RB_c hb (fun q hq => by rw [hkFil_row (by omega), hkSet_row (by omega), hkSet_row (by omega)])
    have K := l_film (d := d) (t := t) (R := R) (N := N) (Q := fun r t1 g1 => ∃ v, r = some v ∧ t1 = t ∧ Xp 164 (d + 12) 0 [(2, 66), (0, s), (0, i), (0, j), hkU] [] t g1 (fun r2 t2 g2 => r2 = some v ∧ t2 = t ∧ Rel xs L g2)) ht hv (bxC R N).toNat 0 (bcM g s 0 (bxC R N)) (by omega) (by decide) hbb (by unfold bcM; rw [hkFil_row (by omega), hkSet_rd, if_neg (by omega), hkSet_rd, if_pos ⟨rfl, rfl⟩]) (by unfold bcM; rw [hkFil_row (by omega), hkSet_rd, if_pos ⟨rfl, rfl⟩]) (fun g1 k1 hb1 m1 m2 => ⟨_, rfl, rfl, M0 g1 hb1 _ ?_⟩)
    · have C : ∀ Q : Option hkV → Nat → hkG → Prop, Xp 25 (d + 12) 56 [(2, 0), (0, s), (0, i), (0, j), (2, 58 + 2 * s), (0, 0)] [] t (bcM g s 0 (bxC R N)) Q → Xp 25 (d + 12) 0 [(2, 0), (0, s), (0, i), (0, j), hkU, hkU] [] t g Q := by
        intro Q hq
        simp only [x_25_0, x_25_1, x_25_4, x_25_7, x_25_8, x_25_11, x_25_12, x_25_15, x_25_18, x_25_19, x_25_22, x_25_23, x_25_26, x_25_29, x_25_31, x_25_32, x_25_33, x_25_36, x_25_37, x_25_38, x_25_40, x_25_42, x_25_43, x_25_44, x_25_47, x_25_50, x_25_53, x_25_54, hkJK_0, hkJK_1, hkJK_12, hkJK_57, jA_0_0, jA_0_12, jA_0_2, jL_57, jR_0_0, jR_0_12, jR_0_2, hkP1_0, hkP1_2, hkP1_u, hkC8, List.map_cons, List.map_nil, List.sum_cons, List.sum_nil, hkCat_0, hkCat_1, hkCat_2, Nat.reduceAdd, Nat.reduceLeDiff, hkPush_s, hkPush_n, true_and, and_true, implies_true, true_implies, not_true_eq_false, not_false_eq_true, false_implies, hkTf_0, hkTf_n1, hkOr01, hkOr11, Int.reduceEq, Int.reduceLT, Int.reduceLE, hk102a, hk102b, hk102c, Nat.reduceEqDiff, or_true, true_or, or_false, false_or, and_false, false_and, Classical.not_not, true_implies, List.set_cons_zero, List.set_cons_succ, ne_eq, hkLe_t ht, sx_isNoSheet, sx_isShape ht hb.1, hkJK_57, jL_57, a1, a2, a3, hx3, sx_bec ht s0 s3]
        repeat' (first | exact hq | refine And.intro ?_ ?_ | intro _ | trivial | omega | (exfalso; omega))
      exact C _ K
    · have k01 : sKeep g g1 := sKeep_t kb2 (sKeep_w (by omega) k1)
      have hbs : RB (hkSet (hkSet g1 87 s 0) 88 s (bxC R N)) R N := RB_c hb1 (fun q hq => by rw [hkSet_row (by omega), hkSet_row (by omega)])
      have hy : hkSet g1 87 s 0 66 2 = bxC R N := by rw [hkSet_row (by decide)]; exact (MX_f hb1.2.2.2.2.1).2.2.1
      have K2 := l_mfilm (d := d) (t := t) (R := R) (N := N) (Q := fun r2 t2 g2 => r2 = some (0, bxC R N) ∧ t2 = t ∧ Rel xs L g2) ht hv (bxC R N).toNat 0 (hkSet (hkSet g1 87 s 0) 88 s (bxC R N)) (by omega) (by decide) hbs (fun g2 k2 hb2 n1 n2 => ⟨rfl, rfl, ?_⟩)
      · simp only [x_164_26, x_164_27, x_164_30, x_164_31, x_164_32, x_164_33, x_164_34, x_164_37, x_164_38, x_164_39, x_164_42, x_164_43, x_164_44, hkJK_66, hkJK_87, hkJK_88, hkJK_89, jA_66_36, jA_66_37, jA_66_38, jL_87, jL_88, jL_89, jR_66_36, jR_66_37, jR_66_38, hkP1_0, hkP1_2, hkP1_u, hkC8, List.map_cons, List.map_nil, List.sum_cons, List.sum_nil, hkCat_0, hkCat_1, hkCat_2, Nat.reduceAdd, Nat.reduceLeDiff, hkPush_s, hkPush_n, true_and, and_true, implies_true, true_implies, not_true_eq_false, not_false_eq_true, false_implies, hkTf_0, hkTf_n1, hkOr01, hkOr11, Int.reduceEq, Int.reduceLT, Int.reduceLE, hk102a, hk102b, hk102c, Nat.reduceEqDiff, or_true, true_or, or_false, false_or, and_false, false_and, Classical.not_not, true_implies, List.set_cons_zero, List.set_cons_succ, ne_eq, hkLe_t ht, hy]
        repeat' (first | exact K2 | refine And.intro ?_ ?_ | intro _ | trivial | omega | (exfalso; omega))
      · have k02 : sKeep g g2 := sKeep_t (sKeep_t k01 (sKeep_t (sKeep_w (p := 87) (by omega) (wKeep_s (by decide) (by decide))) (sKeep_w (p := 88) (by omega) (wKeep_s (by decide) (by decide))))) (sKeep_w (p := 89) (by omega) k2)
        refine Rel_s hb2 k02 (fun s' s0' s4' => ?_) hr
        obtain ⟨c1, c2, c3, c4, c5, c6⟩ := hr.2.2.2.1 s' s0' s4'
        have u58 : g2 (58 + 2 * s') = bcM g s 0 (bxC R N) (58 + 2 * s') := by
          rw [k2.1 _ (by unfold scr; omega) (by omega), hkSet_row (by omega), hkSet_row (by omega), k1.1 _ (by unfold scr; omega) (by omega)]
        have u59 : g2 (59 + 2 * s') = g1 (59 + 2 * s') := by
          rw [k2.1 _ (by unfold scr; omega) (by omega), hkSet_row (by omega), hkSet_row (by omega)]
        have u87 : g2 87 s' = if s' = s then 0 else g 87 s' := by
          rw [k2.1 87 (by unfold scr; omega) (by decide), hkSet_row (by decide), hkSet_rd]
          by_cases e : s' = s
          · rw [if_pos ⟨rfl, e⟩, if_pos e]
          · rw [if_neg (fun h => e h.2), if_neg e, k1.1 87 (by unfold scr; omega) (by omega)]
            unfold bcM
            rw [hkFil_row (by omega), hkSet_row (by omega), hkSet_row (by omega)]
        have u88 : g2 88 s' = if s' = s then bxC R N else g 88 s' := by
          rw [k2.1 88 (by unfold scr; omega) (by decide), hkSet_rd]
          by_cases e : s' = s
          · rw [if_pos ⟨rfl, e⟩, if_pos e]
          · rw [if_neg (fun h => e h.2), if_neg e, hkSet_row (by decide), k1.1 88 (by unfold scr; omega) (by omega)]
            unfold bcM
            rw [hkFil_row (by omega), hkSet_row (by omega), hkSet_row (by omega)]
        rw [u58, u59, u87, u88]
        by_cases es : s' = s
        · subst es
          rw [if_pos rfl, if_pos rfl]
          refine ⟨?_, ?_, Or.inr (Or.inl rfl), by omega, by omega, fun k k0 k4 => ?_⟩
          · unfold bcM
            rw [hkFil_row (by omega), hkSet_rd, if_neg (by omega), hkSet_rd, if_pos ⟨rfl, rfl⟩]
          · unfold bcM
            rw [hkFil_row (by omega), hkSet_rd, if_pos ⟨rfl, rfl⟩]
          · rw [m1 k k0 k4, n1 k k0 k4]
        · rw [if_neg es, if_neg es]
          have v1 : bcM g s 0 (bxC R N) (58 + 2 * s') = g (58 + 2 * s') := by
            unfold bcM; rw [hkFil_row (by omega), hkSet_row (by omega), hkSet_row (by omega)]
          have v2 : g1 (59 + 2 * s') = g (59 + 2 * s') := by
            rw [k1.1 _ (by unfold scr; omega) (by omega)]
            unfold bcM; rw [hkFil_row (by omega), hkSet_row (by omega), hkSet_row (by omega)]
          rw [v1, v2]
          refine ⟨c1, c2, c3, c4, c5, fun k k0 k4 => ?_⟩
          rw [n2 _ (by omega), hkSet_row (by decide), hkSet_row (by decide), k1.1 89 (by unfold scr; omega) (by omega), c6 k k0 k4]
          unfold bcM
          rw [hkFil_row (by omega), hkSet_row (by omega), hkSet_row (by omega)]
  · refine tie_still (v := (0, -2)) hR (fun Q hq => ?_) (fun Q hq => ?_)
    · unfold tlOk at hv
      simp only [x_25_0, x_25_1, x_25_4, x_25_7, x_25_8, x_25_11, x_25_12, x_25_15, x_25_18, x_25_19, x_25_22, x_25_23, x_25_26, x_25_29, x_25_31, hkJK_0, hkJK_1, hkJK_12, hkJK_57, jA_0_0, jA_0_12, jA_0_2, jL_57, jR_0_0, jR_0_12, jR_0_2, hkP1_0, hkP1_2, hkP1_u, hkC8, List.map_cons, List.map_nil, List.sum_cons, List.sum_nil, hkCat_0, hkCat_1, hkCat_2, Nat.reduceAdd, Nat.reduceLeDiff, hkPush_s, hkPush_n, true_and, and_true, implies_true, true_implies, not_true_eq_false, not_false_eq_true, false_implies, hkTf_0, hkTf_n1, hkOr01, hkOr11, Int.reduceEq, Int.reduceLT, Int.reduceLE, hk102a, hk102b, hk102c, Nat.reduceEqDiff, or_true, true_or, or_false, false_or, and_false, false_and, Classical.not_not, true_implies, List.set_cons_zero, List.set_cons_succ, ne_eq, hkLe_t ht, sx_isNoSheet, sx_isShape ht hb.1]
      repeat' (first | exact hq | refine And.intro ?_ ?_ | intro _ | trivial | omega | (exfalso; omega))
    · unfold tlOk at hv
      simp only [x_164_0, x_164_1, x_164_4, x_164_7, x_164_8, x_164_9, x_164_12, x_164_15, x_164_16, x_164_17, x_164_20, x_164_23, x_164_25, hkJK_66, hkJK_87, hkJK_88, hkJK_89, jA_66_36, jA_66_37, jA_66_38, jL_87, jL_88, jL_89, jR_66_36, jR_66_37, jR_66_38, hkP1_0, hkP1_2, hkP1_u, hkC8, List.map_cons, List.map_nil, List.sum_cons, List.sum_nil, hkCat_0, hkCat_1, hkCat_2, Nat.reduceAdd, Nat.reduceLeDiff, hkPush_s, hkPush_n, true_and, and_true, implies_true, true_implies, not_true_eq_false, not_false_eq_true, false_implies, hkTf_0, hkTf_n1, hkOr01, hkOr11, Int.reduceEq, Int.reduceLT, Int.reduceLE, hk102a, hk102b, hk102c, Nat.reduceEqDiff, or_true, true_or, or_false, false_or, and_false, false_and, Classical.not_not, true_implies, List.set_cons_zero, List.set_cons_succ, ne_eq, sx_mIsSheet, sx_mIsShape ht hb.2.2.2.2.1]
      repeat' (first | exact hq | refine And.intro ?_ ?_ | intro _ | trivial | omega | (exfalso; omega))
end SP
