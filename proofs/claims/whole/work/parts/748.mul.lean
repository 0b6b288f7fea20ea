/-! the class's multiplier -/
theorem hkCmp_le {a b : Int} : (hkCmp a b ≤ 0) = (a ≤ b) := by
  apply propext
  unfold hkCmp
  by_cases h1 : a < b
  · rw [if_pos h1]; omega
  · rw [if_neg h1]
    by_cases h2 : a = b
    · rw [if_pos h2]; omega
    · rw [if_neg h2]; omega
abbrev shC (R N i j dd s p : Int) : Prop := p % 35 < bxC R N ∧ p / 35 = dd + tnT R N i j (p % 35) ∧ bxQ R N (p % 35) = (bxZ R N i + bxZ R N j) % N ∧ bxSl R N (p % 35) < s
def shY (R N i j dd both : Int) (F : Int → Int) (s p : Int) : Int := F p + (if shC R N i j dd s p then both * OFS R N i j (bxSl R N (p % 35)) else 0)
section SP
variable {t d : Nat} {R N : Int} {Q : Option hkV → Nat → hkG → Prop}
theorem l_shares (ht : 190 ≤ t) {g : hkG} (hX : BX g R N) {a b i j both dd : Int} {F : Int → Int} (i0 : 0 ≤ i) (i1 : i < bxC R N) (j0 : 0 ≤ j) (j1 : j < bxC R N) (d0 : 0 ≤ dd) (d14 : dd ≤ 14) (hT : ∀ s : Int, 0 ≤ s → s < 5 → g 14 ((35 * i + j) * 5 + s) = OFS R N i j s) : ∀ (k : Nat) (s : Int) (v11 v12 : hkV) (g1 : hkG), s + k = bxK R N ((bxZ R N i + bxZ R N j) % N) → 0 ≤ s → hkP1 v11 → hkP1 v12 → (∀ q : Int, q ≠ 23 → g1 q = g q) → (∀ p : Int, 0 ≤ p → p < 630 → g1 23 p = hkL (shY R N i j dd both F s p)) → (∀ g' : hkG, (∀ q : Int, q ≠ 23 → g' q = g q) → (∀ p : Int, 0 ≤ p → p < 630 → g' 23 p = hkL (shY R N i j dd both F (bxK R N ((bxZ R N i + bxZ R N j) % N)) p)) → Q none t g') →
    Xp 72 (d + 1) 39 [(2, 22), (0, a), (0, b), (0, (35 * i + j) * 5), (1, both), hkU, (0, i), (0, j), (0, dd), (0, (bxZ R N i + bxZ R N j) % N), (0, s), v11, v12] [] t g1 Q := by
  have hb := hX.1
  obtain ⟨b1, b2, b3, b4⟩ := id hb
  have hc := bx_C hb
  generalize hr : (bxZ R N i + bxZ R N j) % N = rest
  have r0 : 0 ≤ rest := by rw [← hr]; exact Int.emod_nonneg _ (by omega)
  have r1 : rest < N := by rw [← hr]; exact Int.emod_lt_of_pos _ (by omega)
  obtain ⟨K5, KA⟩ := bx_A hb r0 r1
  intro k
  induction k with
  | zero =>
    intro s v11 v12 g1 hs s0 h11 h12 k1 hY hQ
    have e : s = bxK R N rest := by omega
    subst e
    have hX1 : BX g1 R N := BX_row hX (fun p p1 p2 => k1 p (by omega))
    have y7 := (BX_f hX1).2.2.2.2.2.2.1 rest r0 r1
    have hK : bxCq R N rest (bxC R N).toNat = bxK R N rest := by unfold bxK; have := (bxCq_0 (R := R) (N := N) (q := rest) (bxC R N).toNat).1; omega
    rw [hK] at y7
    have hq := hQ g1 k1 hY
    rw [x_72_39]
    simp only [x_72_41, x_72_42, x_72_45, x_72_48, x_72_50, x_72_51, hkJK_1, hkJK_12, hkJK_14, hkJK_22, hkJK_23, hkJK_5, hkJK_6, jA_12_3, jA_1_7, jA_1_8, jA_22_0, jA_22_1, jA_22_2, jL_14, jL_23, jL_5, jL_6, jR_12_3, jR_1_7, jR_1_8, jR_22_0, jR_22_1, jR_22_2, hkP1_0, hkP1_2, hkP1_u, hkC8, List.map_cons, List.map_nil, List.sum_cons, List.sum_nil, hkCat_0, hkCat_1, hkCat_2, Nat.reduceAdd, Nat.reduceLeDiff, hkPush_s, hkPush_n, true_and, and_true, implies_true, true_implies, not_true_eq_false, not_false_eq_true, false_implies, hkTf_0, hkTf_n1, hkOr01, hkOr11, Int.reduceEq, Int.reduceLT, Int.reduceLE, hk102a, hk102b, hk102c, Nat.reduceEqDiff, or_true, true_or, or_false, false_or, and_false, false_and, Classical.not_not, true_implies, List.set_cons_zero, List.set_cons_succ, ne_eq, x_72_132, hkJK_1, hkJK_12, hkJK_14, hkJK_22, hkJK_23, hkJK_5, hkJK_6, jA_12_3, jA_1_7, jA_1_8, jA_22_0, jA_22_1, jA_22_2, jL_14, jL_23, jL_5, jL_6, jR_12_3, jR_1_7, jR_1_8, jR_22_0, jR_22_1, jR_22_2, hkP1_0, hkP1_2, hkP1_u, hkC8, List.map_cons, List.map_nil, List.sum_cons, List.sum_nil, hkCat_0, hkCat_1, hkCat_2, Nat.reduceAdd, Nat.reduceLeDiff, hkPush_s, hkPush_n, true_and, and_true, implies_true, true_implies, not_true_eq_false, not_false_eq_true, false_implies, hkTf_0, hkTf_n1, hkOr01, hkOr11, Int.reduceEq, Int.reduceLT, Int.reduceLE, hk102a, hk102b, hk102c, Nat.reduceEqDiff, or_true, true_or, or_false, false_or, and_false, false_and, Classical.not_not, true_implies, List.set_cons_zero, List.set_cons_succ, ne_eq, hkLe_t ht, y7]
    repeat' (first | exact hq | refine And.intro ?_ ?_ | intro _ | trivial | omega | (exfalso; omega))
  | succ k ih =>
    intro s v11 v12 g1 hs s0 h11 h12 k1 hY hQ
    have hX1 : BX g1 R N := BX_row hX (fun p p1 p2 => k1 p (by omega))
    obtain ⟨x1, x2, x3, x4, x5, x6, x7, x8⟩ := BX_f hX1
    have y7 := x7 rest r0 r1
    have hK : bxCq R N rest (bxC R N).toNat = bxK R N rest := by unfold bxK; have := (bxCq_0 (R := R) (N := N) (q := rest) (bxC R N).toNat).1; omega
    rw [hK] at y7
    obtain ⟨A1, A2, A3, A4⟩ := KA s.toNat (by omega)
    rw [show ((s.toNat : Nat) : Int) = s from by omega] at A1 A2 A3 A4
    generalize hl : bxA R N rest s = l at A1 A2 A3 A4
    have y5 := (x6 l A1 A2).2.2.2
    rw [A3, A4] at y5
    have uniq : ∀ l' : Int, 0 ≤ l' → l' < bxC R N → bxQ R N l' = rest → bxSl R N l' = s → l' = l := fun l' a1 a2 a3 a4 => by
      have h := (x6 l' a1 a2).2.2.2
      rw [a3, a4, y5] at h
      exact h.symm
    have hT1 : g1 14 ((35 * i + j) * 5 + s) = OFS R N i j s := by rw [k1 14 (by decide)]; exact hT s s0 (by omega)
    obtain ⟨hw, e1, e2, e3⟩ : hkW (s + 1) = s + 1 ∧ hkW ((35 * i + j) * 5 + s) = (35 * i + j) * 5 + s ∧ hkW (rest * 5) = rest * 5 ∧ hkW (rest * 5 + s) = 5 * rest + s := ⟨hkW_in (by omega) (by omega), hkW_in (by omega) (by omega), hkW_in (by omega) (by omega), by rw [hkW_in (by omega) (by omega)]; omega⟩
    by_cases ho : OFS R N i j s = 0
    · have IH := ih (s + 1) (0, 0) v12 g1 (by clear hw e1 e2 e3; omega) (by clear hw e1 e2 e3; omega) (by rw [hkP1_0]; trivial) h12 k1 (fun p p0 p1 => by
        clear hw e1 e2 e3
        rw [hY p p0 p1]
        have : shY R N i j dd both F (s + 1) p = shY R N i j dd both F s p := by
          unfold shY
          by_cases c1 : shC R N i j dd s p
          · rw [if_pos c1, if_pos (by unfold shC at *; omega)]
          · rw [if_neg c1]
            by_cases c2 : shC R N i j dd (s + 1) p
            · have : bxSl R N (p % 35) = s := by unfold shC at c1 c2; omega
              rw [if_pos c2, this, ho, Int.mul_zero]
            · rw [if_neg c2]
        rw [this]) hQ
      rw [x_72_39]
      simp only [x_72_41, x_72_42, x_72_45, x_72_48, x_72_50, x_72_51, x_72_54, x_72_55, x_72_58, x_72_61, x_72_62, x_72_64, x_72_65, x_72_66, x_72_68, x_72_70, hkJK_1, hkJK_12, hkJK_14, hkJK_22, hkJK_23, hkJK_5, hkJK_6, jA_12_3, jA_1_7, jA_1_8, jA_22_0, jA_22_1, jA_22_2, jL_14, jL_23, jL_5, jL_6, jR_12_3, jR_1_7, jR_1_8, jR_22_0, jR_22_1, jR_22_2, hkP1_0, hkP1_2, hkP1_u, hkC8, List.map_cons, List.map_nil, List.sum_cons, List.sum_nil, hkCat_0, hkCat_1, hkCat_2, Nat.reduceAdd, Nat.reduceLeDiff, hkPush_s, hkPush_n, true_and, and_true, implies_true, true_implies, not_true_eq_false, not_false_eq_true, false_implies, hkTf_0, hkTf_n1, hkOr01, hkOr11, Int.reduceEq, Int.reduceLT, Int.reduceLE, hk102a, hk102b, hk102c, Nat.reduceEqDiff, or_true, true_or, or_false, false_or, and_false, false_and, Classical.not_not, true_implies, List.set_cons_zero, List.set_cons_succ, ne_eq, x_72_126, x_72_129, hkJK_1, hkJK_12, hkJK_14, hkJK_22, hkJK_23, hkJK_5, hkJK_6, jA_12_3, jA_1_7, jA_1_8, jA_22_0, jA_22_1, jA_22_2, jL_14, jL_23, jL_5, jL_6, jR_12_3, jR_1_7, jR_1_8, jR_22_0, jR_22_1, jR_22_2, hkP1_0, hkP1_2, hkP1_u, hkC8, List.map_cons, List.map_nil, List.sum_cons, List.sum_nil, hkCat_0, hkCat_1, hkCat_2, Nat.reduceAdd, Nat.reduceLeDiff, hkPush_s, hkPush_n, true_and, and_true, implies_true, true_implies, not_true_eq_false, not_false_eq_true, false_implies, hkTf_0, hkTf_n1, hkOr01, hkOr11, Int.reduceEq, Int.reduceLT, Int.reduceLE, hk102a, hk102b, hk102c, Nat.reduceEqDiff, or_true, true_or, or_false, false_or, and_false, false_and, Classical.not_not, true_implies, List.set_cons_zero, List.set_cons_succ, ne_eq, hkLe_t ht, y7, e1, hT1, ho, h11, hw]
      clear hw e1 e2 e3
      repeat' (first | exact IH | refine And.intro ?_ ?_ | intro _ | trivial | omega | (exfalso; omega))
    · have hO : OFC R N i j l = OFS R N i j s := by
        unfold OFC
        rw [if_pos ((OFC_rest hb).2 (by rw [A3, hr])), A4]
      have htn := tn_b hb i0 i1 j0 j1 A1 A2 (by rw [hO]; exact ho)
      have htn' : (bxZ R N i + bxZ R N j - bxZ R N l).tdiv N = tnT R N i j l := rfl
      have hidx : ((dd + tnT R N i j l) * 35 + l) % 35 = l ∧ ((dd + tnT R N i j l) * 35 + l) / 35 = dd + tnT R N i j l := by clear hw e1 e2 e3; omega
      have IH := ih (s + 1) (0, OFS R N i j s) (0, l) (hkSet g1 23 ((dd + tnT R N i j l) * 35 + l) (hkL (g1 23 ((dd + tnT R N i j l) * 35 + l) + hkL (both * OFS R N i j s)))) (by clear hw e1 e2 e3; omega) (by clear hw e1 e2 e3; omega) (by rw [hkP1_0]; trivial) (by rw [hkP1_0]; trivial) (fun q hq => by rw [hkSet_row hq, k1 q hq]) (fun p p0 p1 => by
        clear hw e1 e2 e3
        by_cases hp : p = (dd + tnT R N i j l) * 35 + l
        · subst hp
          rw [hkSet_rd, if_pos ⟨rfl, rfl⟩, hY _ p0 p1, hkL_add]
          congr 1
          unfold shY
          rw [if_neg (by unfold shC; rw [hidx.1, A4]; omega), if_pos (by unfold shC; rw [hidx.1, hidx.2, A3, A4]; exact ⟨A2, rfl, hr.symm, by omega⟩), hidx.1, A4]
          omega
        · rw [hkSet_rd, if_neg (fun h => hp h.2), hY p p0 p1]
          have : shY R N i j dd both F (s + 1) p = shY R N i j dd both F s p := by
            unfold shY
            by_cases c1 : shC R N i j dd s p
            · rw [if_pos c1, if_pos (by unfold shC at *; omega)]
            · rw [if_neg c1, if_neg (fun c2 => by
                have h1 : bxSl R N (p % 35) = s := by unfold shC at c1 c2; omega
                unfold shC at c2
                have h2 := uniq (p % 35) (by omega) c2.1 (by rw [c2.2.2.1, hr]) h1
                have h3 := c2.2.1
                rw [h2] at h3
                omega)]
          rw [this]) hQ
      obtain ⟨e4, e5, e6⟩ : hkW (dd + tnT R N i j l) = dd + tnT R N i j l ∧ hkW ((dd + tnT R N i j l) * 35) = (dd + tnT R N i j l) * 35 ∧ hkW ((dd + tnT R N i j l) * 35 + l) = (dd + tnT R N i j l) * 35 + l := ⟨hkW_in (by clear hw e1 e2 e3; omega) (by clear hw e1 e2 e3; omega), hkW_in (by clear hw e1 e2 e3; omega) (by clear hw e1 e2 e3; omega), hkW_in (by clear hw e1 e2 e3; omega) (by clear hw e1 e2 e3; omega)⟩
      have ht35 : 35 ≤ t := Nat.le_trans (by decide) ht
      rw [x_72_39]
      simp only [x_72_41, x_72_42, x_72_45, x_72_48, x_72_50, x_72_51, x_72_54, x_72_55, x_72_58, x_72_61, x_72_62, x_72_64, x_72_65, x_72_66, x_72_68, x_72_70, x_72_73, x_72_74, x_72_77, x_72_80, x_72_82, x_72_83, x_72_84, x_72_86, x_72_87, x_72_88, x_72_90, x_72_91, x_72_94, x_72_96, x_72_97, x_72_100, x_72_102, x_72_104, x_72_106, x_72_109, x_72_110, x_72_112, x_72_113, x_72_115, x_72_116, x_72_117, x_72_118, x_72_120, x_72_122, x_72_123, x_72_124, x_72_125, x_72_126, x_72_129, hkJK_1, hkJK_12, hkJK_14, hkJK_22, hkJK_23, hkJK_5, hkJK_6, jA_12_3, jA_1_7, jA_1_8, jA_22_0, jA_22_1, jA_22_2, jL_14, jL_23, jL_5, jL_6, jR_12_3, jR_1_7, jR_1_8, jR_22_0, jR_22_1, jR_22_2, hkP1_0, hkP1_2, hkP1_u, hkC8, List.map_cons, List.map_nil, List.sum_cons, List.sum_nil, hkCat_0, hkCat_1, hkCat_2, Nat.reduceAdd, Nat.reduceLeDiff, hkPush_s, hkPush_n, true_and, and_true, implies_true, true_implies, not_true_eq_false, not_false_eq_true, false_implies, hkTf_0, hkTf_n1, hkOr01, hkOr11, Int.reduceEq, Int.reduceLT, Int.reduceLE, hk102a, hk102b, hk102c, Nat.reduceEqDiff, or_true, true_or, or_false, false_or, and_false, false_and, Classical.not_not, true_implies, List.set_cons_zero, List.set_cons_succ, ne_eq, hkLe_t ht, y7, e1, hT1, ho, h11, h12, hw, e2, e3, y5, sx_turnsTo ht35 hX1 i0 i1 j0 j1 A1 A2, htn', e4, e5, e6]
      clear hw e1 e2 e3 e4 e5 e6
      repeat' (first | exact IH | refine And.intro ?_ ?_ | intro _ | trivial | omega | (exfalso; omega))
theorem sx_shares (ht : 190 ≤ t) {g : hkG} (hX : BX g R N) {a b both : Int} {F : Int → Int} (a0 : 0 ≤ a) (a1 : a < 280) (b0 : 0 ≤ b) (b1 : b < 280) (i1 : a % 35 < bxC R N) (j1 : b % 35 < bxC R N) (hT : ∀ s : Int, 0 ≤ s → s < 5 → g 14 ((35 * (a % 35) + b % 35) * 5 + s) = OFS R N (a % 35) (b % 35) s) (hF : ∀ p : Int, 0 ≤ p → p < 630 → g 23 p = hkL (F p)) (hQ : ∀ g' : hkG, (∀ q : Int, q ≠ 23 → g' q = g q) → (∀ p : Int, 0 ≤ p → p < 630 → g' 23 p = hkL (F p + both * mcf R N a b p)) → Q none t g') :
    Xp 72 (d + 1) 0 [(2, 22), (0, a), (0, b), (0, (35 * (a % 35) + b % 35) * 5), (1, both), hkU, hkU, hkU, hkU, hkU, hkU, hkU, hkU] [] t g Q := by
  have hb := hX.1
  obtain ⟨b1', b2', b3', b4'⟩ := id hb
  have ht35 : 35 ≤ t := Nat.le_trans (by decide) ht
  obtain ⟨m1, m2, m3, m4⟩ : a.tmod 35 = a % 35 ∧ b.tmod 35 = b % 35 ∧ a.tdiv 35 = a / 35 ∧ b.tdiv 35 = b / 35 := ⟨Int.tmod_eq_emod_of_nonneg a0, Int.tmod_eq_emod_of_nonneg b0, Int.tdiv_eq_ediv_of_nonneg a0, Int.tdiv_eq_ediv_of_nonneg b0⟩
  have i0 : 0 ≤ a % 35 := by omega
  have j0 : 0 ≤ b % 35 := by omega
  have K := l_shares (d := d) (Q := Q) ht hX (a := a) (b := b) (both := both) (dd := a / 35 + b / 35) (F := F) i0 i1 j0 j1 (by omega) (by omega) hT (bxK R N ((bxZ R N (a % 35) + bxZ R N (b % 35)) % N)) 0 hkU hkU g (by omega) (by decide) (by rw [hkP1_u]; trivial) (by rw [hkP1_u]; trivial) (fun _ _ => rfl) (fun p p0 p1 => by
    rw [hF p p0 p1]
    unfold shY
    rw [if_neg (by unfold shC; have := (bxCq_0 (R := R) (N := N) (q := bxQ R N (p % 35)) (p % 35).toNat).1; unfold bxSl; omega), Int.add_zero]) (fun g' k1 k2 => hQ g' k1 (fun p p0 p1 => by
      rw [k2 p p0 p1]
      congr 1
      unfold shY mcf
      by_cases c : p % 35 < bxC R N ∧ p / 35 = a / 35 + b / 35 + tnT R N (a % 35) (b % 35) (p % 35)
      · rw [if_pos c]
        by_cases c2 : bxQ R N (p % 35) = (bxZ R N (a % 35) + bxZ R N (b % 35)) % N
        · have hS := bxSl_K (R := R) (N := N) (show 0 ≤ p % 35 by omega) c.1
          rw [c2] at hS
          rw [if_pos ⟨c.1, c.2, c2, hS.2⟩]
          unfold OFC
          rw [if_pos ((OFC_rest hb).2 c2)]
        · rw [if_neg (fun h => c2 h.2.2.1)]
          unfold OFC
          rw [if_neg (fun h => c2 ((OFC_rest hb).1 h)), Int.mul_zero]
      · rw [if_neg (fun h => c ⟨h.1, h.2.1⟩), if_neg c, Int.mul_zero]))
  obtain ⟨w1, w2, w3⟩ : hkW (a / 35) = a / 35 ∧ hkW (b / 35) = b / 35 ∧ hkW (a / 35 + b / 35) = a / 35 + b / 35 := ⟨hkW_in (by omega) (by omega), hkW_in (by omega) (by omega), hkW_in (by omega) (by omega)⟩
  simp only [x_72_0, x_72_1, x_72_3, x_72_4, x_72_6, x_72_7, x_72_9, x_72_10, x_72_12, x_72_13, x_72_15, x_72_16, x_72_17, x_72_19, x_72_20, x_72_21, x_72_23, x_72_24, x_72_27, x_72_29, x_72_31, x_72_34, x_72_36, x_72_37, hkJK_1, hkJK_12, hkJK_14, hkJK_22, hkJK_23, hkJK_5, hkJK_6, jA_12_3, jA_1_7, jA_1_8, jA_22_0, jA_22_1, jA_22_2, jL_14, jL_23, jL_5, jL_6, jR_12_3, jR_1_7, jR_1_8, jR_22_0, jR_22_1, jR_22_2, hkP1_0, hkP1_2, hkP1_u, hkC8, List.map_cons, List.map_nil, List.sum_cons, List.sum_nil, hkCat_0, hkCat_1, hkCat_2, Nat.reduceAdd, Nat.reduceLeDiff, hkPush_s, hkPush_n, true_and, and_true, implies_true, true_implies, not_true_eq_false, not_false_eq_true, false_implies, hkTf_0, hkTf_n1, hkOr01, hkOr11, Int.reduceEq, Int.reduceLT, Int.reduceLE, hk102a, hk102b, hk102c, Nat.reduceEqDiff, or_true, true_or, or_false, false_or, and_false, false_and, Classical.not_not, true_implies, List.set_cons_zero, List.set_cons_succ, ne_eq, hkLe_t ht, m1, m2, m3, m4, w1, w2, w3, sx_restOf ht35 hX i0 i1 j0 j1]
  clear w1 w2 w3
  repeat' (first | exact K | refine And.intro ?_ ?_ | intro _ | trivial | omega | (exfalso; omega))
def mlKeep (g g' : hkG) : Prop := ∀ q : Int, q ≠ 14 → q ≠ 15 → q ≠ 23 → g' q = g q
def mlK2 (ql : Int) (g g' : hkG) : Prop := ∀ q : Int, q ≠ 14 → q ≠ 15 → q ≠ 23 → q ≠ ql → g' q = g q
theorem l_mla {g : hkG} (ht : 190 ≤ t) {pl ql pr qr b : Int} (hl : smOk pl ql) (hr : smOk pr qr) (ql1 : 28 ≤ ql) (qr1 : 28 ≤ qr) (hA : gvec (bxC R N) (g ql)) (hB : gvec (bxC R N) (g qr)) (b0 : 0 ≤ b) (b1 : b < 280) (hb0 : g qr b ≠ 0) : ∀ (m : Nat) (a : Int) (v5 : hkV) (g1 : hkG) (F : Int → Int), a + m = 280 → 0 ≤ a → hkP1 v5 → mlKeep g g1 → RB g1 R N → (∀ p : Int, 0 ≤ p → p < 630 → g1 23 p = hkL (F p)) → (∀ (v5 : hkV) (g' : hkG), hkP1 v5 → mlKeep g g' → RB g' R N → (∀ p : Int, 0 ≤ p → p < 630 → g' 23 p = hkL (F p + smr m (fun a => g ql a * g qr b * mcf R N a b p) a)) → Xp 71 (d + 9) 96 [(2, 22), (2, pl), (2, pr), (0, b), (0, 280), v5] [] t g' Q) →
    Xp 71 (d + 9) 20 [(2, 22), (2, pl), (2, pr), (0, b), (0, a), v5] [] t g1 Q := by
  obtain ⟨l1, l2, l3, l4, l5⟩ := hl
  obtain ⟨r1, r2, r3, r4, r5⟩ := hr
  have lt : jA pl 0 ≤ t := Nat.le_trans l1 ht
  have rt : jA pr 0 ≤ t := Nat.le_trans r1 ht
  intro m
  induction m with
  | zero =>
    intro a v5 g1 F ha a0 h5 k1 hb hF hQ
    have e : a = 280 := by omega
    subst e
    have hq := hQ v5 g1 h5 k1 hb (fun p p0 p1 => by rw [hF p p0 p1]; congr 1; unfold smr; omega)
    have hg : g1 qr b ≠ 0 := by rw [k1 qr (by omega) (by omega) (by omega)]; exact hb0
    rw [x_71_20]
    simp only [x_71_21, x_71_24, x_71_25, x_71_26, x_71_29, x_71_31, x_71_34, hkJK_12, hkJK_22, hkJK_23, jA_22_1, jA_22_2, jL_23, jR_22_1, jR_22_2, hkP1_0, hkP1_2, hkP1_u, hkC8, List.map_cons, List.map_nil, List.sum_cons, List.sum_nil, hkCat_0, hkCat_1, hkCat_2, Nat.reduceAdd, Nat.reduceLeDiff, hkPush_s, hkPush_n, true_and, and_true, implies_true, true_implies, not_true_eq_false, not_false_eq_true, false_implies, hkTf_0, hkTf_n1, hkOr01, hkOr11, Int.reduceEq, Int.reduceLT, Int.reduceLE, hk102a, hk102b, hk102c, Nat.reduceEqDiff, or_true, true_or, or_false, false_or, and_false, false_and, Classical.not_not, true_implies, List.set_cons_zero, List.set_cons_succ, ne_eq, r2, rt, r3, r4, r5]
    repeat' (first | exact hq | refine And.intro ?_ ?_ | intro _ | trivial | omega | (exfalso; omega))
  | succ m ih =>
    intro a v5 g1 F ha a0 h5 k1 hb hF hQ
    have hg : g1 qr b ≠ 0 := by rw [k1 qr (by omega) (by omega) (by omega)]; exact hb0
    have hga : g1 ql a = g ql a := by rw [k1 ql (by omega) (by omega) (by omega)]
    have hw : hkW (a + 1) = a + 1 := hkW_in (by omega) (by omega)
    by_cases hz : g ql a = 0
    · have IH := ih (a + 1) v5 g1 F (by clear hw; omega) (by clear hw; omega) h5 k1 hb hF (fun v5 g' h5' k' hb' hF' => hQ v5 g' h5' k' hb' (fun p p0 p1 => by
        rw [hF' p p0 p1]
        congr 1
        simp only [smr, hz, Int.zero_mul, Int.zero_add]))
      rw [x_71_20]
      simp only [x_71_21, x_71_24, x_71_25, x_71_26, x_71_29, x_71_31, x_71_34, x_71_37, x_71_38, x_71_41, x_71_43, x_71_44, hkJK_12, hkJK_22, hkJK_23, jA_22_1, jA_22_2, jL_23, jR_22_1, jR_22_2, hkP1_0, hkP1_2, hkP1_u, hkC8, List.map_cons, List.map_nil, List.sum_cons, List.sum_nil, hkCat_0, hkCat_1, hkCat_2, Nat.reduceAdd, Nat.reduceLeDiff, hkPush_s, hkPush_n, true_and, and_true, implies_true, true_implies, not_true_eq_false, not_false_eq_true, false_implies, hkTf_0, hkTf_n1, hkOr01, hkOr11, Int.reduceEq, Int.reduceLT, Int.reduceLE, hk102a, hk102b, hk102c, Nat.reduceEqDiff, or_true, true_or, or_false, false_or, and_false, false_and, Classical.not_not, true_implies, List.set_cons_zero, List.set_cons_succ, ne_eq, x_71_90, x_71_93, hkJK_12, hkJK_22, hkJK_23, jA_22_1, jA_22_2, jL_23, jR_22_1, jR_22_2, hkP1_0, hkP1_2, hkP1_u, hkC8, List.map_cons, List.map_nil, List.sum_cons, List.sum_nil, hkCat_0, hkCat_1, hkCat_2, Nat.reduceAdd, Nat.reduceLeDiff, hkPush_s, hkPush_n, true_and, and_true, implies_true, true_implies, not_true_eq_false, not_false_eq_true, false_implies, hkTf_0, hkTf_n1, hkOr01, hkOr11, Int.reduceEq, Int.reduceLT, Int.reduceLE, hk102a, hk102b, hk102c, Nat.reduceEqDiff, or_true, true_or, or_false, false_or, and_false, false_and, Classical.not_not, true_implies, List.set_cons_zero, List.set_cons_succ, ne_eq, r2, rt, r3, r4, r5, l2, lt, l3, l4, l5, hga, hz, hw]
      clear hw
      repeat' (first | exact IH | refine And.intro ?_ ?_ | intro _ | trivial | omega | (exfalso; omega))
    · have i1 : a % 35 < bxC R N := Int.not_le.1 (fun h => hz ((hA a a0 (by clear hw; omega)).2 h))
      have j1 : b % 35 < bxC R N := Int.not_le.1 (fun h => hb0 ((hB b b0 b1).2 h))
      have rA := (hA a a0 (by clear hw; omega)).1
      have rB := (hB b b0 b1).1
      unfold rngS at rA rB
      have hm := mul_bd (x := g ql a) (y := g qr b) (X := 1000000) (Y := 1000000) (by clear hw; omega) (by clear hw; omega)
      have hL1 : hkL (g ql a * g qr b) = g ql a * g qr b := hkL_in (by clear hw; omega) (by clear hw; omega)
      have ht35 : 35 ≤ t := Nat.le_trans (by decide) ht
      obtain ⟨m1, m2⟩ : a.tmod 35 = a % 35 ∧ b.tmod 35 = b % 35 := ⟨Int.tmod_eq_emod_of_nonneg a0, Int.tmod_eq_emod_of_nonneg b0⟩
      have K : Xp 71 (d + 9) 47 [(2, 22), (2, pl), (2, pr), (0, b), (0, a), v5] [] t g1 Q := by
        simp only [x_71_47, x_71_48, x_71_51, x_71_53, x_71_55, x_71_56, x_71_57, x_71_59, x_71_60, hkJK_12, hkJK_22, hkJK_23, jA_22_1, jA_22_2, jL_23, jR_22_1, jR_22_2, hkP1_0, hkP1_2, hkP1_u, hkC8, List.map_cons, List.map_nil, List.sum_cons, List.sum_nil, hkCat_0, hkCat_1, hkCat_2, Nat.reduceAdd, Nat.reduceLeDiff, hkPush_s, hkPush_n, true_and, and_true, implies_true, true_implies, not_true_eq_false, not_false_eq_true, false_implies, hkTf_0, hkTf_n1, hkOr01, hkOr11, Int.reduceEq, Int.reduceLT, Int.reduceLE, hk102a, hk102b, hk102c, Nat.reduceEqDiff, or_true, true_or, or_false, false_or, and_false, false_and, Classical.not_not, true_implies, List.set_cons_zero, List.set_cons_succ, ne_eq, hkLe_t ht, m1, m2]
        refine sx_placeOf ht35 hb.1 hb.2.1 hb.2.2.1 (by clear hw; omega) i1 (by clear hw; omega) j1 (fun g2 k2 T2 v2 => ?_)
        have k12 : mlKeep g g2 := fun q q1 q2 q3 => by rw [k2 q q1 q2, k1 q q1 q2 q3]
        have hb2 : RB g2 R N := RB_tb hb k2 T2
        have ga2 : g2 ql a = g ql a := by rw [k12 ql (by clear hw; omega) (by clear hw; omega) (by clear hw; omega)]
        have gb2 : g2 qr b = g qr b := by rw [k12 qr (by clear hw; omega) (by clear hw; omega) (by clear hw; omega)]
        simp only [x_71_63, x_71_65, x_71_66, x_71_68, x_71_69, x_71_71, x_71_72, x_71_75, x_71_77, x_71_78, x_71_79, x_71_80, x_71_83, x_71_84, x_71_85, x_71_86, x_71_87, hkJK_12, hkJK_22, hkJK_23, jA_22_1, jA_22_2, jL_23, jR_22_1, jR_22_2, hkP1_0, hkP1_2, hkP1_u, hkC8, List.map_cons, List.map_nil, List.sum_cons, List.sum_nil, hkCat_0, hkCat_1, hkCat_2, Nat.reduceAdd, Nat.reduceLeDiff, hkPush_s, hkPush_n, true_and, and_true, implies_true, true_implies, not_true_eq_false, not_false_eq_true, false_implies, hkTf_0, hkTf_n1, hkOr01, hkOr11, Int.reduceEq, Int.reduceLT, Int.reduceLE, hk102a, hk102b, hk102c, Nat.reduceEqDiff, or_true, true_or, or_false, false_or, and_false, false_and, Classical.not_not, true_implies, List.set_cons_zero, List.set_cons_succ, ne_eq, hkLe_t ht, h5, l2, lt, l3, l4, l5, r2, rt, r3, r4, r5, ga2, gb2, hL1]
        refine And.intro ⟨a0, by clear hw; omega⟩ (And.intro ⟨b0, b1⟩ ?_)
        refine sx_shares (d := d + 7) ht hb2.1 (F := F) a0 (by clear hw; omega) b0 b1 i1 j1 (fun s s0 s5 => (v2 s s0 s5).1) (fun p p0 p1 => by rw [k2 23 (by decide) (by decide)]; exact hF p p0 p1) (fun g3 k3 v3 => ?_)
        simp only [x_71_90, x_71_93, hkJK_12, hkJK_22, hkJK_23, jA_22_1, jA_22_2, jL_23, jR_22_1, jR_22_2, hkP1_0, hkP1_2, hkP1_u, hkC8, List.map_cons, List.map_nil, List.sum_cons, List.sum_nil, hkCat_0, hkCat_1, hkCat_2, Nat.reduceAdd, Nat.reduceLeDiff, hkPush_s, hkPush_n, true_and, and_true, implies_true, true_implies, not_true_eq_false, not_false_eq_true, false_implies, hkTf_0, hkTf_n1, hkOr01, hkOr11, Int.reduceEq, Int.reduceLT, Int.reduceLE, hk102a, hk102b, hk102c, Nat.reduceEqDiff, or_true, true_or, or_false, false_or, and_false, false_and, Classical.not_not, true_implies, List.set_cons_zero, List.set_cons_succ, ne_eq, hw]
        refine ih (a + 1) _ g3 (fun p => F p + g ql a * g qr b * mcf R N a b p) (by clear hw; omega) (by clear hw; omega) (by rw [hkP1_0]; trivial) (fun q q1 q2 q3 => by rw [k3 q q3, k12 q q1 q2 q3]) (RB_c hb2 (fun q hq => k3 q (by clear hw; omega))) v3 (fun v5 g' h5' k' hb' hF' => hQ v5 g' h5' k' hb' (fun p p0 p1 => by
          rw [hF' p p0 p1]
          congr 1
          simp only [smr]
          clear hw; omega))
      rw [x_71_20]
      simp only [x_71_21, x_71_24, x_71_25, x_71_26, x_71_29, x_71_31, x_71_34, x_71_37, x_71_38, x_71_41, x_71_43, x_71_44, hkJK_12, hkJK_22, hkJK_23, jA_22_1, jA_22_2, jL_23, jR_22_1, jR_22_2, hkP1_0, hkP1_2, hkP1_u, hkC8, List.map_cons, List.map_nil, List.sum_cons, List.sum_nil, hkCat_0, hkCat_1, hkCat_2, Nat.reduceAdd, Nat.reduceLeDiff, hkPush_s, hkPush_n, true_and, and_true, implies_true, true_implies, not_true_eq_false, not_false_eq_true, false_implies, hkTf_0, hkTf_n1, hkOr01, hkOr11, Int.reduceEq, Int.reduceLT, Int.reduceLE, hk102a, hk102b, hk102c, Nat.reduceEqDiff, or_true, true_or, or_false, false_or, and_false, false_and, Classical.not_not, true_implies, List.set_cons_zero, List.set_cons_succ, ne_eq, r2, rt, r3, r4, r5, l2, lt, l3, l4, l5, hga]
      clear hw
      repeat' (first | exact K | refine And.intro ?_ ?_ | intro _ | trivial | omega | (exfalso; omega))
theorem l_mlb {g : hkG} (ht : 190 ≤ t) {pl ql pr qr : Int} (hl : smOk pl ql) (hr : smOk pr qr) (ql1 : 28 ≤ ql) (qr1 : 28 ≤ qr) (hA : gvec (bxC R N) (g ql)) (hB : gvec (bxC R N) (g qr)) : ∀ (m : Nat) (b : Int) (v4 v5 : hkV) (g1 : hkG) (F : Int → Int), b + m = 280 → 0 ≤ b → hkP1 v4 → hkP1 v5 → mlKeep g g1 → RB g1 R N → (∀ p : Int, 0 ≤ p → p < 630 → g1 23 p = hkL (F p)) → (∀ (v4 v5 : hkV) (g' : hkG), hkP1 v4 → hkP1 v5 → mlKeep g g' → RB g' R N → (∀ p : Int, 0 ≤ p → p < 630 → g' 23 p = hkL (F p + smr m (fun b => smr 280 (fun a => g ql a * g qr b * mcf R N a b p) 0) b)) → Xp 71 (d + 9) 102 [(2, 22), (2, pl), (2, pr), (0, 280), v4, v5] [] t g' Q) →
    Xp 71 (d + 9) 10 [(2, 22), (2, pl), (2, pr), (0, b), v4, v5] [] t g1 Q := by
  obtain ⟨r1, r2, r3, r4, r5⟩ := id hr
  have rt : jA pr 0 ≤ t := Nat.le_trans r1 ht
  intro m
  induction m with
  | zero =>
    intro b v4 v5 g1 F ha b0 h4 h5 k1 hb hF hQ
    have e : b = 280 := by omega
    subst e
    have hq := hQ v4 v5 g1 h4 h5 k1 hb (fun p p0 p1 => by rw [hF p p0 p1]; congr 1; unfold smr; omega)
    rw [x_71_10]
    simp only [x_71_11, x_71_14, hkJK_12, hkJK_22, hkJK_23, jA_22_1, jA_22_2, jL_23, jR_22_1, jR_22_2, hkP1_0, hkP1_2, hkP1_u, hkC8, List.map_cons, List.map_nil, List.sum_cons, List.sum_nil, hkCat_0, hkCat_1, hkCat_2, Nat.reduceAdd, Nat.reduceLeDiff, hkPush_s, hkPush_n, true_and, and_true, implies_true, true_implies, not_true_eq_false, not_false_eq_true, false_implies, hkTf_0, hkTf_n1, hkOr01, hkOr11, Int.reduceEq, Int.reduceLT, Int.reduceLE, hk102a, hk102b, hk102c, Nat.reduceEqDiff, or_true, true_or, or_false, false_or, and_false, false_and, Classical.not_not, true_implies, List.set_cons_zero, List.set_cons_succ, ne_eq]
    repeat' (first | exact hq | refine And.intro ?_ ?_ | intro _ | trivial | omega | (exfalso; omega))
  | succ m ih =>
    intro b v4 v5 g1 F ha b0 h4 h5 k1 hb hF hQ
    have hw : hkW (b + 1) = b + 1 := hkW_in (by omega) (by omega)
    have hgb : g1 qr b = g qr b := by rw [k1 qr (by clear hw; omega) (by clear hw; omega) (by clear hw; omega)]
    by_cases hz : g qr b = 0
    · have IH := ih (b + 1) (0, 0) v5 g1 F (by clear hw; omega) (by clear hw; omega) (by rw [hkP1_0]; trivial) h5 k1 hb hF (fun v4 v5 g' h4' h5' k' hb' hF' => hQ v4 v5 g' h4' h5' k' hb' (fun p p0 p1 => by
        rw [hF' p p0 p1]
        congr 1
        rw [smr_s (m := m)]
        rw [show smr 280 (fun a => g ql a * g qr b * mcf R N a b p) 0 = 0 from smr_z (fun x _ _ => by rw [hz, Int.mul_zero, Int.zero_mul]), Int.zero_add]))
      rw [x_71_10]
      simp only [x_71_11, x_71_14, x_71_17, x_71_18, x_71_20, x_71_21, x_71_24, x_71_25, x_71_26, hkJK_12, hkJK_22, hkJK_23, jA_22_1, jA_22_2, jL_23, jR_22_1, jR_22_2, hkP1_0, hkP1_2, hkP1_u, hkC8, List.map_cons, List.map_nil, List.sum_cons, List.sum_nil, hkCat_0, hkCat_1, hkCat_2, Nat.reduceAdd, Nat.reduceLeDiff, hkPush_s, hkPush_n, true_and, and_true, implies_true, true_implies, not_true_eq_false, not_false_eq_true, false_implies, hkTf_0, hkTf_n1, hkOr01, hkOr11, Int.reduceEq, Int.reduceLT, Int.reduceLE, hk102a, hk102b, hk102c, Nat.reduceEqDiff, or_true, true_or, or_false, false_or, and_false, false_and, Classical.not_not, true_implies, List.set_cons_zero, List.set_cons_succ, ne_eq, x_71_96, x_71_99, hkJK_12, hkJK_22, hkJK_23, jA_22_1, jA_22_2, jL_23, jR_22_1, jR_22_2, hkP1_0, hkP1_2, hkP1_u, hkC8, List.map_cons, List.map_nil, List.sum_cons, List.sum_nil, hkCat_0, hkCat_1, hkCat_2, Nat.reduceAdd, Nat.reduceLeDiff, hkPush_s, hkPush_n, true_and, and_true, implies_true, true_implies, not_true_eq_false, not_false_eq_true, false_implies, hkTf_0, hkTf_n1, hkOr01, hkOr11, Int.reduceEq, Int.reduceLT, Int.reduceLE, hk102a, hk102b, hk102c, Nat.reduceEqDiff, or_true, true_or, or_false, false_or, and_false, false_and, Classical.not_not, true_implies, List.set_cons_zero, List.set_cons_succ, ne_eq, h4, r2, rt, r3, r4, r5, hgb, hz, hw]
      clear hw
      repeat' (first | exact IH | refine And.intro ?_ ?_ | intro _ | trivial | omega | (exfalso; omega))
    · have IH := l_mla (d := d) (Q := Q) (g := g) ht hl hr ql1 qr1 hA hB b0 (by clear hw; omega) hz 280 0 v5 g1 F (by decide) (by decide) h5 k1 hb hF (fun v5' g2 h5' k2 hb2 hF2 => by
        have IH2 := ih (b + 1) (0, 280) v5' g2 _ (by clear hw; omega) (by clear hw; omega) (by rw [hkP1_0]; trivial) h5' k2 hb2 hF2 (fun v4 v5 g' h4' h5' k' hb' hF' => hQ v4 v5 g' h4' h5' k' hb' (fun p p0 p1 => by
          rw [hF' p p0 p1]
          congr 1
          rw [smr_s (m := m)]
          clear hw; omega))
        simp only [x_71_96, x_71_99, hkJK_12, hkJK_22, hkJK_23, jA_22_1, jA_22_2, jL_23, jR_22_1, jR_22_2, hkP1_0, hkP1_2, hkP1_u, hkC8, List.map_cons, List.map_nil, List.sum_cons, List.sum_nil, hkCat_0, hkCat_1, hkCat_2, Nat.reduceAdd, Nat.reduceLeDiff, hkPush_s, hkPush_n, true_and, and_true, implies_true, true_implies, not_true_eq_false, not_false_eq_true, false_implies, hkTf_0, hkTf_n1, hkOr01, hkOr11, Int.reduceEq, Int.reduceLT, Int.reduceLE, hk102a, hk102b, hk102c, Nat.reduceEqDiff, or_true, true_or, or_false, false_or, and_false, false_and, Classical.not_not, true_implies, List.set_cons_zero, List.set_cons_succ, ne_eq, hw]
        exact IH2)
      rw [x_71_10]
      simp only [x_71_11, x_71_14, x_71_17, x_71_18, hkJK_12, hkJK_22, hkJK_23, jA_22_1, jA_22_2, jL_23, jR_22_1, jR_22_2, hkP1_0, hkP1_2, hkP1_u, hkC8, List.map_cons, List.map_nil, List.sum_cons, List.sum_nil, hkCat_0, hkCat_1, hkCat_2, Nat.reduceAdd, Nat.reduceLeDiff, hkPush_s, hkPush_n, true_and, and_true, implies_true, true_implies, not_true_eq_false, not_false_eq_true, false_implies, hkTf_0, hkTf_n1, hkOr01, hkOr11, Int.reduceEq, Int.reduceLT, Int.reduceLE, hk102a, hk102b, hk102c, Nat.reduceEqDiff, or_true, true_or, or_false, false_or, and_false, false_and, Classical.not_not, true_implies, List.set_cons_zero, List.set_cons_succ, ne_eq, h4]
      clear hw
      repeat' (first | exact IH | refine And.intro ?_ ?_ | intro _ | trivial | omega | (exfalso; omega))
theorem sx_absL {g : hkG} {a : Int} : Xp 177 d 0 [(1, a), hkU] [] t g Q = Q (some (1, if a < 0 then hkL (-a) else a)) t g := Xp_ev s_absL (Nat.zero_le _)
theorem l_fits {g : hkG} (ht : 190 ≤ t) {T : Int → Int} (hb : ∀ p : Int, -784000000000000000 ≤ T p ∧ T p ≤ 784000000000000000) (hT : ∀ p : Int, 0 ≤ p → p < 630 → g 23 p = T p) : ∀ (m : Nat) (p : Int) (v2 v3 : hkV), p + m = 630 → 0 ≤ p → (∀ x : Int, 0 ≤ x → x < p → -1000000 ≤ T x ∧ T x ≤ 1000000 ∧ (280 ≤ x → T x = 0)) → Q (some (0, hkTf (∀ x : Int, 0 ≤ x → x < 630 → -1000000 ≤ T x ∧ T x ≤ 1000000 ∧ (280 ≤ x → T x = 0)))) t g → Xp 73 (d + 1) 2 [(2, 22), (0, p), v2, v3] [] t g Q := by
  intro m
  induction m with
  | zero =>
    intro p v2 v3 hp p0 h hQ
    have e : p = 630 := by omega
    subst e
    rw [hkTf_t h] at hQ
    rw [x_73_2]
    simp only [x_73_3, x_73_4, x_73_7, x_73_8, hkJK_22, hkJK_23, jA_22_2, jL_23, jR_22_2, hkP1_0, hkP1_2, hkP1_u, hkC8, List.map_cons, List.map_nil, List.sum_cons, List.sum_nil, hkCat_0, hkCat_1, hkCat_2, Nat.reduceAdd, Nat.reduceLeDiff, hkPush_s, hkPush_n, true_and, and_true, implies_true, true_implies, not_true_eq_false, not_false_eq_true, false_implies, hkTf_0, hkTf_n1, hkOr01, hkOr11, Int.reduceEq, Int.reduceLT, Int.reduceLE, hk102a, hk102b, hk102c, Nat.reduceEqDiff, or_true, true_or, or_false, false_or, and_false, false_and, Classical.not_not, true_implies, List.set_cons_zero, List.set_cons_succ, ne_eq, x_73_48, x_73_49, hkJK_22, hkJK_23, jA_22_2, jL_23, jR_22_2, hkP1_0, hkP1_2, hkP1_u, hkC8, List.map_cons, List.map_nil, List.sum_cons, List.sum_nil, hkCat_0, hkCat_1, hkCat_2, Nat.reduceAdd, Nat.reduceLeDiff, hkPush_s, hkPush_n, true_and, and_true, implies_true, true_implies, not_true_eq_false, not_false_eq_true, false_implies, hkTf_0, hkTf_n1, hkOr01, hkOr11, Int.reduceEq, Int.reduceLT, Int.reduceLE, hk102a, hk102b, hk102c, Nat.reduceEqDiff, or_true, true_or, or_false, false_or, and_false, false_and, Classical.not_not, true_implies, List.set_cons_zero, List.set_cons_succ, ne_eq, hkLe_t ht]
    repeat' (first | exact hQ | refine And.intro ?_ ?_ | intro _ | trivial | omega | (exfalso; omega))
  | succ m ih =>
    intro p v2 v3 hp p0 h hQ
    have hTp := hT p p0 (by omega)
    have hbp := hb p
    have hab : (if T p < 0 then hkL (-T p) else T p) = (if T p < 0 then -T p else T p) := by
      by_cases h : T p < 0
      · rw [if_pos h, if_pos h]; exact hkL_in (by omega) (by omega)
      · rw [if_neg h, if_neg h]
    have hw : hkW (p + 1) = p + 1 := hkW_in (by omega) (by omega)
    by_cases ok : -1000000 ≤ T p ∧ T p ≤ 1000000 ∧ (280 ≤ p → T p = 0)
    · have IH := fun v2 v3 => ih (p + 1) v2 v3 (by clear hw; omega) (by clear hw; omega) (fun x x0 x1 => by
        by_cases e : x = p
        · rw [e]; exact ok
        · exact h x x0 (by clear hw; omega)) hQ
      by_cases h280 : 280 ≤ p
      · have IH2 := IH (1, 0) hkU
        have z := ok.2.2 h280
        rw [x_73_2]
        simp only [x_73_3, x_73_4, x_73_7, x_73_8, x_73_11, x_73_12, x_73_15, x_73_18, x_73_21, x_73_24, x_73_25, x_73_26, x_73_27, x_73_30, x_73_31, x_73_32, x_73_35, x_73_36, x_73_37, x_73_40, x_73_41, x_73_42, x_73_45, hkJK_22, hkJK_23, jA_22_2, jL_23, jR_22_2, hkP1_0, hkP1_2, hkP1_u, hkC8, List.map_cons, List.map_nil, List.sum_cons, List.sum_nil, hkCat_0, hkCat_1, hkCat_2, Nat.reduceAdd, Nat.reduceLeDiff, hkPush_s, hkPush_n, true_and, and_true, implies_true, true_implies, not_true_eq_false, not_false_eq_true, false_implies, hkTf_0, hkTf_n1, hkOr01, hkOr11, Int.reduceEq, Int.reduceLT, Int.reduceLE, hk102a, hk102b, hk102c, Nat.reduceEqDiff, or_true, true_or, or_false, false_or, and_false, false_and, Classical.not_not, true_implies, List.set_cons_zero, List.set_cons_succ, ne_eq, hkLe_t ht, hTp, sx_absL, hab, hkCmp_le, hw, z]
        clear hw
        repeat' (first | exact IH2 | refine And.intro ?_ ?_ | intro _ | trivial | omega | (exfalso; omega))
      · have IH2 := IH (1, 1000000) hkU
        have z : (if T p < 0 then -T p else T p) ≤ 1000000 := by
          by_cases h : T p < 0
          · rw [if_pos h]; omega
          · rw [if_neg h]; omega
        rw [x_73_2]
        simp only [x_73_3, x_73_4, x_73_7, x_73_8, x_73_11, x_73_12, x_73_15, x_73_18, x_73_21, x_73_24, x_73_25, x_73_26, x_73_27, x_73_30, x_73_31, x_73_32, x_73_35, x_73_36, x_73_37, x_73_40, x_73_41, x_73_42, x_73_45, hkJK_22, hkJK_23, jA_22_2, jL_23, jR_22_2, hkP1_0, hkP1_2, hkP1_u, hkC8, List.map_cons, List.map_nil, List.sum_cons, List.sum_nil, hkCat_0, hkCat_1, hkCat_2, Nat.reduceAdd, Nat.reduceLeDiff, hkPush_s, hkPush_n, true_and, and_true, implies_true, true_implies, not_true_eq_false, not_false_eq_true, false_implies, hkTf_0, hkTf_n1, hkOr01, hkOr11, Int.reduceEq, Int.reduceLT, Int.reduceLE, hk102a, hk102b, hk102c, Nat.reduceEqDiff, or_true, true_or, or_false, false_or, and_false, false_and, Classical.not_not, true_implies, List.set_cons_zero, List.set_cons_succ, ne_eq, hkLe_t ht, hTp, sx_absL, hab, hkCmp_le, hw]
        clear hw
        repeat' (first | exact IH2 | refine And.intro ?_ ?_ | intro _ | trivial | omega | (exfalso; omega))
    · rw [hkTf_f (fun h2 => ok (h2 p p0 (by clear hw; omega)))] at hQ
      clear hw
      by_cases h280 : 280 ≤ p
      · have z : ¬ (if T p < 0 then -T p else T p) ≤ 0 := by
          by_cases h : T p < 0
          · rw [if_pos h]; omega
          · rw [if_neg h]; omega
        rw [x_73_2]
        simp only [x_73_3, x_73_4, x_73_7, x_73_8, x_73_11, x_73_12, x_73_15, x_73_18, x_73_21, x_73_24, x_73_25, x_73_26, x_73_27, x_73_30, x_73_31, x_73_32, x_73_35, x_73_36, x_73_37, x_73_40, x_73_41, hkJK_22, hkJK_23, jA_22_2, jL_23, jR_22_2, hkP1_0, hkP1_2, hkP1_u, hkC8, List.map_cons, List.map_nil, List.sum_cons, List.sum_nil, hkCat_0, hkCat_1, hkCat_2, Nat.reduceAdd, Nat.reduceLeDiff, hkPush_s, hkPush_n, true_and, and_true, implies_true, true_implies, not_true_eq_false, not_false_eq_true, false_implies, hkTf_0, hkTf_n1, hkOr01, hkOr11, Int.reduceEq, Int.reduceLT, Int.reduceLE, hk102a, hk102b, hk102c, Nat.reduceEqDiff, or_true, true_or, or_false, false_or, and_false, false_and, Classical.not_not, true_implies, List.set_cons_zero, List.set_cons_succ, ne_eq, hkLe_t ht, hTp, sx_absL, hab, hkCmp_le]
        repeat' (first | exact hQ | refine And.intro ?_ ?_ | intro _ | trivial | omega | (exfalso; omega))
      · have z : ¬ (if T p < 0 then -T p else T p) ≤ 1000000 := by
          by_cases h : T p < 0
          · rw [if_pos h]; omega
          · rw [if_neg h]; omega
        rw [x_73_2]
        simp only [x_73_3, x_73_4, x_73_7, x_73_8, x_73_11, x_73_12, x_73_15, x_73_18, x_73_21, x_73_24, x_73_25, x_73_26, x_73_27, x_73_30, x_73_31, x_73_32, x_73_35, x_73_36, x_73_37, x_73_40, x_73_41, hkJK_22, hkJK_23, jA_22_2, jL_23, jR_22_2, hkP1_0, hkP1_2, hkP1_u, hkC8, List.map_cons, List.map_nil, List.sum_cons, List.sum_nil, hkCat_0, hkCat_1, hkCat_2, Nat.reduceAdd, Nat.reduceLeDiff, hkPush_s, hkPush_n, true_and, and_true, implies_true, true_implies, not_true_eq_false, not_false_eq_true, false_implies, hkTf_0, hkTf_n1, hkOr01, hkOr11, Int.reduceEq, Int.reduceLT, Int.reduceLE, hk102a, hk102b, hk102c, Nat.reduceEqDiff, or_true, true_or, or_false, false_or, and_false, false_and, Classical.not_not, true_implies, List.set_cons_zero, List.set_cons_succ, ne_eq, hkLe_t ht, hTp, sx_absL, hab, hkCmp_le]
        repeat' (first | exact hQ | refine And.intro ?_ ?_ | intro _ | trivial | omega | (exfalso; omega))
theorem l_mlc {g : hkG} (ht : 190 ≤ t) {pl ql pr : Int} {T : Int → Int} {v4 v5 : hkV} (hl : smOk pl ql) (ql1 : 28 ≤ ql) (hT : ∀ p : Int, 0 ≤ p → p < 280 → g 23 p = T p ∧ rngS (T p)) : ∀ (m : Nat) (p : Int) (g1 : hkG), p + m = 280 → 0 ≤ p → (∀ q : Int, q ≠ ql → g1 q = g q) → (∀ x : Int, 0 ≤ x → x < p → g1 ql x = T x) → (∀ g' : hkG, (∀ q : Int, q ≠ ql → g' q = g q) → (∀ x : Int, 0 ≤ x → x < 280 → g' ql x = T x) → Q (some (0, 1)) t g') → Xp 71 d 113 [(2, 22), (2, pl), (2, pr), (0, p), v4, v5] [] t g1 Q := by
  obtain ⟨l1, l2, l3, l4, l5⟩ := hl
  have lt : jA pl 0 ≤ t := Nat.le_trans l1 ht
  intro m
  induction m with
  | zero =>
    intro p g1 hp p0 k1 h hQ
    have e : p = 280 := by omega
    subst e
    have hq := hQ g1 k1 h
    rw [x_71_113]
    simp only [x_71_114, x_71_117, hkJK_12, hkJK_22, hkJK_23, jA_22_1, jA_22_2, jL_23, jR_22_1, jR_22_2, hkP1_0, hkP1_2, hkP1_u, hkC8, List.map_cons, List.map_nil, List.sum_cons, List.sum_nil, hkCat_0, hkCat_1, hkCat_2, Nat.reduceAdd, Nat.reduceLeDiff, hkPush_s, hkPush_n, true_and, and_true, implies_true, true_implies, not_true_eq_false, not_false_eq_true, false_implies, hkTf_0, hkTf_n1, hkOr01, hkOr11, Int.reduceEq, Int.reduceLT, Int.reduceLE, hk102a, hk102b, hk102c, Nat.reduceEqDiff, or_true, true_or, or_false, false_or, and_false, false_and, Classical.not_not, true_implies, List.set_cons_zero, List.set_cons_succ, ne_eq, x_71_139, x_71_140, hkJK_12, hkJK_22, hkJK_23, jA_22_1, jA_22_2, jL_23, jR_22_1, jR_22_2, hkP1_0, hkP1_2, hkP1_u, hkC8, List.map_cons, List.map_nil, List.sum_cons, List.sum_nil, hkCat_0, hkCat_1, hkCat_2, Nat.reduceAdd, Nat.reduceLeDiff, hkPush_s, hkPush_n, true_and, and_true, implies_true, true_implies, not_true_eq_false, not_false_eq_true, false_implies, hkTf_0, hkTf_n1, hkOr01, hkOr11, Int.reduceEq, Int.reduceLT, Int.reduceLE, hk102a, hk102b, hk102c, Nat.reduceEqDiff, or_true, true_or, or_false, false_or, and_false, false_and, Classical.not_not, true_implies, List.set_cons_zero, List.set_cons_succ, ne_eq]
    repeat' (first | exact hq | refine And.intro ?_ ?_ | intro _ | trivial | omega | (exfalso; omega))
  | succ m ih =>
    intro p g1 hp p0 k1 h hQ
    obtain ⟨hTp, hrp⟩ := hT p p0 (by omega)
    unfold rngS at hrp
    have hg : g1 23 p = T p := by rw [k1 23 (by omega)]; exact hTp
    have IH := ih (p + 1) (hkSet g1 ql p (T p)) (by omega) (by omega) (fun q hq => by rw [hkSet_row hq, k1 q hq]) (fun x x0 x1 => by
      by_cases e : x = p
      · rw [e, hkSet_rd, if_pos ⟨rfl, rfl⟩]
      · rw [hkSet_rd, if_neg (fun h => e h.2)]; exact h x x0 (by omega)) hQ
    obtain ⟨hw, e1⟩ : hkW (p + 1) = p + 1 ∧ hkW (T p) = T p := ⟨hkW_in (by omega) (by omega), hkW_in (by omega) (by omega)⟩
    rw [x_71_113]
    simp only [x_71_114, x_71_117, x_71_120, x_71_121, x_71_124, x_71_125, x_71_126, x_71_129, x_71_130, x_71_131, x_71_132, x_71_133, x_71_136, hkJK_12, hkJK_22, hkJK_23, jA_22_1, jA_22_2, jL_23, jR_22_1, jR_22_2, hkP1_0, hkP1_2, hkP1_u, hkC8, List.map_cons, List.map_nil, List.sum_cons, List.sum_nil, hkCat_0, hkCat_1, hkCat_2, Nat.reduceAdd, Nat.reduceLeDiff, hkPush_s, hkPush_n, true_and, and_true, implies_true, true_implies, not_true_eq_false, not_false_eq_true, false_implies, hkTf_0, hkTf_n1, hkOr01, hkOr11, Int.reduceEq, Int.reduceLT, Int.reduceLE, hk102a, hk102b, hk102c, Nat.reduceEqDiff, or_true, true_or, or_false, false_or, and_false, false_and, Classical.not_not, true_implies, List.set_cons_zero, List.set_cons_succ, ne_eq, hkLe_t ht, l2, lt, l3, l4, l5, hg, e1, hw]
    clear hw e1
    repeat' (first | exact IH | refine And.intro ?_ ?_ | intro _ | trivial | omega | (exfalso; omega))
theorem sx_multiplied {g : hkG} (ht : 190 ≤ t) (hb : RB g R N) {pl ql pr qr : Int} (hl : smOk pl ql) (hr : smOk pr qr) (ql1 : 28 ≤ ql) (ql2 : ql ≤ 56) (qr1 : 28 ≤ qr) (hA : gvec (bxC R N) (g ql)) (hB : gvec (bxC R N) (g qr))
    (hY : fitsP R N (g ql) (g qr) → ∀ g' : hkG, mlK2 ql g g' → RB g' R N → (∀ p : Int, 0 ≤ p → p < 280 → g' ql p = mprod R N (g ql) (g qr) p) → Q (some (0, 1)) t g')
    (hN : ¬ fitsP R N (g ql) (g qr) → ∀ g' : hkG, mlKeep g g' → RB g' R N → Q (some (0, 0)) t g') :
    Xp 71 (d + 9) 0 [(2, 22), (2, pl), (2, pr), hkU, hkU, hkU] [] t g Q := by
  have hK := l_mlb (d := d) (Q := Q) (g := g) ht hl hr ql1 qr1 hA hB 280 0 hkU hkU (hkFil g 23 0 630 0) (fun _ => 0) (by decide) (by decide) (by rw [hkP1_u]; trivial) (by rw [hkP1_u]; trivial) (fun q q1 q2 q3 => hkFil_row q3) (RB_c hb (fun q hq => hkFil_row (by omega))) (fun p p0 p1 => by rw [hkFil_in p0 p1]; rfl) (fun v4 v5 g1 h4 h5 k1 hb1 hF1 => by
    have hT : ∀ p : Int, 0 ≤ p → p < 630 → g1 23 p = mprod R N (g ql) (g qr) p := fun p p0 p1 => by
      rw [hF1 p p0 p1, Int.zero_add, mprod_swap]
      have := mprod_bd (p := p) hb.1.1 hA hB
      exact hkL_in (by omega) (by omega)
    have hfe : (∀ x : Int, 0 ≤ x → x < 630 → -1000000 ≤ mprod R N (g ql) (g qr) x ∧ mprod R N (g ql) (g qr) x ≤ 1000000 ∧ (280 ≤ x → mprod R N (g ql) (g qr) x = 0)) = fitsP R N (g ql) (g qr) := propext ⟨fun h => ⟨fun p p0 p1 => ⟨(h p p0 (by omega)).1, (h p p0 (by omega)).2.1⟩, fun p p0 p1 => (h p (by omega) p1).2.2 p0⟩, fun h x x0 x1 => by
      by_cases h280 : 280 ≤ x
      · have := h.2 x h280 x1
        rw [this]; exact ⟨by decide, by decide, fun _ => rfl⟩
      · have := h.1 x x0 (by omega)
        exact ⟨this.1, this.2, fun h => absurd h h280⟩⟩
    simp only [x_71_102, x_71_103, hkJK_12, hkJK_22, hkJK_23, jA_22_1, jA_22_2, jL_23, jR_22_1, jR_22_2, hkP1_0, hkP1_2, hkP1_u, hkC8, List.map_cons, List.map_nil, List.sum_cons, List.sum_nil, hkCat_0, hkCat_1, hkCat_2, Nat.reduceAdd, Nat.reduceLeDiff, hkPush_s, hkPush_n, true_and, and_true, implies_true, true_implies, not_true_eq_false, not_false_eq_true, false_implies, hkTf_0, hkTf_n1, hkOr01, hkOr11, Int.reduceEq, Int.reduceLT, Int.reduceLE, hk102a, hk102b, hk102c, Nat.reduceEqDiff, or_true, true_or, or_false, false_or, and_false, false_and, Classical.not_not, true_implies, List.set_cons_zero, List.set_cons_succ, ne_eq, x_73_0, x_73_1, hkJK_22, hkJK_23, jA_22_2, jL_23, jR_22_2, hkP1_0, hkP1_2, hkP1_u, hkC8, List.map_cons, List.map_nil, List.sum_cons, List.sum_nil, hkCat_0, hkCat_1, hkCat_2, Nat.reduceAdd, Nat.reduceLeDiff, hkPush_s, hkPush_n, true_and, and_true, implies_true, true_implies, not_true_eq_false, not_false_eq_true, false_implies, hkTf_0, hkTf_n1, hkOr01, hkOr11, Int.reduceEq, Int.reduceLT, Int.reduceLE, hk102a, hk102b, hk102c, Nat.reduceEqDiff, or_true, true_or, or_false, false_or, and_false, false_and, Classical.not_not, true_implies, List.set_cons_zero, List.set_cons_succ, ne_eq, hkLe_t ht]
    refine l_fits ht (fun p => mprod_bd hb.1.1 hA hB) hT 630 0 hkU hkU (by decide) (by decide) (fun x x0 x1 => by omega) ?_
    rw [hfe]
    by_cases hf : fitsP R N (g ql) (g qr)
    · rw [hkTf_t hf]
      have K2 := l_mlc (d := d + 9) (Q := Q) (g := g1) (T := mprod R N (g ql) (g qr)) (pr := pr) (v4 := v4) (v5 := v5) ht hl ql1 (fun p p0 p1 => ⟨hT p p0 (by omega), hf.1 p p0 p1⟩) 280 0 g1 (by decide) (by decide) (fun _ _ => rfl) (fun x x0 x1 => by omega) (fun g2 k2 v2 => hY hf g2 (fun q q1 q2 q3 q4 => by rw [k2 q q4, k1 q q1 q2 q3]) (RB_c hb1 (fun q hq => k2 q (by omega))) v2)
      simp only [x_71_106, x_71_109, x_71_110, x_71_111, x_71_112, hkJK_12, hkJK_22, hkJK_23, jA_22_1, jA_22_2, jL_23, jR_22_1, jR_22_2, hkP1_0, hkP1_2, hkP1_u, hkC8, List.map_cons, List.map_nil, List.sum_cons, List.sum_nil, hkCat_0, hkCat_1, hkCat_2, Nat.reduceAdd, Nat.reduceLeDiff, hkPush_s, hkPush_n, true_and, and_true, implies_true, true_implies, not_true_eq_false, not_false_eq_true, false_implies, hkTf_0, hkTf_n1, hkOr01, hkOr11, Int.reduceEq, Int.reduceLT, Int.reduceLE, hk102a, hk102b, hk102c, Nat.reduceEqDiff, or_true, true_or, or_false, false_or, and_false, false_and, Classical.not_not, true_implies, List.set_cons_zero, List.set_cons_succ, ne_eq]
      repeat' (first | exact K2 | refine And.intro ?_ ?_ | intro _ | trivial | omega | (exfalso; omega))
    · rw [hkTf_f hf]
      have K2 := hN hf g1 k1 hb1
      simp only [x_71_106, x_71_109, x_71_110, hkJK_12, hkJK_22, hkJK_23, jA_22_1, jA_22_2, jL_23, jR_22_1, jR_22_2, hkP1_0, hkP1_2, hkP1_u, hkC8, List.map_cons, List.map_nil, List.sum_cons, List.sum_nil, hkCat_0, hkCat_1, hkCat_2, Nat.reduceAdd, Nat.reduceLeDiff, hkPush_s, hkPush_n, true_and, and_true, implies_true, true_implies, not_true_eq_false, not_false_eq_true, false_implies, hkTf_0, hkTf_n1, hkOr01, hkOr11, Int.reduceEq, Int.reduceLT, Int.reduceLE, hk102a, hk102b, hk102c, Nat.reduceEqDiff, or_true, true_or, or_false, false_or, and_false, false_and, Classical.not_not, true_implies, List.set_cons_zero, List.set_cons_succ, ne_eq]
      repeat' (first | exact K2 | refine And.intro ?_ ?_ | intro _ | trivial | omega | (exfalso; omega)))
  simp only [x_71_0, x_71_1, x_71_4, x_71_5, x_71_8, x_71_9, hkJK_12, hkJK_22, hkJK_23, jA_22_1, jA_22_2, jL_23, jR_22_1, jR_22_2, hkP1_0, hkP1_2, hkP1_u, hkC8, List.map_cons, List.map_nil, List.sum_cons, List.sum_nil, hkCat_0, hkCat_1, hkCat_2, Nat.reduceAdd, Nat.reduceLeDiff, hkPush_s, hkPush_n, true_and, and_true, implies_true, true_implies, not_true_eq_false, not_false_eq_true, false_implies, hkTf_0, hkTf_n1, hkOr01, hkOr11, Int.reduceEq, Int.reduceLT, Int.reduceLE, hk102a, hk102b, hk102c, Nat.reduceEqDiff, or_true, true_or, or_false, false_or, and_false, false_and, Classical.not_not, true_implies, List.set_cons_zero, List.set_cons_succ, ne_eq, hkLe_t ht]
  rw [sx_fillL (by first | exact hkJK_23 | decide +kernel) (by rw [jL_23]; decide), jL_23]
  simp only [x_71_8, x_71_9, hkJK_12, hkJK_22, hkJK_23, jA_22_1, jA_22_2, jL_23, jR_22_1, jR_22_2, hkP1_0, hkP1_2, hkP1_u, hkC8, List.map_cons, List.map_nil, List.sum_cons, List.sum_nil, hkCat_0, hkCat_1, hkCat_2, Nat.reduceAdd, Nat.reduceLeDiff, hkPush_s, hkPush_n, true_and, and_true, implies_true, true_implies, not_true_eq_false, not_false_eq_true, false_implies, hkTf_0, hkTf_n1, hkOr01, hkOr11, Int.reduceEq, Int.reduceLT, Int.reduceLE, hk102a, hk102b, hk102c, Nat.reduceEqDiff, or_true, true_or, or_false, false_or, and_false, false_and, Classical.not_not, true_implies, List.set_cons_zero, List.set_cons_succ, ne_eq]
  exact hK
end SP
