/-! walks: the first shape of a product -/
theorem ush9 (z : Int) : 0 ≤ hkUsh z 9 ∧ hkUsh z 9 < 8388608 := by
  have e : (Int32.ofInt 9).toUInt32 &&& Int32.toUInt32 31 = (9 : UInt32) := by decide
  unfold hkUsh
  rw [e]
  generalize (Int32.ofInt z).toUInt32 = u
  have h : (u >>> (9 : UInt32)).toNat = u.toNat / 512 := by
    rw [UInt32.toNat_shiftRight, Nat.shiftRight_eq_div_pow]; rfl
  have hu : u.toNat < 4294967296 := u.toNat_lt
  have h2 : (u >>> (9 : UInt32)).toInt32.toInt = ((u >>> (9 : UInt32)).toNat : Int) := by
    show BitVec.toInt (u >>> (9 : UInt32)).toBitVec = _
    rw [BitVec.toInt_eq_toNat_of_lt]
    · rfl
    · show 2 * (u >>> (9 : UInt32)).toNat < _
      rw [h]; omega
  rw [h2, h]
  omega
/-- the first l from l on that stands in a product -/
def flS (R N i j : Int) : Nat → Int → Int
  | 0, l => l
  | k + 1, l => if OFC R N i j l = 0 then flS R N i j k (l + 1) else l
def flF (R N i j : Int) : Int := flS R N i j ((bxC R N).toNat - 1) 0
theorem flS_p {R N i j : Int} : ∀ (k : Nat) (l : Int), l ≤ flS R N i j k l ∧ flS R N i j k l ≤ l + k ∧ (∀ x : Int, l ≤ x → x < flS R N i j k l → OFC R N i j x = 0) ∧ (OFC R N i j (flS R N i j k l) ≠ 0 ∨ flS R N i j k l = l + k) := by
  intro k
  induction k with
  | zero => intro l; unfold flS; exact ⟨by omega, by omega, fun x h0 h1 => by omega, Or.inr (by omega)⟩
  | succ k ih =>
    intro l
    obtain ⟨i1, i2, i3, i4⟩ := ih (l + 1)
    unfold flS
    by_cases h : OFC R N i j l = 0
    · rw [if_pos h]
      refine ⟨by omega, by omega, fun x h0 h1 => ?_, ?_⟩
      · by_cases e : x = l
        · rw [e]; exact h
        · exact i3 x (by omega) h1
      · rcases i4 with i4 | i4
        · exact Or.inl i4
        · exact Or.inr (by omega)
    · rw [if_neg h]
      exact ⟨by omega, by omega, fun x h0 h1 => by omega, Or.inl h⟩
theorem flF_p {R N i j : Int} (hb : bxOk R N) (i0 : 0 ≤ i) (i1 : i < bxC R N) (j0 : 0 ≤ j) (j1 : j < bxC R N) : 0 ≤ flF R N i j ∧ flF R N i j < bxC R N ∧ OFC R N i j (flF R N i j) ≠ 0 ∧ ∀ x : Int, 0 ≤ x → x < flF R N i j → OFC R N i j x = 0 := by
  have hc := bx_C hb
  obtain ⟨p1, p2, p3, p4⟩ := flS_p (R := R) (N := N) (i := i) (j := j) ((bxC R N).toNat - 1) 0
  obtain ⟨-, l, l0, l1, hl⟩ := ofc_all hb i0 i1 j0 j1
  unfold flF
  refine ⟨p1, by omega, ?_, p3⟩
  rcases p4 with p4 | p4
  · exact p4
  · by_cases e : l < flS R N i j ((bxC R N).toNat - 1) 0
    · exact absurd (p3 l l0 e) hl
    · have : flS R N i j ((bxC R N).toNat - 1) 0 = l := by omega
      rw [this]; exact hl
theorem fstS_p {R N i j q : Int} : ∀ (k : Nat) (s : Int), (fstS R N i j q k s = -1 ∧ ∀ x : Int, s ≤ x → x < s + k → OFS R N i j x = 0) ∨ ∃ y : Int, s ≤ y ∧ y < s + k ∧ fstS R N i j q k s = bxA R N q y ∧ OFS R N i j y ≠ 0 ∧ ∀ x : Int, s ≤ x → x < y → OFS R N i j x = 0 := by
  intro k
  induction k with
  | zero => intro s; exact Or.inl ⟨rfl, fun x h0 h1 => by omega⟩
  | succ k ih =>
    intro s
    unfold fstS
    by_cases h : OFS R N i j s = 0
    · rw [if_pos h]
      rcases ih (s + 1) with ⟨a1, a2⟩ | ⟨y, y0, y1, y2, y3, y4⟩
      · refine Or.inl ⟨a1, fun x h0 h1 => ?_⟩
        by_cases e : x = s
        · rw [e]; exact h
        · exact a2 x (by omega) (by omega)
      · refine Or.inr ⟨y, by omega, by omega, y2, y3, fun x h0 h1 => ?_⟩
        by_cases e : x = s
        · rw [e]; exact h
        · exact y4 x (by omega) h1
    · rw [if_neg h]
      exact Or.inr ⟨s, by omega, by omega, rfl, h, fun x h0 h1 => by omega⟩
theorem FSC_fl {R N i j : Int} (hb : bxOk R N) (i0 : 0 ≤ i) (i1 : i < bxC R N) (j0 : 0 ≤ j) (j1 : j < bxC R N) : FSC R N i j = flF R N i j := by
  obtain ⟨b1, b2, b3, b4⟩ := id hb
  obtain ⟨f0, f1, f2, f3⟩ := flF_p hb i0 i1 j0 j1
  have hq0 : 0 ≤ (bxZ R N i + bxZ R N j) % N := Int.emod_nonneg _ (by omega)
  have hq1 : (bxZ R N i + bxZ R N j) % N < N := Int.emod_lt_of_pos _ (by omega)
  obtain ⟨k0, k1⟩ := bxSl_K f0 f1
  have hQ := (((ofc_all hb i0 i1 j0 j1).1 _ f0 f1).2.2 f2).1
  have e1 : (bxZ R N i + bxZ R N j - bxZ R N (flF R N i j)).tmod N = 0 := (OFC_rest hb).2 hQ
  have hOS : OFS R N i j (bxSl R N (flF R N i j)) ≠ 0 := by
    unfold OFC at f2
    rw [if_pos e1] at f2
    exact f2
  rw [hQ] at k1
  have hA := bxA_Sl hb f0 f1
  rw [hQ] at hA
  unfold FSC
  rcases fstS_p (R := R) (N := N) (i := i) (j := j) (q := (bxZ R N i + bxZ R N j) % N) (bxK R N ((bxZ R N i + bxZ R N j) % N)) 0 with ⟨a1, a2⟩ | ⟨y, y0, y1, y2, y3, y4⟩
  · exact absurd (a2 _ k0 (by omega)) hOS
  · rw [y2]
    by_cases e : y = bxSl R N (flF R N i j)
    · rw [e, hA]
    · obtain ⟨z0, z1, z2, z3⟩ := (bx_A hb hq0 hq1).2 y.toNat (by omega)
      rw [show ((y.toNat : Nat) : Int) = y from by omega] at z0 z1 z2 z3
      have hOC : OFC R N i j (bxA R N ((bxZ R N i + bxZ R N j) % N) y) ≠ 0 := by
        unfold OFC
        rw [if_pos ((OFC_rest hb).2 z2), z3]
        exact y3
      have h1 : y < bxSl R N (flF R N i j) := by
        by_cases h : y < bxSl R N (flF R N i j)
        · exact h
        · exact absurd (y4 _ k0 (by omega)) hOS
      have h2 : ¬ bxA R N ((bxZ R N i + bxZ R N j) % N) y < flF R N i j := fun h => hOC (f3 _ z0 h)
      by_cases h3 : bxA R N ((bxZ R N i + bxZ R N j) % N) y = flF R N i j
      · exact h3
      · have := bxSl_lt2 (R := R) (N := N) f0 (show flF R N i j < bxA R N ((bxZ R N i + bxZ R N j) % N) y by omega) (by rw [hQ, z2])
        omega
def wkZ (z : Int) : Int := hkW (hkW (z * 1103515245) + 12345)
def wkJ (R N z : Int) : Int := (hkUsh (wkZ z) 9).tmod (bxC R N)
/-- a walk: where, turns -/
def wkS (R N : Int) : Nat → Int → Int → Int → Int × Int
  | 0, a, w, _ => (a, w)
  | k + 1, a, w, z => wkS R N k (flF R N a (wkJ R N z)) (hkW (w + tdV R N a (wkJ R N z) (flF R N a (wkJ R N z)))) (wkZ z)
theorem wkJ_r {R N z : Int} (hb : bxOk R N) : 0 ≤ wkJ R N z ∧ wkJ R N z < bxC R N := by
  have hc := bx_C hb
  have h := ush9 (wkZ z)
  unfold wkJ
  rw [Int.tmod_eq_emod_of_nonneg h.1]
  exact ⟨Int.emod_nonneg _ (by omega), Int.emod_lt_of_pos _ (by omega)⟩
section SP
variable {t d : Nat} {R N : Int} {Q : Option hkV → Nat → hkG → Prop}
theorem r_firstIn {g : hkG} (ht : 190 ≤ t) (hb : RB g R N) {i j : Int} (i0 : 0 ≤ i) (i1 : i < bxC R N) (j0 : 0 ≤ j) (j1 : j < bxC R N) (hQ : ∀ g' : hkG, tbKeep g g' → RB g' R N → Q (some (0, flF R N i j)) t g') :
    Xp 59 (d + 9) 0 [(2, 12), (0, i), (0, j), hkU, hkU, hkU] [] t g Q := by
  obtain ⟨hX, hP, hT, hRD, hM, hF⟩ := id hb
  refine sx_firstIn (Nat.le_trans (by decide) ht) hX hP hT i0 i1 j0 j1 (fun g1 k1 k2 => ?_)
  rw [FSC_fl hX.1 i0 i1 j0 j1]
  exact hQ g1 k1 (RB_tb hb k1 k2)
theorem l_walk (ht : 190 ≤ t) {sd n : Int} : ∀ (k : Nat) (a w z st : Int) (v5 v6 : hkV) (g : hkG), st + k = n → 0 ≤ st → st + k ≤ 1000 → 0 ≤ a → a < bxC R N → hkP1 v5 → hkP1 v6 → RB g R N → g 50 0 = a → g 50 1 = w → (∀ g' : hkG, (∀ q : Int, q ≠ 14 → q ≠ 15 → q ≠ 50 → g' q = g q) → RB g' R N → g' 50 0 = (wkS R N k a w z).1 → g' 50 1 = (wkS R N k a w z).2 → Q none t g') →
    Xp 93 (d + 10) 15 [(2, 50), (0, sd), (0, n), (0, z), (0, st), v5, v6] [] t g Q := by
  intro k
  induction k with
  | zero =>
    intro a w z st v5 v6 g hst h0 h1 a0 a1 p5 p6 hb ha hw hQ
    have hq := hQ g (fun _ _ _ _ => rfl) hb ha hw
    rw [x_93_15]
    simp only [x_93_17, x_93_18, hkJK_1, hkJK_12, hkJK_50, jA_50_2, jA_50_3, jR_50_2, jR_50_3, hkP1_0, hkP1_2, hkP1_u, hkC8, List.map_cons, List.map_nil, List.sum_cons, List.sum_nil, hkCat_0, hkCat_1, hkCat_2, Nat.reduceAdd, Nat.reduceLeDiff, hkPush_s, hkPush_n, true_and, and_true, implies_true, true_implies, not_true_eq_false, not_false_eq_true, false_implies, hkTf_0, hkTf_n1, hkOr01, hkOr11, Int.reduceEq, Int.reduceLT, Int.reduceLE, hk102a, hk102b, hk102c, Nat.reduceEqDiff, or_true, true_or, or_false, false_or, and_false, false_and, Classical.not_not, true_implies, List.set_cons_zero, List.set_cons_succ, ne_eq, x_93_101, hkJK_1, hkJK_12, hkJK_50, jA_50_2, jA_50_3, jR_50_2, jR_50_3, hkP1_0, hkP1_2, hkP1_u, hkC8, List.map_cons, List.map_nil, List.sum_cons, List.sum_nil, hkCat_0, hkCat_1, hkCat_2, Nat.reduceAdd, Nat.reduceLeDiff, hkPush_s, hkPush_n, true_and, and_true, implies_true, true_implies, not_true_eq_false, not_false_eq_true, false_implies, hkTf_0, hkTf_n1, hkOr01, hkOr11, Int.reduceEq, Int.reduceLT, Int.reduceLE, hk102a, hk102b, hk102c, Nat.reduceEqDiff, or_true, true_or, or_false, false_or, and_false, false_and, Classical.not_not, true_implies, List.set_cons_zero, List.set_cons_succ, ne_eq]
    repeat' (first | exact hq | refine And.intro ?_ ?_ | intro _ | omega | (exfalso; omega))
  | succ k ih =>
    intro a w z st v5 v6 g hst h0 h1 a0 a1 p5 p6 hb ha hw hQ
    have hc := bx_C hb.1.1
    have hx3 : g 1 3 = bxC R N := (BX_f hb.1).2.2.2.1
    obtain ⟨j0, j1⟩ := wkJ_r (z := z) hb.1.1
    obtain ⟨f0, f1, f2, f3⟩ := flF_p hb.1.1 a0 a1 j0 j1
    have hC0 : ¬ bxC R N = 0 := by omega
    have ez : hkW (hkW (z * 1103515245) + 12345) = wkZ z := rfl
    have ej : (hkUsh (wkZ z) 9).tmod (bxC R N) = wkJ R N z := rfl
    rw [x_93_15]
    simp only [x_93_17, x_93_18, x_93_21, x_93_22, x_93_24, x_93_25, x_93_28, x_93_29, x_93_30, x_93_31, x_93_33, x_93_34, x_93_35, x_93_38, x_93_41, x_93_42, x_93_44, x_93_45, x_93_48, x_93_49, x_93_52, x_93_54, hkJK_1, hkJK_12, hkJK_50, jA_50_2, jA_50_3, jR_50_2, jR_50_3, hkP1_0, hkP1_2, hkP1_u, hkC8, List.map_cons, List.map_nil, List.sum_cons, List.sum_nil, hkCat_0, hkCat_1, hkCat_2, Nat.reduceAdd, Nat.reduceLeDiff, hkPush_s, hkPush_n, true_and, and_true, implies_true, true_implies, not_true_eq_false, not_false_eq_true, false_implies, hkTf_0, hkTf_n1, hkOr01, hkOr11, Int.reduceEq, Int.reduceLT, Int.reduceLE, hk102a, hk102b, hk102c, Nat.reduceEqDiff, or_true, true_or, or_false, false_or, and_false, false_and, Classical.not_not, true_implies, List.set_cons_zero, List.set_cons_succ, ne_eq, hkLe_t ht, hx3, ez, ej, hC0, ha]
    refine And.intro (fun h => absurd h (by omega)) (fun _ => ?_)
    refine r_firstIn ht hb a0 a1 j0 j1 (fun g1 k1 hb1 => ?_)
    have ha1 : g1 50 0 = a := by rw [k1 50 (by decide) (by decide)]; exact ha
    have hw1 : g1 50 1 = w := by rw [k1 50 (by decide) (by decide)]; exact hw
    have e1 : hkW (st + 1) = st + 1 := hkW_in (by omega) (by omega)
    have et : (bxZ R N a + bxZ R N (wkJ R N z) - bxZ R N (flF R N a (wkJ R N z))).tdiv N = tdV R N a (wkJ R N z) (flF R N a (wkJ R N z)) := rfl
    simp only [x_93_57, x_93_59, x_93_61, x_93_62, x_93_65, x_93_66, x_93_67, x_93_70, x_93_71, x_93_74, x_93_75, x_93_78, x_93_80, x_93_82, x_93_85, x_93_86, x_93_89, x_93_90, x_93_92, x_93_95, x_93_98, hkJK_1, hkJK_12, hkJK_50, jA_50_2, jA_50_3, jR_50_2, jR_50_3, hkP1_0, hkP1_2, hkP1_u, hkC8, List.map_cons, List.map_nil, List.sum_cons, List.sum_nil, hkCat_0, hkCat_1, hkCat_2, Nat.reduceAdd, Nat.reduceLeDiff, hkPush_s, hkPush_n, true_and, and_true, implies_true, true_implies, not_true_eq_false, not_false_eq_true, false_implies, hkTf_0, hkTf_n1, hkOr01, hkOr11, Int.reduceEq, Int.reduceLT, Int.reduceLE, hk102a, hk102b, hk102c, Nat.reduceEqDiff, or_true, true_or, or_false, false_or, and_false, false_and, Classical.not_not, true_implies, List.set_cons_zero, List.set_cons_succ, ne_eq, hkLe_t ht, ha1, hw1, sx_turnsTo (Nat.le_trans (by decide) ht) hb1.1 a0 a1 j0 j1 f0 f1, et, e1]
    clear e1
    refine And.intro (fun h => absurd h (by omega)) (fun _ => ?_)
    refine ih (flF R N a (wkJ R N z)) (hkW (w + tdV R N a (wkJ R N z) (flF R N a (wkJ R N z)))) (wkZ z) (st + 1) _ _ _ (by omega) (by omega) (by omega) f0 f1 (by unfold hkP1; simp) (by unfold hkP1; simp) (RB_c hb1 (fun q hq => by rw [hkSet_row (by omega), hkSet_row (by omega)])) (by rw [hkSet_rd, if_pos ⟨rfl, rfl⟩]) (by rw [hkSet_rd, if_neg (by decide), hkSet_rd, if_pos ⟨rfl, rfl⟩]) (fun g' m1 m2 m3 m4 => hQ g' (fun q q1 q2 q3 => by rw [m1 q q1 q2 q3, hkSet_row q3, hkSet_row q3, k1 q q1 q2]) m2 m3 m4)
theorem sx_walk {g : hkG} (ht : 190 ≤ t) (hb : RB g R N) {sd n : Int} (n0 : 0 ≤ n) (n1 : n ≤ 40) (hQ : ∀ g' : hkG, (∀ q : Int, q ≠ 14 → q ≠ 15 → q ≠ 50 → g' q = g q) → RB g' R N → g' 50 0 = (wkS R N n.toNat 0 0 sd).1 → g' 50 1 = (wkS R N n.toNat 0 0 sd).2 → Q none t g') :
    Xp 93 (d + 10) 0 [(2, 50), (0, sd), (0, n), hkU, hkU, hkU, hkU] [] t g Q := by
  have hc := bx_C hb.1.1
  have W := l_walk (d := d) (Q := Q) ht (sd := sd) (n := n) n.toNat 0 0 sd 0 hkU hkU (hkSet (hkSet g 50 0 0) 50 1 0) (by omega) (by decide) (by omega) (by decide) (by omega) (by rw [hkP1_u]; trivial) (by rw [hkP1_u]; trivial) (RB_c hb (fun q hq => by rw [hkSet_row (by omega), hkSet_row (by omega)])) (by rw [hkSet_rd, if_neg (by decide), hkSet_rd, if_pos ⟨rfl, rfl⟩]) (by rw [hkSet_rd, if_pos ⟨rfl, rfl⟩]) (fun g' m1 m2 m3 m4 => hQ g' (fun q q1 q2 q3 => by rw [m1 q q1 q2 q3, hkSet_row q3, hkSet_row q3]) m2 m3 m4)
  simp only [x_93_0, x_93_1, x_93_2, x_93_5, x_93_6, x_93_7, x_93_10, x_93_11, x_93_12, x_93_13, hkJK_1, hkJK_12, hkJK_50, jA_50_2, jA_50_3, jR_50_2, jR_50_3, hkP1_0, hkP1_2, hkP1_u, hkC8, List.map_cons, List.map_nil, List.sum_cons, List.sum_nil, hkCat_0, hkCat_1, hkCat_2, Nat.reduceAdd, Nat.reduceLeDiff, hkPush_s, hkPush_n, true_and, and_true, implies_true, true_implies, not_true_eq_false, not_false_eq_true, false_implies, hkTf_0, hkTf_n1, hkOr01, hkOr11, Int.reduceEq, Int.reduceLT, Int.reduceLE, hk102a, hk102b, hk102c, Nat.reduceEqDiff, or_true, true_or, or_false, false_or, and_false, false_and, Classical.not_not, true_implies, List.set_cons_zero, List.set_cons_succ, ne_eq]
  exact W
theorem r_moften2 {g : hkG} (ht : 190 ≤ t) (hb : RB g R N) {i j l : Int} (i0 : 0 ≤ i) (i1 : i < bxC R N) (j0 : 0 ≤ j) (j1 : j < bxC R N) (l0 : 0 ≤ l) (l1 : l < bxC R N) (hQ : ∀ g' : hkG, mfKeep g g' → RB g' R N → Q (some (0, OFC R N i j l)) t g') :
    Xp 121 (d + 11) 0 [(2, 66), (0, i), (0, j), (0, l), hkU] [] t g Q := by
  obtain ⟨hX, hP, hT, hRD, hM, hF⟩ := id hb
  exact sx_moftenOf ht hM hF i0 i1 j0 j1 l0 l1 (fun g1 k1 k2 => hQ g1 k1 (RB_mf hb k1 k2))
theorem l_mfl (ht : 190 ≤ t) {sd n z a st j : Int} (a0 : 0 ≤ a) (a1 : a < bxC R N) (j0 : 0 ≤ j) (j1 : j < bxC R N) : ∀ (k : Nat) (l : Int) (g : hkG), l + k = bxC R N - 1 → 0 ≤ l → RB g R N → (∀ g' : hkG, mfKeep g g' → RB g' R N → Xp 160 (d + 12) 73 [(2, 66), (0, sd), (0, n), (0, z), (0, a), (0, st), (0, j), (0, flS R N a j k l)] [] t g' Q) →
    Xp 160 (d + 12) 43 [(2, 66), (0, sd), (0, n), (0, z), (0, a), (0, st), (0, j), (0, l)] [] t g Q := by
  intro k
  induction k with
  | zero =>
    intro l g hl l0 hb hQ
    have hc := bx_C hb.1.1
    have hx3 : g 66 2 = bxC R N := (MX_f hb.2.2.2.2.1).2.2.1
    have hq := hQ g mfKeep_r hb
    unfold flS at hq
    have e : hkW (bxC R N - 1) = bxC R N - 1 := hkW_in (by omega) (by omega)
    rw [x_160_43]
    simp only [x_160_45, x_160_46, x_160_49, x_160_50, x_160_51, hkJK_66, hkP1_0, hkP1_2, hkP1_u, hkC8, List.map_cons, List.map_nil, List.sum_cons, List.sum_nil, hkCat_0, hkCat_1, hkCat_2, Nat.reduceAdd, Nat.reduceLeDiff, hkPush_s, hkPush_n, true_and, and_true, implies_true, true_implies, not_true_eq_false, not_false_eq_true, false_implies, hkTf_0, hkTf_n1, hkOr01, hkOr11, Int.reduceEq, Int.reduceLT, Int.reduceLE, hk102a, hk102b, hk102c, Nat.reduceEqDiff, or_true, true_or, or_false, false_or, and_false, false_and, Classical.not_not, true_implies, List.set_cons_zero, List.set_cons_succ, ne_eq, hkLe_t ht, hx3, e]
    clear e
    repeat' (first | exact hq | refine And.intro ?_ ?_ | intro _ | omega | (exfalso; omega))
  | succ k ih =>
    intro l g hl l0 hb hQ
    have hc := bx_C hb.1.1
    have hx3 : g 66 2 = bxC R N := (MX_f hb.2.2.2.2.1).2.2.1
    have lc : l < bxC R N := by omega
    obtain ⟨e, e2⟩ : hkW (bxC R N - 1) = bxC R N - 1 ∧ hkW (l + 1) = l + 1 := ⟨hkW_in (by omega) (by omega), hkW_in (by omega) (by omega)⟩
    unfold flS at hQ
    rw [x_160_43]
    simp only [x_160_45, x_160_46, x_160_49, x_160_50, x_160_51, x_160_54, x_160_55, x_160_57, x_160_59, x_160_61, hkJK_66, hkP1_0, hkP1_2, hkP1_u, hkC8, List.map_cons, List.map_nil, List.sum_cons, List.sum_nil, hkCat_0, hkCat_1, hkCat_2, Nat.reduceAdd, Nat.reduceLeDiff, hkPush_s, hkPush_n, true_and, and_true, implies_true, true_implies, not_true_eq_false, not_false_eq_true, false_implies, hkTf_0, hkTf_n1, hkOr01, hkOr11, Int.reduceEq, Int.reduceLT, Int.reduceLE, hk102a, hk102b, hk102c, Nat.reduceEqDiff, or_true, true_or, or_false, false_or, and_false, false_and, Classical.not_not, true_implies, List.set_cons_zero, List.set_cons_succ, ne_eq, hkLe_t ht, hx3, e]
    clear e
    refine And.intro (fun h => absurd h (by clear e2; omega)) (fun _ => ?_)
    refine r_moften2 ht hb a0 a1 j0 j1 l0 lc (fun g1 k1 hb1 => ?_)
    simp only [x_160_64, x_160_67, x_160_70, hkJK_66, hkP1_0, hkP1_2, hkP1_u, hkC8, List.map_cons, List.map_nil, List.sum_cons, List.sum_nil, hkCat_0, hkCat_1, hkCat_2, Nat.reduceAdd, Nat.reduceLeDiff, hkPush_s, hkPush_n, true_and, and_true, implies_true, true_implies, not_true_eq_false, not_false_eq_true, false_implies, hkTf_0, hkTf_n1, hkOr01, hkOr11, Int.reduceEq, Int.reduceLT, Int.reduceLE, hk102a, hk102b, hk102c, Nat.reduceEqDiff, or_true, true_or, or_false, false_or, and_false, false_and, Classical.not_not, true_implies, List.set_cons_zero, List.set_cons_succ, ne_eq, e2]
    clear e2
    refine And.intro (fun h => ?_) (fun h => ?_)
    · have := hQ g1 k1 hb1
      rw [if_neg h] at this
      exact this
    · exact ih (l + 1) g1 (by omega) (by omega) hb1 (fun g' k2 hb2 => by
        have := hQ g' (mfKeep_t k1 k2) hb2
        rw [if_pos (by omega)] at this
        exact this)
theorem l_mwalk (ht : 190 ≤ t) {sd n : Int} : ∀ (k : Nat) (a w z st : Int) (v6 v7 : hkV) (g : hkG), st + k = n → 0 ≤ st → st + k ≤ 1000 → 0 ≤ a → a < bxC R N → hkP1 v6 → hkP1 v7 → RB g R N → g 66 35 = w → (∀ g' : hkG, qKeep g g' → RB g' R N → g' 66 35 = (wkS R N k a w z).2 → Q (some (0, (wkS R N k a w z).1)) t g') →
    Xp 160 (d + 12) 13 [(2, 66), (0, sd), (0, n), (0, z), (0, a), (0, st), v6, v7] [] t g Q := by
  intro k
  induction k with
  | zero =>
    intro a w z st v6 v7 g hst h0 h1 a0 a1 p5 p6 hb hw hQ
    have hq := hQ g qKeep_r hb hw
    rw [x_160_13]
    simp only [x_160_15, x_160_16, hkJK_66, hkP1_0, hkP1_2, hkP1_u, hkC8, List.map_cons, List.map_nil, List.sum_cons, List.sum_nil, hkCat_0, hkCat_1, hkCat_2, Nat.reduceAdd, Nat.reduceLeDiff, hkPush_s, hkPush_n, true_and, and_true, implies_true, true_implies, not_true_eq_false, not_false_eq_true, false_implies, hkTf_0, hkTf_n1, hkOr01, hkOr11, Int.reduceEq, Int.reduceLT, Int.reduceLE, hk102a, hk102b, hk102c, Nat.reduceEqDiff, or_true, true_or, or_false, false_or, and_false, false_and, Classical.not_not, true_implies, List.set_cons_zero, List.set_cons_succ, ne_eq, x_160_102, x_160_104, hkJK_66, hkP1_0, hkP1_2, hkP1_u, hkC8, List.map_cons, List.map_nil, List.sum_cons, List.sum_nil, hkCat_0, hkCat_1, hkCat_2, Nat.reduceAdd, Nat.reduceLeDiff, hkPush_s, hkPush_n, true_and, and_true, implies_true, true_implies, not_true_eq_false, not_false_eq_true, false_implies, hkTf_0, hkTf_n1, hkOr01, hkOr11, Int.reduceEq, Int.reduceLT, Int.reduceLE, hk102a, hk102b, hk102c, Nat.reduceEqDiff, or_true, true_or, or_false, false_or, and_false, false_and, Classical.not_not, true_implies, List.set_cons_zero, List.set_cons_succ, ne_eq]
    repeat' (first | exact hq | refine And.intro ?_ ?_ | intro _ | omega | (exfalso; omega))
  | succ k ih =>
    intro a w z st v6 v7 g hst h0 h1 a0 a1 p5 p6 hb hw hQ
    have hc := bx_C hb.1.1
    have hx3 : g 66 2 = bxC R N := (MX_f hb.2.2.2.2.1).2.2.1
    obtain ⟨j0, j1⟩ := wkJ_r (z := z) hb.1.1
    obtain ⟨f0, f1, f2, f3⟩ := flF_p hb.1.1 a0 a1 j0 j1
    have hC0 : ¬ bxC R N = 0 := by omega
    have ez : hkW (hkW (z * 1103515245) + 12345) = wkZ z := rfl
    have ej : (hkUsh (wkZ z) 9).tmod (bxC R N) = wkJ R N z := rfl
    rw [x_160_13]
    simp only [x_160_15, x_160_16, x_160_19, x_160_20, x_160_23, x_160_24, x_160_27, x_160_28, x_160_29, x_160_30, x_160_32, x_160_33, x_160_34, x_160_37, x_160_38, x_160_40, x_160_41, hkJK_66, hkP1_0, hkP1_2, hkP1_u, hkC8, List.map_cons, List.map_nil, List.sum_cons, List.sum_nil, hkCat_0, hkCat_1, hkCat_2, Nat.reduceAdd, Nat.reduceLeDiff, hkPush_s, hkPush_n, true_and, and_true, implies_true, true_implies, not_true_eq_false, not_false_eq_true, false_implies, hkTf_0, hkTf_n1, hkOr01, hkOr11, Int.reduceEq, Int.reduceLT, Int.reduceLE, hk102a, hk102b, hk102c, Nat.reduceEqDiff, or_true, true_or, or_false, false_or, and_false, false_and, Classical.not_not, true_implies, List.set_cons_zero, List.set_cons_succ, ne_eq, hkLe_t ht, hx3, ez, ej, hC0]
    refine And.intro (fun h => absurd h (by omega)) (fun _ => ?_)
    refine l_mfl ht a0 a1 j0 j1 ((bxC R N).toNat - 1) 0 g (by omega) (by decide) hb (fun g1 k1 hb1 => ?_)
    have hw1 : g1 66 35 = w := by rw [k1.2 35 (by decide) (by decide) (by decide)]; exact hw
    have e1 : hkW (st + 1) = st + 1 := hkW_in (by omega) (by omega)
    have ef : flS R N a (wkJ R N z) ((bxC R N).toNat - 1) 0 = flF R N a (wkJ R N z) := rfl
    have et : (bxZ R N a + bxZ R N (wkJ R N z) - bxZ R N (flF R N a (wkJ R N z))).tdiv N = tdV R N a (wkJ R N z) (flF R N a (wkJ R N z)) := rfl
    rw [ef]
    simp only [x_160_73, x_160_74, x_160_75, x_160_78, x_160_79, x_160_81, x_160_83, x_160_85, x_160_88, x_160_89, x_160_92, x_160_94, x_160_96, x_160_99, hkJK_66, hkP1_0, hkP1_2, hkP1_u, hkC8, List.map_cons, List.map_nil, List.sum_cons, List.sum_nil, hkCat_0, hkCat_1, hkCat_2, Nat.reduceAdd, Nat.reduceLeDiff, hkPush_s, hkPush_n, true_and, and_true, implies_true, true_implies, not_true_eq_false, not_false_eq_true, false_implies, hkTf_0, hkTf_n1, hkOr01, hkOr11, Int.reduceEq, Int.reduceLT, Int.reduceLE, hk102a, hk102b, hk102c, Nat.reduceEqDiff, or_true, true_or, or_false, false_or, and_false, false_and, Classical.not_not, true_implies, List.set_cons_zero, List.set_cons_succ, ne_eq, hkLe_t ht, hw1, sx_mTurnsOf ht hb1.2.2.2.2.1 a0 a1 j0 j1 f0 f1, et, e1]
    clear e1
    refine ih (flF R N a (wkJ R N z)) (hkW (w + tdV R N a (wkJ R N z) (flF R N a (wkJ R N z)))) (wkZ z) (st + 1) _ _ _ (by omega) (by omega) (by omega) f0 f1 (by unfold hkP1; simp) (by unfold hkP1; simp) (RB_s hb1 (fun q q1 q2 => hkSet_row q2) (fun k k0 k2 => by rw [hkSet_rd, if_neg (by omega)])) (by rw [hkSet_rd, if_pos ⟨rfl, rfl⟩]) (fun g' m1 m2 m3 => hQ g' (qKeep_t (qKeep_mf k1) (qKeep_t ⟨fun q hq => hkSet_row (by unfold scr at hq; omega), fun k hk => by rw [hkSet_rd, if_neg (by unfold fld at hk; omega)], by rw [hkSet_row (by decide)], by rw [hkSet_row (by decide)]⟩ m1)) m2 m3)
theorem sx_mwalk {g : hkG} (ht : 190 ≤ t) (hb : RB g R N) {sd n : Int} (n0 : 0 ≤ n) (n1 : n ≤ 40) (hQ : ∀ g' : hkG, qKeep g g' → RB g' R N → g' 66 35 = (wkS R N n.toNat 0 0 sd).2 → Q (some (0, (wkS R N n.toNat 0 0 sd).1)) t g') :
    Xp 160 (d + 12) 0 [(2, 66), (0, sd), (0, n), hkU, hkU, hkU, hkU, hkU] [] t g Q := by
  have hc := bx_C hb.1.1
  have W := l_mwalk (d := d) (Q := Q) ht (sd := sd) (n := n) n.toNat 0 0 sd 0 hkU hkU (hkSet g 66 35 0) (by omega) (by decide) (by omega) (by decide) (by omega) (by rw [hkP1_u]; trivial) (by rw [hkP1_u]; trivial) (RB_s hb (fun q q1 q2 => hkSet_row q2) (fun k k0 k2 => by rw [hkSet_rd, if_neg (by omega)])) (by rw [hkSet_rd, if_pos ⟨rfl, rfl⟩]) (fun g' m1 m2 m3 => hQ g' (qKeep_t ⟨fun q hq => hkSet_row (by unfold scr at hq; omega), fun k hk => by rw [hkSet_rd, if_neg (by unfold fld at hk; omega)], by rw [hkSet_row (by decide)], by rw [hkSet_row (by decide)]⟩ m1) m2 m3)
  simp only [x_160_0, x_160_1, x_160_2, x_160_3, x_160_5, x_160_6, x_160_7, x_160_10, x_160_11, hkJK_66, hkP1_0, hkP1_2, hkP1_u, hkC8, List.map_cons, List.map_nil, List.sum_cons, List.sum_nil, hkCat_0, hkCat_1, hkCat_2, Nat.reduceAdd, Nat.reduceLeDiff, hkPush_s, hkPush_n, true_and, and_true, implies_true, true_implies, not_true_eq_false, not_false_eq_true, false_implies, hkTf_0, hkTf_n1, hkOr01, hkOr11, Int.reduceEq, Int.reduceLT, Int.reduceLE, hk102a, hk102b, hk102c, Nat.reduceEqDiff, or_true, true_or, or_false, false_or, and_false, false_and, Classical.not_not, true_implies, List.set_cons_zero, List.set_cons_succ, ne_eq]
  exact W
theorem qKeep_wk {g g' : hkG} (k : ∀ q : Int, q ≠ 14 → q ≠ 15 → q ≠ 50 → g' q = g q) : qKeep g g' := ⟨fun q hq => k q (by unfold scr at hq; omega) (by unfold scr at hq; omega) (by unfold scr at hq; omega), fun j _ => by rw [k 66 (by decide) (by decide) (by decide)], by rw [k 24 (by decide) (by decide) (by decide)], by rw [k 24 (by decide) (by decide) (by decide)]⟩
def drV (R N sd n w : Int) : Int := if w = 0 then (wkS R N n.toNat 0 0 sd).1 else (wkS R N n.toNat 0 0 sd).2
theorem tie_drawn {g : hkG} {xs : Int → Int} {L sd n w : Int} (ht : 190 ≤ t) (hR : Rel xs L g) : Tie xs L 21 (d + 13) [(2, 0), (0, sd), (0, n), (0, w)] 159 [(2, 66), (0, sd), (0, n), (0, w), hkU] t g := by
  obtain ⟨R, N, hb, hr⟩ := id hR
  by_cases hv : (0 ≤ n ∧ n ≤ 40) ∧ (0 ≤ w ∧ w ≤ 1)
  · obtain ⟨⟨n0, n1⟩, hw⟩ := id hv
    have K : Xp 21 (d + 13) 22 [(2, 0), (0, sd), (0, n), (0, w)] [] t g (fun r t1 g1 => ∃ v, r = some v ∧ t1 = t ∧ Xp 159 (d + 13) 0 [(2, 66), (0, sd), (0, n), (0, w), hkU] [] t g1 (fun r2 t2 g2 => r2 = some v ∧ t2 = t ∧ Rel xs L g2)) := by
      simp only [x_21_22, x_21_23, x_21_26, x_21_27, x_21_28, hkJK_0, hkJK_50, jA_0_6, jR_0_6, hkP1_0, hkP1_2, hkP1_u, hkC8, List.map_cons, List.map_nil, List.sum_cons, List.sum_nil, hkCat_0, hkCat_1, hkCat_2, Nat.reduceAdd, Nat.reduceLeDiff, hkPush_s, hkPush_n, true_and, and_true, implies_true, true_implies, not_true_eq_false, not_false_eq_true, false_implies, hkTf_0, hkTf_n1, hkOr01, hkOr11, Int.reduceEq, Int.reduceLT, Int.reduceLE, hk102a, hk102b, hk102c, Nat.reduceEqDiff, or_true, true_or, or_false, false_or, and_false, false_and, Classical.not_not, true_implies, List.set_cons_zero, List.set_cons_succ, ne_eq, hkLe_t ht]
      refine sx_walk (d := d + 2) ht hb n0 n1 (fun g1 k1 hb1 h0 h1 => ?_)
      have F : Xp 159 (d + 13) 0 [(2, 66), (0, sd), (0, n), (0, w), hkU] [] t g1 (fun r2 t2 g2 => r2 = some (0, drV R N sd n w) ∧ t2 = t ∧ Rel xs L g2) := by
        have K2 : Xp 159 (d + 13) 25 [(2, 66), (0, sd), (0, n), (0, w), hkU] [] t g1 (fun r2 t2 g2 => r2 = some (0, drV R N sd n w) ∧ t2 = t ∧ Rel xs L g2) := by
          simp only [x_159_25, x_159_26, x_159_27, x_159_28, hkJK_66, hkP1_0, hkP1_2, hkP1_u, hkC8, List.map_cons, List.map_nil, List.sum_cons, List.sum_nil, hkCat_0, hkCat_1, hkCat_2, Nat.reduceAdd, Nat.reduceLeDiff, hkPush_s, hkPush_n, true_and, and_true, implies_true, true_implies, not_true_eq_false, not_false_eq_true, false_implies, hkTf_0, hkTf_n1, hkOr01, hkOr11, Int.reduceEq, Int.reduceLT, Int.reduceLE, hk102a, hk102b, hk102c, Nat.reduceEqDiff, or_true, true_or, or_false, false_or, and_false, false_and, Classical.not_not, true_implies, List.set_cons_zero, List.set_cons_succ, ne_eq]
          refine sx_mwalk (d := d) ht hb1 n0 n1 (fun g2 k2 hb2 h2 => ?_)
          have hrel : Rel xs L g2 := Rel_q hb2 (qKeep_t (qKeep_wk k1) k2) hr
          simp only [x_159_31, x_159_33, x_159_34, x_159_37, x_159_39, x_159_42, x_159_43, x_159_46, hkJK_66, hkP1_0, hkP1_2, hkP1_u, hkC8, List.map_cons, List.map_nil, List.sum_cons, List.sum_nil, hkCat_0, hkCat_1, hkCat_2, Nat.reduceAdd, Nat.reduceLeDiff, hkPush_s, hkPush_n, true_and, and_true, implies_true, true_implies, not_true_eq_false, not_false_eq_true, false_implies, hkTf_0, hkTf_n1, hkOr01, hkOr11, Int.reduceEq, Int.reduceLT, Int.reduceLE, hk102a, hk102b, hk102c, Nat.reduceEqDiff, or_true, true_or, or_false, false_or, and_false, false_and, Classical.not_not, true_implies, List.set_cons_zero, List.set_cons_succ, ne_eq, h2]
          unfold drV
          refine And.intro (fun h => ?_) (fun h => ?_)
          · rw [if_neg h]; exact ⟨rfl, hrel⟩
          · rw [if_pos h]; exact ⟨rfl, hrel⟩
        simp only [x_159_0, x_159_1, x_159_2, x_159_3, x_159_6, x_159_9, x_159_12, x_159_13, x_159_14, x_159_15, x_159_16, x_159_19, x_159_22, x_159_24, hkJK_66, hkP1_0, hkP1_2, hkP1_u, hkC8, List.map_cons, List.map_nil, List.sum_cons, List.sum_nil, hkCat_0, hkCat_1, hkCat_2, Nat.reduceAdd, Nat.reduceLeDiff, hkPush_s, hkPush_n, true_and, and_true, implies_true, true_implies, not_true_eq_false, not_false_eq_true, false_implies, hkTf_0, hkTf_n1, hkOr01, hkOr11, Int.reduceEq, Int.reduceLT, Int.reduceLE, hk102a, hk102b, hk102c, Nat.reduceEqDiff, or_true, true_or, or_false, false_or, and_false, false_and, Classical.not_not, true_implies, List.set_cons_zero, List.set_cons_succ, ne_eq, sx_mIsIn]
        repeat' (first | exact K2 | refine And.intro ?_ ?_ | intro _ | omega | (exfalso; omega))
      simp only [x_21_31, x_21_32, x_21_35, x_21_36, x_21_39, x_21_42, x_21_45, x_21_46, x_21_49, x_21_52, hkJK_0, hkJK_50, jA_0_6, jR_0_6, hkP1_0, hkP1_2, hkP1_u, hkC8, List.map_cons, List.map_nil, List.sum_cons, List.sum_nil, hkCat_0, hkCat_1, hkCat_2, Nat.reduceAdd, Nat.reduceLeDiff, hkPush_s, hkPush_n, true_and, and_true, implies_true, true_implies, not_true_eq_false, not_false_eq_true, false_implies, hkTf_0, hkTf_n1, hkOr01, hkOr11, Int.reduceEq, Int.reduceLT, Int.reduceLE, hk102a, hk102b, hk102c, Nat.reduceEqDiff, or_true, true_or, or_false, false_or, and_false, false_and, Classical.not_not, true_implies, List.set_cons_zero, List.set_cons_succ, ne_eq, hkLe_t ht, h0, h1]
      have hd : drV R N sd n w = if w = 0 then (wkS R N n.toNat 0 0 sd).1 else (wkS R N n.toNat 0 0 sd).2 := rfl
      rw [hd] at F
      refine And.intro (fun h => ?_) (fun h => ?_)
      · rw [if_neg h] at F; exact ⟨_, rfl, F⟩
      · rw [if_pos h] at F; exact ⟨_, rfl, F⟩
    unfold Tie
    simp only [x_21_0, x_21_1, x_21_2, x_21_4, x_21_7, x_21_10, x_21_11, x_21_12, x_21_13, x_21_16, x_21_19, x_21_21, hkJK_0, hkJK_50, jA_0_6, jR_0_6, hkP1_0, hkP1_2, hkP1_u, hkC8, List.map_cons, List.map_nil, List.sum_cons, List.sum_nil, hkCat_0, hkCat_1, hkCat_2, Nat.reduceAdd, Nat.reduceLeDiff, hkPush_s, hkPush_n, true_and, and_true, implies_true, true_implies, not_true_eq_false, not_false_eq_true, false_implies, hkTf_0, hkTf_n1, hkOr01, hkOr11, Int.reduceEq, Int.reduceLT, Int.reduceLE, hk102a, hk102b, hk102c, Nat.reduceEqDiff, or_true, true_or, or_false, false_or, and_false, false_and, Classical.not_not, true_implies, List.set_cons_zero, List.set_cons_succ, ne_eq, sx_isOff]
    repeat' (first | exact K | refine And.intro ?_ ?_ | intro _ | omega | (exfalso; omega))
  · refine tie_still (v := (0, -2)) hR (fun Q hq => ?_) (fun Q hq => ?_)
    · simp only [x_21_0, x_21_1, x_21_2, x_21_4, x_21_7, x_21_10, x_21_11, x_21_12, x_21_13, x_21_16, x_21_19, x_21_21, hkJK_0, hkJK_50, jA_0_6, jR_0_6, hkP1_0, hkP1_2, hkP1_u, hkC8, List.map_cons, List.map_nil, List.sum_cons, List.sum_nil, hkCat_0, hkCat_1, hkCat_2, Nat.reduceAdd, Nat.reduceLeDiff, hkPush_s, hkPush_n, true_and, and_true, implies_true, true_implies, not_true_eq_false, not_false_eq_true, false_implies, hkTf_0, hkTf_n1, hkOr01, hkOr11, Int.reduceEq, Int.reduceLT, Int.reduceLE, hk102a, hk102b, hk102c, Nat.reduceEqDiff, or_true, true_or, or_false, false_or, and_false, false_and, Classical.not_not, true_implies, List.set_cons_zero, List.set_cons_succ, ne_eq, sx_isOff]
      repeat' (first | exact hq | refine And.intro ?_ ?_ | intro _ | omega | (exfalso; omega))
    · simp only [x_159_0, x_159_1, x_159_2, x_159_3, x_159_6, x_159_9, x_159_12, x_159_13, x_159_14, x_159_15, x_159_16, x_159_19, x_159_22, x_159_24, hkJK_66, hkP1_0, hkP1_2, hkP1_u, hkC8, List.map_cons, List.map_nil, List.sum_cons, List.sum_nil, hkCat_0, hkCat_1, hkCat_2, Nat.reduceAdd, Nat.reduceLeDiff, hkPush_s, hkPush_n, true_and, and_true, implies_true, true_implies, not_true_eq_false, not_false_eq_true, false_implies, hkTf_0, hkTf_n1, hkOr01, hkOr11, Int.reduceEq, Int.reduceLT, Int.reduceLE, hk102a, hk102b, hk102c, Nat.reduceEqDiff, or_true, true_or, or_false, false_or, and_false, false_and, Classical.not_not, true_implies, List.set_cons_zero, List.set_cons_succ, ne_eq, sx_mIsIn]
      repeat' (first | exact hq | refine And.intro ?_ ?_ | intro _ | omega | (exfalso; omega))
end SP
