/-! Rounder: rows taken round -/
def trB (f : Int → Int) (R N : Int) (k : Nat) : Int := (f k + R - 1 - k) % N
def trO (f : Int → Int) (R N : Int) (k : Nat) : Int := (f k + R - 1 - k) / N
def trE (R : Int) (o : Int) : Int := if R % 2 = 0 ∧ o % 2 ≠ 0 then -1 else 1
/-- the first j beads against b -/
def trP (f : Int → Int) (R N b : Int) : Nat → Int
  | 0 => 1
  | j + 1 => trP f R N b j * hkCmp (trB f R N j) b
def trSg (f : Int → Int) (R N : Int) : Nat → Int
  | 0 => 1
  | k + 1 => trSg f R N k * trE R (trO f R N k) * trP f R N (trB f R N k) k
def trT (f : Int → Int) (R N : Int) : Nat → Int
  | 0 => 0
  | k + 1 => trT f R N k + trO f R N k
def trW (f : Int → Int) (R N : Int) : Nat → Int
  | 0 => 0
  | k + 1 => hkOr (trW f R N k) (hkShl 1 (trB f R N k))
def sg3 (x : Int) : Prop := x = -1 ∨ x = 0 ∨ x = 1
theorem sg3_mul {x y : Int} (hx : sg3 x) (hy : sg3 y) : sg3 (x * y) := by
  unfold sg3 at *
  rcases hx with rfl | rfl | rfl <;> rcases hy with rfl | rfl | rfl <;> decide
theorem sg3_cmp (a b : Int) : sg3 (hkCmp a b) := by
  unfold hkCmp sg3; split
  · omega
  · split <;> omega
theorem sg3_E (R o : Int) : sg3 (trE R o) := by unfold trE sg3; split <;> omega
theorem sg3_P (f : Int → Int) (R N b : Int) (j : Nat) : sg3 (trP f R N b j) := by
  induction j with
  | zero => exact Or.inr (Or.inr rfl)
  | succ j ih => exact sg3_mul ih (sg3_cmp _ _)
theorem sg3_S (f : Int → Int) (R N : Int) (k : Nat) : sg3 (trSg f R N k) := by
  induction k with
  | zero => exact Or.inr (Or.inr rfl)
  | succ k ih => exact sg3_mul (sg3_mul ih (sg3_E _ _)) (sg3_P _ _ _ _ _)
theorem trB_rng {f : Int → Int} {R N : Int} {k : Nat} (hb : bxOk R N) : 0 ≤ trB f R N k ∧ trB f R N k < N := by
  obtain ⟨h1, h2, h3, h4⟩ := hb
  unfold trB
  exact ⟨Int.emod_nonneg _ (by omega), Int.emod_lt_of_pos _ (by omega)⟩
theorem hkOr7 : ∀ a : Nat, a < 128 → ∀ b : Nat, b < 7 → 0 ≤ hkOr (a : Int) (hkShl 1 (b : Int)) ∧ hkOr (a : Int) (hkShl 1 (b : Int)) < 128 := by decide +kernel
theorem hkOr_7 {a b : Int} (ha : 0 ≤ a ∧ a < 128) (hb : 0 ≤ b ∧ b < 7) : 0 ≤ hkOr a (hkShl 1 b) ∧ hkOr a (hkShl 1 b) < 128 := by
  have := hkOr7 a.toNat (by omega) b.toNat (by omega)
  rw [show ((a.toNat : Nat) : Int) = a from by omega, show ((b.toNat : Nat) : Int) = b from by omega] at this
  exact this
theorem trW_rng {f : Int → Int} {R N : Int} (hb : bxOk R N) (k : Nat) : 0 ≤ trW f R N k ∧ trW f R N k < 128 := by
  induction k with
  | zero => exact ⟨Int.le_refl _, by show (0 : Int) < 128; decide⟩
  | succ k ih =>
    have := trB_rng (f := f) (k := k) hb
    exact hkOr_7 ih ⟨this.1, by have := hb.2.2.2; omega⟩
theorem trO_rng {f : Int → Int} {R N : Int} {k : Nat} (hb : bxOk R N) (hk : (k : Int) < R) (hf : 0 ≤ f k ∧ f k ≤ 40) : 0 ≤ trO f R N k ∧ trO f R N k ≤ 50 := by
  obtain ⟨h1, h2, h3, h4⟩ := hb
  unfold trO
  refine ⟨Int.ediv_nonneg (by omega) (by omega), ?_⟩
  have : (f k + R - 1 - k) / N ≤ f k + R - 1 - k := Int.ediv_le_self _ (by omega)
  omega
theorem trT_rng {f : Int → Int} {R N : Int} (hb : bxOk R N) (hf : ∀ j : Nat, (j : Int) < R → 0 ≤ f j ∧ f j ≤ 40) : ∀ k : Nat, (k : Int) ≤ R → 0 ≤ trT f R N k ∧ trT f R N k ≤ 50 * k := by
  intro k
  induction k with
  | zero => intro _; exact ⟨Int.le_refl _, by simp [trT]⟩
  | succ k ih =>
    intro hk
    have h1 := ih (by omega)
    have h2 := trO_rng hb (show (k : Int) < R by omega) (hf k (by omega))
    unfold trT
    omega
theorem tr_cong {f f' : Int → Int} {R N : Int} : ∀ k : Nat, (∀ j : Nat, j < k → f j = f' j) → (∀ j : Nat, j < k → trB f R N j = trB f' R N j ∧ trO f R N j = trO f' R N j) := by
  intro k h j hj
  unfold trB trO
  rw [h j hj]; exact ⟨rfl, rfl⟩
section SP
variable {t d : Nat} {g : hkG} {Q : Option hkV → Nat → hkG → Prop} {R N : Int}
theorem sx_compare {a b : Int} : Xp 172 d 0 [(0, a), (0, b)] [] t g Q = Q (some (0, hkCmp a b)) t g := Xp_ev s_compare (Nat.zero_le _)
theorem s_withWord2 {w : Int} (ht : 18 ≤ t) : Xp 38 d 0 [(2, 1), (0, w)] [] t g Q = Q (some (0, if 0 ≤ w ∧ w < 128 then g 8 w else -1)) t g := by
  refine Xp_ev (d := 0) (Ev_of ?_) (Nat.zero_le _)
  simp only [x_38_0, x_38_1, x_38_4, x_38_5, x_38_6, x_38_9, x_38_10, x_38_13, x_38_14, x_38_17, x_38_18, x_38_19, x_38_22, x_38_23, hkJK_1, hkJK_8, jA_1_10, jL_8, jR_1_10, hkP1_0, hkP1_2, hkP1_u, hkC8, List.map_cons, List.map_nil, List.sum_cons, List.sum_nil, hkCat_0, hkCat_1, hkCat_2, Nat.reduceAdd, Nat.reduceLeDiff, hkPush_s, hkPush_n, true_and, and_true, implies_true, true_implies, not_true_eq_false, not_false_eq_true, false_implies, hkTf_0, hkTf_n1, hkOr01, hkOr11, Int.reduceEq, Int.reduceLT, Int.reduceLE, hk102a, hk102b, hk102c, Nat.reduceEqDiff, or_true, true_or, or_false, false_or, and_false, false_and, Classical.not_not, true_implies, List.set_cons_zero, List.set_cons_succ, ne_eq, jL_8, hkJK_8, jA_1_10, jR_1_10, hkLe_t ht, Nat.reduceLeDiff]
  refine ⟨fun h => ?_, fun h => ⟨fun h2 => ?_, fun h2 => ⟨⟨by omega, by omega⟩, ?_⟩⟩⟩
  · rw [if_neg (by omega)]
  · rw [if_neg (by omega)]
  · rw [if_pos (by omega)]
theorem sg3_rng {x : Int} (h : sg3 x) : -1 ≤ x ∧ x ≤ 1 := by unfold sg3 at h; omega
theorem l_trIn (ht : 23 ≤ t) {f : Int → Int} {p w bd off s0 : Int} {r : Nat} (hb : bxOk R N) (hr : (r : Int) < R) (hs0 : sg3 s0) : ∀ (m j : Nat) (g : hkG) (Q : Option hkV → Nat → hkG → Prop), j + m = r → (∀ a : Nat, a < r → g 11 a = trB f R N a) → g 11 r = trB f R N r → g 10 0 = s0 * trP f R N (trB f R N r) j →
    (∀ g' : hkG, g' 10 0 = s0 * trP f R N (trB f R N r) r → (∀ q i : Int, ¬ (q = 10 ∧ i = 0) → g' q i = g q i) → Xp 49 (d + 1) 145 [(2, 10), (2, p), (0, w), (0, (r : Int)), (0, bd), (0, off), (0, (r : Int))] [] t g' Q) →
    Xp 49 (d + 1) 108 [(2, 10), (2, p), (0, w), (0, (r : Int)), (0, bd), (0, off), (0, (j : Int))] [] t g Q := by
  obtain ⟨b1, b2, b3, b4⟩ := id hb
  intro m
  induction m with
  | zero =>
    intro j g Q hj h1 h2 h3 hQ
    rw [show j = r from by omega] at h3 ⊢
    rw [x_49_108]
    simp only [x_49_110, x_49_111, hkJK_1, hkJK_10, hkJK_11, jA_10_3, jA_10_4, jL_11, jR_10_3, jR_10_4, hkP1_0, hkP1_2, hkP1_u, hkC8, List.map_cons, List.map_nil, List.sum_cons, List.sum_nil, hkCat_0, hkCat_1, hkCat_2, Nat.reduceAdd, Nat.reduceLeDiff, hkPush_s, hkPush_n, true_and, and_true, implies_true, true_implies, not_true_eq_false, not_false_eq_true, false_implies, hkTf_0, hkTf_n1, hkOr01, hkOr11, Int.reduceEq, Int.reduceLT, Int.reduceLE, hk102a, hk102b, hk102c, Nat.reduceEqDiff, or_true, true_or, or_false, false_or, and_false, false_and, Classical.not_not, true_implies, List.set_cons_zero, List.set_cons_succ, ne_eq]
    exact ⟨fun _ => hQ g h3 (fun _ _ _ => rfl), fun h => absurd (Int.le_refl _) h⟩
  | succ m ih =>
    intro j g Q hj h1 h2 h3 hQ
    rw [x_49_108]
    simp only [x_49_110, x_49_111, x_49_114, x_49_115, x_49_116, x_49_119, x_49_120, x_49_123, x_49_125, x_49_126, x_49_127, x_49_130, x_49_131, x_49_132, x_49_135, x_49_136, x_49_139, x_49_142, hkJK_1, hkJK_10, hkJK_11, jA_10_3, jA_10_4, jL_11, jR_10_3, jR_10_4, hkP1_0, hkP1_2, hkP1_u, hkC8, List.map_cons, List.map_nil, List.sum_cons, List.sum_nil, hkCat_0, hkCat_1, hkCat_2, Nat.reduceAdd, Nat.reduceLeDiff, hkPush_s, hkPush_n, true_and, and_true, implies_true, true_implies, not_true_eq_false, not_false_eq_true, false_implies, hkTf_0, hkTf_n1, hkOr01, hkOr11, Int.reduceEq, Int.reduceLT, Int.reduceLE, hk102a, hk102b, hk102c, Nat.reduceEqDiff, or_true, true_or, or_false, false_or, and_false, false_and, Classical.not_not, true_implies, List.set_cons_zero, List.set_cons_succ, ne_eq, hkLe_t ht, sx_compare, h1 j (by omega), h2, h3]
    have e := sg3_mul hs0 (sg3_P f R N (trB f R N r) (j + 1))
    have e2 : s0 * trP f R N (trB f R N r) j * hkCmp (trB f R N j) (trB f R N r) = s0 * trP f R N (trB f R N r) (j + 1) := by
      rw [Int.mul_assoc]; rfl
    have e3 := sg3_rng e
    rw [e2, hkW_in (x := s0 * _) (by omega) (by omega), hkW_in (x := (j : Int) + 1) (by omega) (by omega), show (j : Int) + 1 = ((j + 1 : Nat) : Int) from by omega]
    refine ⟨fun h => by omega, fun _ => ⟨⟨by omega, by omega⟩, ⟨by omega, by omega⟩, ?_⟩⟩
    refine ih (j + 1) _ Q (by omega) (fun a ha => by rw [hkSet_row (by decide)]; exact h1 a ha) (by rw [hkSet_row (by decide)]; exact h2) (by rw [hkSet_rd, if_pos ⟨rfl, rfl⟩]) (fun g' k1 k2 => hQ g' k1 (fun q i h => by rw [k2 q i h, hkSet_rd, if_neg h]))
theorem l_trOut (ht : 23 ≤ t) {f : Int → Int} {p : Int} (hk : hkJK p = 100) (hL : R ≤ jL p) (hp1 : p ≠ 10 ∧ p ≠ 11 ∧ p ≠ 1 ∧ p ≠ 8) (hb : bxOk R N) (hf : ∀ j : Nat, (j : Int) < R → 0 ≤ f j ∧ f j ≤ 40) : ∀ (m r : Nat) (g : hkG) (v4 v5 v6 : hkV) (Q : Option hkV → Nat → hkG → Prop), r + m = R → hkP1 v4 → hkP1 v5 → hkP1 v6 → g 1 0 = R → g 1 1 = N → (∀ j : Nat, (j : Int) < R → g p j = f j) → (∀ a : Nat, a < r → g 11 a = trB f R N a) → g 10 0 = trSg f R N r → g 10 1 = trT f R N r →
    (∀ g' : hkG, g' 10 0 = trSg f R N R.toNat → g' 10 1 = trT f R N R.toNat → g' 10 2 = (if trSg f R N R.toNat = 0 then -1 else g 8 (trW f R N R.toNat)) → (∀ q : Int, q ≠ 10 → q ≠ 11 → g' q = g q) → Q none t g') →
    Xp 49 (d + 1) 14 [(2, 10), (2, p), (0, trW f R N r), (0, (r : Int)), v4, v5, v6] [] t g Q := by
  obtain ⟨b1, b2, b3, b4⟩ := id hb
  intro m
  induction m with
  | zero =>
    intro r g v4 v5 v6 Q hr hv4 hv5 hv6 h1 h2 h3 h4 h5 h6 hQ
    have hrR : R.toNat = r := by omega
    rw [hrR] at hQ
    rw [x_49_14]
    simp only [x_49_15, x_49_16, x_49_19, x_49_22, hkJK_1, hkJK_10, hkJK_11, jA_10_3, jA_10_4, jL_11, jR_10_3, jR_10_4, hkP1_0, hkP1_2, hkP1_u, hkC8, List.map_cons, List.map_nil, List.sum_cons, List.sum_nil, hkCat_0, hkCat_1, hkCat_2, Nat.reduceAdd, Nat.reduceLeDiff, hkPush_s, hkPush_n, true_and, and_true, implies_true, true_implies, not_true_eq_false, not_false_eq_true, false_implies, hkTf_0, hkTf_n1, hkOr01, hkOr11, Int.reduceEq, Int.reduceLT, Int.reduceLE, hk102a, hk102b, hk102c, Nat.reduceEqDiff, or_true, true_or, or_false, false_or, and_false, false_and, Classical.not_not, true_implies, List.set_cons_zero, List.set_cons_succ, ne_eq, hkLe_t ht, h1]
    refine ⟨fun _ => ?_, fun h => absurd (by omega) h⟩
    simp only [x_49_162, x_49_163, x_49_164, x_49_167, x_49_170, x_49_171, x_49_174, x_49_175, x_49_178, x_49_179, x_49_182, x_49_185, hkJK_1, hkJK_10, hkJK_11, jA_10_3, jA_10_4, jL_11, jR_10_3, jR_10_4, hkP1_0, hkP1_2, hkP1_u, hkC8, List.map_cons, List.map_nil, List.sum_cons, List.sum_nil, hkCat_0, hkCat_1, hkCat_2, Nat.reduceAdd, Nat.reduceLeDiff, hkPush_s, hkPush_n, true_and, and_true, implies_true, true_implies, not_true_eq_false, not_false_eq_true, false_implies, hkTf_0, hkTf_n1, hkOr01, hkOr11, Int.reduceEq, Int.reduceLT, Int.reduceLE, hk102a, hk102b, hk102c, Nat.reduceEqDiff, or_true, true_or, or_false, false_or, and_false, false_and, Classical.not_not, true_implies, List.set_cons_zero, List.set_cons_succ, ne_eq, hkLe_t ht, h5, s_withWord2 (Nat.le_trans (by decide) ht), if_pos (trW_rng (f := f) (R := R) (N := N) hb r)]
    refine ⟨fun h => hQ _ ?_ ?_ ?_ (fun q hq1 hq2 => hkSet_row hq1), fun h => hQ _ ?_ ?_ ?_ (fun q hq1 hq2 => hkSet_row hq1)⟩
    · simp only [hkSet_rd, hkCpy_rd, hkFil_rd, if_true, if_false, Int.reduceEq, false_and, true_and, and_false]; exact h5
    · simp only [hkSet_rd, hkCpy_rd, hkFil_rd, if_true, if_false, Int.reduceEq, false_and, true_and, and_false]; exact h6
    · simp only [hkSet_rd, hkCpy_rd, hkFil_rd, if_true, if_false, Int.reduceEq, false_and, true_and]; rw [if_neg h]
    · simp only [hkSet_rd, hkCpy_rd, hkFil_rd, if_true, if_false, Int.reduceEq, false_and, true_and, and_false]; exact h5
    · simp only [hkSet_rd, hkCpy_rd, hkFil_rd, if_true, if_false, Int.reduceEq, false_and, true_and, and_false]; exact h6
    · simp only [hkSet_rd, hkCpy_rd, hkFil_rd, if_true, if_false, Int.reduceEq, false_and, true_and]; rw [if_pos h]
  | succ m ih =>
    intro r g v4 v5 v6 Q hr hv4 hv5 hv6 h1 h2 h3 h4 h5 h6 hQ
    have hrR : (r : Int) < R := by omega
    have hfr := hf r hrR
    have hO := trO_rng hb hrR hfr
    have hB := trB_rng (f := f) (k := r) hb
    have hT := trT_rng hb hf r (by omega)
    have hS := sg3_S f R N r
    have hE := sg3_E R (trO f R N r)
    have hP := sg3_P f R N (trB f R N r) r
    have eb : tzB R (f r) r = f r + R - 1 - r := by
      unfold tzB
      rw [hkW_in (x := f r + R) (by omega) (by omega), hkW_in (x := f r + R - 1) (by omega) (by omega), hkW_in (by omega) (by omega)]
    have eo : (f r + R - 1 - r).tdiv N = trO f R N r := by unfold trO; exact Int.tdiv_eq_ediv_of_nonneg (by omega)
    have em : (f r + R - 1 - r).tmod N = trB f R N r := by unfold trB; exact Int.tmod_eq_emod_of_nonneg (by omega)
    rw [x_49_14]
    have S1 := sg3_rng hS
    have S2 := sg3_rng hE
    have S3 := sg3_rng (sg3_mul hS hE)
    have eo2 : hkW (trO f R N r) = trO f R N r := hkW_in (by omega) (by omega)
    have et2 : hkW (trT f R N r + trO f R N r) = trT f R N r + trO f R N r := hkW_in (by omega) (by omega)
    simp only [x_49_15, x_49_16, x_49_19, x_49_22, x_49_25, x_49_26, x_49_29, x_49_30, x_49_31, x_49_32, x_49_33, x_49_36, x_49_38, x_49_40, x_49_41, x_49_44, x_49_47, x_49_48, x_49_50, x_49_51, x_49_52, x_49_55, x_49_57, x_49_58, x_49_61, x_49_62, x_49_65, x_49_68, x_49_69, x_49_70, x_49_73, x_49_75, x_49_76, x_49_77, x_49_80, x_49_81, x_49_82, x_49_85, x_49_86, x_49_89, x_49_90, x_49_93, x_49_94, x_49_96, x_49_97, x_49_100, x_49_103, x_49_104, x_49_105, x_49_106, hkJK_1, hkJK_10, hkJK_11, jA_10_3, jA_10_4, jL_11, jR_10_3, jR_10_4, hkP1_0, hkP1_2, hkP1_u, hkC8, List.map_cons, List.map_nil, List.sum_cons, List.sum_nil, hkCat_0, hkCat_1, hkCat_2, Nat.reduceAdd, Nat.reduceLeDiff, hkPush_s, hkPush_n, true_and, and_true, implies_true, true_implies, not_true_eq_false, not_false_eq_true, false_implies, hkTf_0, hkTf_n1, hkOr01, hkOr11, Int.reduceEq, Int.reduceLT, Int.reduceLE, hk102a, hk102b, hk102c, Nat.reduceEqDiff, or_true, true_or, or_false, false_or, and_false, false_and, Classical.not_not, true_implies, List.set_cons_zero, List.set_cons_succ, ne_eq, hkSet_rd, hkCpy_rd, hkFil_rd, if_true, if_false, Int.reduceEq, false_and, true_and, hkLe_t ht, h1, h2, h3 r hrR, hk, sx_beadOf, eb, eo, em, eo2, et2, h5, h6, ne_eq]
    have KK : ∀ g1 : hkG, g1 10 0 = trSg f R N r * trE R (trO f R N r) → g1 10 1 = trT f R N (r + 1) → (∀ q : Int, q ≠ 10 → q ≠ 11 → g1 q = g q) → (∀ a : Nat, a < r → g1 11 a = trB f R N a) → g1 11 r = trB f R N r →
        Xp 49 (d + 1) 108 [(2, 10), (2, p), (0, trW f R N r), (0, (r : Int)), (0, f r + R - 1 - r), (0, trO f R N r), (0, ((0 : Nat) : Int))] [] t g1 Q := by
      intro g1 a1 a2 a3 a4 a5
      refine l_trIn ht hb hrR (s0 := trSg f R N r * trE R (trO f R N r)) (sg3_mul hS hE) r 0 g1 Q (by omega) a4 a5 (by rw [a1]; show _ = _ * (1 : Int); omega) (fun g2 c1 c2 => ?_)
      have c3 : ∀ q : Int, q ≠ 10 → g2 q = g1 q := fun q hq => by funext i; exact c2 q i (fun h => hq h.1)
      have h11 : g2 11 r = trB f R N r := by rw [c3 11 (by decide)]; exact a5
      simp only [x_49_145, x_49_146, x_49_147, x_49_148, x_49_151, x_49_152, x_49_153, x_49_154, x_49_155, x_49_156, x_49_159, hkJK_1, hkJK_10, hkJK_11, jA_10_3, jA_10_4, jL_11, jR_10_3, jR_10_4, hkP1_0, hkP1_2, hkP1_u, hkC8, List.map_cons, List.map_nil, List.sum_cons, List.sum_nil, hkCat_0, hkCat_1, hkCat_2, Nat.reduceAdd, Nat.reduceLeDiff, hkPush_s, hkPush_n, true_and, and_true, implies_true, true_implies, not_true_eq_false, not_false_eq_true, false_implies, hkTf_0, hkTf_n1, hkOr01, hkOr11, Int.reduceEq, Int.reduceLT, Int.reduceLE, hk102a, hk102b, hk102c, Nat.reduceEqDiff, or_true, true_or, or_false, false_or, and_false, false_and, Classical.not_not, true_implies, List.set_cons_zero, List.set_cons_succ, ne_eq, hkLe_t ht, h11]
      rw [hkW_in (x := (r : Int) + 1) (by omega) (by omega), show (r : Int) + 1 = ((r + 1 : Nat) : Int) from by omega]
      refine ⟨⟨by omega, by omega⟩, ?_⟩
      refine ih (r + 1) g2 _ _ _ Q (by omega) (by unfold hkP1; simp) (by unfold hkP1; simp) (by unfold hkP1; simp) (by rw [c3 1 (by decide), a3 1 (by decide) (by decide)]; exact h1) (by rw [c3 1 (by decide), a3 1 (by decide) (by decide)]; exact h2) (fun j hj => by rw [c3 p hp1.1, a3 p hp1.1 hp1.2.1]; exact h3 j hj) (fun a ha => ?_) c1 (by rw [c2 10 1 (by decide)]; exact a2) (fun g3 e1 e2 e3 e4 => hQ g3 e1 e2 (by rw [e3, c3 8 (by decide), a3 8 (by decide) (by decide)]) (fun q hq1 hq2 => by rw [e4 q hq1 hq2, c3 q hq1, a3 q hq1 hq2]))
      by_cases e : a = r
      · rw [e]; exact h11
      · rw [c3 11 (by decide)]; exact a4 a (by omega)
    have er : R.tmod 2 = R % 2 := Int.tmod_eq_emod_of_nonneg (by omega)
    have eor : (trO f R N r).tmod 2 = trO f R N r % 2 := Int.tmod_eq_emod_of_nonneg hO.1
    have K1 : trE R (trO f R N r) = 1 → Xp 49 (d + 1) 108 [(2, 10), (2, p), (0, trW f R N r), (0, (r : Int)), (0, f r + R - 1 - r), (0, trO f R N r), (0, 0)] [] t (hkSet (hkSet g 10 1 (trT f R N r + trO f R N r)) 11 r (trB f R N r)) Q := by
      intro hE1
      refine KK _ ?_ ?_ (fun q hq1 hq2 => by rw [hkSet_row hq2, hkSet_row hq1]) (fun a ha => ?_) ?_
      · simp only [hkSet_rd, hkCpy_rd, hkFil_rd, if_true, if_false, Int.reduceEq, false_and, true_and]; rw [hE1, Int.mul_one]; exact h5
      · simp only [hkSet_rd, hkCpy_rd, hkFil_rd, if_true, if_false, Int.reduceEq, false_and, true_and, and_self]; rfl
      · simp only [hkSet_rd, hkCpy_rd, hkFil_rd, if_true, if_false, Int.reduceEq, false_and, true_and]; rw [if_neg (by omega)]; exact h4 a ha
      · simp only [hkSet_rd, hkCpy_rd, hkFil_rd, if_true, if_false, Int.reduceEq, false_and, true_and, and_self]
    have K2 : trE R (trO f R N r) = -1 → Xp 49 (d + 1) 108 [(2, 10), (2, p), (0, trW f R N r), (0, (r : Int)), (0, f r + R - 1 - r), (0, trO f R N r), (0, 0)] [] t (hkSet (hkSet (hkSet g 10 1 (trT f R N r + trO f R N r)) 10 0 (hkW (-trSg f R N r))) 11 r (trB f R N r)) Q := by
      intro hE1
      refine KK _ ?_ ?_ (fun q hq1 hq2 => by rw [hkSet_row hq2, hkSet_row hq1, hkSet_row hq1]) (fun a ha => ?_) ?_
      · simp only [hkSet_rd, hkCpy_rd, hkFil_rd, if_true, if_false, Int.reduceEq, false_and, true_and, and_self]; rw [hE1, hkW_in (by omega) (by omega)]; omega
      · simp only [hkSet_rd, hkCpy_rd, hkFil_rd, if_true, if_false, Int.reduceEq, false_and, true_and, and_self]; rfl
      · simp only [hkSet_rd, hkCpy_rd, hkFil_rd, if_true, if_false, Int.reduceEq, false_and, true_and]; rw [if_neg (by omega)]; exact h4 a ha
      · simp only [hkSet_rd, hkCpy_rd, hkFil_rd, if_true, if_false, Int.reduceEq, false_and, true_and, and_self]
    refine ⟨fun h => by omega, fun _ => ⟨⟨by omega, by omega⟩, by omega, fun h => ⟨by omega, ⟨by omega, by omega⟩, K1 ?_⟩, fun h => ⟨fun h9 => ⟨by omega, ⟨by omega, by omega⟩, K1 ?_⟩, fun h9 => ⟨by omega, ⟨by omega, by omega⟩, K2 ?_⟩⟩⟩⟩
    · unfold trE; rw [if_neg]; rw [er] at h; omega
    · unfold trE; rw [if_neg]; rw [eor] at h9; omega
    · unfold trE; rw [if_pos]; rw [er] at h; rw [eor] at h9; omega
theorem sx_takeRound (ht : 23 ≤ t) {f : Int → Int} {p : Int} (hk : hkJK p = 100) (hL : R ≤ jL p) (hp1 : p ≠ 10 ∧ p ≠ 11 ∧ p ≠ 1 ∧ p ≠ 8) (hb : bxOk R N) (hf : ∀ j : Nat, (j : Int) < R → 0 ≤ f j ∧ f j ≤ 40) (h1 : g 1 0 = R) (h2 : g 1 1 = N) (h3 : ∀ j : Nat, (j : Int) < R → g p j = f j)
    (hQ : ∀ g' : hkG, g' 10 0 = trSg f R N R.toNat → g' 10 1 = trT f R N R.toNat → g' 10 2 = (if trSg f R N R.toNat = 0 then -1 else g 8 (trW f R N R.toNat)) → (∀ q : Int, q ≠ 10 → q ≠ 11 → g' q = g q) → Q none t g') : Xp 49 (d + 1) 0 [(2, 10), (2, p), hkU, hkU, hkU, hkU, hkU] [] t g Q := by
  simp only [x_49_0, x_49_1, x_49_2, x_49_5, x_49_6, x_49_7, x_49_10, x_49_11, x_49_12, x_49_13, hkJK_1, hkJK_10, hkJK_11, jA_10_3, jA_10_4, jL_11, jR_10_3, jR_10_4, hkP1_0, hkP1_2, hkP1_u, hkC8, List.map_cons, List.map_nil, List.sum_cons, List.sum_nil, hkCat_0, hkCat_1, hkCat_2, Nat.reduceAdd, Nat.reduceLeDiff, hkPush_s, hkPush_n, true_and, and_true, implies_true, true_implies, not_true_eq_false, not_false_eq_true, false_implies, hkTf_0, hkTf_n1, hkOr01, hkOr11, Int.reduceEq, Int.reduceLT, Int.reduceLE, hk102a, hk102b, hk102c, Nat.reduceEqDiff, or_true, true_or, or_false, false_or, and_false, false_and, Classical.not_not, true_implies, List.set_cons_zero, List.set_cons_succ, ne_eq]
  refine l_trOut ht hk hL hp1 hb hf R.toNat 0 _ hkU hkU hkU Q (by have := hb.1; omega) (by rw [hkP1_u]; trivial) (by rw [hkP1_u]; trivial) (by rw [hkP1_u]; trivial) ?_ ?_ (fun j hj => ?_) (fun a ha => by omega) ?_ ?_ (fun g' a1 a2 a3 a4 => hQ g' a1 a2 ?_ (fun q hq1 hq2 => ?_))
  · simp only [hkSet_rd, hkCpy_rd, hkFil_rd, if_true, if_false, Int.reduceEq, false_and, true_and]; exact h1
  · simp only [hkSet_rd, hkCpy_rd, hkFil_rd, if_true, if_false, Int.reduceEq, false_and, true_and]; exact h2
  · rw [hkSet_row hp1.1, hkSet_row hp1.1]; exact h3 j hj
  · simp only [hkSet_rd, hkCpy_rd, hkFil_rd, if_true, if_false, Int.reduceEq, false_and, true_and, and_self]; rfl
  · simp only [hkSet_rd, hkCpy_rd, hkFil_rd, if_true, if_false, Int.reduceEq, false_and, true_and, and_self]; rfl
  · rw [a3, hkSet_row (by decide), hkSet_row (by decide)]
  · rw [a4 q hq1 hq2, hkSet_row hq1, hkSet_row hq1]
end SP
