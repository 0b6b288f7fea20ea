/-! the reference: rows taken round -/
theorem trCol : ∀ a : Nat, a < 128 → ∀ c : Nat, c < 7 → ∀ b : Nat, b < 7 → (hkAnd (hkShr (hkOr (a : Int) (hkShl 1 (c : Int))) (b : Int)) 1 = 1 ↔ (hkAnd (hkShr (a : Int) (b : Int)) 1 = 1 ∨ c = b)) := by decide +kernel
theorem trCol0 : ∀ b : Nat, b < 7 → ¬ hkAnd (hkShr 0 (b : Int)) 1 = 1 := by decide +kernel
theorem trHit {f : Int → Int} {R N b : Int} (hb : bxOk R N) (h0 : 0 ≤ b ∧ b < 7) : ∀ k : Nat, (hkAnd (hkShr (trW f R N k) b) 1 = 1 ↔ ∃ j : Nat, j < k ∧ trB f R N j = b) := by
  intro k
  have eb : ((b.toNat : Nat) : Int) = b := by omega
  induction k with
  | zero =>
    have := trCol0 b.toNat (by omega)
    rw [eb] at this
    exact ⟨fun h => absurd h this, fun ⟨j, hj, _⟩ => by omega⟩
  | succ k ih =>
    have hw := trW_rng (f := f) hb k
    have hB := trB_rng (f := f) (k := k) hb
    have h7 := hb.2.2.2
    have := trCol (trW f R N k).toNat (by omega) (trB f R N k).toNat (by omega) b.toNat (by omega)
    rw [show (((trW f R N k).toNat : Nat) : Int) = trW f R N k from by omega, show (((trB f R N k).toNat : Nat) : Int) = trB f R N k from by omega, eb] at this
    show hkAnd (hkShr (hkOr (trW f R N k) (hkShl 1 (trB f R N k))) b) 1 = 1 ↔ _
    refine this.trans ((or_congr ih Iff.rfl).trans ?_)
    constructor
    · rintro (⟨j, hj, hj2⟩ | h)
      · exact ⟨j, by omega, hj2⟩
      · exact ⟨k, by omega, by omega⟩
    · rintro ⟨j, hj, hj2⟩
      by_cases e : j = k
      · subst e; exact Or.inr (by omega)
      · exact Or.inl ⟨j, by omega, hj2⟩
theorem trP_hit {f : Int → Int} {R N b : Int} : ∀ k : Nat, (∃ j : Nat, j < k ∧ trB f R N j = b) → trP f R N b k = 0 := by
  intro k
  induction k with
  | zero => rintro ⟨j, hj, _⟩; omega
  | succ k ih =>
    rintro ⟨j, hj, hj2⟩
    unfold trP
    by_cases e : j = k
    · subst e
      rw [hj2]
      have : hkCmp b b = 0 := by unfold hkCmp; rw [if_neg (by omega), if_pos rfl]
      rw [this, Int.mul_zero]
    · rw [ih ⟨j, by omega, hj2⟩, Int.zero_mul]
theorem trSg_zero {f : Int → Int} {R N : Int} {k : Nat} (h : trSg f R N k = 0) : ∀ m : Nat, trSg f R N (k + m) = 0 := by
  intro m
  induction m with
  | zero => exact h
  | succ m ih =>
    show trSg f R N (k + m) * _ * _ = 0
    rw [ih, Int.zero_mul, Int.zero_mul]
theorem trE_s {R : Int} {m : Nat} : trE R ((m + 1 : Nat) : Int) = (if R % 2 = 0 then -1 else 1) * trE R m := by
  unfold trE
  by_cases h : R % 2 = 0
  · by_cases h2 : (m : Int) % 2 = 0
    · rw [if_pos h, if_pos ⟨h, by omega⟩, if_neg (by omega)]; decide
    · rw [if_pos h, if_neg (by omega), if_pos ⟨h, h2⟩]; decide
  · rw [if_neg h, if_neg (by omega), if_neg (by omega)]; decide
section SP
variable {t d : Nat} {g : hkG} {Q : Option hkV → Nat → hkG → Prop} {R N : Int}
theorem l_mtrW (ht : 190 ≤ t) {v4 : hkV} {w : Int} {r : Nat} (hb : bxOk R N) (hr : (r : Int) < R) : ∀ (m : Nat) (x s u : Int) (g : hkG) (Q : Option hkV → Nat → hkG → Prop), x / N = m → 0 ≤ x → x ≤ 60 → sg3 s → 0 ≤ u → u + m ≤ 1000 → g 66 0 = R → g 66 1 = N → g 75 r = x → g 66 16 = s → g 66 17 = u →
    (∀ g' : hkG, g' 75 r = x % N → g' 66 16 = s * trE R m → g' 66 17 = u + m → (∀ q : Int, q ≠ 66 → q ≠ 75 → g' q = g q) → (∀ i : Int, i ≠ 16 → i ≠ 17 → g' 66 i = g 66 i) → (∀ i : Int, i ≠ r → g' 75 i = g 75 i) → Xp 125 d 104 [(2, 66), (2, 78), (0, w), (0, (r : Int)), v4] [] t g' Q) →
    Xp 125 d 40 [(2, 66), (2, 78), (0, w), (0, (r : Int)), v4] [] t g Q := by
  obtain ⟨b1, b2, b3, b4⟩ := id hb
  intro m
  induction m with
  | zero =>
    intro x s u g Q hm hx0 hx1 hs hu0 hu1 h1 h2 h3 h4 h5 hQ
    have hlt : x < N := by
      rcases Int.lt_or_le x N with h | h
      · exact h
      · have : 1 ≤ x / N := Int.le_ediv_of_mul_le (by omega) (by omega)
        omega
    rw [x_125_40]
    simp only [x_125_41, x_125_44, x_125_45, x_125_46, x_125_47, x_125_50, hkJK_66, hkJK_68, hkJK_75, jA_66_15, jA_66_4, jL_68, jL_75, jR_66_15, jR_66_4, hkP1_0, hkP1_2, hkP1_u, hkC8, List.map_cons, List.map_nil, List.sum_cons, List.sum_nil, hkCat_0, hkCat_1, hkCat_2, Nat.reduceAdd, Nat.reduceLeDiff, hkPush_s, hkPush_n, true_and, and_true, implies_true, true_implies, not_true_eq_false, not_false_eq_true, false_implies, hkTf_0, hkTf_n1, hkOr01, hkOr11, Int.reduceEq, Int.reduceLT, Int.reduceLE, hk102a, hk102b, hk102c, Nat.reduceEqDiff, or_true, true_or, or_false, false_or, and_false, false_and, Classical.not_not, true_implies, List.set_cons_zero, List.set_cons_succ, ne_eq, hkLe_t ht, h2, h3]
    refine ⟨⟨by omega, by omega⟩, fun _ => hQ g ?_ ?_ ?_ (fun _ _ _ => rfl) (fun _ _ _ => rfl) (fun _ _ => rfl), fun h => absurd hlt h⟩
    · rw [h3, Int.emod_eq_of_lt hx0 hlt]
    · rw [h4]; unfold trE; rw [if_neg (by omega)]; omega
    · rw [h5]; omega
  | succ m ih =>
    intro x s u g Q hm hx0 hx1 hs hu0 hu1 h1 h2 h3 h4 h5 hQ
    have hge : N ≤ x := by
      rcases Int.lt_or_le x N with h | h
      · have := Int.ediv_eq_zero_of_lt hx0 h
        omega
      · exact h
    have hdiv : (x - N) / N = m := by
      have : (x - N + N * 1) / N = (x - N) / N + 1 := Int.add_mul_ediv_left _ _ (by omega)
      rw [show x - N + N * 1 = x from by omega] at this
      omega
    have hmod : (x - N) % N = x % N := by
      have : (x - N + N * 1) % N = (x - N) % N := Int.add_mul_emod_self_left _ _ _
      rw [show x - N + N * 1 = x from by omega] at this
      omega
    have er : R.tmod 2 = R % 2 := Int.tmod_eq_emod_of_nonneg (by omega)
    have S1 := sg3_rng hs
    have ex : hkW (x - N) = x - N := hkW_in (by omega) (by omega)
    have eu : hkW (u + 1) = u + 1 := hkW_in (by omega) (by omega)
    have es : hkW (-s) = -s := hkW_in (by omega) (by omega)
    rw [x_125_40]
    simp only [x_125_41, x_125_44, x_125_45, x_125_46, x_125_47, x_125_50, x_125_53, x_125_54, x_125_57, x_125_58, x_125_59, x_125_60, x_125_61, x_125_64, x_125_65, x_125_66, x_125_67, x_125_68, x_125_71, x_125_72, x_125_73, x_125_76, x_125_77, x_125_78, x_125_81, x_125_82, x_125_83, x_125_86, x_125_87, x_125_90, x_125_91, x_125_94, x_125_95, x_125_98, x_125_101, hkJK_66, hkJK_68, hkJK_75, jA_66_15, jA_66_4, jL_68, jL_75, jR_66_15, jR_66_4, hkP1_0, hkP1_2, hkP1_u, hkC8, List.map_cons, List.map_nil, List.sum_cons, List.sum_nil, hkCat_0, hkCat_1, hkCat_2, Nat.reduceAdd, Nat.reduceLeDiff, hkPush_s, hkPush_n, true_and, and_true, implies_true, true_implies, not_true_eq_false, not_false_eq_true, false_implies, hkTf_0, hkTf_n1, hkOr01, hkOr11, Int.reduceEq, Int.reduceLT, Int.reduceLE, hk102a, hk102b, hk102c, Nat.reduceEqDiff, or_true, true_or, or_false, false_or, and_false, false_and, Classical.not_not, true_implies, List.set_cons_zero, List.set_cons_succ, ne_eq, hkSet_rd, hkCpy_rd, hkFil_rd, if_true, if_false, Int.reduceEq, false_and, true_and, hkLe_t ht, h1, h2, h3, h4, h5, ex, eu, es, er]
    clear ex eu es er
    have KK : ∀ s' : Int, s' = (if R % 2 = 0 then -1 else 1) * s → Xp 125 d 40 [(2, 66), (2, 78), (0, w), (0, (r : Int)), v4] [] t (hkSet (hkSet (hkSet g 75 r (x - N)) 66 17 (u + 1)) 66 16 s') Q := by
      intro s' hs'
      have hss : sg3 s' := by rw [hs']; exact sg3_mul (by unfold sg3; split <;> omega) hs
      refine ih (x - N) s' (u + 1) _ Q hdiv (by omega) (by omega) hss (by omega) (by omega) ?_ ?_ ?_ ?_ ?_ (fun g' a1 a2 a3 a4 a5 a6 => hQ g' ?_ ?_ ?_ (fun q q1 q2 => ?_) (fun i i1 i2 => ?_) (fun i i1 => ?_))
      · simp only [hkSet_rd, hkCpy_rd, hkFil_rd, if_true, if_false, Int.reduceEq, false_and, true_and]; exact h1
      · simp only [hkSet_rd, hkCpy_rd, hkFil_rd, if_true, if_false, Int.reduceEq, false_and, true_and]; exact h2
      · simp only [hkSet_rd, hkCpy_rd, hkFil_rd, if_true, if_false, Int.reduceEq, false_and, true_and, and_self]
      · simp only [hkSet_rd, hkCpy_rd, hkFil_rd, if_true, if_false, Int.reduceEq, false_and, true_and, and_self]
      · simp only [hkSet_rd, hkCpy_rd, hkFil_rd, if_true, if_false, Int.reduceEq, false_and, true_and, and_self]
      · rw [a1, hmod]
      · rw [a2, hs', trE_s]
        rw [Int.mul_comm _ s, Int.mul_assoc]
      · rw [a3]; omega
      · rw [a4 q q1 q2, hkSet_row q1, hkSet_row q1, hkSet_row q2]
      · rw [a5 i i1 i2]; simp only [hkSet_rd, hkCpy_rd, hkFil_rd, if_true, if_false, Int.reduceEq, false_and, true_and, i1, i2, and_false]
      · rw [a6 i i1]; simp only [hkSet_rd, hkCpy_rd, hkFil_rd, if_true, if_false, Int.reduceEq, false_and, true_and, i1, and_false]
    refine ⟨⟨by omega, by omega⟩, fun h => by omega, fun _ => ⟨⟨by omega, by omega⟩, ⟨by omega, by omega⟩, fun h => KK s ?_, fun h => KK (-s) ?_⟩⟩
    · rw [if_neg h]; omega
    · rw [if_pos h]; omega
theorem l_mtrK (ht : 190 ≤ t) {f : Int → Int} {w : Int} {r : Nat} (hb : bxOk R N) (hr : (r : Int) < R) (hno : ∀ j : Nat, j < r → trB f R N j ≠ trB f R N r) {s0 : Int} (hs0 : sg3 s0) : ∀ (m j : Nat) (g : hkG) (Q : Option hkV → Nat → hkG → Prop), j + m = r → (∀ a : Nat, a < r → g 75 a = trB f R N a) → g 75 r = trB f R N r → g 66 16 = s0 * trP f R N (trB f R N r) j →
    (∀ g' : hkG, g' 66 16 = s0 * trP f R N (trB f R N r) r → (∀ q i : Int, ¬ (q = 66 ∧ i = 16) → g' q i = g q i) → Xp 125 d 182 [(2, 66), (2, 78), (0, w), (0, (r : Int)), (0, (r : Int))] [] t g' Q) →
    Xp 125 d 138 [(2, 66), (2, 78), (0, w), (0, (r : Int)), (0, (j : Int))] [] t g Q := by
  obtain ⟨b1, b2, b3, b4⟩ := id hb
  intro m
  induction m with
  | zero =>
    intro j g Q hj h1 h2 h3 hQ
    rw [show j = r from by omega] at h3 ⊢
    rw [x_125_138]
    simp only [x_125_140, x_125_141, hkJK_66, hkJK_68, hkJK_75, jA_66_15, jA_66_4, jL_68, jL_75, jR_66_15, jR_66_4, hkP1_0, hkP1_2, hkP1_u, hkC8, List.map_cons, List.map_nil, List.sum_cons, List.sum_nil, hkCat_0, hkCat_1, hkCat_2, Nat.reduceAdd, Nat.reduceLeDiff, hkPush_s, hkPush_n, true_and, and_true, implies_true, true_implies, not_true_eq_false, not_false_eq_true, false_implies, hkTf_0, hkTf_n1, hkOr01, hkOr11, Int.reduceEq, Int.reduceLT, Int.reduceLE, hk102a, hk102b, hk102c, Nat.reduceEqDiff, or_true, true_or, or_false, false_or, and_false, false_and, Classical.not_not, true_implies, List.set_cons_zero, List.set_cons_succ, ne_eq]
    exact ⟨fun _ => hQ g h3 (fun _ _ _ => rfl), fun h => absurd (Int.le_refl _) h⟩
  | succ m ih =>
    intro j g Q hj h1 h2 h3 hQ
    have e := sg3_mul hs0 (sg3_P f R N (trB f R N r) j)
    have e3 := sg3_rng e
    have en : hkW (-(s0 * trP f R N (trB f R N r) j)) = -(s0 * trP f R N (trB f R N r) j) := hkW_in (by omega) (by omega)
    rw [x_125_138]
    simp only [x_125_140, x_125_141, x_125_144, x_125_145, x_125_146, x_125_149, x_125_151, x_125_152, x_125_153, x_125_156, x_125_157, x_125_158, x_125_161, x_125_162, x_125_165, x_125_166, x_125_169, x_125_170, x_125_173, x_125_176, x_125_179, hkJK_66, hkJK_68, hkJK_75, jA_66_15, jA_66_4, jL_68, jL_75, jR_66_15, jR_66_4, hkP1_0, hkP1_2, hkP1_u, hkC8, List.map_cons, List.map_nil, List.sum_cons, List.sum_nil, hkCat_0, hkCat_1, hkCat_2, Nat.reduceAdd, Nat.reduceLeDiff, hkPush_s, hkPush_n, true_and, and_true, implies_true, true_implies, not_true_eq_false, not_false_eq_true, false_implies, hkTf_0, hkTf_n1, hkOr01, hkOr11, Int.reduceEq, Int.reduceLT, Int.reduceLE, hk102a, hk102b, hk102c, Nat.reduceEqDiff, or_true, true_or, or_false, false_or, and_false, false_and, Classical.not_not, true_implies, List.set_cons_zero, List.set_cons_succ, ne_eq, hkLe_t ht, h1 j (by omega), h2, h3, en]
    clear en
    rw [hkW_in (x := (j : Int) + 1) (by omega) (by omega), show (j : Int) + 1 = ((j + 1 : Nat) : Int) from by omega]
    have KK : ∀ s' : Int, s' = s0 * trP f R N (trB f R N r) j * hkCmp (trB f R N j) (trB f R N r) → Xp 125 d 138 [(2, 66), (2, 78), (0, w), (0, (r : Int)), (0, ((j + 1 : Nat) : Int))] [] t (hkSet g 66 16 s') Q := by
      intro s' hs'
      refine ih (j + 1) _ Q (by omega) (fun a ha => by rw [hkSet_row (by decide)]; exact h1 a ha) (by rw [hkSet_row (by decide)]; exact h2) (by rw [hkSet_rd, if_pos ⟨rfl, rfl⟩, hs', Int.mul_assoc]; rfl) (fun g' k1 k2 => hQ g' k1 (fun q i h => by rw [k2 q i h, hkSet_rd, if_neg h]))
    have hne := hno j (by omega)
    refine ⟨fun h => by omega, fun _ => ⟨⟨by omega, by omega⟩, ⟨by omega, by omega⟩, fun h => KK _ ?_, fun h => KK _ ?_⟩⟩
    · have : hkCmp (trB f R N j) (trB f R N r) = 1 := by unfold hkCmp; rw [if_neg (by omega), if_neg hne]
      rw [this, Int.mul_one]
    · have : hkCmp (trB f R N j) (trB f R N r) = -1 := by unfold hkCmp; rw [if_pos (by omega)]
      rw [this]; omega
theorem l_mtrOut (ht : 190 ≤ t) {f : Int → Int} (hb : bxOk R N) (hf : ∀ j : Nat, (j : Int) < R → 0 ≤ f j ∧ f j ≤ 40) : ∀ (m r : Nat) (g : hkG) (v4 : hkV) (Q : Option hkV → Nat → hkG → Prop), r + m = R → hkP1 v4 → g 66 0 = R → g 66 1 = N → (∀ j : Nat, (j : Int) < R → g 78 j = f j) → (∀ a : Nat, a < r → g 75 a = trB f R N a) → g 66 16 = trSg f R N r → g 66 17 = trT f R N r →
    (∀ g' : hkG, g' 66 16 = trSg f R N R.toNat → (trSg f R N R.toNat ≠ 0 → g' 66 17 = trT f R N R.toNat ∧ g' 66 18 = g 68 (trW f R N R.toNat)) → (∀ q : Int, q ≠ 66 → q ≠ 75 → g' q = g q) → (∀ i : Int, i ≠ 16 → i ≠ 17 → i ≠ 18 → g' 66 i = g 66 i) → Q none t g') →
    Xp 125 d 14 [(2, 66), (2, 78), (0, trW f R N r), (0, (r : Int)), v4] [] t g Q := by
  obtain ⟨b1, b2, b3, b4⟩ := id hb
  intro m
  induction m with
  | zero =>
    intro r g v4 Q hr hv4 h1 h2 h3 h4 h5 h6 hQ
    have hrR : R.toNat = r := by omega
    have hw := trW_rng (f := f) hb r
    rw [hrR] at hQ
    rw [x_125_14]
    simp only [x_125_15, x_125_16, x_125_19, hkJK_66, hkJK_68, hkJK_75, jA_66_15, jA_66_4, jL_68, jL_75, jR_66_15, jR_66_4, hkP1_0, hkP1_2, hkP1_u, hkC8, List.map_cons, List.map_nil, List.sum_cons, List.sum_nil, hkCat_0, hkCat_1, hkCat_2, Nat.reduceAdd, Nat.reduceLeDiff, hkPush_s, hkPush_n, true_and, and_true, implies_true, true_implies, not_true_eq_false, not_false_eq_true, false_implies, hkTf_0, hkTf_n1, hkOr01, hkOr11, Int.reduceEq, Int.reduceLT, Int.reduceLE, hk102a, hk102b, hk102c, Nat.reduceEqDiff, or_true, true_or, or_false, false_or, and_false, false_and, Classical.not_not, true_implies, List.set_cons_zero, List.set_cons_succ, ne_eq, h1]
    refine ⟨fun _ => ?_, fun h => absurd (by omega) h⟩
    simp only [x_125_188, x_125_189, x_125_190, x_125_193, x_125_194, x_125_195, x_125_198, hkJK_66, hkJK_68, hkJK_75, jA_66_15, jA_66_4, jL_68, jL_75, jR_66_15, jR_66_4, hkP1_0, hkP1_2, hkP1_u, hkC8, List.map_cons, List.map_nil, List.sum_cons, List.sum_nil, hkCat_0, hkCat_1, hkCat_2, Nat.reduceAdd, Nat.reduceLeDiff, hkPush_s, hkPush_n, true_and, and_true, implies_true, true_implies, not_true_eq_false, not_false_eq_true, false_implies, hkTf_0, hkTf_n1, hkOr01, hkOr11, Int.reduceEq, Int.reduceLT, Int.reduceLE, hk102a, hk102b, hk102c, Nat.reduceEqDiff, or_true, true_or, or_false, false_or, and_false, false_and, Classical.not_not, true_implies, List.set_cons_zero, List.set_cons_succ, ne_eq, hkLe_t ht]
    refine ⟨hw, hQ _ ?_ (fun _ => ⟨?_, ?_⟩) (fun q q1 q2 => hkSet_row q1) (fun i i1 i2 i3 => ?_)⟩
    · simp only [hkSet_rd, hkCpy_rd, hkFil_rd, if_true, if_false, Int.reduceEq, false_and, true_and, and_false]; exact h5
    · simp only [hkSet_rd, hkCpy_rd, hkFil_rd, if_true, if_false, Int.reduceEq, false_and, true_and, and_false]; exact h6
    · simp only [hkSet_rd, hkCpy_rd, hkFil_rd, if_true, if_false, Int.reduceEq, false_and, true_and, and_self]
    · simp only [hkSet_rd, hkCpy_rd, hkFil_rd, if_true, if_false, Int.reduceEq, false_and, true_and, i3, and_false]
  | succ m ih =>
    intro r g v4 Q hr hv4 h1 h2 h3 h4 h5 h6 hQ
    have hrR : (r : Int) < R := by omega
    have hfr := hf r hrR
    have hO := trO_rng hb hrR hfr
    have hB := trB_rng (f := f) (k := r) hb
    have hT := trT_rng hb hf r (by omega)
    have hS := sg3_S f R N r
    have hw := trW_rng (f := f) hb r
    have e1 : hkW (f r + R) = f r + R := hkW_in (by omega) (by omega)
    have e2 : hkW (f r + R - 1) = f r + R - 1 := hkW_in (by omega) (by omega)
    have e3 : hkW (f r + R - 1 - r) = f r + R - 1 - r := hkW_in (by omega) (by omega)
    rw [x_125_14]
    simp only [x_125_15, x_125_16, x_125_19, x_125_22, x_125_23, x_125_26, x_125_27, x_125_28, x_125_29, x_125_30, x_125_31, x_125_34, x_125_35, x_125_36, x_125_37, x_125_38, x_125_39, hkJK_66, hkJK_68, hkJK_75, jA_66_15, jA_66_4, jL_68, jL_75, jR_66_15, jR_66_4, hkP1_0, hkP1_2, hkP1_u, hkC8, List.map_cons, List.map_nil, List.sum_cons, List.sum_nil, hkCat_0, hkCat_1, hkCat_2, Nat.reduceAdd, Nat.reduceLeDiff, hkPush_s, hkPush_n, true_and, and_true, implies_true, true_implies, not_true_eq_false, not_false_eq_true, false_implies, hkTf_0, hkTf_n1, hkOr01, hkOr11, Int.reduceEq, Int.reduceLT, Int.reduceLE, hk102a, hk102b, hk102c, Nat.reduceEqDiff, or_true, true_or, or_false, false_or, and_false, false_and, Classical.not_not, true_implies, List.set_cons_zero, List.set_cons_succ, ne_eq, hkLe_t ht, h1, h3 r hrR, e1, e2, e3, hkJK_78, jL_78]
    clear e1 e2 e3
    refine ⟨fun h => by omega, fun _ => ⟨⟨by omega, by omega⟩, ⟨by omega, by omega⟩, ?_⟩⟩
    refine l_mtrW ht hb hrR (trO f R N r).toNat (f r + R - 1 - r) (trSg f R N r) (trT f R N r) _ Q (by unfold trO at *; omega) (by omega) (by omega) hS hT.1 (by omega) ?_ ?_ ?_ ?_ ?_ (fun g1 c1 c2 c3 c4 c5 c6 => ?_)
    · simp only [hkSet_rd, hkCpy_rd, hkFil_rd, if_true, if_false, Int.reduceEq, false_and, true_and]; exact h1
    · simp only [hkSet_rd, hkCpy_rd, hkFil_rd, if_true, if_false, Int.reduceEq, false_and, true_and]; exact h2
    · simp only [hkSet_rd, hkCpy_rd, hkFil_rd, if_true, if_false, Int.reduceEq, false_and, true_and, and_self]
    · simp only [hkSet_rd, hkCpy_rd, hkFil_rd, if_true, if_false, Int.reduceEq, false_and, true_and]; exact h5
    · simp only [hkSet_rd, hkCpy_rd, hkFil_rd, if_true, if_false, Int.reduceEq, false_and, true_and]; exact h6
    have eO : (((trO f R N r).toNat : Nat) : Int) = trO f R N r := by omega
    rw [eO] at c2 c3
    have d1 : g1 75 r = trB f R N r := c1
    have d2 : ∀ a : Nat, a < r → g1 75 a = trB f R N a := fun a ha => by
      rw [c6 a (by omega), hkSet_rd, if_neg (by omega)]; exact h4 a ha
    have d3 : ∀ q : Int, q ≠ 66 → q ≠ 75 → g1 q = g q := fun q q1 q2 => by rw [c4 q q1 q2]; exact hkSet_row q2
    have d4 : ∀ i : Int, i ≠ 16 → i ≠ 17 → g1 66 i = g 66 i := fun i i1 i2 => by rw [c5 i i1 i2, hkSet_row (by decide)]
    simp only [x_125_104, x_125_105, x_125_106, x_125_109, x_125_110, x_125_111, x_125_112, x_125_113, x_125_114, x_125_115, x_125_118, x_125_119, x_125_120, x_125_123, hkJK_66, hkJK_68, hkJK_75, jA_66_15, jA_66_4, jL_68, jL_75, jR_66_15, jR_66_4, hkP1_0, hkP1_2, hkP1_u, hkC8, List.map_cons, List.map_nil, List.sum_cons, List.sum_nil, hkCat_0, hkCat_1, hkCat_2, Nat.reduceAdd, Nat.reduceLeDiff, hkPush_s, hkPush_n, true_and, and_true, implies_true, true_implies, not_true_eq_false, not_false_eq_true, false_implies, hkTf_0, hkTf_n1, hkOr01, hkOr11, Int.reduceEq, Int.reduceLT, Int.reduceLE, hk102a, hk102b, hk102c, Nat.reduceEqDiff, or_true, true_or, or_false, false_or, and_false, false_and, Classical.not_not, true_implies, List.set_cons_zero, List.set_cons_succ, ne_eq, x_125_124, x_125_125, x_125_126, x_125_127, x_125_130, x_125_131, x_125_132, x_125_133, x_125_134, x_125_135, x_125_136, hkJK_66, hkJK_68, hkJK_75, jA_66_15, jA_66_4, jL_68, jL_75, jR_66_15, jR_66_4, hkP1_0, hkP1_2, hkP1_u, hkC8, List.map_cons, List.map_nil, List.sum_cons, List.sum_nil, hkCat_0, hkCat_1, hkCat_2, Nat.reduceAdd, Nat.reduceLeDiff, hkPush_s, hkPush_n, true_and, and_true, implies_true, true_implies, not_true_eq_false, not_false_eq_true, false_implies, hkTf_0, hkTf_n1, hkOr01, hkOr11, Int.reduceEq, Int.reduceLT, Int.reduceLE, hk102a, hk102b, hk102c, Nat.reduceEqDiff, or_true, true_or, or_false, false_or, and_false, false_and, Classical.not_not, true_implies, List.set_cons_zero, List.set_cons_succ, ne_eq, hkLe_t ht, d1]
    refine ⟨⟨by omega, by omega⟩, fun hno => ?_, fun hhit => ?_⟩
    · have hno' : ∀ j : Nat, j < r → trB f R N j ≠ trB f R N r := fun j hj he => hno ((trHit hb ⟨hB.1, by omega⟩ r).mpr ⟨j, hj, he⟩)
      refine ⟨⟨by omega, by omega⟩, ?_⟩
      refine l_mtrK ht hb hrR hno' (s0 := trSg f R N r * trE R (trO f R N r)) (sg3_mul hS (sg3_E _ _)) r 0 g1 Q (by omega) d2 d1 (by rw [c2]; show _ = _ * (1 : Int); omega) (fun g2 k1 k2 => ?_)
      have k3 : ∀ q : Int, q ≠ 66 → g2 q = g1 q := fun q hq => by funext i; exact k2 q i (fun h => hq h.1)
      simp only [x_125_182, x_125_185, hkJK_66, hkJK_68, hkJK_75, jA_66_15, jA_66_4, jL_68, jL_75, jR_66_15, jR_66_4, hkP1_0, hkP1_2, hkP1_u, hkC8, List.map_cons, List.map_nil, List.sum_cons, List.sum_nil, hkCat_0, hkCat_1, hkCat_2, Nat.reduceAdd, Nat.reduceLeDiff, hkPush_s, hkPush_n, true_and, and_true, implies_true, true_implies, not_true_eq_false, not_false_eq_true, false_implies, hkTf_0, hkTf_n1, hkOr01, hkOr11, Int.reduceEq, Int.reduceLT, Int.reduceLE, hk102a, hk102b, hk102c, Nat.reduceEqDiff, or_true, true_or, or_false, false_or, and_false, false_and, Classical.not_not, true_implies, List.set_cons_zero, List.set_cons_succ, ne_eq]
      rw [hkW_in (x := (r : Int) + 1) (by omega) (by omega), show (r : Int) + 1 = ((r + 1 : Nat) : Int) from by omega]
      refine ih (r + 1) g2 _ Q (by omega) (by unfold hkP1; simp) ?_ ?_ (fun j hj => ?_) (fun a ha => ?_) k1 ?_ (fun g3 e1 e2 e3 e4 => hQ g3 e1 (fun hne => ?_) (fun q q1 q2 => ?_) (fun i i1 i2 i3 => ?_))
      · rw [k2 66 0 (by decide), d4 0 (by decide) (by decide)]; exact h1
      · rw [k2 66 1 (by decide), d4 1 (by decide) (by decide)]; exact h2
      · rw [k3 78 (by decide), d3 78 (by decide) (by decide)]; exact h3 j hj
      · rw [k3 75 (by decide)]
        by_cases e : a = r
        · rw [e]; exact d1
        · exact d2 a (by omega)
      · rw [k2 66 17 (by decide), c3]; rfl
      · refine ⟨(e2 hne).1, ?_⟩
        rw [(e2 hne).2, k3 68 (by decide), d3 68 (by decide) (by decide)]
      · rw [e3 q q1 q2, k3 q q1, d3 q q1 q2]
      · rw [e4 i i1 i2 i3, k2 66 i (fun h => i1 h.2), d4 i i1 i2]
    · have hz : trSg f R N (r + 1) = 0 := by
        show _ * trP f R N (trB f R N r) r = 0
        rw [trP_hit r ((trHit hb ⟨hB.1, by omega⟩ r).mp hhit), Int.mul_zero]
      have hz2 : trSg f R N R.toNat = 0 := by
        have := trSg_zero hz (R.toNat - (r + 1))
        rw [show r + 1 + (R.toNat - (r + 1)) = R.toNat from by omega] at this
        exact this
      refine hQ _ ?_ (fun h => absurd hz2 h) (fun q q1 q2 => by rw [hkSet_row q1, d3 q q1 q2]) (fun i i1 i2 i3 => ?_)
      · simp only [hkSet_rd, hkCpy_rd, hkFil_rd, if_true, if_false, Int.reduceEq, false_and, true_and, and_self]; exact hz2.symm
      · simp only [hkSet_rd, hkCpy_rd, hkFil_rd, if_true, if_false, Int.reduceEq, false_and, true_and, i1, and_false]; exact d4 i i1 i2
theorem sx_mtakesRound (ht : 190 ≤ t) {f : Int → Int} (hb : bxOk R N) (hf : ∀ j : Nat, (j : Int) < R → 0 ≤ f j ∧ f j ≤ 40) (h1 : g 66 0 = R) (h2 : g 66 1 = N) (h3 : ∀ j : Nat, (j : Int) < R → g 78 j = f j)
    (hQ : ∀ g' : hkG, g' 66 16 = trSg f R N R.toNat → (trSg f R N R.toNat ≠ 0 → g' 66 17 = trT f R N R.toNat ∧ g' 66 18 = g 68 (trW f R N R.toNat)) → (∀ q : Int, q ≠ 66 → q ≠ 75 → g' q = g q) → (∀ i : Int, i ≠ 16 → i ≠ 17 → i ≠ 18 → g' 66 i = g 66 i) → Q none t g') : Xp 125 d 0 [(2, 66), (2, 78), hkU, hkU, hkU] [] t g Q := by
  simp only [x_125_0, x_125_1, x_125_2, x_125_5, x_125_6, x_125_7, x_125_10, x_125_11, x_125_12, x_125_13, hkJK_66, hkJK_68, hkJK_75, jA_66_15, jA_66_4, jL_68, jL_75, jR_66_15, jR_66_4, hkP1_0, hkP1_2, hkP1_u, hkC8, List.map_cons, List.map_nil, List.sum_cons, List.sum_nil, hkCat_0, hkCat_1, hkCat_2, Nat.reduceAdd, Nat.reduceLeDiff, hkPush_s, hkPush_n, true_and, and_true, implies_true, true_implies, not_true_eq_false, not_false_eq_true, false_implies, hkTf_0, hkTf_n1, hkOr01, hkOr11, Int.reduceEq, Int.reduceLT, Int.reduceLE, hk102a, hk102b, hk102c, Nat.reduceEqDiff, or_true, true_or, or_false, false_or, and_false, false_and, Classical.not_not, true_implies, List.set_cons_zero, List.set_cons_succ, ne_eq]
  refine l_mtrOut ht hb hf R.toNat 0 _ hkU Q (by have := hb.1; omega) (by rw [hkP1_u]; trivial) ?_ ?_ (fun j hj => ?_) (fun a ha => by omega) ?_ ?_ (fun g' a1 a2 a3 a4 => hQ g' a1 (fun h => ⟨(a2 h).1, ?_⟩) (fun q q1 q2 => ?_) (fun i i1 i2 i3 => ?_))
  · simp only [hkSet_rd, hkCpy_rd, hkFil_rd, if_true, if_false, Int.reduceEq, false_and, true_and]; exact h1
  · simp only [hkSet_rd, hkCpy_rd, hkFil_rd, if_true, if_false, Int.reduceEq, false_and, true_and]; exact h2
  · rw [hkSet_row (by decide), hkSet_row (by decide)]; exact h3 j hj
  · simp only [hkSet_rd, hkCpy_rd, hkFil_rd, if_true, if_false, Int.reduceEq, false_and, true_and, and_self]; rfl
  · simp only [hkSet_rd, hkCpy_rd, hkFil_rd, if_true, if_false, Int.reduceEq, false_and, true_and, and_self]; rfl
  · rw [(a2 h).2, hkSet_row (by decide), hkSet_row (by decide)]
  · rw [a3 q q1 q2, hkSet_row q1, hkSet_row q1]
  · rw [a4 i i1 i2 i3]; simp only [hkSet_rd, hkCpy_rd, hkFil_rd, if_true, if_false, Int.reduceEq, false_and, true_and, i1, i2, and_false]
end SP
