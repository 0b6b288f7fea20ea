/-! ties: number -/
theorem nb_all {R N : Int} (hb : bxOk R N) {m n : Nat} (hm : (m : Int) ≤ R) (hn : n < 10 ^ m) : (zrB n m = true → nmV R N (dgF n m) m = -1) ∧ (m = 0 ∨ 10 ^ (m - 1) ≤ n → ncV R N m n = nmV R N (dgF n m) m) ∧ (nmV R N (dgF n m) m = -1 ∨ (0 ≤ nmV R N (dgF n m) m ∧ nmV R N (dgF n m) m < 128 ∧ 0 ≤ bxI R N (nmV R N (dgF n m) m) (bxC R N).toNat)) := by
  obtain ⟨b1, b2, b3, b4⟩ := id hb
  obtain ⟨R', rfl⟩ : ∃ r : Nat, R = r := ⟨R.toNat, by omega⟩
  obtain ⟨N', rfl⟩ : ∃ r : Nat, N = r := ⟨N.toNat, by omega⟩
  have ho : bxOkB R' N' = true := by unfold bxOkB; simp only [Bool.and_eq_true, decide_eq_true_eq]; omega
  have E : nbB R' N' m n = true → m ≠ 0 → (zrB n m = true → nmV R' N' (dgF n m) m = -1) ∧ (m = 0 ∨ 10 ^ (m - 1) ≤ n → ncV R' N' m n = nmV R' N' (dgF n m) m) ∧ (nmV R' N' (dgF n m) m = -1 ∨ (0 ≤ nmV R' N' (dgF n m) m ∧ nmV R' N' (dgF n m) m < 128 ∧ 0 ≤ bxI R' N' (nmV R' N' (dgF n m) m) (bxC R' N').toNat)) := by
    intro h h0
    unfold nbB at h
    simp only [Bool.and_eq_true, Bool.or_eq_true, decide_eq_true_eq, Bool.not_eq_true', Nat.blt_eq] at h
    obtain ⟨c1, c2, c3⟩ := h
    refine ⟨fun hz => ?_, fun hp => ?_, c3⟩
    · rcases c1 with c1 | c1
      · rw [hz] at c1; exact absurd c1 (by decide)
      · exact c1
    · rcases c2 with c2 | c2
      · omega
      · exact c2
  have h5 : m = 0 ∨ m = 1 ∨ m = 2 ∨ m = 3 ∨ m = 4 := by omega
  rcases h5 with h | h | h | h | h
  · subst h
    have hn0 : n = 0 := by omega
    subst hn0
    obtain ⟨a1, a2, a3, a4⟩ := nb0 R' (by omega) N' (by omega) ho
    exact ⟨fun h => absurd h (by decide), fun _ => a1, Or.inr ⟨a2, a3, a4⟩⟩
  · subst h
    exact E (nb1 R' (by omega) N' (by omega) ho n (by omega)) (by decide)
  · subst h
    exact E (nb2 R' (by omega) N' (by omega) (by rw [Bool.and_eq_true, Nat.ble_eq]; exact ⟨ho, by omega⟩) n (by omega)) (by decide)
  · subst h
    have := nb3 R' (by omega) N' (by omega) (by rw [Bool.and_eq_true, Nat.ble_eq]; exact ⟨ho, by omega⟩) (n / 100) (by omega) (n % 100) (by omega)
    rw [Nat.div_add_mod] at this
    exact E this (by decide)
  · subst h
    have hR4 : R' = 4 := by omega
    subst hR4
    have := nb4 N' (by omega) (by rw [Nat.ble_eq]; omega) (n / 100) (by omega) (n % 100) (by omega)
    rw [Nat.div_add_mod] at this
    exact E this (by decide)
/-- how many digits -/
def dl : Nat → Int → Int
  | 0, _ => 0
  | f + 1, x => if 0 < x then 1 + dl f (x / 10) else 0
theorem dl_r : ∀ (f : Nat) (x : Int), 0 ≤ dl f x ∧ dl f x ≤ f := by
  intro f
  induction f with
  | zero => intro x; unfold dl; omega
  | succ f ih => intro x; have := ih (x / 10); unfold dl; split <;> omega
theorem dl_p : ∀ (f : Nat) (x : Int), 0 ≤ x → x < 10 ^ f → x < 10 ^ (dl f x).toNat ∧ (dl f x = 0 ∧ x = 0 ∨ 10 ^ ((dl f x).toNat - 1) ≤ x) := by
  intro f
  induction f with
  | zero => intro x h0 h1; unfold dl; rw [Int.pow_zero] at h1; exact ⟨by show x < 10 ^ 0; rw [Int.pow_zero]; omega, Or.inl ⟨rfl, by omega⟩⟩
  | succ f ih =>
    intro x h0 h1
    rw [Int.pow_succ] at h1
    have hr := dl_r f (x / 10)
    obtain ⟨i1, i2⟩ := ih (x / 10) (by omega) (by omega)
    unfold dl
    by_cases hx : 0 < x
    · rw [if_pos hx]
      have e : (1 + dl f (x / 10)).toNat = (dl f (x / 10)).toNat + 1 := by omega
      rw [e, Int.pow_succ, Nat.add_sub_cancel]
      refine ⟨by omega, Or.inr ?_⟩
      rcases i2 with ⟨i2, i3⟩ | i2
      · rw [i2]; simp; omega
      · by_cases hz : (dl f (x / 10)).toNat = 0
        · rw [hz, Int.pow_zero]; omega
        · obtain ⟨k, hk⟩ : ∃ k, (dl f (x / 10)).toNat = k + 1 := ⟨(dl f (x / 10)).toNat - 1, by omega⟩
          rw [hk] at i2 ⊢
          rw [Nat.add_sub_cancel] at i2
          rw [Int.pow_succ]; omega
    · rw [if_neg hx]
      exact ⟨by show x < 10 ^ 0; rw [Int.pow_zero]; omega, Or.inl ⟨rfl, by omega⟩⟩
def wwV (R N w : Int) : Int := if 0 ≤ w ∧ w < 128 then bxI R N w (bxC R N).toNat else -1
section SP
variable {t d : Nat} {g : hkG} {R N : Int} {Q : Option hkV → Nat → hkG → Prop}
theorem l_cnt {n : Int} : ∀ (f : Nat) (x c : Int), 0 ≤ x → x ≤ 2147483647 → x < 10 ^ f → 0 ≤ c → c + f ≤ 1000 → Xp 40 (d + 1) 19 [(2, 1), (0, n), (0, c + dl f x), (0, 0), hkU, hkU, hkU, hkU] [] t g Q → Xp 40 (d + 1) 4 [(2, 1), (0, n), (0, c), (0, x), hkU, hkU, hkU, hkU] [] t g Q := by
  intro f
  induction f with
  | zero =>
    intro x c h0 hI h1 c0 c1 hq
    rw [Int.pow_zero] at h1
    have hx : x = 0 := by omega
    subst hx
    unfold dl at hq
    rw [Int.add_zero] at hq
    rw [x_40_4]
    simp only [x_40_5, hkJK_1, hkP1_0, hkP1_2, hkP1_u, hkC8, List.map_cons, List.map_nil, List.sum_cons, List.sum_nil, hkCat_0, hkCat_1, hkCat_2, Nat.reduceAdd, Nat.reduceLeDiff, hkPush_s, hkPush_n, true_and, and_true, implies_true, true_implies, not_true_eq_false, not_false_eq_true, false_implies, hkTf_0, hkTf_n1, hkOr01, hkOr11, Int.reduceEq, Int.reduceLT, Int.reduceLE, hk102a, hk102b, hk102c, Nat.reduceEqDiff, or_true, true_or, or_false, false_or, and_false, false_and, Classical.not_not, true_implies, List.set_cons_zero, List.set_cons_succ, ne_eq]
    repeat' (first | exact hq | refine And.intro ?_ ?_ | intro _ | omega | (exfalso; omega))
  | succ f ih =>
    intro x c h0 hI h1 c0 c1 hq
    rw [Int.pow_succ] at h1
    obtain ⟨e, e2⟩ : hkW (c + 1) = c + 1 ∧ hkW (x / 10) = x / 10 := ⟨hkW_in (by omega) (by omega), hkW_in (by omega) (by omega)⟩
    rw [x_40_4]
    simp only [x_40_5, x_40_8, x_40_11, x_40_12, x_40_14, x_40_15, x_40_16, hkJK_1, hkP1_0, hkP1_2, hkP1_u, hkC8, List.map_cons, List.map_nil, List.sum_cons, List.sum_nil, hkCat_0, hkCat_1, hkCat_2, Nat.reduceAdd, Nat.reduceLeDiff, hkPush_s, hkPush_n, true_and, and_true, implies_true, true_implies, not_true_eq_false, not_false_eq_true, false_implies, hkTf_0, hkTf_n1, hkOr01, hkOr11, Int.reduceEq, Int.reduceLT, Int.reduceLE, hk102a, hk102b, hk102c, Nat.reduceEqDiff, or_true, true_or, or_false, false_or, and_false, false_and, Classical.not_not, true_implies, List.set_cons_zero, List.set_cons_succ, ne_eq, e, e2, Int.tdiv_eq_ediv_of_nonneg h0]
    clear e e2
    unfold dl at hq
    refine And.intro (fun h => ?_) (fun h => ?_)
    · rw [if_neg (by omega), Int.add_zero] at hq
      rw [show x = 0 from by omega]; exact hq
    · rw [if_pos (by omega)] at hq
      exact ih (x / 10) (c + 1) (by omega) (by omega) (by omega) (by omega) (by omega) (by rw [Int.add_assoc]; exact hq)
theorem l_num (ht : 18 ≤ t) (hX : BX g R N) {n m : Int} : ∀ (k : Nat) (left least w : Int) (v7 : hkV), (k : Int) ≤ R → 0 ≤ left → left ≤ 2147483647 → 1 ≤ least → 0 ≤ w ∧ w < 128 → hkP1 v7 → Q (some (0, wwV R N (ncS R N k left least w))) t g → Xp 40 (d + 1) 51 [(2, 1), (0, n), (0, m), (0, w), (0, left), (0, least), (0, (k : Int) - 1), v7] [] t g Q := by
  obtain ⟨b1, b2, b3, b4⟩ := id hX.1
  obtain ⟨x1, x2, x3, x4, x5, x6, x7, x8⟩ := BX_f hX
  intro k
  induction k with
  | zero =>
    intro left least w v7 hk l0 l1 hl hw h7 hq
    unfold ncS wwV at hq
    rw [if_pos hw] at hq
    rw [x_40_51]
    simp only [x_40_53, hkJK_1, hkP1_0, hkP1_2, hkP1_u, hkC8, List.map_cons, List.map_nil, List.sum_cons, List.sum_nil, hkCat_0, hkCat_1, hkCat_2, Nat.reduceAdd, Nat.reduceLeDiff, hkPush_s, hkPush_n, true_and, and_true, implies_true, true_implies, not_true_eq_false, not_false_eq_true, false_implies, hkTf_0, hkTf_n1, hkOr01, hkOr11, Int.reduceEq, Int.reduceLT, Int.reduceLE, hk102a, hk102b, hk102c, Nat.reduceEqDiff, or_true, true_or, or_false, false_or, and_false, false_and, Classical.not_not, true_implies, List.set_cons_zero, List.set_cons_succ, ne_eq, x_40_111, x_40_112, x_40_113, x_40_116, hkJK_1, hkP1_0, hkP1_2, hkP1_u, hkC8, List.map_cons, List.map_nil, List.sum_cons, List.sum_nil, hkCat_0, hkCat_1, hkCat_2, Nat.reduceAdd, Nat.reduceLeDiff, hkPush_s, hkPush_n, true_and, and_true, implies_true, true_implies, not_true_eq_false, not_false_eq_true, false_implies, hkTf_0, hkTf_n1, hkOr01, hkOr11, Int.reduceEq, Int.reduceLT, Int.reduceLE, hk102a, hk102b, hk102c, Nat.reduceEqDiff, or_true, true_or, or_false, false_or, and_false, false_and, Classical.not_not, true_implies, List.set_cons_zero, List.set_cons_succ, ne_eq, hkLe_t ht, s_withWord2 ht, x8 w hw.1 hw.2]
    rw [if_pos hw]
    repeat' (first | exact hq | refine And.intro ?_ ?_ | intro _ | omega | (exfalso; omega))
  | succ k ih =>
    intro left least w v7 hk l0 l1 hl hw h7 hq
    have hkk : ((k + 1 : Nat) : Int) - 1 = (k : Int) := by omega
    unfold ncS at hq
    rw [hkk, x_40_51]
    by_cases hno : left % 10 < least ∨ N - R < left % 10
    · rw [if_pos hno] at hq
      have hq' : Q (some (0, -1)) t g := hq
      simp only [x_40_53, x_40_56, x_40_58, x_40_60, x_40_61, x_40_63, x_40_65, x_40_67, x_40_70, x_40_72, x_40_73, x_40_76, x_40_79, x_40_80, hkJK_1, hkP1_0, hkP1_2, hkP1_u, hkC8, List.map_cons, List.map_nil, List.sum_cons, List.sum_nil, hkCat_0, hkCat_1, hkCat_2, Nat.reduceAdd, Nat.reduceLeDiff, hkPush_s, hkPush_n, true_and, and_true, implies_true, true_implies, not_true_eq_false, not_false_eq_true, false_implies, hkTf_0, hkTf_n1, hkOr01, hkOr11, Int.reduceEq, Int.reduceLT, Int.reduceLE, hk102a, hk102b, hk102c, Nat.reduceEqDiff, or_true, true_or, or_false, false_or, and_false, false_and, Classical.not_not, true_implies, List.set_cons_zero, List.set_cons_succ, ne_eq, hkLe_t ht, x3, Int.tmod_eq_emod_of_nonneg l0]
      repeat' (first | exact hq' | refine And.intro ?_ ?_ | intro _ | omega | (exfalso; omega))
    · rw [if_neg hno] at hq
      have hor := hkOr_7 hw (b := left % 10 + R - 1 - k) (by omega)
      have IH := ih (left / 10) (left % 10) (hkOr w (hkShl 1 (left % 10 + R - 1 - k))) (0, left % 10) (by omega) (by omega) (by omega) (by omega) hor (by unfold hkP1; simp) hq
      obtain ⟨e1, e2, e3, e4, e5⟩ : hkW (left % 10 + R) = left % 10 + R ∧ hkW (left % 10 + R - 1) = left % 10 + R - 1 ∧ hkW (left % 10 + R - 1 - k) = left % 10 + R - 1 - k ∧ hkW (left / 10) = left / 10 ∧ hkW ((k : Int) + -1) = (k : Int) - 1 := ⟨hkW_in (by omega) (by omega), hkW_in (by omega) (by omega), hkW_in (by omega) (by omega), hkW_in (by omega) (by omega), by rw [hkW_in (by omega) (by omega)]; omega⟩
      simp only [x_40_53, x_40_56, x_40_58, x_40_60, x_40_61, x_40_63, x_40_65, x_40_67, x_40_70, x_40_72, x_40_73, x_40_76, x_40_79, x_40_80, x_40_81, x_40_82, x_40_83, x_40_84, x_40_86, x_40_88, x_40_91, x_40_92, x_40_93, x_40_94, x_40_96, x_40_98, x_40_100, x_40_102, x_40_103, x_40_105, x_40_108, hkJK_1, hkP1_0, hkP1_2, hkP1_u, hkC8, List.map_cons, List.map_nil, List.sum_cons, List.sum_nil, hkCat_0, hkCat_1, hkCat_2, Nat.reduceAdd, Nat.reduceLeDiff, hkPush_s, hkPush_n, true_and, and_true, implies_true, true_implies, not_true_eq_false, not_false_eq_true, false_implies, hkTf_0, hkTf_n1, hkOr01, hkOr11, Int.reduceEq, Int.reduceLT, Int.reduceLE, hk102a, hk102b, hk102c, Nat.reduceEqDiff, or_true, true_or, or_false, false_or, and_false, false_and, Classical.not_not, true_implies, List.set_cons_zero, List.set_cons_succ, ne_eq, hkLe_t ht, x1, x3, Int.tmod_eq_emod_of_nonneg l0, Int.tdiv_eq_ediv_of_nonneg l0, Xp_ev s_beadOf (Nat.zero_le _), e1, e2, e3, e4, e5]
      clear e1 e2 e3 e4 e5
      repeat' (first | exact IH | refine And.intro ?_ ?_ | intro _ | omega | (exfalso; omega))
def nbV (R N n : Int) : Int := if R < dl 10 n then -1 else wwV R N (ncV R N (dl 10 n).toNat n)
theorem shl4 : ∀ a : Nat, a < 5 → hkShl 1 (a : Int) - 1 ≤ 15 ∧ 0 ≤ hkShl 1 (a : Int) - 1 := by decide +kernel
theorem sx_numbered (ht : 18 ≤ t) (hX : BX g R N) {n : Int} (n0 : 0 ≤ n) (n1 : n ≤ 2147483647) : Xp 40 (d + 1) 0 [(2, 1), (0, n), hkU, hkU, hkU, hkU, hkU, hkU] [] t g Q = Q (some (0, nbV R N n)) t g := by
  obtain ⟨b1, b2, b3, b4⟩ := id hX.1
  obtain ⟨x1, x2, x3, x4, x5, x6, x7, x8⟩ := BX_f hX
  have hr := dl_r 10 n
  refine Xp_ev (d := 1) (Ev_of ?_) (by omega)
  simp only [x_40_0, x_40_1, x_40_2, x_40_3, hkJK_1, hkP1_0, hkP1_2, hkP1_u, hkC8, List.map_cons, List.map_nil, List.sum_cons, List.sum_nil, hkCat_0, hkCat_1, hkCat_2, Nat.reduceAdd, Nat.reduceLeDiff, hkPush_s, hkPush_n, true_and, and_true, implies_true, true_implies, not_true_eq_false, not_false_eq_true, false_implies, hkTf_0, hkTf_n1, hkOr01, hkOr11, Int.reduceEq, Int.reduceLT, Int.reduceLE, hk102a, hk102b, hk102c, Nat.reduceEqDiff, or_true, true_or, or_false, false_or, and_false, false_and, Classical.not_not, true_implies, List.set_cons_zero, List.set_cons_succ, ne_eq]
  refine l_cnt (d := 0) 10 n 0 n0 n1 (by omega) (by omega) (by omega) ?_
  rw [Int.zero_add]
  simp only [x_40_19, x_40_20, x_40_21, x_40_24, x_40_27, x_40_28, hkJK_1, hkP1_0, hkP1_2, hkP1_u, hkC8, List.map_cons, List.map_nil, List.sum_cons, List.sum_nil, hkCat_0, hkCat_1, hkCat_2, Nat.reduceAdd, Nat.reduceLeDiff, hkPush_s, hkPush_n, true_and, and_true, implies_true, true_implies, not_true_eq_false, not_false_eq_true, false_implies, hkTf_0, hkTf_n1, hkOr01, hkOr11, Int.reduceEq, Int.reduceLT, Int.reduceLE, hk102a, hk102b, hk102c, Nat.reduceEqDiff, or_true, true_or, or_false, false_or, and_false, false_and, Classical.not_not, true_implies, List.set_cons_zero, List.set_cons_succ, ne_eq, hkLe_t ht, x1]
  unfold nbV
  by_cases h : R < dl 10 n
  · rw [if_pos h]
    exact ⟨fun h2 => absurd h2 (by omega), fun _ => rfl⟩
  · rw [if_neg h]
    refine ⟨fun _ => ?_, fun h2 => absurd (by omega) h2⟩
    have hs := shl4 (R - dl 10 n).toNat (by omega)
    rw [show (((R - dl 10 n).toNat : Nat) : Int) = R - dl 10 n from by omega] at hs
    obtain ⟨e1, e2, e3⟩ : hkW (R - dl 10 n) = R - dl 10 n ∧ hkW (hkShl 1 (R - dl 10 n) - 1) = hkShl 1 (R - dl 10 n) - 1 ∧ hkW (dl 10 n - 1) = dl 10 n - 1 := ⟨hkW_in (by omega) (by omega), hkW_in (by omega) (by omega), hkW_in (by omega) (by omega)⟩
    simp only [x_40_29, x_40_30, x_40_31, x_40_34, x_40_35, x_40_36, x_40_37, x_40_38, x_40_39, x_40_40, x_40_41, x_40_43, x_40_44, x_40_46, x_40_47, x_40_48, x_40_49, hkJK_1, hkP1_0, hkP1_2, hkP1_u, hkC8, List.map_cons, List.map_nil, List.sum_cons, List.sum_nil, hkCat_0, hkCat_1, hkCat_2, Nat.reduceAdd, Nat.reduceLeDiff, hkPush_s, hkPush_n, true_and, and_true, implies_true, true_implies, not_true_eq_false, not_false_eq_true, false_implies, hkTf_0, hkTf_n1, hkOr01, hkOr11, Int.reduceEq, Int.reduceLT, Int.reduceLE, hk102a, hk102b, hk102c, Nat.reduceEqDiff, or_true, true_or, or_false, false_or, and_false, false_and, Classical.not_not, true_implies, List.set_cons_zero, List.set_cons_succ, ne_eq, hkLe_t ht, x1, e1, e2, e3]
    clear e1 e2 e3
    have K := l_num (d := 0) (t := t) (g := g) (n := n) (m := dl 10 n) (Q := fun r t' g' => r = some (0, wwV R N (ncV R N (dl 10 n).toNat n)) ∧ t' = t ∧ g' = g) ht hX (dl 10 n).toNat n 1 (hkShl 1 (R - dl 10 n) - 1) hkU (by omega) n0 n1 (by omega) (by omega) (by rw [hkP1_u]; trivial) (by
      unfold ncV
      rw [show (((dl 10 n).toNat : Nat) : Int) = dl 10 n from by omega]
      exact ⟨rfl, rfl, rfl⟩)
    rw [show (((dl 10 n).toNat : Nat) : Int) = dl 10 n from by omega] at K
    exact K
/-- the reference: a shape from its digits in now -/
theorem l_mshape (ht : 190 ≤ t) (hX : MX g R N) {f : Int → Int} {m : Nat} (hm : (m : Int) ≤ R) (hf : ∀ r : Int, 0 ≤ r → r < m → g 74 r = f r ∧ 0 ≤ f r ∧ f r ≤ 9) : ∀ (k : Nat) (r w : Int) (v4 v5 : hkV), r + k = R → 0 ≤ r → 0 ≤ w ∧ w < 128 → hkP1 v4 → hkP1 v5 → (0 < r → r ≤ m → f (r - 1) ≤ N - R) → (nmS R N f m k r w = -1 ∨ (0 ≤ nmS R N f m k r w ∧ nmS R N f m k r w < 128 ∧ 0 ≤ bxI R N (nmS R N f m k r w) (bxC R N).toNat)) → Q (some (0, wwV R N (nmS R N f m k r w))) t g →
    Xp 112 (d + 1) 14 [(2, 66), (0, (m : Int)), (0, w), (0, r), v4, v5] [] t g Q := by
  obtain ⟨b1, b2, b3, b4⟩ := id hX.1
  obtain ⟨x1, x2, x3, x4, x5⟩ := MX_f hX
  intro k
  induction k with
  | zero =>
    intro r w v4 v5 hk h0 hw h4 h5 hpr hval hq
    unfold nmS at hq hval
    unfold wwV at hq
    rw [if_pos hw] at hq
    have h8 : g 68 w = bxI R N w (bxC R N).toNat := mx_68 hX (by rcases hval with h | h; omega; exact h.2.2)
    rw [x_112_14]
    simp only [x_112_15, x_112_16, x_112_19, hkJK_66, hkJK_68, hkJK_74, jA_66_14, jA_66_4, jL_68, jL_74, jR_66_14, jR_66_4, hkP1_0, hkP1_2, hkP1_u, hkC8, List.map_cons, List.map_nil, List.sum_cons, List.sum_nil, hkCat_0, hkCat_1, hkCat_2, Nat.reduceAdd, Nat.reduceLeDiff, hkPush_s, hkPush_n, true_and, and_true, implies_true, true_implies, not_true_eq_false, not_false_eq_true, false_implies, hkTf_0, hkTf_n1, hkOr01, hkOr11, Int.reduceEq, Int.reduceLT, Int.reduceLE, hk102a, hk102b, hk102c, Nat.reduceEqDiff, or_true, true_or, or_false, false_or, and_false, false_and, Classical.not_not, true_implies, List.set_cons_zero, List.set_cons_succ, ne_eq, x_112_110, x_112_111, x_112_114, x_112_115, x_112_116, hkJK_66, hkJK_68, hkJK_74, jA_66_14, jA_66_4, jL_68, jL_74, jR_66_14, jR_66_4, hkP1_0, hkP1_2, hkP1_u, hkC8, List.map_cons, List.map_nil, List.sum_cons, List.sum_nil, hkCat_0, hkCat_1, hkCat_2, Nat.reduceAdd, Nat.reduceLeDiff, hkPush_s, hkPush_n, true_and, and_true, implies_true, true_implies, not_true_eq_false, not_false_eq_true, false_implies, hkTf_0, hkTf_n1, hkOr01, hkOr11, Int.reduceEq, Int.reduceLT, Int.reduceLE, hk102a, hk102b, hk102c, Nat.reduceEqDiff, or_true, true_or, or_false, false_or, and_false, false_and, Classical.not_not, true_implies, List.set_cons_zero, List.set_cons_succ, ne_eq, hkLe_t ht, x1, h8]
    repeat' (first | exact hq | refine And.intro ?_ ?_ | intro _ | omega | (exfalso; omega))
  | succ k ih =>
    intro r w v4 v5 hk h0 hw h4 h5 hpr hval hq
    unfold nmS at hq hval
    have hfr : r < m → g 74 r = f r ∧ 0 ≤ f r ∧ f r ≤ 9 := fun h => hf r h0 h
    have hfp : 0 < r → r ≤ m → g 74 (r - 1) = f (r - 1) ∧ 0 ≤ f (r - 1) ∧ f (r - 1) ≤ 9 := fun h h2 => hf (r - 1) (by omega) (by omega)
    have e1 : hkW (N - R) = N - R := hkW_in (by omega) (by omega)
    obtain ⟨e2, e3⟩ : hkW (r - 1) = r - 1 ∧ hkW (r + 1) = r + 1 := ⟨hkW_in (by omega) (by omega), hkW_in (by omega) (by omega)⟩
    rw [x_112_14]
    simp only [x_112_15, x_112_16, x_112_19, x_112_22, x_112_23, x_112_24, x_112_27, x_112_28, x_112_31, x_112_32, x_112_33, x_112_36, x_112_37, x_112_39, x_112_40, x_112_43, x_112_44, x_112_47, x_112_50, x_112_51, x_112_52, x_112_55, x_112_56, x_112_59, x_112_60, x_112_61, x_112_62, x_112_63, x_112_66, x_112_67, hkJK_66, hkJK_68, hkJK_74, jA_66_14, jA_66_4, jL_68, jL_74, jR_66_14, jR_66_4, hkP1_0, hkP1_2, hkP1_u, hkC8, List.map_cons, List.map_nil, List.sum_cons, List.sum_nil, hkCat_0, hkCat_1, hkCat_2, Nat.reduceAdd, Nat.reduceLeDiff, hkPush_s, hkPush_n, true_and, and_true, implies_true, true_implies, not_true_eq_false, not_false_eq_true, false_implies, hkTf_0, hkTf_n1, hkOr01, hkOr11, Int.reduceEq, Int.reduceLT, Int.reduceLE, hk102a, hk102b, hk102c, Nat.reduceEqDiff, or_true, true_or, or_false, false_or, and_false, false_and, Classical.not_not, true_implies, List.set_cons_zero, List.set_cons_succ, ne_eq, hkLe_t ht, x1, x2, sx_mWidth, e1, e2]
    clear e1 e2 e3
    generalize hA : (if r = 0 then N - R else if r ≤ m then f (r - 1) else 0) = A at hq hval
    generalize hV : (if r < m then f r else 0) = V at hq hval
    have hV9 : 0 ≤ V ∧ V ≤ 9 := by
      by_cases h : r < m
      · rw [if_pos h] at hV; have := hfr h; omega
      · rw [if_neg h] at hV; omega
    have MID : Xp 112 (d + 1) 69 [(2, 66), (0, (m : Int)), (0, w), (0, r), (0, V), (0, A)] [] t g Q := by
      have hV0 : r < m → f r = V := fun h => by rw [if_pos h] at hV; exact hV
      by_cases hno : A < V ∨ (r < m ∧ f r = 0)
      · rw [if_pos hno] at hq
        have hq' : Q (some (0, -1)) t g := hq
        simp only [x_112_69, x_112_71, x_112_73, x_112_76, x_112_77, x_112_78, x_112_81, x_112_83, x_112_86, x_112_87, hkJK_66, hkJK_68, hkJK_74, jA_66_14, jA_66_4, jL_68, jL_74, jR_66_14, jR_66_4, hkP1_0, hkP1_2, hkP1_u, hkC8, List.map_cons, List.map_nil, List.sum_cons, List.sum_nil, hkCat_0, hkCat_1, hkCat_2, Nat.reduceAdd, Nat.reduceLeDiff, hkPush_s, hkPush_n, true_and, and_true, implies_true, true_implies, not_true_eq_false, not_false_eq_true, false_implies, hkTf_0, hkTf_n1, hkOr01, hkOr11, Int.reduceEq, Int.reduceLT, Int.reduceLE, hk102a, hk102b, hk102c, Nat.reduceEqDiff, or_true, true_or, or_false, false_or, and_false, false_and, Classical.not_not, true_implies, List.set_cons_zero, List.set_cons_succ, ne_eq, hkLe_t ht]
        by_cases h1 : r < m
        · have := hV0 h1
          repeat' (first | exact hq' | refine And.intro ?_ ?_ | intro _ | omega | (exfalso; omega))
        · repeat' (first | exact hq' | refine And.intro ?_ ?_ | intro _ | omega | (exfalso; omega))
      · rw [if_neg hno] at hq hval
        have hAle : A ≤ N - R := by
          by_cases h1 : r = 0
          · rw [if_pos h1] at hA; omega
          · rw [if_neg h1] at hA
            by_cases h2 : r ≤ m
            · rw [if_pos h2] at hA; have := hpr (by omega) h2; omega
            · rw [if_neg h2] at hA; omega
        have hAN : V + R - 1 - r < 7 ∧ 0 ≤ V + R - 1 - r := by omega
        have hor := hkOr_7 hw (b := V + R - 1 - r) ⟨hAN.2, hAN.1⟩
        have IH := ih (r + 1) (hkOr w (hkShl 1 (V + R - 1 - r))) (0, V) (0, A) (by omega) (by omega) hor (by unfold hkP1; simp) (by unfold hkP1; simp) (fun _ h => by rw [Int.add_sub_cancel, hV0 (by omega)]; omega) hval hq
        obtain ⟨e1, e2, e3, e4⟩ : hkW (V + R) = V + R ∧ hkW (V + R - 1) = V + R - 1 ∧ hkW (V + R - 1 - r) = V + R - 1 - r ∧ hkW (r + 1) = r + 1 := ⟨hkW_in (by omega) (by omega), hkW_in (by omega) (by omega), hkW_in (by omega) (by omega), hkW_in (by omega) (by omega)⟩
        simp only [x_112_69, x_112_71, x_112_73, x_112_76, x_112_77, x_112_78, x_112_81, x_112_83, x_112_86, x_112_87, x_112_88, x_112_89, x_112_90, x_112_92, x_112_93, x_112_96, x_112_97, x_112_98, x_112_99, x_112_100, x_112_101, x_112_102, x_112_103, x_112_104, x_112_107, hkJK_66, hkJK_68, hkJK_74, jA_66_14, jA_66_4, jL_68, jL_74, jR_66_14, jR_66_4, hkP1_0, hkP1_2, hkP1_u, hkC8, List.map_cons, List.map_nil, List.sum_cons, List.sum_nil, hkCat_0, hkCat_1, hkCat_2, Nat.reduceAdd, Nat.reduceLeDiff, hkPush_s, hkPush_n, true_and, and_true, implies_true, true_implies, not_true_eq_false, not_false_eq_true, false_implies, hkTf_0, hkTf_n1, hkOr01, hkOr11, Int.reduceEq, Int.reduceLT, Int.reduceLE, hk102a, hk102b, hk102c, Nat.reduceEqDiff, or_true, true_or, or_false, false_or, and_false, false_and, Classical.not_not, true_implies, List.set_cons_zero, List.set_cons_succ, ne_eq, hkLe_t ht, x1, e1, e2, e3, e4]
        clear e1 e2 e3 e4
        by_cases h1 : r < m
        · have := hV0 h1
          repeat' (first | exact IH | refine And.intro ?_ ?_ | intro _ | omega | (exfalso; omega))
        · repeat' (first | exact IH | refine And.intro ?_ ?_ | intro _ | omega | (exfalso; omega))
    by_cases h1 : r < m
    · rw [if_pos h1] at hV
      rw [(hfr h1).1, hV]
      by_cases h2 : r = 0
      · rw [if_pos h2] at hA
        rw [hA]
        repeat' (first | exact MID | refine And.intro ?_ ?_ | intro _ | omega | (exfalso; omega))
      · rw [if_neg h2, if_pos (by omega)] at hA
        rw [(hfp (by omega) (by omega)).1, hA]
        repeat' (first | exact MID | refine And.intro ?_ ?_ | intro _ | omega | (exfalso; omega))
    · rw [if_neg h1] at hV
      by_cases h2 : r = 0
      · rw [if_pos h2] at hA
        rw [hA]
        rw [← hV] at MID
        repeat' (first | exact MID | refine And.intro ?_ ?_ | intro _ | omega | (exfalso; omega))
      · rw [if_neg h2] at hA
        by_cases h3 : r ≤ m
        · rw [if_pos h3] at hA
          rw [(hfp (by omega) (by omega)).1, hA]
          rw [← hV] at MID
          repeat' (first | exact MID | refine And.intro ?_ ?_ | intro _ | omega | (exfalso; omega))
        · rw [if_neg h3] at hA
          rw [← hV, ← hA] at MID
          repeat' (first | exact MID | refine And.intro ?_ ?_ | intro _ | omega | (exfalso; omega))
def shV (R N : Int) (f : Int → Int) (m : Nat) : Int := if R < m then -1 else wwV R N (nmV R N f m)
theorem sx_mshapeOf (ht : 190 ≤ t) (hX : MX g R N) {f : Int → Int} {m : Nat} (hf : ∀ r : Int, 0 ≤ r → r < m → g 74 r = f r ∧ 0 ≤ f r ∧ f r ≤ 9) (hval : (m : Int) ≤ R → nmV R N f m = -1 ∨ (0 ≤ nmV R N f m ∧ nmV R N f m < 128 ∧ 0 ≤ bxI R N (nmV R N f m) (bxC R N).toNat)) : Xp 112 (d + 1) 0 [(2, 66), (0, (m : Int)), hkU, hkU, hkU, hkU] [] t g Q = Q (some (0, shV R N f m)) t g := by
  obtain ⟨b1, b2, b3, b4⟩ := id hX.1
  obtain ⟨x1, x2, x3, x4, x5⟩ := MX_f hX
  refine Xp_ev (d := 1) (Ev_of ?_) (by omega)
  simp only [x_112_0, x_112_1, x_112_2, x_112_5, x_112_8, x_112_9, x_112_10, x_112_11, x_112_12, x_112_13, hkJK_66, hkJK_68, hkJK_74, jA_66_14, jA_66_4, jL_68, jL_74, jR_66_14, jR_66_4, hkP1_0, hkP1_2, hkP1_u, hkC8, List.map_cons, List.map_nil, List.sum_cons, List.sum_nil, hkCat_0, hkCat_1, hkCat_2, Nat.reduceAdd, Nat.reduceLeDiff, hkPush_s, hkPush_n, true_and, and_true, implies_true, true_implies, not_true_eq_false, not_false_eq_true, false_implies, hkTf_0, hkTf_n1, hkOr01, hkOr11, Int.reduceEq, Int.reduceLT, Int.reduceLE, hk102a, hk102b, hk102c, Nat.reduceEqDiff, or_true, true_or, or_false, false_or, and_false, false_and, Classical.not_not, true_implies, List.set_cons_zero, List.set_cons_succ, ne_eq, hkLe_t ht, x1]
  unfold shV
  by_cases h : R < m
  · rw [if_pos h]
    exact ⟨fun h2 => absurd h2 (by omega), fun _ => rfl⟩
  · rw [if_neg h]
    refine ⟨fun _ => ?_, fun h2 => absurd (by omega) h2⟩
    exact l_mshape (d := 0) ht hX (by omega) hf R.toNat 0 0 hkU hkU (by omega) (by decide) (by decide) (by rw [hkP1_u]; trivial) (by rw [hkP1_u]; trivial) (fun h => absurd h (by decide)) (hval (by omega)) ⟨rfl, rfl, rfl⟩
end SP
