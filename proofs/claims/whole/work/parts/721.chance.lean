/-! ties: chance -/
def eu : Nat → Int → Int → Int
  | 0, a, _ => a
  | f + 1, a, b => if b = 0 then a else eu f b (a % b)
theorem eu_r : ∀ (f : Nat) (a b : Int), 0 ≤ a → 0 ≤ b → a ≤ 100 → b ≤ 100 → 0 < a + b → b < f → 1 ≤ eu f a b ∧ eu f a b ≤ 100 := by
  intro f
  induction f with
  | zero => intro a b _ _ _ _ _ h; omega
  | succ f ih =>
    intro a b h0 h1 h2 h3 h4 h5
    unfold eu
    by_cases e : b = 0
    · rw [if_pos e]; omega
    · rw [if_neg e]
      have m0 := Int.emod_nonneg a e
      have m1 := Int.emod_lt_of_pos a (show 0 < b by omega)
      exact ih b (a % b) h1 m0 h3 (by omega) (by omega) (by omega)
section SP
variable {t d : Nat} {g : hkG} {R N : Int} {Q : Option hkV → Nat → hkG → Prop}
theorem l_common {A B : Int} : ∀ (f : Nat) (a b st : Int) (v5 : hkV), 0 ≤ a → 0 ≤ b → a ≤ 100 → b ≤ 100 → b < f → 0 ≤ st → st + f ≤ 100 → hkP1 v5 → Q (some (0, eu f a b)) t g → Xp 23 d 7 [(0, A), (0, B), (0, a), (0, b), (0, st), v5] [] t g Q := by
  intro f
  induction f with
  | zero => intro a b st v5 _ _ _ _ h; omega
  | succ f ih =>
    intro a b st v5 h0 h1 h2 h3 h4 h5 h6 p5 hq
    unfold eu at hq
    have e1 : hkW (st + 1) = st + 1 := hkW_in (by omega) (by omega)
    rw [x_23_7]
    simp only [x_23_9, x_23_11, x_23_14, x_23_15, x_23_18, x_23_19, x_23_20, x_23_21, x_23_23, x_23_24, x_23_25, x_23_27, x_23_28, x_23_31, x_23_34, x_23_35, hkP1_0, hkP1_2, hkP1_u, hkC8, List.map_cons, List.map_nil, List.sum_cons, List.sum_nil, hkCat_0, hkCat_1, hkCat_2, Nat.reduceAdd, Nat.reduceLeDiff, hkPush_s, hkPush_n, true_and, and_true, implies_true, true_implies, not_true_eq_false, not_false_eq_true, false_implies, hkTf_0, hkTf_n1, hkOr01, hkOr11, Int.reduceEq, Int.reduceLT, Int.reduceLE, hk102a, hk102b, hk102c, Nat.reduceEqDiff, or_true, true_or, or_false, false_or, and_false, false_and, Classical.not_not, true_implies, List.set_cons_zero, List.set_cons_succ, ne_eq, e1, Int.tmod_eq_emod_of_nonneg h0]
    clear e1
    refine And.intro (fun h => absurd h (by omega)) (fun _ => And.intro (fun e => ?_) (fun e => ?_))
    · rw [if_pos e] at hq; exact hq
    · rw [if_neg e] at hq
      have m0 := Int.emod_nonneg a e
      have m1 := Int.emod_lt_of_pos a (show 0 < b by omega)
      exact And.intro e (ih b (a % b) (st + 1) _ h1 m0 h3 (by omega) (by omega) (by omega) (by omega) (by unfold hkP1; simp) hq)
theorem sx_common {a b : Int} (h0 : 0 ≤ a) (h1 : a ≤ 20) (h2 : 1 ≤ b) (h3 : b ≤ 20) : Xp 23 d 0 [(0, a), (0, b), hkU, hkU, hkU, hkU] [] t g Q = Q (some (0, eu 21 b a)) t g := by
  refine Xp_ev (d := 0) (Ev_of ?_) (Nat.zero_le _)
  simp only [x_23_0, x_23_1, x_23_2, x_23_3, x_23_4, x_23_5, hkP1_0, hkP1_2, hkP1_u, hkC8, List.map_cons, List.map_nil, List.sum_cons, List.sum_nil, hkCat_0, hkCat_1, hkCat_2, Nat.reduceAdd, Nat.reduceLeDiff, hkPush_s, hkPush_n, true_and, and_true, implies_true, true_implies, not_true_eq_false, not_false_eq_true, false_implies, hkTf_0, hkTf_n1, hkOr01, hkOr11, Int.reduceEq, Int.reduceLT, Int.reduceLE, hk102a, hk102b, hk102c, Nat.reduceEqDiff, or_true, true_or, or_false, false_or, and_false, false_and, Classical.not_not, true_implies, List.set_cons_zero, List.set_cons_succ, ne_eq]
  exact l_common 21 b a 0 hkU (by omega) h0 (by omega) (by omega) (by omega) (by decide) (by omega) (by rw [hkP1_u]; trivial) ⟨rfl, rfl, rfl⟩
theorem l_mcommon : ∀ (f : Nat) (a b : Int) (Q : Option hkV → Nat → hkG → Prop), 0 ≤ a → 0 ≤ b → a ≤ 100 → b ≤ 100 → b < f → Q (some (0, eu f a b)) t g → Xp 162 (d + f) 0 [(0, a), (0, b)] [] t g Q := by
  intro f
  induction f with
  | zero => intro a b Q _ _ _ _ h; omega
  | succ f ih =>
    intro a b Q h0 h1 h2 h3 h4 hq
    unfold eu at hq
    rw [show d + (f + 1) = d + f + 1 from rfl]
    rw [x_162_0]
    simp only [x_162_1, x_162_4, x_162_5, x_162_8, x_162_9, x_162_10, x_162_11, x_162_12, x_162_15, hkP1_0, hkP1_2, hkP1_u, hkC8, List.map_cons, List.map_nil, List.sum_cons, List.sum_nil, hkCat_0, hkCat_1, hkCat_2, Nat.reduceAdd, Nat.reduceLeDiff, hkPush_s, hkPush_n, true_and, and_true, implies_true, true_implies, not_true_eq_false, not_false_eq_true, false_implies, hkTf_0, hkTf_n1, hkOr01, hkOr11, Int.reduceEq, Int.reduceLT, Int.reduceLE, hk102a, hk102b, hk102c, Nat.reduceEqDiff, or_true, true_or, or_false, false_or, and_false, false_and, Classical.not_not, true_implies, List.set_cons_zero, List.set_cons_succ, ne_eq, Int.tmod_eq_emod_of_nonneg h0]
    refine And.intro (fun e => ?_) (fun e => ?_)
    · rw [if_neg e] at hq
      have m0 := Int.emod_nonneg a e
      have m1 := Int.emod_lt_of_pos a (show 0 < b by omega)
      refine And.intro e (ih b (a % b) _ h1 m0 h3 (by omega) (by omega) ?_)
      simp only [x_162_15, hkP1_0, hkP1_2, hkP1_u, hkC8, List.map_cons, List.map_nil, List.sum_cons, List.sum_nil, hkCat_0, hkCat_1, hkCat_2, Nat.reduceAdd, Nat.reduceLeDiff, hkPush_s, hkPush_n, true_and, and_true, implies_true, true_implies, not_true_eq_false, not_false_eq_true, false_implies, hkTf_0, hkTf_n1, hkOr01, hkOr11, Int.reduceEq, Int.reduceLT, Int.reduceLE, hk102a, hk102b, hk102c, Nat.reduceEqDiff, or_true, true_or, or_false, false_or, and_false, false_and, Classical.not_not, true_implies, List.set_cons_zero, List.set_cons_succ, ne_eq]
      exact hq
    · rw [if_pos e] at hq; exact hq
theorem sx_mcommon {a b : Int} (h0 : 0 ≤ a) (h1 : a ≤ 20) (h2 : 1 ≤ b) (h3 : b ≤ 20) : Xp 162 (d + 21) 0 [(0, b), (0, a)] [] t g Q = Q (some (0, eu 21 b a)) t g := by
  refine Xp_ev (d := 0 + 21) (Ev_of ?_) (by omega)
  exact l_mcommon 21 b a _ (by omega) h0 (by omega) (by omega) (by omega) ⟨rfl, rfl, rfl⟩
def abS (R N sd n dd : Int) : Nat → Int
  | 0 => 0
  | k + 1 => abS R N sd n dd k + (if dd ≤ (wkS R N n.toNat 0 0 (hkW (sd + k))).2 then 1 else 0)
theorem abS_r {R N sd n dd : Int} : ∀ k : Nat, 0 ≤ abS R N sd n dd k ∧ abS R N sd n dd k ≤ k := by
  intro k
  induction k with
  | zero => unfold abS; omega
  | succ k ih => unfold abS; split <;> omega
def cnOk (m n dd p : Int) : Prop := (1 ≤ m ∧ m ≤ 20) ∧ (0 ≤ n ∧ n ≤ 40) ∧ 0 ≤ dd ∧ (0 ≤ p ∧ p ≤ 1)
def chV (R N sd m n dd p : Int) : Int := (if p = 0 then abS R N sd n dd m.toNat else m).tdiv (eu 21 m (abS R N sd n dd m.toNat))
theorem l_chance (ht : 190 ≤ t) {sd m n dd p : Int} (hv : cnOk m n dd p) : ∀ (j k : Nat) (g : hkG), (k : Int) + j = m → RB g R N → (∀ g' : hkG, qKeep g g' → RB g' R N → Q (some (0, chV R N sd m n dd p)) t g') →
    Xp 22 (d + 24) 44 [(2, 0), (0, sd), (0, m), (0, n), (0, dd), (0, p), (0, abS R N sd n dd k), (0, (k : Int))] [] t g Q := by
  obtain ⟨⟨m0, m1⟩, ⟨n0, n1⟩, d0, ⟨p0, p1⟩⟩ := id hv
  intro j
  induction j with
  | zero =>
    intro k g hk hb hQ
    have hq := hQ g qKeep_r hb
    have hr := abS_r (R := R) (N := N) (sd := sd) (n := n) (dd := dd) k
    have hkm : m.toNat = k := by omega
    unfold chV at hq
    rw [hkm] at hq
    have hE := eu_r 21 m (abS R N sd n dd k) (by omega) hr.1 (by omega) (by omega) (by omega) (by omega)
    have hmx : max (eu 21 m (abS R N sd n dd k)) 1 = eu 21 m (abS R N sd n dd k) := by omega
    have hE0 : ¬ eu 21 m (abS R N sd n dd k) = 0 := by omega
    have h20 : abS R N sd n dd k ≤ 20 := by omega
    have hdv : ∀ x : Int, 0 ≤ x → x ≤ 20 → hkW (x.tdiv (eu 21 m (abS R N sd n dd k))) = x.tdiv (eu 21 m (abS R N sd n dd k)) := by
      intro x x0 x1
      have a1 := Int.tdiv_nonneg x0 (show 0 ≤ eu 21 m (abS R N sd n dd k) by omega)
      have a2 : x.tdiv (eu 21 m (abS R N sd n dd k)) ≤ x := by rw [Int.tdiv_eq_ediv_of_nonneg x0]; exact Int.ediv_le_self _ x0
      exact hkW_in (by omega) (by omega)
    have hdv1 := hdv _ hr.1 h20
    have hdv2 := hdv m (by omega) m1
    rw [x_22_44]
    simp only [x_22_46, x_22_47, hkJK_0, hkJK_50, jA_0_6, jR_0_6, hkP1_0, hkP1_2, hkP1_u, hkC8, List.map_cons, List.map_nil, List.sum_cons, List.sum_nil, hkCat_0, hkCat_1, hkCat_2, Nat.reduceAdd, Nat.reduceLeDiff, hkPush_s, hkPush_n, true_and, and_true, implies_true, true_implies, not_true_eq_false, not_false_eq_true, false_implies, hkTf_0, hkTf_n1, hkOr01, hkOr11, Int.reduceEq, Int.reduceLT, Int.reduceLE, hk102a, hk102b, hk102c, Nat.reduceEqDiff, or_true, true_or, or_false, false_or, and_false, false_and, Classical.not_not, true_implies, List.set_cons_zero, List.set_cons_succ, ne_eq, x_22_83, x_22_85, x_22_86, x_22_89, x_22_91, x_22_93, x_22_96, x_22_98, x_22_101, x_22_102, x_22_104, x_22_105, x_22_108, x_22_109, hkJK_0, hkJK_50, jA_0_6, jR_0_6, hkP1_0, hkP1_2, hkP1_u, hkC8, List.map_cons, List.map_nil, List.sum_cons, List.sum_nil, hkCat_0, hkCat_1, hkCat_2, Nat.reduceAdd, Nat.reduceLeDiff, hkPush_s, hkPush_n, true_and, and_true, implies_true, true_implies, not_true_eq_false, not_false_eq_true, false_implies, hkTf_0, hkTf_n1, hkOr01, hkOr11, Int.reduceEq, Int.reduceLT, Int.reduceLE, hk102a, hk102b, hk102c, Nat.reduceEqDiff, or_true, true_or, or_false, false_or, and_false, false_and, Classical.not_not, true_implies, List.set_cons_zero, List.set_cons_succ, ne_eq, sx_common hr.1 h20 m0 m1, sx_max, hmx, hE0, hdv1, hdv2]
    clear hdv hdv1 hdv2
    refine And.intro (fun _ => And.intro (fun h => ?_) (fun h => ?_)) (fun h => absurd (by omega) h)
    · rw [if_neg h] at hq
      exact hq
    · rw [if_pos h] at hq
      exact hq
  | succ j ih =>
    intro k g hk hb hQ
    have hr := abS_r (R := R) (N := N) (sd := sd) (n := n) (dd := dd) k
    have hs : abS R N sd n dd (k + 1) = abS R N sd n dd k + (if dd ≤ (wkS R N n.toNat 0 0 (hkW (sd + k))).2 then 1 else 0) := rfl
    rw [x_22_44]
    simp only [x_22_46, x_22_47, x_22_50, x_22_51, x_22_54, x_22_55, x_22_57, x_22_58, x_22_59, hkJK_0, hkJK_50, jA_0_6, jR_0_6, hkP1_0, hkP1_2, hkP1_u, hkC8, List.map_cons, List.map_nil, List.sum_cons, List.sum_nil, hkCat_0, hkCat_1, hkCat_2, Nat.reduceAdd, Nat.reduceLeDiff, hkPush_s, hkPush_n, true_and, and_true, implies_true, true_implies, not_true_eq_false, not_false_eq_true, false_implies, hkTf_0, hkTf_n1, hkOr01, hkOr11, Int.reduceEq, Int.reduceLT, Int.reduceLE, hk102a, hk102b, hk102c, Nat.reduceEqDiff, or_true, true_or, or_false, false_or, and_false, false_and, Classical.not_not, true_implies, List.set_cons_zero, List.set_cons_succ, ne_eq, hkLe_t ht]
    refine And.intro (fun h => absurd h (by omega)) (fun _ => ?_)
    refine sx_walk (d := d + 13) ht hb n0 n1 (fun g1 k1 hb1 h0 h1 => ?_)
    have IH := ih (k + 1) g1 (by omega) hb1 (fun g' k2 hb2 => hQ g' (qKeep_t (qKeep_wk k1) k2) hb2)
    obtain ⟨e1, e2⟩ : hkW ((k : Int) + 1) = ((k + 1 : Nat) : Int) ∧ hkW (abS R N sd n dd k + 1) = abS R N sd n dd k + 1 := ⟨by rw [hkW_in (by omega) (by omega)]; omega, hkW_in (by omega) (by omega)⟩
    simp only [x_22_62, x_22_63, x_22_66, x_22_69, x_22_71, x_22_74, x_22_77, x_22_80, hkJK_0, hkJK_50, jA_0_6, jR_0_6, hkP1_0, hkP1_2, hkP1_u, hkC8, List.map_cons, List.map_nil, List.sum_cons, List.sum_nil, hkCat_0, hkCat_1, hkCat_2, Nat.reduceAdd, Nat.reduceLeDiff, hkPush_s, hkPush_n, true_and, and_true, implies_true, true_implies, not_true_eq_false, not_false_eq_true, false_implies, hkTf_0, hkTf_n1, hkOr01, hkOr11, Int.reduceEq, Int.reduceLT, Int.reduceLE, hk102a, hk102b, hk102c, Nat.reduceEqDiff, or_true, true_or, or_false, false_or, and_false, false_and, Classical.not_not, true_implies, List.set_cons_zero, List.set_cons_succ, ne_eq, hkLe_t ht, h1, e1, e2]
    clear e1 e2
    refine And.intro (fun h => ?_) (fun h => ?_)
    · rw [hs, if_neg (by omega), Int.add_zero] at IH; exact IH
    · rw [hs, if_pos (by omega)] at IH; exact IH
theorem l_mchance (ht : 190 ≤ t) {sd m n dd p : Int} (hv : cnOk m n dd p) : ∀ (j k : Nat) (g : hkG) (v8 : hkV), (k : Int) + j = m → hkP1 v8 → RB g R N → (∀ g' : hkG, qKeep g g' → RB g' R N → Q (some (0, chV R N sd m n dd p)) t g') →
    Xp 161 (d + 24) 49 [(2, 66), (0, sd), (0, m), (0, n), (0, dd), (0, p), (0, abS R N sd n dd k), (0, (k : Int)), v8] [] t g Q := by
  obtain ⟨⟨m0, m1⟩, ⟨n0, n1⟩, d0, ⟨p0, p1⟩⟩ := id hv
  intro j
  induction j with
  | zero =>
    intro k g v8 hk p8 hb hQ
    have hq := hQ g qKeep_r hb
    have hr := abS_r (R := R) (N := N) (sd := sd) (n := n) (dd := dd) k
    have hkm : m.toNat = k := by omega
    unfold chV at hq
    rw [hkm] at hq
    have hE := eu_r 21 m (abS R N sd n dd k) (by omega) hr.1 (by omega) (by omega) (by omega) (by omega)
    have hE0 : ¬ eu 21 m (abS R N sd n dd k) = 0 := by omega
    have h20 : abS R N sd n dd k ≤ 20 := by omega
    have hdv : ∀ x : Int, 0 ≤ x → x ≤ 20 → hkW (x.tdiv (eu 21 m (abS R N sd n dd k))) = x.tdiv (eu 21 m (abS R N sd n dd k)) := by
      intro x x0 x1
      have a1 := Int.tdiv_nonneg x0 (show 0 ≤ eu 21 m (abS R N sd n dd k) by omega)
      have a2 : x.tdiv (eu 21 m (abS R N sd n dd k)) ≤ x := by rw [Int.tdiv_eq_ediv_of_nonneg x0]; exact Int.ediv_le_self _ x0
      exact hkW_in (by omega) (by omega)
    have hdv1 := hdv _ hr.1 h20
    have hdv2 := hdv m (by omega) m1
    rw [x_161_49]
    simp only [x_161_51, x_161_52, hkJK_66, hkP1_0, hkP1_2, hkP1_u, hkC8, List.map_cons, List.map_nil, List.sum_cons, List.sum_nil, hkCat_0, hkCat_1, hkCat_2, Nat.reduceAdd, Nat.reduceLeDiff, hkPush_s, hkPush_n, true_and, and_true, implies_true, true_implies, not_true_eq_false, not_false_eq_true, false_implies, hkTf_0, hkTf_n1, hkOr01, hkOr11, Int.reduceEq, Int.reduceLT, Int.reduceLE, hk102a, hk102b, hk102c, Nat.reduceEqDiff, or_true, true_or, or_false, false_or, and_false, false_and, Classical.not_not, true_implies, List.set_cons_zero, List.set_cons_succ, ne_eq, x_161_91, x_161_93, x_161_96, x_161_98, x_161_101, x_161_102, x_161_103, x_161_105, x_161_108, x_161_109, hkJK_66, hkP1_0, hkP1_2, hkP1_u, hkC8, List.map_cons, List.map_nil, List.sum_cons, List.sum_nil, hkCat_0, hkCat_1, hkCat_2, Nat.reduceAdd, Nat.reduceLeDiff, hkPush_s, hkPush_n, true_and, and_true, implies_true, true_implies, not_true_eq_false, not_false_eq_true, false_implies, hkTf_0, hkTf_n1, hkOr01, hkOr11, Int.reduceEq, Int.reduceLT, Int.reduceLE, hk102a, hk102b, hk102c, Nat.reduceEqDiff, or_true, true_or, or_false, false_or, and_false, false_and, Classical.not_not, true_implies, List.set_cons_zero, List.set_cons_succ, ne_eq, sx_mcommon (d := d + 2) hr.1 h20 m0 m1, hE0, hdv1, hdv2]
    clear hdv hdv1 hdv2
    refine And.intro (fun _ => And.intro (fun h => ?_) (fun h => ?_)) (fun h => absurd (by omega) h)
    · rw [if_neg h] at hq
      exact hq
    · rw [if_pos h] at hq
      exact hq
  | succ j ih =>
    intro k g v8 hk p8 hb hQ
    have hr := abS_r (R := R) (N := N) (sd := sd) (n := n) (dd := dd) k
    have hs : abS R N sd n dd (k + 1) = abS R N sd n dd k + (if dd ≤ (wkS R N n.toNat 0 0 (hkW (sd + k))).2 then 1 else 0) := rfl
    rw [x_161_49]
    simp only [x_161_51, x_161_52, x_161_55, x_161_56, x_161_57, x_161_59, x_161_60, x_161_61, hkJK_66, hkP1_0, hkP1_2, hkP1_u, hkC8, List.map_cons, List.map_nil, List.sum_cons, List.sum_nil, hkCat_0, hkCat_1, hkCat_2, Nat.reduceAdd, Nat.reduceLeDiff, hkPush_s, hkPush_n, true_and, and_true, implies_true, true_implies, not_true_eq_false, not_false_eq_true, false_implies, hkTf_0, hkTf_n1, hkOr01, hkOr11, Int.reduceEq, Int.reduceLT, Int.reduceLE, hk102a, hk102b, hk102c, Nat.reduceEqDiff, or_true, true_or, or_false, false_or, and_false, false_and, Classical.not_not, true_implies, List.set_cons_zero, List.set_cons_succ, ne_eq, hkLe_t ht]
    refine And.intro (fun h => absurd h (by omega)) (fun _ => ?_)
    refine sx_mwalk (d := d + 11) ht hb n0 n1 (fun g1 k1 hb1 h1 => ?_)
    have IH := ih (k + 1) g1 (0, (wkS R N n.toNat 0 0 (hkW (sd + k))).1) (by omega) (by unfold hkP1; simp) hb1 (fun g' k2 hb2 => hQ g' (qKeep_t k1 k2) hb2)
    obtain ⟨e1, e2, e3⟩ : hkW ((k : Int) + 1) = ((k + 1 : Nat) : Int) ∧ hkW (abS R N sd n dd k + 1) = abS R N sd n dd k + 1 ∧ hkW (abS R N sd n dd k + 0) = abS R N sd n dd k := ⟨by rw [hkW_in (by omega) (by omega)]; omega, hkW_in (by omega) (by omega), by rw [hkW_in (by omega) (by omega)]; omega⟩
    simp only [x_161_64, x_161_66, x_161_68, x_161_69, x_161_72, x_161_74, x_161_77, x_161_78, x_161_81, x_161_82, x_161_83, x_161_85, x_161_88, hkJK_66, hkP1_0, hkP1_2, hkP1_u, hkC8, List.map_cons, List.map_nil, List.sum_cons, List.sum_nil, hkCat_0, hkCat_1, hkCat_2, Nat.reduceAdd, Nat.reduceLeDiff, hkPush_s, hkPush_n, true_and, and_true, implies_true, true_implies, not_true_eq_false, not_false_eq_true, false_implies, hkTf_0, hkTf_n1, hkOr01, hkOr11, Int.reduceEq, Int.reduceLT, Int.reduceLE, hk102a, hk102b, hk102c, Nat.reduceEqDiff, or_true, true_or, or_false, false_or, and_false, false_and, Classical.not_not, true_implies, List.set_cons_zero, List.set_cons_succ, ne_eq, hkLe_t ht, h1, e1, e2, e3]
    clear e1 e2 e3
    refine And.intro (fun h => ?_) (fun h => ?_)
    · rw [hs, if_neg (by omega), Int.add_zero] at IH; exact IH
    · rw [hs, if_pos (by omega)] at IH; exact IH
theorem c_chance (ht : 190 ≤ t) (hb : RB g R N) {sd m n dd p : Int} (h1 : ¬ cnOk m n dd p → Q (some (0, -2)) t g) (hQ : cnOk m n dd p → ∀ g' : hkG, qKeep g g' → RB g' R N → Q (some (0, chV R N sd m n dd p)) t g') :
    Xp 22 (d + 24) 0 [(2, 0), (0, sd), (0, m), (0, n), (0, dd), (0, p), hkU, hkU] [] t g Q := by
  simp only [x_22_0, x_22_1, x_22_2, x_22_4, x_22_7, x_22_10, x_22_11, x_22_12, x_22_14, x_22_17, x_22_20, x_22_22, x_22_25, x_22_27, x_22_28, x_22_29, x_22_32, x_22_35, x_22_37, hkJK_0, hkJK_50, jA_0_6, jR_0_6, hkP1_0, hkP1_2, hkP1_u, hkC8, List.map_cons, List.map_nil, List.sum_cons, List.sum_nil, hkCat_0, hkCat_1, hkCat_2, Nat.reduceAdd, Nat.reduceLeDiff, hkPush_s, hkPush_n, true_and, and_true, implies_true, true_implies, not_true_eq_false, not_false_eq_true, false_implies, hkTf_0, hkTf_n1, hkOr01, hkOr11, Int.reduceEq, Int.reduceLT, Int.reduceLE, hk102a, hk102b, hk102c, Nat.reduceEqDiff, or_true, true_or, or_false, false_or, and_false, false_and, Classical.not_not, true_implies, List.set_cons_zero, List.set_cons_succ, ne_eq, sx_isOff]
  by_cases hv : cnOk m n dd p
  · have L := l_chance (d := d) (Q := Q) (sd := sd) ht hv m.toNat 0 g (by have := hv.1; omega) hb (hQ hv)
    unfold cnOk at hv
    have K : Xp 22 (d + 24) 38 [(2, 0), (0, sd), (0, m), (0, n), (0, dd), (0, p), hkU, hkU] [] t g Q := by
      simp only [x_22_38, x_22_39, x_22_41, x_22_42, hkJK_0, hkJK_50, jA_0_6, jR_0_6, hkP1_0, hkP1_2, hkP1_u, hkC8, List.map_cons, List.map_nil, List.sum_cons, List.sum_nil, hkCat_0, hkCat_1, hkCat_2, Nat.reduceAdd, Nat.reduceLeDiff, hkPush_s, hkPush_n, true_and, and_true, implies_true, true_implies, not_true_eq_false, not_false_eq_true, false_implies, hkTf_0, hkTf_n1, hkOr01, hkOr11, Int.reduceEq, Int.reduceLT, Int.reduceLE, hk102a, hk102b, hk102c, Nat.reduceEqDiff, or_true, true_or, or_false, false_or, and_false, false_and, Classical.not_not, true_implies, List.set_cons_zero, List.set_cons_succ, ne_eq]
      exact L
    repeat' (first | exact K | refine And.intro ?_ ?_ | intro _ | omega | (exfalso; omega))
  · have hq := h1 hv
    unfold cnOk at hv
    repeat' (first | exact hq | refine And.intro ?_ ?_ | intro _ | omega | (exfalso; omega))
theorem m_chance (ht : 190 ≤ t) (hb : RB g R N) {sd m n dd p : Int} (h1 : ¬ cnOk m n dd p → Q (some (0, -2)) t g) (hQ : cnOk m n dd p → ∀ g' : hkG, qKeep g g' → RB g' R N → Q (some (0, chV R N sd m n dd p)) t g') :
    Xp 161 (d + 24) 0 [(2, 66), (0, sd), (0, m), (0, n), (0, dd), (0, p), hkU, hkU, hkU] [] t g Q := by
  simp only [x_161_0, x_161_1, x_161_2, x_161_3, x_161_6, x_161_9, x_161_12, x_161_13, x_161_14, x_161_15, x_161_18, x_161_21, x_161_24, x_161_26, x_161_29, x_161_31, x_161_32, x_161_33, x_161_34, x_161_37, x_161_40, x_161_42, hkJK_66, hkP1_0, hkP1_2, hkP1_u, hkC8, List.map_cons, List.map_nil, List.sum_cons, List.sum_nil, hkCat_0, hkCat_1, hkCat_2, Nat.reduceAdd, Nat.reduceLeDiff, hkPush_s, hkPush_n, true_and, and_true, implies_true, true_implies, not_true_eq_false, not_false_eq_true, false_implies, hkTf_0, hkTf_n1, hkOr01, hkOr11, Int.reduceEq, Int.reduceLT, Int.reduceLE, hk102a, hk102b, hk102c, Nat.reduceEqDiff, or_true, true_or, or_false, false_or, and_false, false_and, Classical.not_not, true_implies, List.set_cons_zero, List.set_cons_succ, ne_eq, sx_mIsIn]
  by_cases hv : cnOk m n dd p
  · have L := l_mchance (d := d) (Q := Q) (sd := sd) ht hv m.toNat 0 g hkU (by have := hv.1; omega) (by rw [hkP1_u]; trivial) hb (hQ hv)
    unfold cnOk at hv
    have K : Xp 161 (d + 24) 43 [(2, 66), (0, sd), (0, m), (0, n), (0, dd), (0, p), hkU, hkU, hkU] [] t g Q := by
      simp only [x_161_43, x_161_44, x_161_46, x_161_47, hkJK_66, hkP1_0, hkP1_2, hkP1_u, hkC8, List.map_cons, List.map_nil, List.sum_cons, List.sum_nil, hkCat_0, hkCat_1, hkCat_2, Nat.reduceAdd, Nat.reduceLeDiff, hkPush_s, hkPush_n, true_and, and_true, implies_true, true_implies, not_true_eq_false, not_false_eq_true, false_implies, hkTf_0, hkTf_n1, hkOr01, hkOr11, Int.reduceEq, Int.reduceLT, Int.reduceLE, hk102a, hk102b, hk102c, Nat.reduceEqDiff, or_true, true_or, or_false, false_or, and_false, false_and, Classical.not_not, true_implies, List.set_cons_zero, List.set_cons_succ, ne_eq]
      exact L
    repeat' (first | exact K | refine And.intro ?_ ?_ | intro _ | omega | (exfalso; omega))
  · have hq := h1 hv
    unfold cnOk at hv
    repeat' (first | exact hq | refine And.intro ?_ ?_ | intro _ | omega | (exfalso; omega))
theorem tie_chance {xs : Int → Int} {L sd m n dd p : Int} (ht : 190 ≤ t) (hR : Rel xs L g) : Tie xs L 22 (d + 24) [(2, 0), (0, sd), (0, m), (0, n), (0, dd), (0, p), hkU, hkU] 161 [(2, 66), (0, sd), (0, m), (0, n), (0, dd), (0, p), hkU, hkU, hkU] t g := by
  obtain ⟨R, N, hb, hr⟩ := hR
  refine c_chance ht hb (fun hv => ⟨_, rfl, rfl, ?_⟩) (fun hv g1 k1 hb1 => ⟨_, rfl, rfl, ?_⟩)
  · exact m_chance ht hb (fun _ => ⟨rfl, rfl, R, N, hb, hr⟩) (fun h => absurd h hv)
  · exact m_chance ht hb1 (fun h => absurd hv h) (fun _ g2 k2 hb2 => ⟨rfl, rfl, Rel_q hb2 (qKeep_t k1 k2) hr⟩)
end SP
