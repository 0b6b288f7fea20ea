/-! Roots: the shares of the sets, often -/
def rtB (R N : Int) (s : Nat) (c : Int) : Int := rtX R N (chK s c)
def rtI (R N : Int) (s : Nat) (c : Int) : Int := rtX R N (chK s c) ^ 2519 % 2521
def alA (R N : Int) (s : Nat) (i : Int) : Int := alV R N (rtB R N s) i R.toNat 0
def alO (R N : Int) (s : Nat) (i : Int) : Int := alV R N (rtI R N s) i R.toNat 0
def shF (R N : Int) (s : Nat) (F : Int → Int) (l : Int) : Nat → Int
  | 0 => alA R N s 0 * alO R N s l % 2521
  | n + 1 => shF R N s F l n * (alA R N s (F n) * (alA R N s 0 ^ 2519 % 2521) % 2521) % 2521
/-- the shares of the first k sets -/
def rtS (R N : Int) (F : Int → Int) (n : Nat) (l : Int) : Nat → Int
  | 0 => 0
  | k + 1 => rtS R N F n l k + (if (pbN k : Int) = R then shF R N k F l n else 0)
def RTS (R N : Int) (F : Int → Int) (n : Nat) (l : Int) : Int := rtS R N F n l (2 ^ N.toNat) % 2521 * ((N ^ R.toNat % 2521) ^ 2519 % 2521) % 2521
theorem alA_r {R N : Int} {s : Nat} {i : Int} : 0 ≤ alA R N s i ∧ alA R N s i < 2521 := alV_r
theorem alO_r {R N : Int} {s : Nat} {i : Int} : 0 ≤ alO R N s i ∧ alO R N s i < 2521 := alV_r
theorem shF_r {R N : Int} {s : Nat} {F : Int → Int} {l : Int} {n : Nat} : 0 ≤ shF R N s F l n ∧ shF R N s F l n < 2521 := by
  cases n with
  | zero => unfold shF; exact ⟨Int.emod_nonneg _ (by decide), Int.emod_lt_of_pos _ (by decide)⟩
  | succ m => unfold shF; exact ⟨Int.emod_nonneg _ (by decide), Int.emod_lt_of_pos _ (by decide)⟩
theorem rtS_r {R N : Int} {F : Int → Int} {n : Nat} {l : Int} : ∀ k : Nat, 0 ≤ rtS R N F n l k ∧ rtS R N F n l k ≤ 2521 * k := by
  intro k
  induction k with
  | zero => unfold rtS; omega
  | succ k ih =>
    have := shF_r (R := R) (N := N) (s := k) (F := F) (l := l) (n := n)
    unfold rtS
    split <;> omega
section SP
variable {t d : Nat} {g : hkG} {R N : Int} {Q : Option hkV → Nat → hkG → Prop}
/-- the powers, as the determinants want them -/
theorem rdy_K (hb : bxOk R N) (hR : RDY g R N) {s : Nat} (hs : s < 2 ^ N.toNat) (hp : (pbN s : Int) = R) (h21 : ∀ j : Nat, (j : Int) < R → g 21 j = chBn s j) :
    (∀ c : Int, 0 ≤ c → c < R → g 21 c = chK s c ∧ 0 ≤ chK s c ∧ chK s c < N) ∧ (∀ c : Int, ∀ e : Nat, 0 ≤ c → c < R → e < 7 → g 19 (7 * chK s c + e) = rtB R N s c ^ e % 2521) ∧ (∀ c : Int, ∀ e : Nat, 0 ≤ c → c < R → e < 7 → g 20 (7 * chK s c + e) = rtI R N s c ^ e % 2521) := by
  obtain ⟨b1, b2, b3, b4⟩ := id hb
  obtain ⟨h1, h2, h3⟩ := cbEnds N.toNat (by omega) s hs
  have hK : ∀ c : Int, 0 ≤ c → c < R → g 21 c = chK s c ∧ 0 ≤ chK s c ∧ chK s c < N := by
    intro c c0 c1
    have := h3 c.toNat (by omega)
    have h4 := h21 c.toNat (by omega)
    rw [show ((c.toNat : Nat) : Int) = c from by omega] at h4
    unfold chK
    exact ⟨h4, by omega, by omega⟩
  refine ⟨hK, fun c e c0 c1 e7 => ?_, fun c e c0 c1 e7 => ?_⟩
  · exact (hR (chBn s c.toNat) e (hK c c0 c1).2.2 e7).1
  · exact (hR (chBn s c.toNat) e (hK c c0 c1).2.2 e7).2
theorem l_shareF (ht : 46 ≤ t) (hX : BX g R N) (hR : RDY g R N) {s : Nat} (hs : s < 2 ^ N.toNat) (hp : (pbN s : Int) = R) (h21 : ∀ j : Nat, (j : Int) < R → g 21 j = chBn s j) {n : Nat} (hn : n ≤ 8) {F : Int → Int} (hF : ∀ k : Int, 0 ≤ k → k < n → g 18 k = F k ∧ 0 ≤ F k ∧ F k < bxC R N) {l : Int} : ∀ (m k : Nat) (v7 : hkV), k + m = n → hkP1 v7 → Q (some (0, shF R N s F l n)) t g →
    Xp 68 (d + 5) 40 [(2, 17), (0, (n : Int)), (0, l), (0, alA R N s 0), (0, alA R N s 0 ^ 2519 % 2521), (0, shF R N s F l k), (0, (k : Int)), v7] [] t g Q := by
  have hb := hX.1
  obtain ⟨b1, b2, b3, b4⟩ := id hb
  obtain ⟨y1, y2, y3⟩ := rdy_K hb hR hs hp h21
  have hA := alA_r (R := R) (N := N) (s := s) (i := 0)
  intro m
  induction m with
  | zero =>
    intro k v7 hk h7 hQ
    have e : k = n := by omega
    subst e
    rw [x_68_40]
    simp only [x_68_42, x_68_43, hkJK_17, hkJK_18, hkJK_19, hkJK_20, jA_17_0, jA_17_2, jA_17_3, jL_18, jL_19, jL_20, jR_17_0, jR_17_2, jR_17_3, hkP1_0, hkP1_2, hkP1_u, hkC8, List.map_cons, List.map_nil, List.sum_cons, List.sum_nil, hkCat_0, hkCat_1, hkCat_2, Nat.reduceAdd, Nat.reduceLeDiff, hkPush_s, hkPush_n, true_and, and_true, implies_true, true_implies, not_true_eq_false, not_false_eq_true, false_implies, hkTf_0, hkTf_n1, hkOr01, hkOr11, Int.reduceEq, Int.reduceLT, Int.reduceLE, hk102a, hk102b, hk102c, Nat.reduceEqDiff, or_true, true_or, or_false, false_or, and_false, false_and, Classical.not_not, true_implies, List.set_cons_zero, List.set_cons_succ, ne_eq, x_68_89, x_68_91, hkJK_17, hkJK_18, hkJK_19, hkJK_20, jA_17_0, jA_17_2, jA_17_3, jL_18, jL_19, jL_20, jR_17_0, jR_17_2, jR_17_3, hkP1_0, hkP1_2, hkP1_u, hkC8, List.map_cons, List.map_nil, List.sum_cons, List.sum_nil, hkCat_0, hkCat_1, hkCat_2, Nat.reduceAdd, Nat.reduceLeDiff, hkPush_s, hkPush_n, true_and, and_true, implies_true, true_implies, not_true_eq_false, not_false_eq_true, false_implies, hkTf_0, hkTf_n1, hkOr01, hkOr11, Int.reduceEq, Int.reduceLT, Int.reduceLE, hk102a, hk102b, hk102c, Nat.reduceEqDiff, or_true, true_or, or_false, false_or, and_false, false_and, Classical.not_not, true_implies, List.set_cons_zero, List.set_cons_succ, ne_eq]
    exact ⟨fun _ => hQ, fun h => absurd (by omega) h⟩
  | succ m ih =>
    intro k v7 hk h7 hQ
    obtain ⟨f1, f2, f3⟩ := hF k (by omega) (by omega)
    have hw : hkW ((k : Int) + 1) = ((k + 1 : Nat) : Int) := by rw [hkW_in (by omega) (by omega)]; omega
    have hA2 := alA_r (R := R) (N := N) (s := s) (i := F k)
    have hS := shF_r (R := R) (N := N) (s := s) (F := F) (l := l) (n := k)
    have hI : 0 ≤ alA R N s 0 ^ 2519 % 2521 ∧ alA R N s 0 ^ 2519 % 2521 < 2521 := ⟨Int.emod_nonneg _ (by decide), Int.emod_lt_of_pos _ (by decide)⟩
    obtain ⟨z1, z2⟩ := mul_lt2521 hA2.1 hA2.2 hI.1 hI.2
    have hM : 0 ≤ alA R N s (F k) * (alA R N s 0 ^ 2519 % 2521) % 2521 ∧ alA R N s (F k) * (alA R N s 0 ^ 2519 % 2521) % 2521 < 2521 := ⟨Int.emod_nonneg _ (by decide), Int.emod_lt_of_pos _ (by decide)⟩
    obtain ⟨z3, z4⟩ := mul_lt2521 hS.1 hS.2 hM.1 hM.2
    rw [x_68_40]
    simp only [x_68_42, x_68_43, x_68_46, x_68_47, x_68_48, x_68_51, x_68_52, x_68_55, x_68_57, x_68_58, x_68_59, x_68_60, x_68_63, x_68_65, x_68_66, x_68_69, x_68_70, x_68_72, x_68_74, x_68_76, x_68_77, x_68_80, x_68_81, x_68_83, x_68_86, x_68_89, x_68_91, hkJK_17, hkJK_18, hkJK_19, hkJK_20, jA_17_0, jA_17_2, jA_17_3, jL_18, jL_19, jL_20, jR_17_0, jR_17_2, jR_17_3, hkP1_0, hkP1_2, hkP1_u, hkC8, List.map_cons, List.map_nil, List.sum_cons, List.sum_nil, hkCat_0, hkCat_1, hkCat_2, Nat.reduceAdd, Nat.reduceLeDiff, hkPush_s, hkPush_n, true_and, and_true, implies_true, true_implies, not_true_eq_false, not_false_eq_true, false_implies, hkTf_0, hkTf_n1, hkOr01, hkOr11, Int.reduceEq, Int.reduceLT, Int.reduceLE, hk102a, hk102b, hk102c, Nat.reduceEqDiff, or_true, true_or, or_false, false_or, and_false, false_and, Classical.not_not, true_implies, List.set_cons_zero, List.set_cons_succ, ne_eq, hkLe_t ht, f1]
    rw [sx_alternant ht hX hkJK_19 jL_19 f2 f3 y1 y2]
    have eA : alV R N (rtB R N s) (F k) R.toNat 0 = alA R N s (F k) := rfl
    have eM : (alA R N s (F k) * (alA R N s 0 ^ 2519 % 2521)).tmod 2521 = alA R N s (F k) * (alA R N s 0 ^ 2519 % 2521) % 2521 := Int.tmod_eq_emod_of_nonneg z1
    have eN : (shF R N s F l k * (alA R N s (F k) * (alA R N s 0 ^ 2519 % 2521) % 2521)).tmod 2521 = shF R N s F l (k + 1) := Int.tmod_eq_emod_of_nonneg z3
    obtain ⟨e1, e2⟩ : hkW (alA R N s (F k) * (alA R N s 0 ^ 2519 % 2521)) = alA R N s (F k) * (alA R N s 0 ^ 2519 % 2521) ∧ hkW (shF R N s F l k * (alA R N s (F k) * (alA R N s 0 ^ 2519 % 2521) % 2521)) = shF R N s F l k * (alA R N s (F k) * (alA R N s 0 ^ 2519 % 2521) % 2521) := ⟨hkW_in (by omega) (by omega), hkW_in (by omega) (by omega)⟩
    simp only [eA, x_68_65, x_68_66, x_68_69, x_68_70, x_68_72, x_68_74, x_68_76, x_68_77, x_68_80, x_68_81, x_68_83, x_68_86, x_68_89, x_68_91, hkJK_17, hkJK_18, hkJK_19, hkJK_20, jA_17_0, jA_17_2, jA_17_3, jL_18, jL_19, jL_20, jR_17_0, jR_17_2, jR_17_3, hkP1_0, hkP1_2, hkP1_u, hkC8, List.map_cons, List.map_nil, List.sum_cons, List.sum_nil, hkCat_0, hkCat_1, hkCat_2, Nat.reduceAdd, Nat.reduceLeDiff, hkPush_s, hkPush_n, true_and, and_true, implies_true, true_implies, not_true_eq_false, not_false_eq_true, false_implies, hkTf_0, hkTf_n1, hkOr01, hkOr11, Int.reduceEq, Int.reduceLT, Int.reduceLE, hk102a, hk102b, hk102c, Nat.reduceEqDiff, or_true, true_or, or_false, false_or, and_false, false_and, Classical.not_not, true_implies, List.set_cons_zero, List.set_cons_succ, ne_eq, e1, eM, e2, eN, hw]
    clear e1 e2 hw
    exact ⟨fun h => absurd h (by omega), fun _ => ⟨by omega, ih (k + 1) _ (by omega) (by unfold hkP1; simp) hQ⟩⟩
theorem sx_shareOf (ht : 46 ≤ t) (hX : BX g R N) (hR : RDY g R N) {s : Nat} (hs : s < 2 ^ N.toNat) (hp : (pbN s : Int) = R) (h21 : ∀ j : Nat, (j : Int) < R → g 21 j = chBn s j) {n : Nat} (hn : n ≤ 8) {F : Int → Int} (hF : ∀ k : Int, 0 ≤ k → k < n → g 18 k = F k ∧ 0 ≤ F k ∧ F k < bxC R N) {l : Int} (hl0 : 0 ≤ l) (hl : l < bxC R N) :
    Xp 68 (d + 5) 0 [(2, 17), (0, (n : Int)), (0, l), hkU, hkU, hkU, hkU, hkU] [] t g Q = Q (some (0, shF R N s F l n)) t g := by
  have hb := hX.1
  obtain ⟨b1, b2, b3, b4⟩ := id hb
  have hC := bx_C hb
  obtain ⟨y1, y2, y3⟩ := rdy_K hb hR hs hp h21
  have hA := alA_r (R := R) (N := N) (s := s) (i := 0)
  have hO := alO_r (R := R) (N := N) (s := s) (i := l)
  obtain ⟨z1, z2⟩ := mul_lt2521 hA.1 hA.2 hO.1 hO.2
  have eA : alV R N (rtB R N s) 0 R.toNat 0 = alA R N s 0 := rfl
  have eO : alV R N (rtI R N s) l R.toNat 0 = alO R N s l := rfl
  have eN : (alA R N s 0 * alO R N s l).tmod 2521 = shF R N s F l 0 := Int.tmod_eq_emod_of_nonneg z1
  have e1 : hkW (alA R N s 0 * alO R N s l) = alA R N s 0 * alO R N s l := hkW_in (by omega) (by omega)
  refine Xp_ev (d := 5) (Ev_of ?_) (by omega)
  have A1 : ∀ Q : Option hkV → Nat → hkG → Prop, Xp 69 4 0 [(2, 17), (2, 19), (0, 0), (0, 0), (0, 0), hkU, hkU, hkU, hkU, hkU] [] t g Q = Q (some (0, alA R N s 0)) t g := fun Q => sx_alternant (d := 0) ht hX hkJK_19 jL_19 (by decide) (by omega) y1 y2
  have A2 : ∀ Q : Option hkV → Nat → hkG → Prop, Xp 69 4 0 [(2, 17), (2, 20), (0, l), (0, 0), (0, 0), hkU, hkU, hkU, hkU, hkU] [] t g Q = Q (some (0, alO R N s l)) t g := fun Q => sx_alternant (d := 0) ht hX hkJK_20 jL_20 hl0 hl y1 y3
  have A3 : ∀ Q : Option hkV → Nat → hkG → Prop, Xp 66 4 0 [(0, alA R N s 0)] [] t g Q = Q (some (0, alA R N s 0 ^ 2519 % 2521)) t g := fun Q => sx_inverse (d := 3) hA.1 (by omega)
  simp only [x_68_0, x_68_1, x_68_2, x_68_5, x_68_6, x_68_7, x_68_8, x_68_11, x_68_12, x_68_13, x_68_16, x_68_18, x_68_19, x_68_20, x_68_21, x_68_24, x_68_25, x_68_26, x_68_27, x_68_30, x_68_31, x_68_34, x_68_35, x_68_37, x_68_38, hkJK_17, hkJK_18, hkJK_19, hkJK_20, jA_17_0, jA_17_2, jA_17_3, jL_18, jL_19, jL_20, jR_17_0, jR_17_2, jR_17_3, hkP1_0, hkP1_2, hkP1_u, hkC8, List.map_cons, List.map_nil, List.sum_cons, List.sum_nil, hkCat_0, hkCat_1, hkCat_2, Nat.reduceAdd, Nat.reduceLeDiff, hkPush_s, hkPush_n, true_and, and_true, implies_true, true_implies, not_true_eq_false, not_false_eq_true, false_implies, hkTf_0, hkTf_n1, hkOr01, hkOr11, Int.reduceEq, Int.reduceLT, Int.reduceLE, hk102a, hk102b, hk102c, Nat.reduceEqDiff, or_true, true_or, or_false, false_or, and_false, false_and, Classical.not_not, true_implies, List.set_cons_zero, List.set_cons_succ, ne_eq, hkLe_t ht, A1, A2, A3, e1, eN]
  clear e1
  exact l_shareF (d := 0) ht hX hR hs hp h21 hn hF n 0 _ (by omega) (by rw [hkP1_u]; trivial) ⟨rfl, rfl, rfl⟩
theorem shlChk : ∀ N : Nat, N < 8 → hkShl 1 (N : Int) = ((2 ^ N : Nat) : Int) ∧ 2 ^ N ≤ 128 := by decide +kernel
theorem RDY_row {g g' : hkG} (h : RDY g R N) (h1 : g' 19 = g 19) (h2 : g' 20 = g 20) : RDY g' R N := fun r e hr he => by rw [h1, h2]; exact h r e hr he
theorem l_rOften (ht : 46 ≤ t) (hb : bxOk R N) {n : Nat} (hn : n ≤ 8) {F : Int → Int} {l : Int} (hl0 : 0 ≤ l) (hl : l < bxC R N) : ∀ (m k : Nat) (g : hkG), k + m = 2 ^ N.toNat → BX g R N → RDY g R N → (∀ k : Int, 0 ≤ k → k < n → g 18 k = F k ∧ 0 ≤ F k ∧ F k < bxC R N) →
    (∀ g' : hkG, (∀ q : Int, q ≠ 21 → g' q = g q) → Q (some (0, RTS R N F n l)) t g') →
    Xp 62 (d + 6) 16 [(2, 17), (0, (n : Int)), (0, l), (0, rtS R N F n l k), (0, (k : Int))] [] t g Q := by
  obtain ⟨b1, b2, b3, b4⟩ := id hb
  obtain ⟨p1, p2⟩ := shlChk N.toNat (by omega)
  rw [show ((N.toNat : Nat) : Int) = N from by omega] at p1
  intro m
  induction m with
  | zero =>
    intro k g hk hX hR hF hQ
    have e : k = 2 ^ N.toNat := by omega
    obtain ⟨x1, x2, x3, x4, x5, x6, x7, x8⟩ := BX_f hX
    have hS := rtS_r (R := R) (N := N) (F := F) (n := n) (l := l) k
    rw [x_62_16]
    simp only [x_62_18, x_62_19, x_62_20, x_62_23, x_62_26, x_62_27, hkJK_1, hkJK_17, jA_17_1, jR_17_1, hkP1_0, hkP1_2, hkP1_u, hkC8, List.map_cons, List.map_nil, List.sum_cons, List.sum_nil, hkCat_0, hkCat_1, hkCat_2, Nat.reduceAdd, Nat.reduceLeDiff, hkPush_s, hkPush_n, true_and, and_true, implies_true, true_implies, not_true_eq_false, not_false_eq_true, false_implies, hkTf_0, hkTf_n1, hkOr01, hkOr11, Int.reduceEq, Int.reduceLT, Int.reduceLE, hk102a, hk102b, hk102c, Nat.reduceEqDiff, or_true, true_or, or_false, false_or, and_false, false_and, Classical.not_not, true_implies, List.set_cons_zero, List.set_cons_succ, ne_eq, x_62_66, x_62_67, x_62_70, x_62_71, x_62_72, x_62_75, x_62_78, x_62_79, x_62_82, x_62_85, x_62_88, x_62_91, x_62_92, x_62_95, x_62_96, hkJK_1, hkJK_17, jA_17_1, jR_17_1, hkP1_0, hkP1_2, hkP1_u, hkC8, List.map_cons, List.map_nil, List.sum_cons, List.sum_nil, hkCat_0, hkCat_1, hkCat_2, Nat.reduceAdd, Nat.reduceLeDiff, hkPush_s, hkPush_n, true_and, and_true, implies_true, true_implies, not_true_eq_false, not_false_eq_true, false_implies, hkTf_0, hkTf_n1, hkOr01, hkOr11, Int.reduceEq, Int.reduceLT, Int.reduceLE, hk102a, hk102b, hk102c, Nat.reduceEqDiff, or_true, true_or, or_false, false_or, and_false, false_and, Classical.not_not, true_implies, List.set_cons_zero, List.set_cons_succ, ne_eq, hkLe_t ht, x1, x2, p1]
    have hp : ∀ Q : Option hkV → Nat → hkG → Prop, Xp 64 (d + 5) 0 [(0, N), (0, R), hkU, hkU, hkU] [] t g Q = Q (some (0, N ^ R.toNat % 2521)) t g := by
      intro Q
      have := sx_power (t := t) (g := g) (d := d + 5) (Q := Q) (x := N) (n := R.toNat) (by omega) (by omega) (by omega)
      rw [show ((R.toNat : Nat) : Int) = R from by omega] at this
      exact this
    have hP : 0 ≤ N ^ R.toNat % 2521 ∧ N ^ R.toNat % 2521 < 2521 := ⟨Int.emod_nonneg _ (by decide), Int.emod_lt_of_pos _ (by decide)⟩
    have hI : 0 ≤ (N ^ R.toNat % 2521) ^ 2519 % 2521 ∧ (N ^ R.toNat % 2521) ^ 2519 % 2521 < 2521 := ⟨Int.emod_nonneg _ (by decide), Int.emod_lt_of_pos _ (by decide)⟩
    have hi : ∀ Q : Option hkV → Nat → hkG → Prop, Xp 66 (d + 5) 0 [(0, N ^ R.toNat % 2521)] [] t g Q = Q (some (0, (N ^ R.toNat % 2521) ^ 2519 % 2521)) t g := fun Q => sx_inverse (d := d + 4) hP.1 (by omega)
    have hM : 0 ≤ rtS R N F n l k % 2521 ∧ rtS R N F n l k % 2521 < 2521 := ⟨Int.emod_nonneg _ (by decide), Int.emod_lt_of_pos _ (by decide)⟩
    obtain ⟨z1, z2⟩ := mul_lt2521 hM.1 hM.2 hI.1 hI.2
    have e1 : hkW (rtS R N F n l k % 2521 * ((N ^ R.toNat % 2521) ^ 2519 % 2521)) = rtS R N F n l k % 2521 * ((N ^ R.toNat % 2521) ^ 2519 % 2521) := hkW_in (by omega) (by omega)
    simp only [hp, hi, x_62_88, x_62_91, x_62_92, x_62_95, x_62_96, hkJK_1, hkJK_17, jA_17_1, jR_17_1, hkP1_0, hkP1_2, hkP1_u, hkC8, List.map_cons, List.map_nil, List.sum_cons, List.sum_nil, hkCat_0, hkCat_1, hkCat_2, Nat.reduceAdd, Nat.reduceLeDiff, hkPush_s, hkPush_n, true_and, and_true, implies_true, true_implies, not_true_eq_false, not_false_eq_true, false_implies, hkTf_0, hkTf_n1, hkOr01, hkOr11, Int.reduceEq, Int.reduceLT, Int.reduceLE, hk102a, hk102b, hk102c, Nat.reduceEqDiff, or_true, true_or, or_false, false_or, and_false, false_and, Classical.not_not, true_implies, List.set_cons_zero, List.set_cons_succ, ne_eq, Int.tmod_eq_emod_of_nonneg hS.1, e1, Int.tmod_eq_emod_of_nonneg z1]
    clear e1
    have := hQ g (fun _ _ => rfl)
    unfold RTS at this
    rw [← e] at this
    exact ⟨fun _ => this, fun h => absurd (by omega) h⟩
  | succ m ih =>
    intro k g hk hX hR hF hQ
    obtain ⟨x1, x2, x3, x4, x5, x6, x7, x8⟩ := BX_f hX
    have hS := rtS_r (R := R) (N := N) (F := F) (n := n) (l := l) k
    have h128 : k < 128 := by omega
    have hSF := shF_r (R := R) (N := N) (s := k) (F := F) (l := l) (n := n)
    obtain ⟨hw, hw2⟩ : hkW ((k : Int) + 1) = ((k + 1 : Nat) : Int) ∧ hkW (rtS R N F n l k + shF R N k F l n) = rtS R N F n l k + shF R N k F l n := ⟨by rw [hkW_in (by omega) (by omega)]; omega, hkW_in (by omega) (by omega)⟩
    have hs1 : rtS R N F n l (k + 1) = rtS R N F n l k + (if (pbN k : Int) = R then shF R N k F l n else 0) := rfl
    rw [x_62_16]
    simp only [x_62_18, x_62_19, x_62_20, x_62_23, x_62_26, x_62_27, x_62_30, x_62_32, x_62_35, x_62_36, x_62_39, x_62_42, x_62_45, x_62_46, x_62_48, x_62_51, x_62_52, x_62_53, x_62_54, x_62_55, x_62_58, x_62_59, x_62_60, x_62_63, hkJK_1, hkJK_17, jA_17_1, jR_17_1, hkP1_0, hkP1_2, hkP1_u, hkC8, List.map_cons, List.map_nil, List.sum_cons, List.sum_nil, hkCat_0, hkCat_1, hkCat_2, Nat.reduceAdd, Nat.reduceLeDiff, hkPush_s, hkPush_n, true_and, and_true, implies_true, true_implies, not_true_eq_false, not_false_eq_true, false_implies, hkTf_0, hkTf_n1, hkOr01, hkOr11, Int.reduceEq, Int.reduceLT, Int.reduceLE, hk102a, hk102b, hk102c, Nat.reduceEqDiff, or_true, true_or, or_false, false_or, and_false, false_and, Classical.not_not, true_implies, List.set_cons_zero, List.set_cons_succ, ne_eq, hkLe_t ht, x1, x2, p1, sx_bitCount h128, hw]
    clear hw2
    clear hw
    refine ⟨fun h => absurd h (by omega), fun _ => ⟨fun h => ?_, fun h => ?_⟩⟩
    · rw [if_neg h, Int.add_zero] at hs1
      rw [← hs1]
      exact ih (k + 1) g (by omega) hX hR hF hQ
    · have hpk : (pbN k : Int) = R := by omega
      rw [if_pos hpk] at hs1
      have hks : k < 2 ^ N.toNat := by omega
      refine sx_choose ht hb hks hpk x2 (fun g1 k1 k2 => ?_)
      have hX1 : BX g1 R N := BX_row hX (fun p q1 q2 => k1 p (by omega))
      have hR1 : RDY g1 R N := RDY_row hR (k1 19 (by decide)) (k1 20 (by decide))
      have hF1 : ∀ k : Int, 0 ≤ k → k < n → g1 18 k = F k ∧ 0 ≤ F k ∧ F k < bxC R N := fun k a1 a2 => by rw [k1 18 (by decide)]; exact hF k a1 a2
      obtain ⟨hw, hw2⟩ : hkW ((k : Int) + 1) = ((k + 1 : Nat) : Int) ∧ hkW (rtS R N F n l (k + 1)) = rtS R N F n l (k + 1) := ⟨by rw [hkW_in (by omega) (by omega)]; omega, by rw [hs1]; exact hkW_in (by omega) (by omega)⟩
      simp only [x_62_51, x_62_52, x_62_53, x_62_54, x_62_55, x_62_58, x_62_59, x_62_60, x_62_63, hkJK_1, hkJK_17, jA_17_1, jR_17_1, hkP1_0, hkP1_2, hkP1_u, hkC8, List.map_cons, List.map_nil, List.sum_cons, List.sum_nil, hkCat_0, hkCat_1, hkCat_2, Nat.reduceAdd, Nat.reduceLeDiff, hkPush_s, hkPush_n, true_and, and_true, implies_true, true_implies, not_true_eq_false, not_false_eq_true, false_implies, hkTf_0, hkTf_n1, hkOr01, hkOr11, Int.reduceEq, Int.reduceLT, Int.reduceLE, hk102a, hk102b, hk102c, Nat.reduceEqDiff, or_true, true_or, or_false, false_or, and_false, false_and, Classical.not_not, true_implies, List.set_cons_zero, List.set_cons_succ, ne_eq, sx_shareOf (d := d) ht hX1 hR1 hks hpk k2 hn hF1 hl0 hl, ← hs1, hw2, hw]
      clear hw hw2
      exact ih (k + 1) g1 (by omega) hX1 hR1 hF1 (fun g' m1 => hQ g' (fun q hq => by rw [m1 q hq, k1 q hq]))
theorem sx_rOften (ht : 46 ≤ t) (hX : BX g R N) {n : Nat} (hn : n ≤ 8) {F : Int → Int} {l : Int} (hl0 : 0 ≤ l) (hl : l < bxC R N) (hR : g 17 5 = 0 ∨ (g 17 5 = 1 ∧ RDY g R N)) (hF : ∀ k : Int, 0 ≤ k → k < n → g 18 k = F k ∧ 0 ≤ F k ∧ F k < bxC R N)
    (hQ : ∀ g' : hkG, (∀ q : Int, q ≠ 17 → q ≠ 19 → q ≠ 20 → q ≠ 21 → g' q = g q) → g' 17 5 = 1 → RDY g' R N → Q (some (0, RTS R N F n l)) t g') :
    Xp 62 (d + 6) 0 [(2, 17), (0, (n : Int)), (0, l), hkU, hkU] [] t g Q := by
  have hb := hX.1
  obtain ⟨x1, x2, x3, x4, x5, x6, x7, x8⟩ := BX_f hX
  simp only [x_62_0, x_62_1, x_62_4, x_62_7, x_62_8, x_62_11, x_62_12, x_62_13, x_62_14, hkJK_1, hkJK_17, jA_17_1, jR_17_1, hkP1_0, hkP1_2, hkP1_u, hkC8, List.map_cons, List.map_nil, List.sum_cons, List.sum_nil, hkCat_0, hkCat_1, hkCat_2, Nat.reduceAdd, Nat.reduceLeDiff, hkPush_s, hkPush_n, true_and, and_true, implies_true, true_implies, not_true_eq_false, not_false_eq_true, false_implies, hkTf_0, hkTf_n1, hkOr01, hkOr11, Int.reduceEq, Int.reduceLT, Int.reduceLE, hk102a, hk102b, hk102c, Nat.reduceEqDiff, or_true, true_or, or_false, false_or, and_false, false_and, Classical.not_not, true_implies, List.set_cons_zero, List.set_cons_succ, ne_eq, hkLe_t ht]
  refine ⟨fun h => ?_, fun h => ?_⟩
  · rcases hR with h1 | ⟨h1, h2⟩
    · exact absurd h1 h
    · exact l_rOften ht hb hn hl0 hl (2 ^ N.toNat) 0 g (Nat.zero_add _) hX h2 hF (fun g' k1 => hQ g' (fun q _ _ _ q4 => k1 q q4) (by rw [k1 17 (by decide)]; exact h1) (RDY_row h2 (k1 19 (by decide)) (k1 20 (by decide))))
  · refine sx_prepare ht hb x1 x2 (fun g1 k1 k2 k3 => ?_)
    simp only [x_62_11, x_62_12, x_62_13, x_62_14, hkJK_1, hkJK_17, jA_17_1, jR_17_1, hkP1_0, hkP1_2, hkP1_u, hkC8, List.map_cons, List.map_nil, List.sum_cons, List.sum_nil, hkCat_0, hkCat_1, hkCat_2, Nat.reduceAdd, Nat.reduceLeDiff, hkPush_s, hkPush_n, true_and, and_true, implies_true, true_implies, not_true_eq_false, not_false_eq_true, false_implies, hkTf_0, hkTf_n1, hkOr01, hkOr11, Int.reduceEq, Int.reduceLT, Int.reduceLE, hk102a, hk102b, hk102c, Nat.reduceEqDiff, or_true, true_or, or_false, false_or, and_false, false_and, Classical.not_not, true_implies, List.set_cons_zero, List.set_cons_succ, ne_eq]
    refine l_rOften ht hb hn hl0 hl (2 ^ N.toNat) 0 g1 (Nat.zero_add _) (BX_row hX (fun p q1 q2 => k1 p (by omega) (by omega) (by omega))) k3 (fun k a1 a2 => by rw [k1 18 (by decide) (by decide) (by decide)]; exact hF k a1 a2) (fun g' m1 => hQ g' (fun q q1 q2 q3 q4 => by rw [m1 q q4, k1 q q1 q2 q3]) (by rw [m1 17 (by decide)]; exact k2) (RDY_row k3 (m1 19 (by decide)) (m1 20 (by decide))))
end SP
