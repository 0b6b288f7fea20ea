/-! Roots: the roots of 1 (or of -1) modulo 2521, and the sets of them, as tables -/
def rtL (p N : Nat) : List Nat := match p, N with
  | 1, 2 => [1, 2520]
  | 0, 2 => [71, 2450]
  | 1, 3 => [1, 675, 1845]
  | 0, 3 => [676, 1846, 2520]
  | 1, 4 => [1, 71, 2450, 2520]
  | 0, 4 => [159, 1205, 1316, 2362]
  | 1, 5 => [1, 757, 782, 1442, 2060]
  | 0, 5 => [461, 1079, 1739, 1764, 2520]
  | 1, 6 => [1, 675, 676, 1845, 1846, 2520]
  | 0, 6 => [26, 71, 97, 2424, 2450, 2495]
  | 1, 7 => [1, 485, 772, 1028, 1312, 1943, 2022]
  | 0, 7 => [499, 578, 1209, 1493, 1749, 2036, 2520]
  | _, _ => []
def rtCn (l : List Nat) (x : Nat) : Nat := (l.filter (fun y => Nat.blt y x)).length
def rtOkB (p N x : Nat) : Bool := Nat.beq x 0 || (Nat.ble 2521 x || (Nat.blt N 2 || if Nat.beq (x ^ N % 2521) (if p = 0 then 2520 else 1) then Nat.beq ((rtL p N).getD (rtCn (rtL p N) x) 0) x && Nat.beq (rtCn (rtL p N) (x + 1)) (rtCn (rtL p N) x + 1) else Nat.beq (rtCn (rtL p N) (x + 1)) (rtCn (rtL p N) x)))
theorem rtAll : ∀ p, p < 2 → ∀ N, N < 8 → ∀ a, a < 40 → ∀ b, b < 64 → rtOkB p N (64 * a + b) = true := by decide +kernel
theorem rtEnds : ∀ p, p < 2 → ∀ N, N < 8 → 2 ≤ N → (rtL p N).length = N ∧ rtCn (rtL p N) 1 = 0 ∧ rtCn (rtL p N) 2521 = N ∧ ∀ k, k < N → 1 ≤ (rtL p N).getD k 0 ∧ (rtL p N).getD k 0 ≤ 2520 := by decide +kernel
/-- the root with a number -/
def rtX (R N k : Int) : Int := (((rtL (R.toNat % 2) N.toNat).getD k.toNat 0 : Nat) : Int)
def rtW (R : Int) : Int := if R % 2 = 0 then 2520 else 1
def rtC (R N : Int) (x : Nat) : Nat := rtCn (rtL (R.toNat % 2) N.toNat) x
theorem rt_end {R N : Int} (hb : bxOk R N) : rtC R N 1 = 0 ∧ ((rtC R N 2521 : Nat) : Int) = N ∧ (∀ x : Nat, ((rtC R N x : Nat) : Int) ≤ N) ∧ (∀ k : Int, 0 ≤ k → k < N → 1 ≤ rtX R N k ∧ rtX R N k ≤ 2520) := by
  obtain ⟨b1, b2, b3, b4⟩ := hb
  obtain ⟨h1, h2, h3, h4⟩ := rtEnds (R.toNat % 2) (by omega) N.toNat (by omega) (by omega)
  refine ⟨h2, by unfold rtC; omega, fun x => ?_, fun k k0 k1 => ?_⟩
  · have := List.length_filter_le (fun y => Nat.blt y x) (rtL (R.toNat % 2) N.toNat)
    unfold rtC rtCn; omega
  · have := h4 k.toNat (by omega)
    unfold rtX; omega
theorem rt_at {R N : Int} (hb : bxOk R N) {x : Nat} (h0 : 1 ≤ x) (h1 : x ≤ 2520) : (((x : Int) ^ N.toNat % 2521 = rtW R → rtX R N (rtC R N x : Nat) = x ∧ rtC R N (x + 1) = rtC R N x + 1) ∧ (¬ ((x : Int) ^ N.toNat % 2521 = rtW R) → rtC R N (x + 1) = rtC R N x)) := by
  obtain ⟨b1, b2, b3, b4⟩ := hb
  have h := rtAll (R.toNat % 2) (by omega) N.toNat (by omega) (x / 64) (by omega) (x % 64) (by omega)
  rw [Nat.div_add_mod] at h
  unfold rtOkB at h
  have z1 : Nat.beq x 0 = false := by rw [← Bool.not_eq_true, Nat.beq_eq]; omega
  have z2 : Nat.ble 2521 x = false := by rw [← Bool.not_eq_true, Nat.ble_eq]; omega
  have z3 : Nat.blt N.toNat 2 = false := by rw [← Bool.not_eq_true, Nat.blt_eq]; omega
  rw [z1, z2, z3, Bool.false_or, Bool.false_or, Bool.false_or] at h
  have e : ((x : Int) ^ N.toNat % 2521 = rtW R) ↔ (Nat.beq (x ^ N.toNat % 2521) (if R.toNat % 2 = 0 then 2520 else 1) = true) := by
    rw [Nat.beq_eq]
    unfold rtW
    have : (x : Int) ^ N.toNat % 2521 = ((x ^ N.toNat % 2521 : Nat) : Int) := by rw [Int.natCast_emod, Int.natCast_pow]; rfl
    rw [this]
    split <;> split <;> omega
  rw [e]
  refine ⟨fun h2 => ?_, fun h2 => ?_⟩
  · rw [if_pos h2] at h
    simp only [Bool.and_eq_true, Nat.beq_eq] at h
    refine ⟨?_, h.2⟩
    unfold rtX
    rw [Int.toNat_natCast]
    exact congrArg Nat.cast h.1
  · rw [if_neg h2, Nat.beq_eq] at h
    exact h
/-- the numbers of the bits of a set -/
def chFn (s k : Nat) : Nat := ((List.range k).filter (fun b => s.testBit b)).length
def chBn (s j : Nat) : Nat := ((List.range 7).filter (fun b => s.testBit b)).getD j 0
theorem cbAll : ∀ s, s < 128 → ∀ k, k < 7 → (hkAnd (hkShr (s : Nat) (k : Nat)) 1 = 0 ∧ chFn s (k + 1) = chFn s k) ∨ (hkAnd (hkShr (s : Nat) (k : Nat)) 1 = 1 ∧ chFn s (k + 1) = chFn s k + 1 ∧ chBn s (chFn s k) = k) := by decide +kernel
theorem cbEnds : ∀ N, N < 8 → ∀ s, s < 2 ^ N → chFn s 0 = 0 ∧ chFn s N = pbN s ∧ ∀ j, j < pbN s → chBn s j < N := by decide +kernel
theorem cbMono (s : Nat) {a : Nat} : ∀ k : Nat, chFn s a ≤ chFn s (a + k) := by
  intro k
  induction k with
  | zero => exact Nat.le_refl _
  | succ k ih =>
    refine Nat.le_trans ih ?_
    unfold chFn
    rw [show a + (k + 1) = a + k + 1 from rfl, List.range_succ, List.filter_append, List.length_append]
    omega
theorem fmChk2 : ∀ a : Nat, a < 160 → ∀ b : Nat, b < 160 → (hkXor (((160 * a + b : Nat) : Int) - 12800) 2521 < 0 ↔ ((160 * a + b : Nat) : Int) - 12800 < 0) := by decide +kernel
theorem fmChk {v : Int} (h0 : -12800 ≤ v) (h1 : v < 12800) : hkXor v 2521 < 0 ↔ v < 0 := by
  have := fmChk2 ((v + 12800).toNat / 160) (by omega) ((v + 12800).toNat % 160) (by omega)
  rw [Nat.div_add_mod, show (((v + 12800).toNat : Nat) : Int) - 12800 = v from by omega] at this
  exact this
section SP
variable {t d : Nat} {g : hkG} {Q : Option hkV → Nat → hkG → Prop}
theorem s_floorMod {v : Int} (h0 : -12800 ≤ v) (h1 : v < 12800) : Ev 176 0 [(0, v), (0, 2521), hkU] t g (some (0, v % 2521)) t g := by
  apply Ev_of
  have h2 := fmChk h0 h1
  simp only [x_176_0, x_176_1, x_176_2, x_176_3, x_176_4, x_176_5, x_176_6, x_176_7, x_176_10, x_176_11, x_176_14, x_176_15, x_176_16, x_176_17, x_176_18, x_176_19, hkP1_0, hkP1_2, hkP1_u, hkC8, List.map_cons, List.map_nil, List.sum_cons, List.sum_nil, hkCat_0, hkCat_1, hkCat_2, Nat.reduceAdd, Nat.reduceLeDiff, hkPush_s, hkPush_n, true_and, and_true, implies_true, true_implies, not_true_eq_false, not_false_eq_true, false_implies, hkTf_0, hkTf_n1, hkOr01, hkOr11, Int.reduceEq, Int.reduceLT, Int.reduceLE, hk102a, hk102b, hk102c, Nat.reduceEqDiff, or_true, true_or, or_false, false_or, and_false, false_and, Classical.not_not, true_implies, List.set_cons_zero, List.set_cons_succ, ne_eq]
  by_cases h : v < 0
  · have e : v.tmod 2521 = -((-v) % 2521) := by
      rw [← Int.tmod_eq_emod_of_nonneg (by omega), Int.neg_tmod, Int.neg_neg]
    refine ⟨fun h3 => absurd (h2.2 h) (by omega), fun _ => ⟨fun h4 => ?_, fun h4 => ?_⟩⟩
    · congr 2; omega
    · have e2 : hkW (v.tmod 2521 + 2521) = v.tmod 2521 + 2521 := hkW_in (by omega) (by omega)
      rw [e2]; clear e2; congr 2; omega
  · have e : v.tmod 2521 = v % 2521 := Int.tmod_eq_emod_of_nonneg (by omega)
    rw [e]
    exact ⟨fun _ => rfl, fun h3 => absurd (h2.1 (by omega)) h⟩
end SP
