/-! Products: a row of slots times a strip -/
/-- the shape with a rest and a slot, among the first k -/
def bxAk (R N q s : Int) : Nat → Int
  | 0 => -1
  | k + 1 => if bxQ R N k = q ∧ bxSl R N k = s then (k : Int) else bxAk R N q s k
def bxA (R N q s : Int) : Int := bxAk R N q s (bxC R N).toNat
def bxK (R N q : Int) : Nat := (bxCq R N q (bxC R N).toNat).toNat
def bxAB (R N q : Nat) : Bool := decide (bxK R N q ≤ 5) && decide (∀ s : Nat, s < bxK R N q → 0 ≤ bxA R N q s ∧ bxA R N q s < bxC R N ∧ bxQ R N (bxA R N q s) = q ∧ bxSl R N (bxA R N q s) = s)
theorem bxAAll : ∀ R, R < 5 → ∀ N, N < 8 → bxOkB R N = true → ∀ q, q < N → bxAB R N q = true := by decide +kernel
theorem bx_A {R N q : Int} (hb : bxOk R N) (h0 : 0 ≤ q) (h1 : q < N) : bxK R N q ≤ 5 ∧ ∀ s : Nat, s < bxK R N q → 0 ≤ bxA R N q s ∧ bxA R N q s < bxC R N ∧ bxQ R N (bxA R N q s) = q ∧ bxSl R N (bxA R N q s) = s := by
  have K := bxAll (P := fun R N => ∀ q : Nat, (q : Int) < N → bxK R N q ≤ 5 ∧ ∀ s : Nat, s < bxK R N q → 0 ≤ bxA R N q s ∧ bxA R N q s < bxC R N ∧ bxQ R N (bxA R N q s) = q ∧ bxSl R N (bxA R N q s) = s) (fun R hR N hN ho q hq => ?_) hb q.toNat (by omega)
  · rw [show ((q.toNat : Nat) : Int) = q from by omega] at K
    exact K
  · have := bxAAll R hR N hN ho q (by omega)
    unfold bxAB at this
    simp only [Bool.and_eq_true, decide_eq_true_eq] at this
    exact this
def svB (R N i n : Nat) : Bool := decide (∀ s : Nat, s < 5 → 0 ≤ SV R N i n s ∧ SV R N i n s ≤ 1)
theorem svAll : ∀ R, R < 5 → ∀ N, N < 8 → bxOkB R N = true → ∀ i, i < (bxS R N).length → ∀ n, n ≤ N - R → svB R N i n = true := by decide +kernel
theorem sv_01 {R N i n s : Int} (hb : bxOk R N) (h0 : 0 ≤ i) (hi : i < bxC R N) (hn0 : 0 ≤ n) (hn : n ≤ N - R) (hs0 : 0 ≤ s) (hs : s < 5) : 0 ≤ SV R N i n s ∧ SV R N i n s ≤ 1 := by
  have K := bxAll1 (P := fun R N i => ∀ m : Nat, (m : Int) ≤ N - R → ∀ s : Nat, s < 5 → 0 ≤ SV R N i m s ∧ SV R N i m s ≤ 1) (fun R hR N hN ho i hi m hm => ?_) hb h0 hi n.toNat (by omega) s.toNat (by omega)
  · rw [show ((n.toNat : Nat) : Int) = n from by omega, show ((s.toNat : Nat) : Int) = s from by omega] at K
    exact K
  · have := svAll R hR N hN ho i hi m (by omega)
    unfold svB at this
    simpa using this
def mpS (R N q n : Int) (v : Int → Int) (s : Int) : Nat → Int
  | 0 => 0
  | x + 1 => mpS R N q n v s x + v x * SV R N (bxA R N q x) n s
/-- a row of slots, times a strip -/
def mpV (R N q n : Int) (v : Int → Int) (s : Int) : Int := mpS R N q n v s (bxK R N q)
theorem mpS_le {R N q n : Int} {v : Int → Int} {s V : Int} (hb : bxOk R N) (hq0 : 0 ≤ q) (hq : q < N) (hn0 : 0 ≤ n) (hn : n ≤ N - R) (hs0 : 0 ≤ s) (hs : s < 5) (hV : 0 ≤ V) (hv : ∀ x : Int, 0 ≤ x → x < 5 → -V ≤ v x ∧ v x ≤ V) : ∀ k : Nat, k ≤ bxK R N q → -(k * V) ≤ mpS R N q n v s k ∧ mpS R N q n v s k ≤ k * V := by
  obtain ⟨a1, a2⟩ := bx_A hb hq0 hq
  intro k
  induction k with
  | zero => intro _; simp [mpS]
  | succ k ih =>
    intro hk
    have h1 := ih (by omega)
    have h2 := a2 k (by omega)
    have h3 := sv_01 hb h2.1 h2.2.1 hn0 hn hs0 hs
    have h4 := hv k (by omega) (by omega)
    have e : ((k + 1 : Nat) : Int) * V = k * V + V := by rw [Int.natCast_succ, Int.add_mul, Int.one_mul]
    have e2 : mpS R N q n v s (k + 1) = mpS R N q n v s k + v k * SV R N (bxA R N q k) n s := rfl
    rw [e, e2]
    rcases (show SV R N (bxA R N q k) n s = 0 ∨ SV R N (bxA R N q k) n s = 1 by omega) with h5 | h5 <;> rw [h5] <;> omega
theorem mpV_le {R N q n : Int} {v : Int → Int} {s V : Int} (hb : bxOk R N) (hq0 : 0 ≤ q) (hq : q < N) (hn0 : 0 ≤ n) (hn : n ≤ N - R) (hs0 : 0 ≤ s) (hs : s < 5) (hV : 0 ≤ V) (hv : ∀ x : Int, 0 ≤ x → x < 5 → -V ≤ v x ∧ v x ≤ V) : -(5 * V) ≤ mpV R N q n v s ∧ mpV R N q n v s ≤ 5 * V := by
  have h1 := mpS_le hb hq0 hq hn0 hn hs0 hs hV hv (bxK R N q) (Nat.le_refl _)
  have h2 := (bx_A hb hq0 hq).1
  have h3 : (bxK R N q : Int) * V ≤ 5 * V := Int.mul_le_mul_of_nonneg_right (by omega) hV
  unfold mpV
  omega
