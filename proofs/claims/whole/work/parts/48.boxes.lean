/-! the boxes' shapes as tables (by program), and what is read off them: all by the kernel -/
def bxS (R N : Nat) : List (List Nat) := match R, N with
  | 1, 2 => [[0, 0, 0, 0], [1, 0, 0, 0]]
  | 1, 3 => [[0, 0, 0, 0], [1, 0, 0, 0], [2, 0, 0, 0]]
  | 1, 4 => [[0, 0, 0, 0], [1, 0, 0, 0], [2, 0, 0, 0], [3, 0, 0, 0]]
  | 1, 5 => [[0, 0, 0, 0], [1, 0, 0, 0], [2, 0, 0, 0], [3, 0, 0, 0], [4, 0, 0, 0]]
  | 1, 6 => [[0, 0, 0, 0], [1, 0, 0, 0], [2, 0, 0, 0], [3, 0, 0, 0], [4, 0, 0, 0], [5, 0, 0, 0]]
  | 1, 7 => [[0, 0, 0, 0], [1, 0, 0, 0], [2, 0, 0, 0], [3, 0, 0, 0], [4, 0, 0, 0], [5, 0, 0, 0], [6, 0, 0, 0]]
  | 2, 3 => [[0, 0, 0, 0], [1, 0, 0, 0], [1, 1, 0, 0]]
  | 2, 4 => [[0, 0, 0, 0], [1, 0, 0, 0], [2, 0, 0, 0], [1, 1, 0, 0], [2, 1, 0, 0], [2, 2, 0, 0]]
  | 2, 5 => [[0, 0, 0, 0], [1, 0, 0, 0], [2, 0, 0, 0], [1, 1, 0, 0], [3, 0, 0, 0], [2, 1, 0, 0], [3, 1, 0, 0], [2, 2, 0, 0], [3, 2, 0, 0], [3, 3, 0, 0]]
  | 2, 6 => [[0, 0, 0, 0], [1, 0, 0, 0], [2, 0, 0, 0], [1, 1, 0, 0], [3, 0, 0, 0], [2, 1, 0, 0], [4, 0, 0, 0], [3, 1, 0, 0], [2, 2, 0, 0], [4, 1, 0, 0], [3, 2, 0, 0], [4, 2, 0, 0], [3, 3, 0, 0], [4, 3, 0, 0], [4, 4, 0, 0]]
  | 2, 7 => [[0, 0, 0, 0], [1, 0, 0, 0], [2, 0, 0, 0], [1, 1, 0, 0], [3, 0, 0, 0], [2, 1, 0, 0], [4, 0, 0, 0], [3, 1, 0, 0], [2, 2, 0, 0], [5, 0, 0, 0], [4, 1, 0, 0], [3, 2, 0, 0], [5, 1, 0, 0], [4, 2, 0, 0], [3, 3, 0, 0], [5, 2, 0, 0], [4, 3, 0, 0], [5, 3, 0, 0], [4, 4, 0, 0], [5, 4, 0, 0], [5, 5, 0, 0]]
  | 3, 4 => [[0, 0, 0, 0], [1, 0, 0, 0], [1, 1, 0, 0], [1, 1, 1, 0]]
  | 3, 5 => [[0, 0, 0, 0], [1, 0, 0, 0], [2, 0, 0, 0], [1, 1, 0, 0], [2, 1, 0, 0], [1, 1, 1, 0], [2, 2, 0, 0], [2, 1, 1, 0], [2, 2, 1, 0], [2, 2, 2, 0]]
  | 3, 6 => [[0, 0, 0, 0], [1, 0, 0, 0], [2, 0, 0, 0], [1, 1, 0, 0], [3, 0, 0, 0], [2, 1, 0, 0], [1, 1, 1, 0], [3, 1, 0, 0], [2, 2, 0, 0], [2, 1, 1, 0], [3, 2, 0, 0], [3, 1, 1, 0], [2, 2, 1, 0], [3, 3, 0, 0], [3, 2, 1, 0], [2, 2, 2, 0], [3, 3, 1, 0], [3, 2, 2, 0], [3, 3, 2, 0], [3, 3, 3, 0]]
  | 3, 7 => [[0, 0, 0, 0], [1, 0, 0, 0], [2, 0, 0, 0], [1, 1, 0, 0], [3, 0, 0, 0], [2, 1, 0, 0], [1, 1, 1, 0], [4, 0, 0, 0], [3, 1, 0, 0], [2, 2, 0, 0], [2, 1, 1, 0], [4, 1, 0, 0], [3, 2, 0, 0], [3, 1, 1, 0], [2, 2, 1, 0], [4, 2, 0, 0], [4, 1, 1, 0], [3, 3, 0, 0], [3, 2, 1, 0], [2, 2, 2, 0], [4, 3, 0, 0], [4, 2, 1, 0], [3, 3, 1, 0], [3, 2, 2, 0], [4, 4, 0, 0], [4, 3, 1, 0], [4, 2, 2, 0], [3, 3, 2, 0], [4, 4, 1, 0], [4, 3, 2, 0], [3, 3, 3, 0], [4, 4, 2, 0], [4, 3, 3, 0], [4, 4, 3, 0], [4, 4, 4, 0]]
  | 4, 5 => [[0, 0, 0, 0], [1, 0, 0, 0], [1, 1, 0, 0], [1, 1, 1, 0], [1, 1, 1, 1]]
  | 4, 6 => [[0, 0, 0, 0], [1, 0, 0, 0], [2, 0, 0, 0], [1, 1, 0, 0], [2, 1, 0, 0], [1, 1, 1, 0], [2, 2, 0, 0], [2, 1, 1, 0], [1, 1, 1, 1], [2, 2, 1, 0], [2, 1, 1, 1], [2, 2, 2, 0], [2, 2, 1, 1], [2, 2, 2, 1], [2, 2, 2, 2]]
  | 4, 7 => [[0, 0, 0, 0], [1, 0, 0, 0], [2, 0, 0, 0], [1, 1, 0, 0], [3, 0, 0, 0], [2, 1, 0, 0], [1, 1, 1, 0], [3, 1, 0, 0], [2, 2, 0, 0], [2, 1, 1, 0], [1, 1, 1, 1], [3, 2, 0, 0], [3, 1, 1, 0], [2, 2, 1, 0], [2, 1, 1, 1], [3, 3, 0, 0], [3, 2, 1, 0], [3, 1, 1, 1], [2, 2, 2, 0], [2, 2, 1, 1], [3, 3, 1, 0], [3, 2, 2, 0], [3, 2, 1, 1], [2, 2, 2, 1], [3, 3, 2, 0], [3, 3, 1, 1], [3, 2, 2, 1], [2, 2, 2, 2], [3, 3, 3, 0], [3, 3, 2, 1], [3, 2, 2, 2], [3, 3, 3, 1], [3, 3, 2, 2], [3, 3, 3, 2], [3, 3, 3, 3]]
  | _, _ => []
def bxOk (R N : Int) : Prop := 1 ≤ R ∧ R ≤ 4 ∧ R < N ∧ N ≤ 7
def bxC (R N : Int) : Int := ((bxS R.toNat N.toNat).length : Int)
def bxRow (R N i : Int) : List Nat := (bxS R.toNat N.toNat).getD i.toNat []
/-- the length of row r of shape i -/
def bxL (R N i r : Int) : Int := (((bxRow R N i).getD r.toNat 0 : Nat) : Int)
def bxZ (R N i : Int) : Int := (((bxRow R N i).sum : Nat) : Int)
def bxWn (R : Nat) (l : List Nat) : Nat := ((List.range R).map (fun r => 2 ^ (l.getD r 0 + R - 1 - r))).sum
def bxW (R N i : Int) : Int := ((bxWn R.toNat (bxRow R N i) : Nat) : Int)
def bxQ (R N i : Int) : Int := bxZ R N i % N
/-- how many of the first k shapes leave the rest q -/
def bxCq (R N q : Int) : Nat → Int
  | 0 => 0
  | k + 1 => bxCq R N q k + (if bxQ R N k = q then 1 else 0)
def bxSl (R N i : Int) : Int := bxCq R N (bxQ R N i) i.toNat
/-- the number of the shape among the first k with a word; -1 -/
def bxI (R N w : Int) : Nat → Int
  | 0 => -1
  | k + 1 => if bxW R N k = w then (k : Int) else bxI R N w k
def bxOkB (R N : Nat) : Bool := decide (1 ≤ R) && (decide (R ≤ 4) && (decide (R < N) && decide (N ≤ 7)))
/-- a fact of all boxes, from a list of them -/
theorem bxAll {P : Int → Int → Prop} (h : ∀ R, R < 5 → ∀ N, N < 8 → bxOkB R N = true → P R N) {R N : Int} (hb : bxOk R N) : P R N := by
  obtain ⟨h1, h2, h3, h4⟩ := hb
  have e1 : R = ((R.toNat : Nat) : Int) := by omega
  have e2 : N = ((N.toNat : Nat) : Int) := by omega
  rw [e1, e2]
  exact h _ (by omega) _ (by omega) (by unfold bxOkB; simp only [Bool.and_eq_true, decide_eq_true_eq]; omega)
theorem bxAll1 {P : Int → Int → Int → Prop} (h : ∀ R, R < 5 → ∀ N, N < 8 → bxOkB R N = true → ∀ i, i < (bxS R N).length → P R N i) {R N i : Int} (hb : bxOk R N) (h0 : 0 ≤ i) (hi : i < bxC R N) : P R N i := by
  have e3 : i = ((i.toNat : Nat) : Int) := by omega
  have := bxAll (P := fun R N => ∀ i : Nat, (i : Int) < bxC R N → P R N i) (fun R hR N hN ho i hi => h R hR N hN ho i (by unfold bxC at hi; simp only [Int.toNat_natCast] at hi; omega)) hb i.toNat (by omega)
  rw [e3]; exact this
theorem bxC_le : ∀ R, R < 5 → ∀ N, N < 8 → bxOkB R N = true → 2 ≤ bxC R N ∧ bxC R N ≤ 35 := by decide +kernel
theorem bx_C {R N : Int} (hb : bxOk R N) : 2 ≤ bxC R N ∧ bxC R N ≤ 35 := bxAll (P := fun R N => 2 ≤ bxC R N ∧ bxC R N ≤ 35) bxC_le hb
def bxShChk (R N i : Nat) : Bool := decide (∀ r : Nat, r < 4 → bxL R N i r ≤ (N : Int) - R ∧ (R ≤ r → bxL R N i r = 0) ∧ (r + 1 < R → bxL R N i ((r + 1 : Nat) : Int) ≤ bxL R N i r)) && (decide (bxZ R N i = bxL R N i 0 + bxL R N i 1 + bxL R N i 2 + bxL R N i 3) && (decide (0 ≤ bxW R N i ∧ bxW R N i < 2 ^ N) && (decide (bxSl R N i < 5) && (decide (bxI R N (bxW R N i) (bxS R N).length = i) && decide (bxI R N (bxW R N i) i = -1)))))
theorem bxShAll : ∀ R, R < 5 → ∀ N, N < 8 → bxOkB R N = true → ∀ i, i < (bxS R N).length → bxShChk R N i = true := by decide +kernel
