/-! shapes by their digits: the two ways agree, by the kernel -/
/-- the class: from the last digit on -/
def ncS (R N : Int) : Nat → Int → Int → Int → Int
  | 0, _, _, w => w
  | r + 1, left, least, w => if left % 10 < least ∨ N - R < left % 10 then -1 else ncS R N r (left / 10) (left % 10) (hkOr w (hkShl 1 (left % 10 + R - 1 - r)))
/-- the reference: from the first row on -/
def nmS (R N : Int) (f : Int → Int) (m : Int) : Nat → Int → Int → Int
  | 0, _, w => w
  | k + 1, r, w => if (if r = 0 then N - R else if r ≤ m then f (r - 1) else 0) < (if r < m then f r else 0) ∨ (r < m ∧ f r = 0) then -1 else nmS R N f m k (r + 1) (hkOr w (hkShl 1 ((if r < m then f r else 0) + R - 1 - r)))
def dgF (n m : Int) : Int → Int := fun r => n / 10 ^ (m - 1 - r).toNat % 10
def ncV (R N : Int) (m : Nat) (n : Int) : Int := ncS R N m n 1 (hkShl 1 (R - m) - 1)
def nmV (R N : Int) (f : Int → Int) (m : Nat) : Int := nmS R N f m R.toNat 0 0
def zrB (n : Nat) : Nat → Bool
  | 0 => false
  | k + 1 => Nat.beq (n / 10 ^ k % 10) 0 || zrB n k
def nbB (R N m n : Nat) : Bool := (!zrB n m || decide (nmV R N (dgF n m) m = -1)) && ((Nat.blt n (10 ^ (m - 1)) || decide (ncV R N m n = nmV R N (dgF n m) m)) && (decide (nmV R N (dgF n m) m = -1) || decide (0 ≤ nmV R N (dgF n m) m ∧ nmV R N (dgF n m) m < 128 ∧ 0 ≤ bxI R N (nmV R N (dgF n m) m) (bxC R N).toNat)))
theorem nb0 : ∀ R, R < 5 → ∀ N, N < 8 → bxOkB R N = true → ncV R N 0 0 = nmV R N (dgF 0 0) 0 ∧ 0 ≤ nmV R N (dgF 0 0) 0 ∧ nmV R N (dgF 0 0) 0 < 128 ∧ 0 ≤ bxI R N (nmV R N (dgF 0 0) 0) (bxC R N).toNat := by decide +kernel
theorem nb1 : ∀ R, R < 5 → ∀ N, N < 8 → bxOkB R N = true → ∀ n, n < 10 → nbB R N 1 n = true := by decide +kernel
theorem nb2 : ∀ R, R < 5 → ∀ N, N < 8 → (bxOkB R N && Nat.ble 2 R) = true → ∀ n, n < 100 → nbB R N 2 n = true := by decide +kernel
theorem nb3 : ∀ R, R < 5 → ∀ N, N < 8 → (bxOkB R N && Nat.ble 3 R) = true → ∀ a, a < 10 → ∀ n, n < 100 → nbB R N 3 (100 * a + n) = true := by decide +kernel
theorem nb4 : ∀ N, N < 8 → Nat.ble 5 N = true → ∀ a, a < 100 → ∀ n, n < 100 → nbB 4 N 4 (100 * a + n) = true := by decide +kernel
