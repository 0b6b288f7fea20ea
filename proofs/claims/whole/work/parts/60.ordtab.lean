/-! rows that aren't empty, counts of bits, the orders of rows: their mathematics -/
def flC (f : Int → Int) : Nat → Int → Int → Int
  | 0, _, c => c
  | k + 1, r, c => flC f k (r + 1) (if 0 < f r then c + 1 else c)
def bxF (R N i : Int) : Int := flC (bxL R N i) R.toNat 0 0
def bxFB (R N i : Nat) : Bool := decide (0 ≤ bxF R N i ∧ bxF R N i ≤ R ∧ ∀ a : Nat, a < 4 → ((a : Int) < bxF R N i ↔ 0 < bxL R N i a))
theorem bxFAll : ∀ R, R < 5 → ∀ N, N < 8 → bxOkB R N = true → ∀ i, i < (bxS R N).length → bxFB R N i = true := by decide +kernel
theorem bx_F {R N i : Int} (hb : bxOk R N) (h0 : 0 ≤ i) (hi : i < bxC R N) : 0 ≤ bxF R N i ∧ bxF R N i ≤ R ∧ ∀ a : Nat, a < 4 → ((a : Int) < bxF R N i ↔ 0 < bxL R N i a) := bxAll1 (P := fun R N i => 0 ≤ bxF R N i ∧ bxF R N i ≤ R ∧ ∀ a : Nat, a < 4 → ((a : Int) < bxF R N i ↔ 0 < bxL R N i a)) (fun R hR N hN ho i hi => by
  have := bxFAll R hR N hN ho i hi
  unfold bxFB at this
  simpa using this) hb h0 hi
theorem flC_le {f : Int → Int} : ∀ (k : Nat) (r c : Int), c ≤ flC f k r c ∧ flC f k r c ≤ c + k := by
  intro k
  induction k with
  | zero => intro r c; unfold flC; omega
  | succ k ih =>
    intro r c
    unfold flC
    split
    · have := ih (r + 1) (c + 1); omega
    · have := ih (r + 1) c; omega
theorem flC_congr {f f' : Int → Int} : ∀ (k : Nat) (r c : Int), (∀ j : Int, r ≤ j → j < r + k → f j = f' j) → flC f k r c = flC f' k r c := by
  intro k
  induction k with
  | zero => intro r s h; rfl
  | succ k ih =>
    intro r s h
    unfold flC
    rw [h r (by omega) (by omega)]
    exact ih _ _ (fun j h1 h2 => h j (by omega) (by omega))
/-- the JDK's count of bits -/
def bcF (x0 : Int) : Int :=
  let x1 := hkW (x0 - hkAnd (hkUsh x0 1) 1431655765)
  let x2 := hkW (hkAnd x1 858993459 + hkAnd (hkUsh x1 2) 858993459)
  let x3 := hkAnd (hkW (x2 + hkUsh x2 4)) 252645135
  let x4 := hkW (x3 + hkUsh x3 8)
  let x5 := hkW (x4 + hkUsh x4 16)
  hkAnd x5 63
theorem bcOk : ∀ x : Nat, x < 128 → bcF (x : Int) = ((pbN x : Nat) : Int) := by decide +kernel
def sgO (used o : Int) : Int := if (pbN (hkShr used o).toNat : Int) % 2 = 0 then 1 else -1
theorem used16 : ∀ u : Nat, u < 16 → ∀ o : Nat, o < 4 → (0 ≤ hkOr (u : Int) (hkShl 1 (o : Int)) ∧ hkOr (u : Int) (hkShl 1 (o : Int)) < 16) ∧ (0 ≤ hkShr (u : Int) (o : Int) ∧ hkShr (u : Int) (o : Int) < 16) := by decide +kernel
theorem used_16 {u o : Int} (hu : 0 ≤ u ∧ u < 16) (ho : 0 ≤ o ∧ o < 4) : (0 ≤ hkOr u (hkShl 1 o) ∧ hkOr u (hkShl 1 o) < 16) ∧ (0 ≤ hkShr u o ∧ hkShr u o < 16) := by
  have := used16 u.toNat (by omega) o.toNat (by omega)
  rw [show ((u.toNat : Nat) : Int) = u from by omega, show ((o.toNat : Nat) : Int) = o from by omega] at this
  exact this
/-- all orders of the rows from a on: m of them are left -/
def ordV (R N j F : Int) : Nat → Int → Int → Int → (Int → Int) → Int → Int → Int
  | 0, _, _, _, v, sg, s => sg * v s
  | m + 1, a, used, q, v, sg, s => ((List.range F.toNat).map (fun (o : Nat) =>
      if hkAnd (hkShr used o) 1 = 0 ∧ 0 ≤ bxL R N j a + o - a ∧ bxL R N j a + o - a ≤ N - R then
        ordV R N j F m (a + 1) (hkOr used (hkShl 1 o)) ((q + (bxL R N j a + o - a)) % N) (mpV R N q (bxL R N j a + o - a) v) (sg * sgO used o) s
      else 0)).sum
/-- OFTEN, by slots -/
def OFS (R N i j s : Int) : Int := ordV R N j (bxF R N j) (bxF R N j).toNat 0 0 (bxQ R N i) (fun x => if x = bxSl R N i then 1 else 0) 1 s
theorem sgO_1 {used o : Int} : sgO used o = 1 ∨ sgO used o = -1 := by unfold sgO; split <;> omega
