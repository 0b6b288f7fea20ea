/-! the reference's orders, as sums of the class's -/
def ordM (R N j F : Int) : Nat → Int → Int → Int → (Int → Int) → Int → Int → Int
  | 0, _, _, _, v, sg, s => sg * v s
  | m + 1, a, used, q, v, sg, s => ((List.range F.toNat).map (fun (o : Nat) =>
      if hkAnd (hkShr used o) 1 = 0 then
        ordM R N j F m (a + 1) (hkOr used (hkShl 1 o)) ((q + (bxL R N j a + o - a)) % N) (mpW R N q (bxL R N j a + o - a) v) (sg * sgO used o) s
      else 0)).sum
def ordU (R N j F : Int) (m : Nat) (a used q : Int) (v : Int → Int) (sg s : Int) (o : Nat) : Int :=
  if hkAnd (hkShr used o) 1 = 0 then
    ordM R N j F m (a + 1) (hkOr used (hkShl 1 o)) ((q + (bxL R N j a + o - a)) % N) (mpW R N q (bxL R N j a + o - a) v) (sg * sgO used o) s
  else 0
theorem ordM_s {R N j F : Int} {m : Nat} {a used q : Int} {v : Int → Int} {sg s : Int} : ordM R N j F (m + 1) a used q v sg s = ((List.range F.toNat).map (ordU R N j F m a used q v sg s)).sum := rfl
theorem sum_zero {f : Nat → Int} : ∀ l : List Nat, (∀ x ∈ l, f x = 0) → (l.map f).sum = 0 := by
  intro l
  induction l with
  | nil => intro _; rfl
  | cons a l ih =>
    intro h
    rw [List.map_cons, List.sum_cons, h a List.mem_cons_self, ih (fun x hx => h x (List.mem_cons_of_mem _ hx))]; rfl
theorem mpS_zero {R N q n s : Int} : ∀ k : Nat, mpS R N q n (fun _ => 0) s k = 0 := by
  intro k
  induction k with
  | zero => rfl
  | succ k ih => unfold mpS; rw [ih]; simp
theorem mpW_zero {R N q n : Int} : mpW R N q n (fun _ => 0) = fun _ => 0 := by
  funext s
  unfold mpW mpV
  rw [mpS_zero]; split <;> rfl
theorem ordM_zero {R N j F : Int} : ∀ (m : Nat) (a used q sg s : Int), ordM R N j F m a used q (fun _ => 0) sg s = 0 := by
  intro m
  induction m with
  | zero => intro a used q sg s; unfold ordM; simp
  | succ m ih =>
    intro a used q sg s
    rw [ordM_s]
    refine sum_zero _ (fun x _ => ?_)
    unfold ordU
    rw [mpW_zero, ih]
    split <;> rfl
theorem ordM_V {R N j F : Int} : ∀ (m : Nat) (a used q : Int) (v : Int → Int) (sg s : Int), ordM R N j F m a used q v sg s = ordV R N j F m a used q v sg s := by
  intro m
  induction m with
  | zero => intro a used q v sg s; rfl
  | succ m ih =>
    intro a used q v sg s
    rw [ordM_s, ordV_s]
    refine congrArg List.sum (List.map_congr_left (fun x _ => ?_))
    unfold ordU ordT
    by_cases h1 : hkAnd (hkShr used x) 1 = 0
    · rw [if_pos h1]
      by_cases h2 : 0 ≤ bxL R N j a + x - a ∧ bxL R N j a + x - a ≤ N - R
      · rw [if_pos ⟨h1, h2⟩, ih]
        have e : mpW R N q (bxL R N j a + x - a) v = mpV R N q (bxL R N j a + x - a) v := by
          funext s
          unfold mpW; rw [if_pos h2]
        rw [e]
      · rw [if_neg (fun h => h2 h.2)]
        have e : mpW R N q (bxL R N j a + x - a) v = fun _ => 0 := by
          funext s
          unfold mpW; rw [if_neg h2]
        rw [e, ordM_zero]
    · rw [if_neg h1, if_neg (fun h => h1 h.1)]
/-- the rest, and the row of slots, behind the first a rows of an order -/
def pq (R N i j : Int) (o : Int → Int) : Nat → Int
  | 0 => bxQ R N i
  | a + 1 => (pq R N i j o a + (bxL R N j a + o a - a)) % N
def pv (R N i j : Int) (o : Int → Int) : Nat → Int → Int
  | 0 => fun x => if x = bxSl R N i then 1 else 0
  | a + 1 => mpW R N (pq R N i j o a) (bxL R N j a + o a - a) (pv R N i j o a)
theorem pq_cong {R N i j : Int} {o o' : Int → Int} : ∀ a : Nat, (∀ x : Int, 0 ≤ x → x < a → o x = o' x) → pq R N i j o a = pq R N i j o' a := by
  intro a
  induction a with
  | zero => intro _; rfl
  | succ a ih =>
    intro h
    unfold pq
    rw [ih (fun x h0 h1 => h x h0 (by omega)), h a (by omega) (by omega)]
theorem pv_cong {R N i j : Int} {o o' : Int → Int} : ∀ a : Nat, (∀ x : Int, 0 ≤ x → x < a → o x = o' x) → pv R N i j o a = pv R N i j o' a := by
  intro a
  induction a with
  | zero => intro _; rfl
  | succ a ih =>
    intro h
    unfold pv
    rw [ih (fun x h0 h1 => h x h0 (by omega)), h a (by omega) (by omega), pq_cong a (fun x h0 h1 => h x h0 (by omega))]
theorem pq_r {R N i j : Int} {o : Int → Int} (hb : bxOk R N) : ∀ a : Nat, 0 ≤ pq R N i j o a ∧ pq R N i j o a < N := by
  obtain ⟨b1, b2, b3, b4⟩ := hb
  intro a
  cases a with
  | zero => exact ⟨Int.emod_nonneg _ (by omega), Int.emod_lt_of_pos _ (by omega)⟩
  | succ a => exact ⟨Int.emod_nonneg _ (by omega), Int.emod_lt_of_pos _ (by omega)⟩
theorem pv_le {R N i j : Int} {o : Int → Int} (hb : bxOk R N) : ∀ (a : Nat) (s : Int), 0 ≤ s → s < 5 → -(5 ^ a) ≤ pv R N i j o a s ∧ pv R N i j o a s ≤ 5 ^ a := by
  intro a
  induction a with
  | zero =>
    intro s h0 h5
    unfold pv
    rw [Int.pow_zero]
    split <;> omega
  | succ a ih =>
    intro s h0 h5
    have hp : (0 : Int) ≤ 5 ^ a := Int.pow_nonneg (by decide)
    have e : (5 : Int) ^ (a + 1) = 5 * 5 ^ a := by rw [Int.pow_succ]; omega
    obtain ⟨q0, q1⟩ := pq_r (i := i) (j := j) (o := o) hb a
    unfold pv mpW
    rw [e]
    by_cases h : 0 ≤ bxL R N j a + o a - a ∧ bxL R N j a + o a - a ≤ N - R
    · rw [if_pos h]
      exact mpV_le hb q0 q1 h.1 h.2 h0 h5 hp ih
    · rw [if_neg h]; omega
theorem pow5 (a : Nat) (h : a ≤ 4) : (5 : Int) ^ a ≤ 1000 ∧ (0 : Int) ≤ 5 ^ a := by
  have : (5 : Int) ^ a ≤ 5 ^ 4 := by exact_mod_cast Nat.pow_le_pow_right (by decide) h
  exact ⟨by omega, Int.pow_nonneg (by decide)⟩
/-- the sum of the numbers of the bits -/
def sS (u : Nat) : Nat := ((List.range 4).map (fun b => b * (u / 2 ^ b % 2))).sum
theorem sSAll : ∀ u : Nat, u < 16 → ∀ o : Nat, o < 4 → hkAnd (hkShr (u : Int) (o : Int)) 1 = 0 → (sS (hkOr (u : Int) (hkShl 1 (o : Int))).toNat = sS u + o ∧ pbN (hkOr (u : Int) (hkShl 1 (o : Int))).toNat = pbN u + 1 ∧ pbN (hkShr (u : Int) ((o : Int) + 1)).toNat % 2 = pbN (hkShr (u : Int) (o : Int)).toNat % 2) := by decide +kernel
theorem sSlt : ∀ F : Nat, F < 5 → ∀ o : Nat, o < F → ∀ u : Nat, u < 2 ^ F → (hkOr (u : Int) (hkShl 1 (o : Int))).toNat < 2 ^ F := by decide +kernel
theorem shr16 : ∀ u : Nat, u < 16 → ∀ o : Nat, o < 4 → 0 ≤ hkShr (u : Int) ((o : Int) + 1) ∧ hkShr (u : Int) ((o : Int) + 1) < 16 := by decide +kernel
theorem sSend : ∀ F : Nat, F < 5 → ∀ u : Nat, u < 2 ^ F → pbN u = F → u = 2 ^ F - 1 := by decide +kernel
def zS (R N j : Int) : Nat → Int
  | 0 => 0
  | a + 1 => zS R N j a + bxL R N j a - a
def zSB (R N j : Nat) : Bool := decide (zS R N j (bxF R N j).toNat + (sS (2 ^ (bxF R N j).toNat - 1) : Nat) = bxZ R N j)
theorem zSAll : ∀ R, R < 5 → ∀ N, N < 8 → bxOkB R N = true → ∀ i, i < (bxS R N).length → zSB R N i = true := by decide +kernel
theorem zS_end {R N j : Int} (hb : bxOk R N) (h0 : 0 ≤ j) (hj : j < bxC R N) : zS R N j (bxF R N j).toNat + (sS (2 ^ (bxF R N j).toNat - 1) : Nat) = bxZ R N j := bxAll1 (P := fun R N j => zS R N j (bxF R N j).toNat + (sS (2 ^ (bxF R N j).toNat - 1) : Nat) = bxZ R N j) (fun R hR N hN ho i hi => by
  have := zSAll R hR N hN ho i hi
  unfold zSB at this
  simpa using this) hb h0 hj
