/-! sums over a range; a product of two sums -/
def smr : Nat → (Int → Int) → Int → Int
  | 0, _, _ => 0
  | m + 1, f, k => f k + smr m f (k + 1)
theorem smr_s {f : Int → Int} {m : Nat} {k : Int} : smr (m + 1) f k = f k + smr m f (k + 1) := rfl
theorem smr_cong {f h : Int → Int} : ∀ (m : Nat) (k : Int), (∀ x : Int, k ≤ x → x < k + m → f x = h x) → smr m f k = smr m h k := by
  intro m
  induction m with
  | zero => intro k _; rfl
  | succ m ih =>
    intro k hk
    unfold smr
    rw [hk k (by omega) (by omega), ih (k + 1) (fun x x0 x1 => hk x (by omega) (by omega))]
theorem smr_0 : ∀ (m : Nat) (k : Int), smr m (fun _ => 0) k = 0 := by
  intro m
  induction m with
  | zero => intro k; rfl
  | succ m ih => intro k; unfold smr; rw [ih]; rfl
theorem smr_z {f : Int → Int} {m : Nat} {k : Int} (h : ∀ x : Int, k ≤ x → x < k + m → f x = 0) : smr m f k = 0 := by
  rw [smr_cong m k h, smr_0]
theorem smr_add {f h : Int → Int} : ∀ (m : Nat) (k : Int), smr m (fun x => f x + h x) k = smr m f k + smr m h k := by
  intro m
  induction m with
  | zero => intro k; rfl
  | succ m ih => intro k; simp only [smr]; rw [ih]; omega
theorem smr_swap {f : Int → Int → Int} (n : Nat) (b : Int) : ∀ (m : Nat) (a : Int), smr m (fun x => smr n (fun y => f x y) b) a = smr n (fun y => smr m (fun x => f x y) a) b := by
  intro m
  induction m with
  | zero => intro a; simp only [smr]; rw [smr_0]
  | succ m ih =>
    intro a
    simp only [smr]
    rw [ih, ← smr_add]
theorem smr_bd {f : Int → Int} {M : Int} : ∀ (m : Nat) (k : Int), (∀ x : Int, k ≤ x → x < k + m → -M ≤ f x ∧ f x ≤ M) → -(m * M) ≤ smr m f k ∧ smr m f k ≤ m * M := by
  intro m
  induction m with
  | zero => intro k _; unfold smr; omega
  | succ m ih =>
    intro k hk
    unfold smr
    have h1 := hk k (by omega) (by omega)
    have h2 := ih (k + 1) (fun x x0 x1 => hk x (by omega) (by omega))
    have e : ((m + 1 : Nat) : Int) * M = m * M + M := by
      rw [show ((m + 1 : Nat) : Int) = (m : Int) + 1 from rfl, Int.add_mul, Int.one_mul]
    rw [e]
    omega
theorem mul_bd {x y X Y : Int} (hx : -X ≤ x ∧ x ≤ X) (hy : -Y ≤ y ∧ y ≤ Y) : -(X * Y) ≤ x * y ∧ x * y ≤ X * Y := by
  have a1 := Int.mul_nonneg (show 0 ≤ X - x by omega) (show 0 ≤ Y - y by omega)
  have a2 := Int.mul_nonneg (show 0 ≤ X + x by omega) (show 0 ≤ Y + y by omega)
  have a3 := Int.mul_nonneg (show 0 ≤ X - x by omega) (show 0 ≤ Y + y by omega)
  have a4 := Int.mul_nonneg (show 0 ≤ X + x by omega) (show 0 ≤ Y - y by omega)
  rw [Int.sub_mul, Int.mul_sub, Int.mul_sub] at a1
  rw [Int.add_mul, Int.mul_add, Int.mul_add] at a2
  rw [Int.sub_mul, Int.mul_add, Int.mul_add] at a3
  rw [Int.add_mul, Int.mul_sub, Int.mul_sub] at a4
  omega
theorem hkL_add {x y : Int} : hkL (hkL x + hkL y) = hkL (x + y) := by
  unfold hkL
  rw [Int.bmod_add_bmod, Int.add_bmod_bmod]
theorem hkL_mul {x y : Int} : hkL (hkL x * y) = hkL (x * y) := by
  unfold hkL
  rw [Int.bmod_mul_bmod]
theorem tnAll : ∀ R, R < 5 → ∀ N, N < 8 → bxOkB R N = true → ∀ i : Nat, i < (bxS R N).length → 2 * bxZ (R : Int) (N : Int) (i : Int) < 4 * (N : Int) := by decide +kernel
theorem bx_tn {R N i : Int} (hb : bxOk R N) (h0 : 0 ≤ i) (h1 : i < bxC R N) : 2 * bxZ R N i < 4 * N := by
  have K := bxAll (P := fun R N => ∀ i : Nat, (i : Int) < bxC R N → 2 * bxZ R N i < 4 * N) (fun R hR N hN ho i hi => tnAll R hR N hN ho i (Int.ofNat_lt.1 hi)) hb i.toNat (by omega)
  rw [show ((i.toNat : Nat) : Int) = i from by omega] at K
  exact K
def tnT (R N i j l : Int) : Int := (bxZ R N i + bxZ R N j - bxZ R N l).tdiv N
/-- the turns of what comes -/
theorem tn_b {R N i j l : Int} (hb : bxOk R N) (i0 : 0 ≤ i) (i1 : i < bxC R N) (j0 : 0 ≤ j) (j1 : j < bxC R N) (l0 : 0 ≤ l) (l1 : l < bxC R N) (h : OFC R N i j l ≠ 0) : 0 ≤ tnT R N i j l ∧ tnT R N i j l ≤ 3 := by
  obtain ⟨b1, b2, b3, b4⟩ := id hb
  have h1 := (((ofc_all hb i0 i1 j0 j1).1 l l0 l1).2.2 h).2
  have t1 := bx_tn hb i0 i1
  have t2 := bx_tn hb j0 j1
  have zl := bx_zq hb l0 l1
  unfold tnT
  rw [Int.tdiv_eq_ediv_of_nonneg (by omega)]
  refine ⟨Int.ediv_nonneg (by omega) (by omega), ?_⟩
  have := Int.ediv_lt_of_lt_mul (a := bxZ R N i + bxZ R N j - bxZ R N l) (b := 4) (c := N) (by omega) (by omega)
  omega
def mcf (R N a b p : Int) : Int := if p % 35 < bxC R N ∧ p / 35 = a / 35 + b / 35 + tnT R N (a % 35) (b % 35) (p % 35) then OFC R N (a % 35) (b % 35) (p % 35) else 0
def mprod (R N : Int) (A B : Int → Int) (p : Int) : Int := smr 280 (fun a => smr 280 (fun b => A a * B b * mcf R N a b p) 0) 0
def gvec (C : Int) (A : Int → Int) : Prop := ∀ p : Int, 0 ≤ p → p < 280 → rngS (A p) ∧ (C ≤ p % 35 → A p = 0)
def fitsP (R N : Int) (A B : Int → Int) : Prop := (∀ p : Int, 0 ≤ p → p < 280 → rngS (mprod R N A B p)) ∧ ∀ p : Int, 280 ≤ p → p < 630 → mprod R N A B p = 0
theorem mterm_bd {R N a b p : Int} {A B : Int → Int} (hb : bxOk R N) (hA : gvec (bxC R N) A) (hB : gvec (bxC R N) B) (a0 : 0 ≤ a) (a1 : a < 280) (b0 : 0 ≤ b) (b1 : b < 280) : -10000000000000 ≤ A a * B b * mcf R N a b p ∧ A a * B b * mcf R N a b p ≤ 10000000000000 := by
  obtain ⟨r1, s1⟩ := hA a a0 a1
  obtain ⟨r2, s2⟩ := hB b b0 b1
  unfold rngS at r1 r2
  by_cases h1 : A a = 0
  · rw [h1, Int.zero_mul, Int.zero_mul]; decide
  · by_cases h2 : B b = 0
    · rw [h2, Int.mul_zero, Int.zero_mul]; decide
    · have i1 : a % 35 < bxC R N := Int.not_le.1 (fun h => h1 (s1 h))
      have j1 : b % 35 < bxC R N := Int.not_le.1 (fun h => h2 (s2 h))
      have hm : -10 ≤ mcf R N a b p ∧ mcf R N a b p ≤ 10 := by
        unfold mcf
        by_cases h : p % 35 < bxC R N ∧ p / 35 = a / 35 + b / 35 + tnT R N (a % 35) (b % 35) (p % 35)
        · rw [if_pos h]
          have := (ofc_all hb (show 0 ≤ a % 35 by omega) i1 (show 0 ≤ b % 35 by omega) j1).1 (p % 35) (by omega) h.1
          exact ⟨this.1, this.2.1⟩
        · rw [if_neg h]; decide
      have m1 := mul_bd (x := A a) (y := B b) (X := 1000000) (Y := 1000000) (by omega) (by omega)
      have m2 := mul_bd (x := A a * B b) (y := mcf R N a b p) (X := 1000000 * 1000000) (Y := 10) m1 hm
      omega
theorem mprod_bd {R N p : Int} {A B : Int → Int} (hb : bxOk R N) (hA : gvec (bxC R N) A) (hB : gvec (bxC R N) B) : -784000000000000000 ≤ mprod R N A B p ∧ mprod R N A B p ≤ 784000000000000000 := by
  unfold mprod
  have h := smr_bd (f := fun a => smr 280 (fun b => A a * B b * mcf R N a b p) 0) (M := ((280 : Nat) : Int) * 10000000000000) 280 0 (fun a a0 a1 => smr_bd 280 0 (fun b b0 b1 => mterm_bd hb hA hB a0 (by omega) b0 (by omega)))
  omega
theorem mprod_sup {R N p : Int} {A B : Int → Int} (h : bxC R N ≤ p % 35) : mprod R N A B p = 0 := by
  unfold mprod
  refine smr_z (fun a _ _ => smr_z (fun b _ _ => ?_))
  unfold mcf
  rw [if_neg (fun h2 => by omega), Int.mul_zero]
theorem mprod_far {R N p : Int} {A B : Int → Int} (hb : bxOk R N) (hA : gvec (bxC R N) A) (hB : gvec (bxC R N) B) (h : 630 ≤ p) : mprod R N A B p = 0 := by
  unfold mprod
  refine smr_z (fun a a0 a1 => smr_z (fun b b0 b1 => ?_))
  by_cases h1 : A a = 0
  · rw [h1, Int.zero_mul, Int.zero_mul]
  · by_cases h2 : B b = 0
    · rw [h2, Int.mul_zero, Int.zero_mul]
    · have i1 : a % 35 < bxC R N := Int.not_le.1 (fun h => h1 ((hA a a0 (by omega)).2 h))
      have j1 : b % 35 < bxC R N := Int.not_le.1 (fun h => h2 ((hB b b0 (by omega)).2 h))
      have : mcf R N a b p = 0 := by
        unfold mcf
        by_cases h : p % 35 < bxC R N ∧ p / 35 = a / 35 + b / 35 + tnT R N (a % 35) (b % 35) (p % 35)
        · rw [if_pos h]
          by_cases h3 : OFC R N (a % 35) (b % 35) (p % 35) = 0
          · exact h3
          · have := tn_b hb (show 0 ≤ a % 35 by omega) i1 (show 0 ≤ b % 35 by omega) j1 (show 0 ≤ p % 35 by omega) h.1 h3
            exfalso; omega
        · rw [if_neg h]
      rw [this, Int.mul_zero]
theorem mprod_swap {R N p : Int} {A B : Int → Int} : smr 280 (fun b => smr 280 (fun a => A a * B b * mcf R N a b p) 0) 0 = mprod R N A B p := by
  unfold mprod
  rw [smr_swap (f := fun b a => A a * B b * mcf R N a b p)]
theorem fits_gvec {R N : Int} {A B : Int → Int} (h : fitsP R N A B) : gvec (bxC R N) (mprod R N A B) := fun p p0 p1 => ⟨h.1 p p0 p1, mprod_sup⟩
