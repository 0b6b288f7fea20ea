/-! OFTEN of all boxes: the kernel's check -/
def fN {α : Type} (n : Nat) (k : Nat → α) : α := match n with
  | 0 => k 0
  | m + 1 => k (Nat.succ m)
def fI {α : Type} (x : Int) (k : Int → α) : α := match x with
  | .ofNat n => fN n (fun n => k (.ofNat n))
  | .negSucc n => fN n (fun n => k (.negSucc n))
theorem fN_eq {α : Type} {n : Nat} {k : Nat → α} : fN n k = k n := by cases n <;> rfl
theorem fI_eq {α : Type} {x : Int} {k : Int → α} : fI x k = k x := by
  cases x with
  | ofNat n => exact fN_eq (n := n) (k := fun n => k (Int.ofNat n))
  | negSucc n => exact fN_eq (n := n) (k := fun n => k (Int.negSucc n))
def mpK {α : Type} (M : List (List Int)) (v : List Int) (k : List Int → α) : α := fI (dotE v (M.getD 0 [])) (fun a => fI (dotE v (M.getD 1 [])) (fun b => fI (dotE v (M.getD 2 [])) (fun c => fI (dotE v (M.getD 3 [])) (fun d => fI (dotE v (M.getD 4 [])) (fun e => k [a, b, c, d, e])))))
def ordK (T : List (List (List (List Int)))) (L : List Int) (w : Int) (N F : Nat) : Nat → Nat → Nat → Nat → List Int → Int → List Int
  | 0, _, _, _, v, sg => smulL sg v
  | m + 1, a, u, q, v, sg => (List.range F).foldr (fun o acc =>
      if Nat.testBit u o = false then
        fI (L.getD a 0 + o - a) (fun n => if 0 ≤ n ∧ n ≤ w then
          fN (orE u o) (fun u' => fN ((q + n.toNat) % N) (fun q' => fI (sg * sgE u o) (fun s' => mpK ((T.getD q []).getD n.toNat []) v (fun v' => addL (ordK T L w N F m (a + 1) u' q' v' s') acc))))
        else acc)
      else acc) [0, 0, 0, 0, 0]
theorem ordK_E {T : List (List (List (List Int)))} {L : List Int} {w : Int} {N F : Nat} : ∀ (m a u q : Nat) (v : List Int) (sg : Int), ordK T L w N F m a u q v sg = ordE T L w N F m a u q v sg := by
  intro m
  induction m with
  | zero => intro a u q v sg; rfl
  | succ m ih =>
    intro a u q v sg
    unfold ordK ordE mpK
    simp only [fI_eq, fN_eq, ih]
    rfl
def ofWK (R N i j : Nat) : List Int := fI (bxL R N j 0) (fun l0 => fI (bxL R N j 1) (fun l1 => fI (bxL R N j 2) (fun l2 => fI (bxL R N j 3) (fun l3 => fN (bxF R N j).toNat (fun F => fN (bxQ R N i).toNat (fun q => fI (bxSl R N i) (fun s => ordK (ofT R N) [l0, l1, l2, l3] ((N : Int) - R) N F F 0 0 q [if 0 = s then 1 else 0, if 1 = s then 1 else 0, if 2 = s then 1 else 0, if 3 = s then 1 else 0, if 4 = s then 1 else 0] 1)))))))
def ofK (R N i j : Nat) : Bool := ofWB ((ofZ R N).getD ((bxZ R N i + bxZ R N j) % N).toNat []) (bxZ R N i + bxZ R N j) (ofWK R N i j)
theorem ofK_B {R N i j : Nat} : ofK R N i j = ofB R N i j := by
  unfold ofK ofB ofWK ofW
  simp only [fI_eq, fN_eq, ordK_E]
def ofSm (R N : Nat) : Bool := bxOkB R N && (Nat.blt R 3 || Nat.blt N 7)
theorem ofKs : ∀ R, R < 5 → ∀ N, N < 8 → ofSm R N = true → ∀ i, i < (bxS R N).length → ∀ j, j < (bxS R N).length → ofK R N i j = true := by decide +kernel
theorem ofK37a : ∀ i, i < 18 → ∀ j, j < 35 → ofK 3 7 i j = true := by decide +kernel
theorem ofK37b : ∀ i, i < 17 → ∀ j, j < 35 → ofK 3 7 (18 + i) j = true := by decide +kernel
theorem ofK47a : ∀ i, i < 12 → ∀ j, j < 35 → ofK 4 7 i j = true := by decide +kernel
theorem ofK47b : ∀ i, i < 12 → ∀ j, j < 35 → ofK 4 7 (12 + i) j = true := by decide +kernel
theorem ofK47c : ∀ i, i < 11 → ∀ j, j < 35 → ofK 4 7 (24 + i) j = true := by decide +kernel
theorem ofAll : ∀ R, R < 5 → ∀ N, N < 8 → bxOkB R N = true → ∀ i, i < (bxS R N).length → ∀ j, j < (bxS R N).length → ofB R N i j = true := by
  intro R hR N hN ho i hi j hj
  rw [← ofK_B]
  by_cases h : R < 3 ∨ N < 7
  · exact ofKs R hR N hN (by unfold ofSm; rw [ho, Bool.true_and, Bool.or_eq_true, Nat.blt_eq, Nat.blt_eq]; exact h) i hi j hj
  · have hN7 : N = 7 := by omega
    subst hN7
    have hR2 : R = 3 ∨ R = 4 := by omega
    rcases hR2 with h3 | h3
    · subst h3
      have hi2 : i < 35 := hi
      by_cases h1 : i < 18
      · exact ofK37a i h1 j hj
      · have := ofK37b (i - 18) (by omega) j hj
        rw [show 18 + (i - 18) = i from by omega] at this
        exact this
    · subst h3
      have hi2 : i < 35 := hi
      by_cases h1 : i < 12
      · exact ofK47a i h1 j hj
      · by_cases h2 : i < 24
        · have := ofK47b (i - 12) (by omega) j hj
          rw [show 12 + (i - 12) = i from by omega] at this
          exact this
        · have := ofK47c (i - 24) (by omega) j hj
          rw [show 24 + (i - 24) = i from by omega] at this
          exact this
