/-! Products: the strips -/
def fU (f : Int → Int) (k v : Int) : Int → Int := fun j => if j = k then v else f j
def stOne (R N : Int) (f : Int → Int) : List (Int × Int) := if trSg f R N R.toNat = 0 then [] else [(bxI R N (trW f R N R.toNat) (bxC R N).toNat, trSg f R N R.toNat)]
/-- what the strips of so many upon a shape come to: shapes and signs, in their order -/
def stL (R N i : Int) : Nat → Int → (Int → Int) → List (Int × Int)
  | 0, left, f => stOne R N (fU f 0 (bxL R N i 0 + left))
  | r + 1, left, f => (List.range (min left (bxL R N i r - bxL R N i ((r + 1 : Nat) : Int)) + 1).toNat).flatMap (fun (more : Nat) => stL R N i r (left - (more : Int)) (fU f ((r + 1 : Nat) : Int) (bxL R N i ((r + 1 : Nat) : Int) + (more : Int))))
def st0 (R N i n : Int) : List (Int × Int) := stL R N i (R - 1).toNat n (fun _ => 0)
def sumAt (h : Int → Int) (l : List (Int × Int)) (k : Int) : Int := (l.map (fun q => if h q.1 = k then q.2 else 0)).sum
def stChk (R N i n : Nat) : Bool := (st0 R N i n).all (fun q => decide (0 ≤ q.1) && (decide (q.1 < bxC R N) && (decide (q.2 = 1 ∨ q.2 = -1) && decide (bxQ R N q.1 = (bxQ R N i + n) % N)))) && decide ((st0 R N i n).length ≤ 40)
theorem stAll : ∀ R, R < 5 → ∀ N, N < 8 → bxOkB R N = true → ∀ i, i < (bxS R N).length → ∀ n, n ≤ N - R → stChk R N i n = true := by decide +kernel
theorem sumAt_nil {h : Int → Int} {k : Int} : sumAt h [] k = 0 := rfl
theorem sumAt_app {h : Int → Int} {a b : List (Int × Int)} {k : Int} : sumAt h (a ++ b) k = sumAt h a k + sumAt h b k := by
  unfold sumAt; rw [List.map_append, List.sum_append]
theorem sumAt_le {h : Int → Int} {k : Int} : ∀ l : List (Int × Int), (∀ q ∈ l, q.2 = 1 ∨ q.2 = -1) → -(l.length : Int) ≤ sumAt h l k ∧ sumAt h l k ≤ l.length := by
  intro l
  induction l with
  | nil => intro _; exact ⟨by simp [sumAt], by simp [sumAt]⟩
  | cons a l ih =>
    intro hl
    have h1 := ih (fun q hq => hl q (List.mem_cons_of_mem _ hq))
    have h2 := hl a List.mem_cons_self
    unfold sumAt at *
    simp only [List.map_cons, List.sum_cons, List.length_cons]
    split <;> omega
theorem st_all {R N i n : Int} (hb : bxOk R N) (h0 : 0 ≤ i) (hi : i < bxC R N) (hn0 : 0 ≤ n) (hn : n ≤ N - R) : (∀ q ∈ st0 R N i n, 0 ≤ q.1 ∧ q.1 < bxC R N ∧ (q.2 = 1 ∨ q.2 = -1) ∧ bxQ R N q.1 = (bxQ R N i + n) % N) ∧ (st0 R N i n).length ≤ 40 := by
  have K := bxAll1 (P := fun R N i => ∀ m : Nat, (m : Int) ≤ N - R → (∀ q ∈ st0 R N i m, 0 ≤ q.1 ∧ q.1 < bxC R N ∧ (q.2 = 1 ∨ q.2 = -1) ∧ bxQ R N q.1 = (bxQ R N i + m) % N) ∧ (st0 R N i m).length ≤ 40) (fun R hR N hN ho i hi m hm => ?_) hb h0 hi n.toNat (by omega)
  · rw [show ((n.toNat : Nat) : Int) = n from by omega] at K
    exact K
  · have h1 := stAll R hR N hN ho i hi m (by omega)
    unfold stChk at h1
    simp only [Bool.and_eq_true, decide_eq_true_eq, List.all_eq_true] at h1
    exact ⟨fun q hq => by have := h1.1 q hq; exact ⟨this.1, this.2.1, this.2.2.1, this.2.2.2⟩, h1.2⟩
/-- the box as it stands in the class's tables -/
def BX (g : hkG) (R N : Int) : Prop := bxOk R N ∧ TB g R N (bxC R N).toNat
theorem BX_row {g g' : hkG} {R N : Int} (h : BX g R N) (hk : ∀ p : Int, 1 ≤ p → p ≤ 8 → g' p = g p) : BX g' R N := by
  obtain ⟨hb, u1, u2, u3, u4, u5, u6, u7⟩ := h
  refine ⟨hb, ?_, ?_, ?_, ?_, fun i a1 a2 => ?_, fun q a1 a2 => ?_, fun w a1 a2 => ?_⟩
  · rw [hk 1 (by decide) (by decide)]; exact u1
  · rw [hk 1 (by decide) (by decide)]; exact u2
  · rw [hk 1 (by decide) (by decide)]; exact u3
  · rw [hk 1 (by decide) (by decide)]; exact u4
  · rw [hk 2 (by decide) (by decide), hk 3 (by decide) (by decide), hk 4 (by decide) (by decide), hk 7 (by decide) (by decide), hk 5 (by decide) (by decide)]; exact u5 i a1 a2
  · rw [hk 6 (by decide) (by decide)]; exact u6 q a1 a2
  · rw [hk 8 (by decide) (by decide)]; exact u7 w a1 a2
theorem BX_f {g : hkG} {R N : Int} (h : BX g R N) : g 1 0 = R ∧ g 1 1 = N ∧ g 1 2 = N - R ∧ g 1 3 = bxC R N ∧ (∀ i r : Int, 0 ≤ i → i < bxC R N → 0 ≤ r → r < 4 → g 2 (4 * i + r) = bxL R N i r) ∧ (∀ i : Int, 0 ≤ i → i < bxC R N → g 3 i = bxZ R N i ∧ g 4 i = bxW R N i ∧ g 7 i = bxSl R N i ∧ g 5 (5 * bxQ R N i + bxSl R N i) = i) ∧ (∀ q : Int, 0 ≤ q → q < N → g 6 q = bxCq R N q (bxC R N).toNat) ∧ (∀ w : Int, 0 ≤ w → w < 128 → g 8 w = bxI R N w (bxC R N).toNat) := by
  obtain ⟨hb, u1, u2, u3, u4, u5, u6, u7⟩ := h
  have hc := bx_C hb
  have e : (((bxC R N).toNat : Nat) : Int) = bxC R N := by omega
  rw [e] at u4 u5
  exact ⟨u1, u2, u3, u4, fun i r a1 a2 a3 a4 => (u5 i a1 a2).1 r a3 a4, fun i a1 a2 => (u5 i a1 a2).2, u6, u7⟩
