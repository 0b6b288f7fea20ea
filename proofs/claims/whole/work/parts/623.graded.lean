/-! the reference's rows of shapes are the class's rows of slots -/
def gV (R N q : Int) (v : Int → Int) (c : Int) (x : Int) : Int := if bxQ R N x = q then c * v (bxSl R N x) else 0
theorem sumAt_cong {h h' : Int → Int} {k k' : Int} : ∀ l : List (Int × Int), (∀ q ∈ l, (h q.1 = k ↔ h' q.1 = k')) → sumAt h l k = sumAt h' l k' := by
  intro l
  induction l with
  | nil => intro _; rfl
  | cons a l ih =>
    intro hl
    have h1 := hl a List.mem_cons_self
    have h2 := ih (fun q hq => hl q (List.mem_cons_of_mem _ hq))
    unfold sumAt at *
    simp only [List.map_cons, List.sum_cons]
    rw [h2]
    by_cases e : h a.1 = k
    · rw [if_pos e, if_pos (h1.1 e)]
    · rw [if_neg e, if_neg (fun x => e (h1.2 x))]
theorem sumAt_none {h : Int → Int} {k : Int} : ∀ l : List (Int × Int), (∀ q ∈ l, h q.1 ≠ k) → sumAt h l k = 0 := by
  intro l
  induction l with
  | nil => intro _; rfl
  | cons a l ih =>
    intro hl
    have h1 := hl a List.mem_cons_self
    have h2 := ih (fun q hq => hl q (List.mem_cons_of_mem _ hq))
    unfold sumAt at *
    simp only [List.map_cons, List.sum_cons]
    rw [h2, if_neg h1]; rfl
theorem bxSl_lt2 {R N : Int} {a b : Int} (ha : 0 ≤ a) (hab : a < b) (hq : bxQ R N a = bxQ R N b) : bxSl R N a < bxSl R N b := by
  have h := bxSl_lt (R := R) (N := N) (i := a) (k := b.toNat) ha (by omega)
  rw [hq] at h
  exact h
theorem bxSl_inj {R N : Int} {a b : Int} (ha : 0 ≤ a) (hb : 0 ≤ b) (hq : bxQ R N a = bxQ R N b) (hs : bxSl R N a = bxSl R N b) : a = b := by
  by_cases h : a < b
  · have := bxSl_lt2 ha h hq; omega
  · by_cases h2 : b < a
    · have := bxSl_lt2 hb h2 hq.symm; omega
    · omega
theorem bxSl_K {R N : Int} {a : Int} (ha : 0 ≤ a) (hc : a < bxC R N) : 0 ≤ bxSl R N a ∧ bxSl R N a < bxK R N (bxQ R N a) := by
  have h0 : 0 ≤ bxSl R N a := (bxCq_0 _).1
  have h := bxSl_lt (R := R) (N := N) (i := a) (k := (bxC R N).toNat) ha (by omega)
  unfold bxK
  omega
theorem bxA_Sl {R N : Int} (hb : bxOk R N) {a : Int} (ha : 0 ≤ a) (hc : a < bxC R N) : bxA R N (bxQ R N a) (bxSl R N a) = a := by
  obtain ⟨b1, b2, b3, b4⟩ := id hb
  obtain ⟨k0, k1⟩ := bxSl_K ha hc
  have hq0 : 0 ≤ bxQ R N a := Int.emod_nonneg _ (by omega)
  have hq1 : bxQ R N a < N := Int.emod_lt_of_pos _ (by omega)
  obtain ⟨a1, a2, a3, a4⟩ := (bx_A hb hq0 hq1).2 (bxSl R N a).toNat (by omega)
  rw [show (((bxSl R N a).toNat : Nat) : Int) = bxSl R N a from by omega] at a1 a2 a3 a4
  exact bxSl_inj a1 ha a3 a4
theorem tm_pre {R N q n c k : Int} {v : Int → Int} (hb : bxOk R N) (hn0 : 0 ≤ n) (hn : n ≤ N - R) (hk0 : 0 ≤ k) (hk : k < bxC R N) : ∀ m : Nat, (m : Int) ≤ bxC R N → tmS R N n (gV R N q v c) k m = if bxQ R N k = (q + n) % N then c * mpS R N q n v (bxSl R N k) (bxCq R N q m).toNat else 0 := by
  intro m
  induction m with
  | zero =>
    intro _
    unfold tmS bxCq
    simp [mpS]
  | succ m ih =>
    intro hm
    have h := ih (by omega)
    obtain ⟨st1, st2⟩ := st_all hb (i := (m : Int)) (n := n) (by omega) (by omega) hn0 hn
    have c0 := (bxCq_0 (R := R) (N := N) (q := q) m).1
    unfold tmS bxCq
    rw [h]
    unfold tmC gV
    have hin : 0 ≤ n ∧ n ≤ N - R := ⟨hn0, hn⟩
    rw [if_pos hin]
    by_cases e : bxQ R N m = q
    · rw [if_pos e, if_pos e]
      rw [show (bxCq R N q m + 1).toNat = (bxCq R N q m).toNat + 1 from by omega]
      have es : bxSl R N m = bxCq R N q m := by unfold bxSl; rw [e, Int.toNat_natCast]
      by_cases e2 : bxQ R N k = (q + n) % N
      · rw [if_pos e2, if_pos e2]
        have eA := bxA_Sl hb (a := (m : Int)) (by omega) (by omega)
        rw [e, es] at eA
        have hM : mpS R N q n v (bxSl R N k) ((bxCq R N q m).toNat + 1) = mpS R N q n v (bxSl R N k) (bxCq R N q m).toNat + v (((bxCq R N q m).toNat : Nat) : Int) * SV R N (bxA R N q (((bxCq R N q m).toNat : Nat) : Int)) n (bxSl R N k) := rfl
        rw [hM, show (((bxCq R N q m).toNat : Nat) : Int) = bxCq R N q m from by omega, eA, es]
        have eS : sumAt (fun s => s) (st0 R N (m : Int) n) k = SV R N (m : Int) n (bxSl R N k) := by
          unfold SV
          refine sumAt_cong _ (fun x hx => ?_)
          obtain ⟨y1, y2, y3, y4⟩ := st1 x hx
          constructor
          · intro hxk; rw [show x.1 = k from hxk]
          · intro hxk
            exact bxSl_inj y1 hk0 (by rw [y4, e, e2]) hxk
        rw [eS, Int.mul_add, Int.mul_assoc]
      · rw [if_neg e2, if_neg e2, sumAt_none _ (fun x hx hxk => ?_), Int.mul_zero, Int.add_zero]
        obtain ⟨y1, y2, y3, y4⟩ := st1 x hx
        exact e2 (by rw [← show x.1 = k from hxk, y4, e])
    · rw [if_neg e, if_neg e, Int.zero_mul, Int.add_zero, Int.add_zero]
/-- a row of slots, times a strip of any length -/
def mpW (R N q n : Int) (v : Int → Int) (s : Int) : Int := if 0 ≤ n ∧ n ≤ N - R then mpV R N q n v s else 0
theorem tm_zero {R N n k : Int} {v : Int → Int} (h : ¬ (0 ≤ n ∧ n ≤ N - R)) : ∀ m : Nat, tmS R N n v k m = 0 := by
  intro m
  induction m with
  | zero => rfl
  | succ m ih => unfold tmS tmC; rw [ih, if_neg h]; rfl
theorem tm_mp {R N q n c k : Int} {v : Int → Int} (hb : bxOk R N) (hk0 : 0 ≤ k) (hk : k < bxC R N) : tmV R N n (gV R N q v c) k = gV R N ((q + n) % N) (mpW R N q n v) c k := by
  have hc := bx_C hb
  unfold tmV
  by_cases h : 0 ≤ n ∧ n ≤ N - R
  · rw [tm_pre hb h.1 h.2 hk0 hk _ (by omega)]
    unfold gV mpW mpV
    rw [if_pos h]
    rfl
  · rw [tm_zero h]
    unfold gV mpW
    rw [if_neg h]
    split <;> simp
