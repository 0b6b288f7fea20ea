/-! digits read: the number of a shape by either way -/
theorem dgt {T : Int → Int} {p : Int} (k : Nat) (hk : k ≤ 4) (hd : ∀ r : Nat, r < k → 48 ≤ T (p + r) ∧ T (p + r) ≤ 57) : ∃ n : Nat, dgVl T k p 0 = n ∧ n < 10 ^ k ∧ (∀ r : Nat, r < k → dgF n k r = T (p + r) - 48) ∧ (dgZ T k p 0 ≠ 0 → zrB n k = true) ∧ (dgZ T k p 0 = 0 → k = 0 ∨ 10 ^ (k - 1) ≤ n) := by
  have g0 : p + ((0 : Nat) : Int) = p := by omega
  have g1 : p + ((1 : Nat) : Int) = p + 1 := by omega
  have g2 : p + ((2 : Nat) : Int) = p + 1 + 1 := by omega
  have g3 : p + ((3 : Nat) : Int) = p + 1 + 1 + 1 := by omega
  have A : 0 < k → ∃ a : Nat, T p = 48 + a ∧ a ≤ 9 := fun h => ⟨(T p - 48).toNat, by have := hd 0 h; rw [g0] at this; omega⟩
  have B : 1 < k → ∃ a : Nat, T (p + 1) = 48 + a ∧ a ≤ 9 := fun h => ⟨(T (p + 1) - 48).toNat, by have := hd 1 h; rw [g1] at this; omega⟩
  have C : 2 < k → ∃ a : Nat, T (p + 1 + 1) = 48 + a ∧ a ≤ 9 := fun h => ⟨(T (p + 1 + 1) - 48).toNat, by have := hd 2 h; rw [g2] at this; omega⟩
  have D : 3 < k → ∃ a : Nat, T (p + 1 + 1 + 1) = 48 + a ∧ a ≤ 9 := fun h => ⟨(T (p + 1 + 1 + 1) - 48).toNat, by have := hd 3 h; rw [g3] at this; omega⟩
  have h5 : k = 0 ∨ k = 1 ∨ k = 2 ∨ k = 3 ∨ k = 4 := by omega
  clear hk hd
  rcases h5 with e | e | e | e | e
  · subst e
    exact ⟨0, rfl, by decide, fun r hr => absurd hr (by omega), fun h => absurd rfl h, fun _ => Or.inl rfl⟩
  · subst e
    obtain ⟨a, ha, ha9⟩ := A (by decide)
    refine ⟨a, ?_, ?_, fun r hr => ?_, fun h => ?_, fun h => Or.inr ?_⟩
    · show 0 * 10 + T p - 48 = (a : Int); omega
    · show a < 10; omega
    · have h : r = 0 := by omega
      subst h
      rw [dgF_n hr, g0]
      simp only [Nat.reduceAdd, Nat.reduceSub, Nat.reducePow]
      omega
    · show (Nat.beq (a / 10 ^ 0 % 10) 0 || false) = true
      have h' : (if T p = 48 then (1 : Int) else 0) ≠ 0 := h
      have a0 : a = 0 := Classical.byContradiction (fun e => h' (if_neg (by omega)))
      subst a0; rfl
    · have h' : (if T p = 48 then (1 : Int) else 0) = 0 := h
      have a0 : a ≠ 0 := fun e => by rw [if_pos (by omega)] at h'; exact absurd h' (by decide)
      show 10 ^ 0 ≤ a
      simp only [Nat.reducePow]; omega
  · subst e
    obtain ⟨a, ha, ha9⟩ := A (by decide)
    obtain ⟨b, hb, hb9⟩ := B (by decide)
    refine ⟨10 * a + b, ?_, ?_, fun r hr => ?_, fun h => ?_, fun h => Or.inr ?_⟩
    · show (0 * 10 + T p - 48) * 10 + T (p + 1) - 48 = ((10 * a + b : Nat) : Int); omega
    · show 10 * a + b < 100; omega
    · have h : r = 0 ∨ r = 1 := by omega
      rcases h with h | h <;> subst h
      · rw [dgF_n hr, g0]
        simp only [Nat.reduceAdd, Nat.reduceSub, Nat.reducePow]
        omega
      · rw [dgF_n hr, g1]
        simp only [Nat.reduceAdd, Nat.reduceSub, Nat.reducePow]
        omega
    · show (Nat.beq ((10 * a + b) / 10 ^ 1 % 10) 0 || (Nat.beq ((10 * a + b) / 10 ^ 0 % 10) 0 || false)) = true
      have h' : (if T (p + 1) = 48 then (1 : Int) else if T p = 48 then 1 else 0) ≠ 0 := h
      have a0 : a = 0 ∨ b = 0 := Classical.byContradiction (fun e => h' (by rw [if_neg (by omega), if_neg (by omega)]))
      simp only [Bool.or_eq_true, Nat.beq_eq, Nat.reducePow, Bool.false_eq_true, or_false]
      omega
    · have h' : (if T (p + 1) = 48 then (1 : Int) else if T p = 48 then 1 else 0) = 0 := h
      have a0 : a ≠ 0 := fun e => by
        rw [if_pos (show T p = 48 by omega)] at h'
        split at h' <;> omega
      show 10 ^ 1 ≤ 10 * a + b
      simp only [Nat.reducePow]; omega
  · subst e
    obtain ⟨a, ha, ha9⟩ := A (by decide)
    obtain ⟨b, hb, hb9⟩ := B (by decide)
    obtain ⟨c, hc, hc9⟩ := C (by decide)
    refine ⟨100 * a + 10 * b + c, ?_, ?_, fun r hr => ?_, fun h => ?_, fun h => Or.inr ?_⟩
    · show ((0 * 10 + T p - 48) * 10 + T (p + 1) - 48) * 10 + T (p + 1 + 1) - 48 = ((100 * a + 10 * b + c : Nat) : Int); omega
    · show 100 * a + 10 * b + c < 1000; omega
    · have h : r = 0 ∨ r = 1 ∨ r = 2 := by omega
      rcases h with h | h | h <;> subst h
      · rw [dgF_n hr, g0]
        simp only [Nat.reduceAdd, Nat.reduceSub, Nat.reducePow]
        omega
      · rw [dgF_n hr, g1]
        simp only [Nat.reduceAdd, Nat.reduceSub, Nat.reducePow]
        omega
      · rw [dgF_n hr, g2]
        simp only [Nat.reduceAdd, Nat.reduceSub, Nat.reducePow]
        omega
    · show (Nat.beq ((100 * a + 10 * b + c) / 10 ^ 2 % 10) 0 || (Nat.beq ((100 * a + 10 * b + c) / 10 ^ 1 % 10) 0 || (Nat.beq ((100 * a + 10 * b + c) / 10 ^ 0 % 10) 0 || false))) = true
      have h' : (if T (p + 1 + 1) = 48 then (1 : Int) else if T (p + 1) = 48 then 1 else if T p = 48 then 1 else 0) ≠ 0 := h
      have a0 : a = 0 ∨ b = 0 ∨ c = 0 := Classical.byContradiction (fun e => h' (by rw [if_neg (by omega), if_neg (by omega), if_neg (by omega)]))
      simp only [Bool.or_eq_true, Nat.beq_eq, Nat.reducePow, Bool.false_eq_true, or_false]
      omega
    · have h' : (if T (p + 1 + 1) = 48 then (1 : Int) else if T (p + 1) = 48 then 1 else if T p = 48 then 1 else 0) = 0 := h
      have a0 : a ≠ 0 := fun e => by
        rw [if_pos (show T p = 48 by omega)] at h'
        split at h'
        · omega
        · split at h' <;> omega
      show 10 ^ 2 ≤ 100 * a + 10 * b + c
      simp only [Nat.reducePow]; omega
  · subst e
    obtain ⟨a, ha, ha9⟩ := A (by decide)
    obtain ⟨b, hb, hb9⟩ := B (by decide)
    obtain ⟨c, hc, hc9⟩ := C (by decide)
    obtain ⟨e, he, he9⟩ := D (by decide)
    refine ⟨1000 * a + 100 * b + 10 * c + e, ?_, ?_, fun r hr => ?_, fun h => ?_, fun h => Or.inr ?_⟩
    · show (((0 * 10 + T p - 48) * 10 + T (p + 1) - 48) * 10 + T (p + 1 + 1) - 48) * 10 + T (p + 1 + 1 + 1) - 48 = ((1000 * a + 100 * b + 10 * c + e : Nat) : Int); omega
    · show 1000 * a + 100 * b + 10 * c + e < 10000; omega
    · have h : r = 0 ∨ r = 1 ∨ r = 2 ∨ r = 3 := by omega
      rcases h with h | h | h | h <;> subst h
      · rw [dgF_n hr, g0]
        simp only [Nat.reduceAdd, Nat.reduceSub, Nat.reducePow]
        omega
      · rw [dgF_n hr, g1]
        simp only [Nat.reduceAdd, Nat.reduceSub, Nat.reducePow]
        omega
      · rw [dgF_n hr, g2]
        simp only [Nat.reduceAdd, Nat.reduceSub, Nat.reducePow]
        omega
      · rw [dgF_n hr, g3]
        simp only [Nat.reduceAdd, Nat.reduceSub, Nat.reducePow]
        omega
    · show (Nat.beq ((1000 * a + 100 * b + 10 * c + e) / 10 ^ 3 % 10) 0 || (Nat.beq ((1000 * a + 100 * b + 10 * c + e) / 10 ^ 2 % 10) 0 || (Nat.beq ((1000 * a + 100 * b + 10 * c + e) / 10 ^ 1 % 10) 0 || (Nat.beq ((1000 * a + 100 * b + 10 * c + e) / 10 ^ 0 % 10) 0 || false)))) = true
      have h' : (if T (p + 1 + 1 + 1) = 48 then (1 : Int) else if T (p + 1 + 1) = 48 then 1 else if T (p + 1) = 48 then 1 else if T p = 48 then 1 else 0) ≠ 0 := h
      have a0 : a = 0 ∨ b = 0 ∨ c = 0 ∨ e = 0 := Classical.byContradiction (fun e => h' (by rw [if_neg (by omega), if_neg (by omega), if_neg (by omega), if_neg (by omega)]))
      simp only [Bool.or_eq_true, Nat.beq_eq, Nat.reducePow, Bool.false_eq_true, or_false]
      omega
    · have h' : (if T (p + 1 + 1 + 1) = 48 then (1 : Int) else if T (p + 1 + 1) = 48 then 1 else if T (p + 1) = 48 then 1 else if T p = 48 then 1 else 0) = 0 := h
      have a0 : a ≠ 0 := fun e => by
        rw [if_pos (show T p = 48 by omega)] at h'
        split at h'
        · omega
        · split at h'
          · omega
          · split at h' <;> omega
      show 10 ^ 3 ≤ 1000 * a + 100 * b + 10 * c + e
      simp only [Nat.reducePow]; omega
theorem dl_k {n k : Nat} (h1 : n < 10 ^ k) (hk : k ≤ 4) (h2 : k = 0 ∨ 10 ^ (k - 1) ≤ n) : dl 10 n = k := by
  have hle : (10 : Nat) ^ k ≤ 10 ^ 4 := Nat.pow_le_pow_right (by decide) hk
  have hn : (n : Int) < 10 ^ 10 := by
    have : n < 10000 := Nat.lt_of_lt_of_le h1 hle
    omega
  obtain ⟨p1, p2⟩ := dl_p 10 n (by omega) hn
  have hr := dl_r 10 n
  obtain ⟨j, hj⟩ : ∃ j : Nat, dl 10 n = j := ⟨(dl 10 n).toNat, by omega⟩
  rw [hj] at p1 p2 ⊢
  rw [Int.toNat_natCast] at p1 p2
  have q1 : n < 10 ^ j := by exact_mod_cast p1
  have q2 : (j = 0 ∧ n = 0) ∨ 10 ^ (j - 1) ≤ n := by
    rcases p2 with ⟨a, b⟩ | a
    · exact Or.inl ⟨by omega, by omega⟩
    · exact Or.inr (by exact_mod_cast a)
  have hjk : j ≤ k := by
    rcases q2 with ⟨a, b⟩ | a
    · omega
    · have h := Nat.lt_of_le_of_lt a h1
      have := (Nat.pow_lt_pow_iff_right (a := 10) (by decide)).1 h
      omega
  have hkj : k ≤ j := by
    rcases h2 with a | a
    · omega
    · have h := Nat.lt_of_le_of_lt a q1
      have := (Nat.pow_lt_pow_iff_right (a := 10) (by decide)).1 h
      omega
  omega
theorem rdS_sh {R N p : Int} {T : Int → Int} (hb : bxOk R N) (k : Nat) (hk : k ≤ 4) (hd : ∀ r : Nat, r < k → 48 ≤ T (p + r) ∧ T (p + r) ≤ 57) : ∃ n : Nat, dgVl T k p 0 = n ∧ n < 10 ^ k ∧ (∀ r : Nat, r < k → dgF n k r = T (p + r) - 48) ∧ rdS R N T p k = shV R N (dgF n k) k := by
  obtain ⟨n, v1, v2, v3, v4, v5⟩ := dgt k hk hd
  refine ⟨n, v1, v2, v3, ?_⟩
  unfold rdS shV
  rw [v1]
  by_cases hz : dgZ T k p 0 = 0
  · rw [if_pos hz]
    have hdl := dl_k v2 hk (v5 hz)
    unfold nbV
    rw [hdl, Int.toNat_natCast]
    by_cases h : R < (k : Int)
    · rw [if_pos h, if_pos h]
    · rw [if_neg h, if_neg h]
      obtain ⟨n1, n2, n3⟩ := nb_all hb (m := k) (n := n) (by omega) v2
      rw [n2 (v5 hz)]
  · rw [if_neg hz]
    by_cases h : R < (k : Int)
    · rw [if_pos h]
    · rw [if_neg h]
      obtain ⟨n1, n2, n3⟩ := nb_all hb (m := k) (n := n) (by omega) v2
      rw [n1 (v4 hz)]
      unfold wwV
      rw [if_neg (by decide)]
theorem dgN_d {T : Int → Int} {F : Int} : ∀ (m : Nat) (p : Int) (r : Nat), r < dgN T F m p → 48 ≤ T (p + r) ∧ T (p + r) ≤ 57 := by
  intro m
  induction m with
  | zero => intro p r hr; unfold dgN at hr; omega
  | succ m ih =>
    intro p r hr
    unfold dgN at hr
    by_cases h : 48 ≤ hrC T F p ∧ hrC T F p ≤ 57
    · rw [if_pos h] at hr
      by_cases e : r = 0
      · subst e
        have hF := hrC_lt (T := T) (F := F) (p := p) (by omega)
        unfold hrC at h
        rw [if_pos hF] at h
        rw [show p + ((0 : Nat) : Int) = p from by omega]
        exact h
      · have := ih (p + 1) (r - 1) (by omega)
        rw [show p + 1 + ((r - 1 : Nat) : Int) = p + r from by omega] at this
        exact this
    · rw [if_neg h] at hr; omega
theorem bxI_m {R N w : Int} : ∀ k : Nat, bxI R N w k = -1 ∨ 0 ≤ bxI R N w k := by
  intro k
  induction k with
  | zero => exact Or.inl rfl
  | succ k ih =>
    unfold bxI
    by_cases h : bxW R N k = w
    · rw [if_pos h]; exact Or.inr (by omega)
    · rw [if_neg h]; exact ih
theorem rdS_r {R N p : Int} {T : Int → Int} (hb : bxOk R N) (k : Nat) (hk : k ≤ 4) (hd : ∀ r : Nat, r < k → 48 ≤ T (p + r) ∧ T (p + r) ≤ 57) : rdS R N T p k = -1 ∨ (0 ≤ rdS R N T p k ∧ rdS R N T p k < bxC R N) := by
  obtain ⟨n, v1, v2, v3, v4⟩ := rdS_sh hb k hk hd
  rw [v4]
  unfold shV
  by_cases h : R < (k : Int)
  · rw [if_pos h]; exact Or.inl rfl
  · rw [if_neg h]
    unfold wwV
    by_cases h2 : 0 ≤ nmV R N (dgF n k) k ∧ nmV R N (dgF n k) k < 128
    · rw [if_pos h2]
      have hc := bx_C hb
      rcases bxI_m (R := R) (N := N) (w := nmV R N (dgF n k) k) (bxC R N).toNat with h3 | h3
      · exact Or.inl h3
      · have := (bxI_w _ _ rfl h3).2
        exact Or.inr ⟨h3, by omega⟩
    · rw [if_neg h2]; exact Or.inl rfl
