/-! facts of the tables, of wrapped numbers -/
def hkEvChk (t : Nat) : Bool := match hkEV[t]? with
  | some (0, p, _, _) => p == hkNX t && hkNX (t + 1) == hkNX t + 1 && hkNS (t + 1) == hkNS t + hkLn p
  | some (1, p, k, v) => hkAT p k == t + 1 && (hkRF p k == v && (decide (p < hkNX t) && (decide (v < hkNX t) && (decide (k < hkLn p) && (hkNX (t + 1) == hkNX t && hkNS (t + 1) == hkNS t)))))
  | _ => false
set_option maxRecDepth 100000 in
theorem hkEvAll : ∀ t, t < 190 → hkEvChk t = true := by decide +kernel
theorem hkEvLen : hkEV.length = 190 := by decide +kernel
theorem hkEv_lt {t : Nat} {e : Nat × Nat × Nat × Nat} (h : hkEV[t]? = some e) : t < 190 := by
  have := (List.getElem?_eq_some_iff.mp h).1
  rw [hkEvLen] at this; exact this
theorem hkEv0 {t p a b : Nat} (h : hkEV[t]? = some (0, p, a, b)) : p = hkNX t ∧ hkNX (t + 1) = hkNX t + 1 ∧ hkNS (t + 1) = hkNS t + hkLn p := by
  have h1 := hkEvAll t (hkEv_lt h)
  unfold hkEvChk at h1
  rw [h] at h1
  simp only [Bool.and_eq_true, beq_iff_eq] at h1
  exact ⟨h1.1.1, h1.1.2, h1.2⟩
theorem hkEv1 {t p k v : Nat} (h : hkEV[t]? = some (1, p, k, v)) : hkAT p k = t + 1 ∧ hkRF p k = v ∧ p < hkNX t ∧ v < hkNX t ∧ k < hkLn p ∧ hkNX (t + 1) = hkNX t ∧ hkNS (t + 1) = hkNS t := by
  have h1 := hkEvAll t (hkEv_lt h)
  unfold hkEvChk at h1
  rw [h] at h1
  simp only [Bool.and_eq_true, beq_iff_eq, decide_eq_true_eq] at h1
  exact h1
theorem hkNX_mono {t u : Nat} (h : t ≤ u) : hkNX t ≤ hkNX u := by
  unfold hkNX
  exact ((List.take_sublist_take_left h).filter _).length_le
theorem hkNX_le (t : Nat) : hkNX t ≤ 91 := by
  unfold hkNX
  calc _ ≤ (hkEV.filter (fun e => e.1 == 0)).length := ((List.take_sublist t hkEV).filter _).length_le
    _ = 91 := by decide +kernel
theorem hkNS_mono {t u : Nat} (h : t ≤ u) : hkNS t ≤ hkNS u := by
  unfold hkNS
  obtain ⟨k, hk⟩ := Nat.le.dest (hkNX_mono h)
  rw [← hk, List.take_add, List.map_append, List.sum_append]
  omega
/-- an item of a place that became a reference by the event ahead of t -/
theorem hkAT_ev {p k t : Nat} (h : hkAT p k = t + 1) (ht : t < 9998) : ∃ v, hkEV[t]? = some (1, p, k, v) ∧ hkRF p k = v := by
  unfold hkAT at h
  cases hf : hkEV.findIdx? (fun e => e.1 == 1 && (e.2.1 == p && e.2.2.1 == k)) with
  | none => rw [hf] at h; simp at h; omega
  | some i =>
    rw [hf] at h
    have hi : i = t := by simpa using h
    subst hi
    obtain ⟨hl, h1, h2⟩ := List.findIdx?_eq_some_iff_getElem.mp hf
    simp only [Bool.and_eq_true, beq_iff_eq] at h1
    obtain ⟨e1, e2, e3⟩ := h1
    have he : hkEV[i]? = some (1, p, k, (hkEV[i]).2.2.2) := by
      rw [List.getElem?_eq_getElem hl, ← e1, ← e2, ← e3]
    exact ⟨_, he, (hkEv1 he).2.1⟩
theorem hkAT_pos (p k : Nat) : 1 ≤ hkAT p k := by
  unfold hkAT
  split <;> omega
theorem hkRF_lt {p k t : Nat} (h : hkAT p k ≤ t) (ht : t ≤ 190) : hkRF p k < hkNX t ∧ p < hkNX t ∧ k < hkLn p := by
  obtain ⟨u, hu⟩ : ∃ u, hkAT p k = u + 1 := ⟨hkAT p k - 1, by have := hkAT_pos p k; omega⟩
  obtain ⟨v, h1, h2⟩ := hkAT_ev hu (by omega)
  obtain ⟨-, -, h3, h4, h5, -⟩ := hkEv1 h1
  have := hkNX_mono (t := u) (u := t) (by omega)
  exact ⟨by omega, by omega, h5⟩
/-- a new place: no reference is put by that event -/
theorem hkAT_new {t q a b p k : Nat} (h : hkEV[t]? = some (0, q, a, b)) : hkAT p k ≤ t + 1 ↔ hkAT p k ≤ t := by
  constructor
  · intro h1
    rcases Nat.lt_or_ge t (hkAT p k) with h2 | h2
    · obtain ⟨v, h3, -⟩ := hkAT_ev (p := p) (k := k) (t := t) (by omega) (by have := hkEv_lt h; omega)
      rw [h] at h3; simp at h3
    · exact h2
  · omega
theorem hkAT_put {t q j v p k : Nat} (h : hkEV[t]? = some (1, q, j, v)) : hkAT p k ≤ t + 1 ↔ (hkAT p k ≤ t ∨ (p = q ∧ k = j)) := by
  constructor
  · intro h1
    rcases Nat.lt_or_ge t (hkAT p k) with h2 | h2
    · obtain ⟨v, h3, -⟩ := hkAT_ev (p := p) (k := k) (t := t) (by omega) (by have := hkEv_lt h; omega)
      rw [h] at h3
      simp only [Option.some.injEq, Prod.mk.injEq] at h3
      exact Or.inr ⟨h3.2.1.symm, h3.2.2.1.symm⟩
    · exact Or.inl h2
  · rintro (h1 | ⟨rfl, rfl⟩)
    · omega
    · rw [(hkEv1 h).1]; exact Nat.le_refl _
theorem hkPlLen : hkPl.length = 91 := by decide +kernel
def hkKinds : List Nat := [0, 1, 2, 3, 4, 5, 6, 7, 8, 9, 10, 100, 101, 102, 103, 104]
theorem hkKd_in : ∀ p, p < 91 → hkKd p ∈ hkKinds := by decide +kernel
theorem hkKd_ln : ∀ p, p < 91 → hkKd p < 11 → hkLn p = (hkFTs.getD (hkKd p) []).length := by decide +kernel
/-! numbers -/
def hkRng (x : Int) : Prop := -2147483648 ≤ x ∧ x ≤ 2147483647
def hkRngL (x : Int) : Prop := -9223372036854775808 ≤ x ∧ x ≤ 9223372036854775807
theorem hkW_rng (x : Int) : hkRng (hkW x) := by
  unfold hkRng hkW
  have h1 := Int.le_bmod (x := x) (m := 4294967296) (by decide)
  have h2 := Int.bmod_lt (x := x) (m := 4294967296) (by decide)
  omega
theorem hkL_rng (x : Int) : hkRngL (hkL x) := by
  unfold hkRngL hkL
  have h1 := Int.le_bmod (x := x) (m := 18446744073709551616) (by decide)
  have h2 := Int.bmod_lt (x := x) (m := 18446744073709551616) (by decide)
  omega
theorem hkRng_i (x : Int32) : hkRng x.toInt := by
  have h1 := x.le_toInt
  have h2 := x.toInt_lt
  unfold hkRng
  omega
theorem hkRng_l (x : Int64) : hkRngL x.toInt := by
  have h1 := x.le_toInt
  have h2 := x.toInt_lt
  unfold hkRngL
  omega
theorem hkW_id {x : Int} (h : hkRng x) : hkW x = x := by
  unfold hkW hkRng at *
  exact Int.bmod_eq_of_le (by omega) (by omega)
theorem hkL_id {x : Int} (h : hkRngL x) : hkL x = x := by
  unfold hkL hkRngL at *
  exact Int.bmod_eq_of_le (by omega) (by omega)
theorem hkI_toInt {x : Int} (h : hkRng x) : (Int32.ofInt x).toInt = x := by
  rw [Int32.toInt_ofInt]; exact hkW_id h
theorem hkJ_toInt {x : Int} (h : hkRngL x) : (Int64.ofInt x).toInt = x := by
  rw [Int64.toInt_ofInt]; exact hkL_id h
theorem hkI_w (x : Int) : Int32.ofInt (hkW x) = Int32.ofInt x := by
  apply Int32.toInt_inj.mp
  rw [hkI_toInt (hkW_rng x), Int32.toInt_ofInt]; rfl
theorem hkJ_l (x : Int) : Int64.ofInt (hkL x) = Int64.ofInt x := by
  apply Int64.toInt_inj.mp
  rw [hkJ_toInt (hkL_rng x), Int64.toInt_ofInt]; rfl
theorem hkI_of (x : Int32) : Int32.ofInt x.toInt = x := Int32.ofInt_toInt x
theorem hkI_inj {x y : Int} (hx : hkRng x) (hy : hkRng y) : Int32.ofInt x = Int32.ofInt y ↔ x = y := by
  rw [← Int32.toInt_inj, hkI_toInt hx, hkI_toInt hy]
theorem hkI_le {x y : Int} (hx : hkRng x) (hy : hkRng y) : Int32.ofInt x ≤ Int32.ofInt y ↔ x ≤ y := by
  rw [Int32.le_iff_toInt_le, hkI_toInt hx, hkI_toInt hy]
theorem hkI_lt {x y : Int} (hx : hkRng x) (hy : hkRng y) : Int32.ofInt x < Int32.ofInt y ↔ x < y := by
  rw [Int32.lt_iff_toInt_lt, hkI_toInt hx, hkI_toInt hy]
theorem hkJ_inj {x y : Int} (hx : hkRngL x) (hy : hkRngL y) : Int64.ofInt x = Int64.ofInt y ↔ x = y := by
  rw [← Int64.toInt_inj, hkJ_toInt hx, hkJ_toInt hy]
theorem hkJ_lt {x y : Int} (hx : hkRngL x) (hy : hkRngL y) : Int64.ofInt x < Int64.ofInt y ↔ x < y := by
  rw [Int64.lt_iff_toInt_lt, hkJ_toInt hx, hkJ_toInt hy]
theorem hkI_cl {x : Int} (h : hkRng x) : (Int32.ofInt x).toNatClampNeg = x.toNat := by
  unfold Int32.toNatClampNeg
  rw [hkI_toInt h]
theorem hkRng0 : hkRng 0 := by unfold hkRng; omega
theorem hkI_0 : Int32.ofInt 0 = 0 := rfl
theorem hkI_in {x : Int} {n : Nat} (h : hkRng x) (h0 : 0 ≤ x) (h1 : x < (n : Int)) : vp_in (Int32.ofInt x) n := by
  rw [vp_in_iff, hkI_toInt h]; exact ⟨h0, h1⟩
theorem hkI_div {a b : Int} (ha : hkRng a) (hb : hkRng b) : Int32.ofInt (hkW (a.tdiv b)) = Int32.ofInt a / Int32.ofInt b := by
  rw [hkI_w]
  apply Int32.toInt_inj.mp
  rw [Int32.toInt_div, hkI_toInt ha, hkI_toInt hb, Int32.toInt_ofInt]
theorem hkI_rem {a b : Int} (ha : hkRng a) (hb : hkRng b) : Int32.ofInt (a.tmod b) = Int32.ofInt a - Int32.ofInt a / Int32.ofInt b * Int32.ofInt b := by
  rw [← hkI_div ha hb, hkI_w, ← Int32.ofInt_mul, ← Int32.ofInt_sub, Int.tmod_def]
  rw [Int.mul_comm b]
theorem hkJ_rem {a b : Int} (ha : hkRngL a) (hb : hkRngL b) : Int64.ofInt (a.tmod b) = Int64.ofInt a - Int64.ofInt a / Int64.ofInt b * Int64.ofInt b := by
  have h1 : Int64.ofInt (a.tdiv b) = Int64.ofInt a / Int64.ofInt b := by
    apply Int64.toInt_inj.mp
    rw [Int64.toInt_div, hkJ_toInt ha, hkJ_toInt hb, Int64.toInt_ofInt]
  rw [← h1, ← Int64.ofInt_mul, ← Int64.ofInt_sub, Int.tmod_def, Int.mul_comm b]
theorem hkRem_rng {a b : Int} (ha : hkRng a) : hkRng (a.tmod b) := by
  unfold hkRng at *
  have h := Int.natAbs_tmod a b
  rcases Int.natAbs_eq (a.tmod b) with e | e <;> rw [e, h] <;>
  · have : a.natAbs % b.natAbs ≤ a.natAbs := Nat.mod_le _ _
    by_cases hz : 0 ≤ a.tmod b
    all_goals
      have h3 : 0 ≤ a → 0 ≤ a.tmod b := fun h => Int.tmod_nonneg b h
      have h4 : a ≤ 0 → a.tmod b ≤ 0 := fun h => by
        have := Int.tmod_nonneg (a := -a) b (by omega)
        rw [Int.neg_tmod] at this; omega
      omega
theorem hkRemL_rng {a b : Int} (ha : hkRngL a) : hkRngL (a.tmod b) := by
  unfold hkRngL at *
  have h := Int.natAbs_tmod a b
  rcases Int.natAbs_eq (a.tmod b) with e | e <;> rw [e, h] <;>
  · have : a.natAbs % b.natAbs ≤ a.natAbs := Nat.mod_le _ _
    by_cases hz : 0 ≤ a.tmod b
    all_goals
      have h3 : 0 ≤ a → 0 ≤ a.tmod b := fun h => Int.tmod_nonneg b h
      have h4 : a ≤ 0 → a.tmod b ≤ 0 := fun h => by
        have := Int.tmod_nonneg (a := -a) b (by omega)
        rw [Int.neg_tmod] at this; omega
      omega
theorem hkBm16_rng (a : Int) : hkRng (Int.bmod a 65536) := by
  have h1 := Int.le_bmod (x := a) (m := 65536) (by decide)
  have h2 := Int.bmod_lt (x := a) (m := 65536) (by decide)
  unfold hkRng; omega
theorem hkI_i2s {a : Int} (ha : hkRng a) : (Int32.ofInt a).toInt16.toInt32 = Int32.ofInt (Int.bmod a 65536) := by
  apply Int32.toInt_inj.mp
  rw [Int32.toInt16_ofInt, Int16.toInt_toInt32, Int16.toInt_ofInt, hkI_toInt (hkBm16_rng a)]
theorem hkBm8_rng (a : Int) : hkRng (Int.bmod a 256) := by
  have h1 := Int.le_bmod (x := a) (m := 256) (by decide)
  have h2 := Int.bmod_lt (x := a) (m := 256) (by decide)
  unfold hkRng; omega
theorem hkI_bi (a : Int) : (Int8.ofInt a).toInt32 = Int32.ofInt (Int.bmod a 256) := by
  apply Int32.toInt_inj.mp
  rw [Int8.toInt_toInt32, Int8.toInt_ofInt, hkI_toInt (hkBm8_rng a)]
theorem hkI_si (a : Int) : (Int16.ofInt a).toInt32 = Int32.ofInt (Int.bmod a 65536) := by
  apply Int32.toInt_inj.mp
  rw [Int16.toInt_toInt32, Int16.toInt_ofInt, hkI_toInt (hkBm16_rng a)]
theorem hkI_i2l {a : Int} (ha : hkRng a) : (Int32.ofInt a).toInt64 = Int64.ofInt a := by
  apply Int64.toInt_inj.mp
  rw [Int32.toInt_toInt64, hkI_toInt ha, hkJ_toInt]
  unfold hkRng at ha; unfold hkRngL; omega
theorem hkI_l2i (a : Int) : (Int64.ofInt a).toInt32 = Int32.ofInt (hkW a) := by
  rw [Int64.toInt32_ofInt, hkI_w]
