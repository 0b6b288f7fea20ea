/-! OFTEN of all boxes: what follows of the check -/
theorem unit_vF {c : Int} (h0 : 0 ≤ c) {x : Int} (x0 : 0 ≤ x) (x5 : x < 5) : vF [if 0 = c then 1 else 0, if 1 = c then 1 else 0, if 2 = c then 1 else 0, if 3 = c then 1 else 0, if 4 = c then 1 else 0] x = if x = c then 1 else 0 := by
  have h5 : x = 0 ∨ x = 1 ∨ x = 2 ∨ x = 3 ∨ x = 4 := by omega
  unfold vF
  rcases h5 with h | h | h | h | h <;> rw [h] <;> rfl
theorem OFS_w {R N : Nat} (hb : bxOk R N) {i j : Nat} (hi : (i : Int) < bxC R N) (hj : (j : Int) < bxC R N) {s : Int} (s0 : 0 ≤ s) (s5 : s < 5) : (ofW R N i j).length = 5 ∧ OFS R N i j s = vF (ofW R N i j) s := by
  obtain ⟨b1, b2, b3, b4⟩ := id hb
  obtain ⟨f1, f2, f3⟩ := bx_F hb (i := (j : Int)) (by omega) hj
  have hS : 0 ≤ bxSl R N i := (bxCq_0 _).1
  have hQ0 : 0 ≤ bxQ R N i := Int.emod_nonneg _ (by omega)
  have hQ1 : bxQ R N i < N := Int.emod_lt_of_pos _ (by omega)
  have E := ordE_V hb (j := (j : Int)) (by omega) hj (F := (bxF R N j).toNat) (by omega) (L := [bxL R N j 0, bxL R N j 1, bxL R N j 2, bxL R N j 3]) (fun a ha => by
    have h4 : a = 0 ∨ a = 1 ∨ a = 2 ∨ a = 3 := by omega
    rcases h4 with h | h | h | h <;> rw [h] <;> rfl) (bxF R N j).toNat 0 0 (bxQ R N i).toNat [if 0 = bxSl R N i then 1 else 0, if 1 = bxSl R N i then 1 else 0, if 2 = bxSl R N i then 1 else 0, if 3 = bxSl R N i then 1 else 0, if 4 = bxSl R N i then 1 else 0] 1 s (by omega) (by decide) (by omega) rfl s0 s5
  refine ⟨E.1, ?_⟩
  unfold ofW
  rw [← E.2]
  unfold OFS
  rw [show (((bxF R N j).toNat : Nat) : Int) = bxF R N j from by omega, show (((bxQ R N i).toNat : Nat) : Int) = bxQ R N i from by omega]
  exact (ordV_cong hb _ _ _ _ _ _ _ _ hQ0 hQ1 (fun x x0 x5 => unit_vF hS x0 x5) s0 s5).symm
theorem ofs_n {R N : Nat} (hR : R < 5) (hN : N < 8) (ho : bxOkB R N = true) {i j : Nat} (hi : i < (bxS R N).length) (hj : j < (bxS R N).length) :
    (∀ s : Int, 0 ≤ s → s < 5 → -10 ≤ OFS R N i j s ∧ OFS R N i j s ≤ 10) ∧ (∀ s : Nat, s < bxK R N ((bxZ R N i + bxZ R N j) % N) → OFS R N i j s ≠ 0 → bxZ R N (bxA R N ((bxZ R N i + bxZ R N j) % N) s) ≤ bxZ R N i + bxZ R N j) ∧ ∃ s : Nat, s < bxK R N ((bxZ R N i + bxZ R N j) % N) ∧ OFS R N i j s ≠ 0 := by
  have hb : bxOk R N := by unfold bxOkB at ho; simp only [Bool.and_eq_true, decide_eq_true_eq] at ho; unfold bxOk; omega
  obtain ⟨b1, b2, b3, b4⟩ := id hb
  have hi' : (i : Int) < bxC R N := by unfold bxC; simp only [Int.toNat_natCast]; omega
  have hj' : (j : Int) < bxC R N := by unfold bxC; simp only [Int.toNat_natCast]; omega
  have C := ofAll R hR N hN ho i hi j hj
  have hq0 : 0 ≤ (bxZ R N i + bxZ R N j) % N := Int.emod_nonneg _ (by omega)
  have hq1 : (bxZ R N i + bxZ R N j) % N < N := Int.emod_lt_of_pos _ (by omega)
  have Z := ofZAll R hR N hN ho ((bxZ R N i + bxZ R N j) % N).toNat (by omega)
  have hqq : ((((bxZ R N i + bxZ R N j) % N).toNat : Nat) : Int) = (bxZ R N i + bxZ R N j) % N := by omega
  unfold ofZB at Z
  unfold ofB ofWB at C
  rw [hqq] at Z
  simp only [Bool.and_eq_true, decide_eq_true_eq, Nat.beq_eq] at Z
  obtain ⟨Z1, Z2⟩ := Z
  rw [Z1] at C
  have hK := (bx_A hb hq0 hq1).1
  have W : ∀ s : Nat, s < 5 → (ofW R N i j).length = 5 ∧ OFS R N i j s = (ofW R N i j).getD s 0 := fun s hs => OFS_w hb hi' hj' (s := (s : Int)) (by omega) (by omega)
  simp only [Bool.and_eq_true, Bool.or_eq_true, decide_eq_true_eq, List.all_eq_true, List.any_eq_true, List.mem_range, Bool.not_eq_true', decide_eq_false_iff_not] at C
  obtain ⟨C1, C2, C3⟩ := C
  refine ⟨fun s s0 s5 => ?_, fun s hs hne => ?_, ?_⟩
  · obtain ⟨w1, w2⟩ := W s.toNat (by omega)
    rw [show ((s.toNat : Nat) : Int) = s from by omega] at w2
    rw [w2]
    refine C1 _ ?_
    have e : (ofW R N i j).getD s.toNat 0 = (ofW R N i j)[s.toNat]'(by omega) := by
      rw [List.getD_eq_getElem?_getD, List.getElem?_eq_getElem (by omega)]; rfl
    rw [e]
    exact List.getElem_mem _
  · have h := C2 s hs
    obtain ⟨w1, w2⟩ := W s (by omega)
    rw [w2] at hne
    rw [← Z2 s hs]
    exact h.resolve_left hne
  · obtain ⟨s, hs, h⟩ := C3
    exact ⟨s, hs, by rw [(W s (by omega)).2]; exact h⟩
/-- the facts of OFTEN, by slots -/
theorem ofs_all {R N i j : Int} (hb : bxOk R N) (hi0 : 0 ≤ i) (hi : i < bxC R N) (hj0 : 0 ≤ j) (hj : j < bxC R N) :
    (∀ s : Int, 0 ≤ s → s < 5 → -10 ≤ OFS R N i j s ∧ OFS R N i j s ≤ 10) ∧ (∀ s : Nat, s < bxK R N ((bxZ R N i + bxZ R N j) % N) → OFS R N i j s ≠ 0 → bxZ R N (bxA R N ((bxZ R N i + bxZ R N j) % N) s) ≤ bxZ R N i + bxZ R N j) ∧ ∃ s : Nat, s < bxK R N ((bxZ R N i + bxZ R N j) % N) ∧ OFS R N i j s ≠ 0 := by
  obtain ⟨b1, b2, b3, b4⟩ := id hb
  have H := ofs_n (R := R.toNat) (N := N.toNat) (by omega) (by omega) (by unfold bxOkB; simp only [Bool.and_eq_true, decide_eq_true_eq]; omega) (i := i.toNat) (j := j.toNat) (by unfold bxC at hi; omega) (by unfold bxC at hj; omega)
  rw [show ((R.toNat : Nat) : Int) = R from by omega, show ((N.toNat : Nat) : Int) = N from by omega, show ((i.toNat : Nat) : Int) = i from by omega, show ((j.toNat : Nat) : Int) = j from by omega] at H
  exact H
/-- the facts of OFTEN -/
theorem ofc_all {R N i j : Int} (hb : bxOk R N) (hi0 : 0 ≤ i) (hi : i < bxC R N) (hj0 : 0 ≤ j) (hj : j < bxC R N) :
    (∀ l : Int, 0 ≤ l → l < bxC R N → -10 ≤ OFC R N i j l ∧ OFC R N i j l ≤ 10 ∧ (OFC R N i j l ≠ 0 → bxQ R N l = (bxZ R N i + bxZ R N j) % N ∧ bxZ R N l ≤ bxZ R N i + bxZ R N j)) ∧ ∃ l : Int, 0 ≤ l ∧ l < bxC R N ∧ OFC R N i j l ≠ 0 := by
  obtain ⟨b1, b2, b3, b4⟩ := id hb
  obtain ⟨A1, A2, A3⟩ := ofs_all hb hi0 hi hj0 hj
  have hq0 : 0 ≤ (bxZ R N i + bxZ R N j) % N := Int.emod_nonneg _ (by omega)
  have hq1 : (bxZ R N i + bxZ R N j) % N < N := Int.emod_lt_of_pos _ (by omega)
  refine ⟨fun l l0 l1 => ?_, ?_⟩
  · obtain ⟨k0, k1⟩ := bxSl_K l0 l1
    have hQ0 : 0 ≤ bxQ R N l := Int.emod_nonneg _ (by omega)
    have hQ1 : bxQ R N l < N := Int.emod_lt_of_pos _ (by omega)
    have hK := (bx_A hb hQ0 hQ1).1
    unfold OFC
    by_cases e : (bxZ R N i + bxZ R N j - bxZ R N l).tmod N = 0
    · have e2 := (OFC_rest hb).1 e
      rw [if_pos e]
      refine ⟨(A1 _ k0 (by omega)).1, (A1 _ k0 (by omega)).2, fun hne => ⟨e2, ?_⟩⟩
      have h := A2 (bxSl R N l).toNat (by rw [← e2]; omega) (by rw [show (((bxSl R N l).toNat : Nat) : Int) = bxSl R N l from by omega]; exact hne)
      rw [show (((bxSl R N l).toNat : Nat) : Int) = bxSl R N l from by omega, ← e2, bxA_Sl hb l0 l1] at h
      exact h
    · rw [if_neg e]
      exact ⟨by decide, by decide, fun h => absurd rfl h⟩
  · obtain ⟨s, hs, hne⟩ := A3
    obtain ⟨a1, a2, a3, a4⟩ := (bx_A hb hq0 hq1).2 s hs
    refine ⟨_, a1, a2, ?_⟩
    unfold OFC
    rw [if_pos ((OFC_rest hb).2 a3), a4]
    exact hne
