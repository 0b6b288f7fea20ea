/-! class and reference side by side: what ties them between two calls -/
def RB (g : hkG) (R N : Int) : Prop := BX g R N ∧ PST g R N ∧ TBI g R N ∧ (g 17 5 = 0 ∨ (g 17 5 = 1 ∧ RDY g R N)) ∧ MX g R N ∧ MF g R N
def rngS (x : Int) : Prop := -1000000 ≤ x ∧ x ≤ 1000000
def RS (g : hkG) : Prop := ∀ p : Int, 0 ≤ p → p < 280 → g 52 p = g 72 p ∧ rngS (g 72 p) ∧ (g 66 2 ≤ p % 35 → g 72 p = 0)
def RK (g : hkG) : Prop := (g 0 10 = 0 ∧ g 66 13 = 0) ∨ (g 66 13 = 1 ∧ g 0 10 = g 66 10 ∧ g 0 11 = g 66 11 ∧ bxOk (g 66 10) (g 66 11) ∧ ∀ p : Int, 0 ≤ p → p < 280 → g 56 p = g 73 p ∧ rngS (g 73 p) ∧ (bxC (g 66 10) (g 66 11) ≤ p % 35 → g 73 p = 0))
def RT (g : hkG) : Prop := g 24 0 = g 66 32 ∧ 0 ≤ g 66 32 ∧ g 66 32 ≤ 60 ∧ (∀ k : Int, 0 ≤ k → k < g 66 32 → g 27 k = g 85 k ∧ 0 ≤ g 85 k ∧ g 85 k ≤ 255) ∧ g 24 1 = g 66 12
def RH (g : hkG) : Prop := ∀ s : Int, 0 ≤ s → s < 4 → g (58 + 2 * s) 0 = g 87 s ∧ g (58 + 2 * s) 1 = g 88 s ∧ (g 87 s = -1 ∨ g 87 s = 0 ∨ g 87 s = 1) ∧ 0 ≤ g 88 s ∧ g 88 s ≤ 40 ∧ ∀ i : Int, 0 ≤ i → i < g 88 s → g (59 + 2 * s) i = g 89 (40 * s + i)
def RL (xs : Int → Int) (L : Int) (g : hkG) : Prop := g (-2) 0 = L ∧ ∀ k : Int, 0 ≤ k → k < L → g (-1) k = xs k
def Rel (xs : Int → Int) (L : Int) (g : hkG) : Prop := ∃ R N : Int, RB g R N ∧ RS g ∧ RK g ∧ RT g ∧ RH g ∧ RL xs L g
/-- rows that no call needs again -/
def scr (q : Int) : Prop := (9 ≤ q ∧ q ≤ 12) ∨ (14 ≤ q ∧ q ≤ 26) ∨ (28 ≤ q ∧ q ≤ 51) ∨ (53 ≤ q ∧ q ≤ 54) ∨ q = 66 ∨ (70 ≤ q ∧ q ≤ 71) ∨ (74 ≤ q ∧ q ≤ 84) ∨ q = 86 ∨ q = 90
def fld (k : Int) : Prop := (0 ≤ k ∧ k ≤ 2) ∨ (10 ≤ k ∧ k ≤ 13) ∨ k = 32
def qKeep (g g' : hkG) : Prop := (∀ q : Int, ¬ scr q → g' q = g q) ∧ (∀ k : Int, fld k → g' 66 k = g 66 k) ∧ g' 24 0 = g 24 0 ∧ g' 24 1 = g 24 1
theorem qKeep_r {g : hkG} : qKeep g g := ⟨fun _ _ => rfl, fun _ _ => rfl, rfl, rfl⟩
theorem qKeep_t {g g' g'' : hkG} (h : qKeep g g') (h' : qKeep g' g'') : qKeep g g'' := ⟨fun q a => by rw [h'.1 q a, h.1 q a], fun k a => by rw [h'.2.1 k a, h.2.1 k a], by rw [h'.2.2.1, h.2.2.1], by rw [h'.2.2.2, h.2.2.2]⟩
theorem qKeep_tb {g g' : hkG} (h : tbKeep g g') : qKeep g g' := ⟨fun q a => h q (by unfold scr at a; omega) (by unfold scr at a; omega), fun k _ => by rw [h 66 (by decide) (by decide)], by rw [h 24 (by decide) (by decide)], by rw [h 24 (by decide) (by decide)]⟩
theorem qKeep_mf {g g' : hkG} (h : mfKeep g g') : qKeep g g' := ⟨fun q a => h.1 q (by unfold scr at a; omega) (by unfold scr at a; omega) (by unfold scr at a; omega) (by unfold scr at a; omega) (by unfold scr at a; omega) (by unfold scr at a; omega) (by unfold scr at a; omega) (by unfold scr at a; omega), fun k a => h.2 k (by unfold fld at a; omega) (by unfold fld at a; omega) (by unfold fld at a; omega), by rw [h.1 24 (by decide) (by decide) (by decide) (by decide) (by decide) (by decide) (by decide) (by decide)], by rw [h.1 24 (by decide) (by decide) (by decide) (by decide) (by decide) (by decide) (by decide) (by decide)]⟩
/-- the box of class and reference, over rows that stay -/
theorem RB_q {g g' : hkG} {R N : Int} (h : RB g R N) (k : qKeep g g') (hT : TBI g' R N) (hR : g' 17 5 = 0 ∨ (g' 17 5 = 1 ∧ RDY g' R N)) (hF : MF g' R N) : RB g' R N := by
  obtain ⟨h1, h2, h3, h4, h5, h6⟩ := h
  have ns : ∀ q : Int, (1 ≤ q ∧ q ≤ 8) ∨ q = 13 ∨ (67 ≤ q ∧ q ≤ 69) → g' q = g q := fun q hq => k.1 q (by unfold scr; omega)
  refine ⟨BX_row h1 (fun p p1 p2 => ns p (by omega)), fun i n s a1 a2 a3 a4 a5 a6 => by rw [ns 13 (by omega)]; exact h2 i n s a1 a2 a3 a4 a5 a6, hT, hR, ?_, hF⟩
  refine ⟨h5.1, ?_⟩
  obtain ⟨u1, u2, u3, u4⟩ := h5.2
  exact ⟨by rw [k.2.1 0 (by unfold fld; omega)]; exact u1, by rw [k.2.1 1 (by unfold fld; omega)]; exact u2, by rw [k.2.1 2 (by unfold fld; omega)]; exact u3, by rw [ns 67 (by omega), ns 68 (by omega), ns 69 (by omega)]; exact u4⟩
theorem Rel_rest {g g' : hkG} {xs : Int → Int} {L : Int} (k : qKeep g g') (h : RS g ∧ RK g ∧ RT g ∧ RH g ∧ RL xs L g) : RS g' ∧ RK g' ∧ RT g' ∧ RH g' ∧ RL xs L g' := by
  obtain ⟨h1, h2, h3, h4, h5⟩ := h
  have f2 := k.2.1 2 (by unfold fld; omega)
  have f10 := k.2.1 10 (by unfold fld; omega)
  have f11 := k.2.1 11 (by unfold fld; omega)
  have f12 := k.2.1 12 (by unfold fld; omega)
  have f13 := k.2.1 13 (by unfold fld; omega)
  have f32 := k.2.1 32 (by unfold fld; omega)
  refine ⟨?_, ?_, ?_, fun s s0 s4 => ?_, ?_⟩
  · unfold RS; rw [k.1 52 (by unfold scr; omega), k.1 72 (by unfold scr; omega), f2]; exact h1
  · unfold RK; rw [k.1 0 (by unfold scr; omega), k.1 56 (by unfold scr; omega), k.1 73 (by unfold scr; omega), f10, f11, f13]; exact h2
  · unfold RT; rw [k.1 27 (by unfold scr; omega), k.1 85 (by unfold scr; omega), k.2.2.1, k.2.2.2, f12, f32]; exact h3
  · rw [k.1 (58 + 2 * s) (by unfold scr; omega), k.1 (59 + 2 * s) (by unfold scr; omega), k.1 87 (by unfold scr; omega), k.1 88 (by unfold scr; omega), k.1 89 (by unfold scr; omega)]; exact h4 s s0 s4
  · unfold RL; rw [k.1 (-1) (by unfold scr; omega), k.1 (-2) (by unfold scr; omega)]; exact h5
theorem Rel_q {g g' : hkG} {xs : Int → Int} {L R N : Int} (hb : RB g' R N) (k : qKeep g g') (h : RS g ∧ RK g ∧ RT g ∧ RH g ∧ RL xs L g) : Rel xs L g' := ⟨R, N, hb, Rel_rest k h⟩
/-- class and reference answer the same, and stay tied -/
def Tie (xs : Int → Int) (L : Int) (y d : Nat) (as : List hkV) (y' : Nat) (as' : List hkV) (t : Nat) (g : hkG) : Prop :=
  Xp y d 0 as [] t g (fun r t1 g1 => ∃ v, r = some v ∧ t1 = t ∧ Xp y' d 0 as' [] t g1 (fun r2 t2 g2 => r2 = some v ∧ t2 = t ∧ Rel xs L g2))
def inI (x : Int) : Prop := -2147483648 ≤ x ∧ x ≤ 2147483647
