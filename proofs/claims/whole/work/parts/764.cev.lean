/-! the class reads a text as the evaluator does -/
def cKp (lt ls : Int) (g g' : hkG) : Prop := (∀ q : Int, q ≠ 14 → q ≠ 15 → q ≠ 23 → q ≠ 24 → ¬ (28 ≤ q ∧ q ≤ 49) → g' q = g q) ∧ (∀ k : Int, k ≤ 1 → g' 24 k = g 24 k) ∧ (∀ l : Int, 0 ≤ l → l ≤ lt → g' (29 + 2 * l) = g (29 + 2 * l)) ∧ (∀ l : Int, 0 ≤ l → l ≤ ls → g' (41 + 2 * l) = g (41 + 2 * l))
theorem cKp_r {a b : Int} {g : hkG} : cKp a b g g := ⟨fun _ _ _ _ _ _ => rfl, fun _ _ => rfl, fun _ _ _ => rfl, fun _ _ _ => rfl⟩
theorem cKp_t {a b : Int} {g g' g'' : hkG} (h : cKp a b g g') (h' : cKp a b g' g'') : cKp a b g g'' := ⟨fun q h1 h2 h3 h4 h5 => by rw [h'.1 q h1 h2 h3 h4 h5, h.1 q h1 h2 h3 h4 h5], fun k hk => by rw [h'.2.1 k hk, h.2.1 k hk], fun l l0 l1 => by rw [h'.2.2.1 l l0 l1, h.2.2.1 l l0 l1], fun l l0 l1 => by rw [h'.2.2.2 l l0 l1, h.2.2.2 l l0 l1]⟩
theorem cKp_w {a b a' b' : Int} {g g' : hkG} (h : cKp a b g g') (ha : a' ≤ a) (hb : b' ≤ b) : cKp a' b' g g' := ⟨h.1, h.2.1, fun l l0 l1 => h.2.2.1 l l0 (by omega), fun l l0 l1 => h.2.2.2 l l0 (by omega)⟩
/-- one row from 28 to 49, and the reader's own, changed -/
theorem cKp_q {a b q1 : Int} {g g' : hkG} (h1 : ∀ q : Int, q ≠ 24 → q ≠ q1 → g' q = g q) (h2 : ∀ k : Int, k ≤ 1 → g' 24 k = g 24 k) (hq : 28 ≤ q1 ∧ q1 ≤ 49) (ha : ∀ l : Int, 0 ≤ l → l ≤ a → 29 + 2 * l ≠ q1) (hb : ∀ l : Int, 0 ≤ l → l ≤ b → 41 + 2 * l ≠ q1) : cKp a b g g' := ⟨fun q _ _ _ h4 h5 => h1 q h4 (by omega), h2, fun l l0 l1 => h1 _ (by omega) (ha l l0 l1), fun l l0 l1 => h1 _ (by omega) (hb l l0 l1)⟩
theorem cKp_24 {a b k v : Int} {g : hkG} (hk : 1 < k) : cKp a b g (hkSet g 24 k v) := ⟨fun q _ _ _ h4 _ => hkSet_row h4, fun j hj => by rw [hkSet_rd, if_neg (by omega)], fun l l0 _ => hkSet_row (by omega), fun l l0 _ => hkSet_row (by omega)⟩
def cPost (R N ρ : Int) (r : evT) (v : Int) (g' : hkG) : Prop := RB g' R N ∧ ((r.1 = -1 ∧ g' 24 2 = r.2.1) ∨ (r.1 ≠ -1 ∧ v = r.1 ∧ g' 24 2 = -1 ∧ g' 24 7 = r.2.1 ∧ g' 24 3 = hkTf r.2.2.1 ∧ (¬ r.2.2.1 → gvec (bxC R N) r.2.2.2 ∧ ∀ p : Int, 0 ≤ p → p < 280 → g' ρ p = r.2.2.2 p)))
theorem cSt_k {R N F pl : Int} {T : Int → Int} {sp : Prop} {g g' : hkG} (hS : cSt R N F T pl sp g) (k : ∀ q : Int, ¬ (28 ≤ q ∧ q ≤ 49) → g' q = g q) : cSt R N F T pl sp g' := by
  obtain ⟨hb, h0, hT, h2, h7, h3⟩ := hS
  exact ⟨RB_c hb (fun q hq => k q (by omega)), by rw [k 24 (by decide)]; exact h0, fun x x0 x1 => by rw [k 27 (by decide)]; exact hT x x0 x1, by rw [k 24 (by decide)]; exact h2, by rw [k 24 (by decide)]; exact h7, by rw [k 24 (by decide)]; exact h3⟩
/-- after a reading without a fault -/
theorem cSt_p {R N F pl a b ρ v : Int} {T : Int → Int} {sp : Prop} {g g' : hkG} {r : evT} (hS : cSt R N F T pl sp g) (k : cKp a b g g') (hp : cPost R N ρ r v g') (hr : r.1 ≠ -1) : cSt R N F T r.2.1 r.2.2.1 g' ∧ v = r.1 ∧ (¬ r.2.2.1 → gvec (bxC R N) r.2.2.2 ∧ ∀ p : Int, 0 ≤ p → p < 280 → g' ρ p = r.2.2.2 p) := by
  obtain ⟨hb, h⟩ := hp
  rcases h with h | ⟨-, h1, h2, h3, h4, h5⟩
  · exact absurd h.1 hr
  · exact ⟨⟨hb, by rw [k.2.1 0 (by decide)]; exact hS.2.1, fun x x0 x1 => by rw [k.1 27 (by decide) (by decide) (by decide) (by decide) (by decide)]; exact hS.2.2.1 x x0 x1, h2, h3, h4⟩, h1, h5⟩
theorem dgV_r {T : Int → Int} {F p : Int} : rngS (dgVl T (dgN T F 4 p) p 0) := by
  have hk : dgN T F 4 p ≤ 4 := by
    have : ∀ (m : Nat) (p : Int), dgN T F m p ≤ m := by
      intro m
      induction m with
      | zero => intro p; unfold dgN; omega
      | succ m ih => intro p; unfold dgN; have := ih (p + 1); split <;> omega
    exact this 4 p
  obtain ⟨n, v1, v2, -⟩ := dgt (dgN T F 4 p) hk (fun r hr => dgN_d 4 p r hr)
  have hle : (10 : Nat) ^ (dgN T F 4 p) ≤ 10 ^ 4 := Nat.pow_le_pow_right (by decide) hk
  have : n < 10000 := Nat.lt_of_lt_of_le v2 hle
  rw [v1]
  unfold rngS
  omega
section SP
variable {t : Nat} {R N F : Int} {T : Int → Int}
def cOne (t : Nat) (R N F : Int) (T : Int → Int) (f : Nat) : Prop := ∀ (k d : Nat) (lv pl : Int) (g : hkG) (sp : Prop) (A : Int → Int) (r : evT) (Q : Option hkV → Nat → hkG → Prop), lv + k = 4 → 0 ≤ lv → cSt R N F T pl sp g → 0 ≤ pl → pl ≤ F → ev R N F T f 0 pl lv 0 sp A = some r → (∀ (v : Int) (g' : hkG), cKp lv lv g g' → cPost R N (29 + 2 * (lv + 1)) r v g' → Q (some (0, v)) t g') → Xp 79 (d + 4 * k + 9) 0 [(2, 24), (0, lv), hkU] [] t g Q
def cPro (t : Nat) (R N F : Int) (T : Int → Int) (f : Nat) : Prop := ∀ (k d : Nat) (lv pl : Int) (g : hkG) (sp : Prop) (A : Int → Int) (r : evT) (Q : Option hkV → Nat → hkG → Prop), lv + k = 4 → 0 ≤ lv → cSt R N F T pl sp g → 0 ≤ pl → pl ≤ F → ev R N F T f 1 pl lv 0 sp A = some r → (∀ (v : Int) (g' : hkG), cKp lv (lv - 1) g g' → cPost R N (41 + 2 * lv) r v g' → Q (some (0, v)) t g') → Xp 78 (d + 4 * k + 10) 0 [(2, 24), (0, lv), hkU, hkU] [] t g Q
def cSum (t : Nat) (R N F : Int) (T : Int → Int) (f : Nat) : Prop := ∀ (k d : Nat) (lv pl : Int) (g : hkG) (sp : Prop) (A : Int → Int) (r : evT) (Q : Option hkV → Nat → hkG → Prop), lv + k = 4 → 0 ≤ lv → cSt R N F T pl sp g → 0 ≤ pl → pl ≤ F → ev R N F T f 2 pl lv 0 sp A = some r → (∀ (v : Int) (g' : hkG), cKp (lv - 1) (lv - 1) g g' → cPost R N (29 + 2 * lv) r v g' → Q (some (0, v)) t g') → Xp 77 (d + 4 * k + 11) 0 [(2, 24), (0, lv), hkU, hkU, hkU] [] t g Q
def cPL (t : Nat) (R N F : Int) (T : Int → Int) (f : Nat) : Prop := ∀ (k d : Nat) (lv pl n c : Int) (g : hkG) (sp : Prop) (A : Int → Int) (r : evT) (Q : Option hkV → Nat → hkG → Prop), lv + k = 4 → 0 ≤ lv → cSt R N F T pl sp g → 0 ≤ c → c ≤ pl → pl ≤ F → 1 ≤ n → n ≤ pl → (¬ sp → gvec (bxC R N) A ∧ ∀ p : Int, 0 ≤ p → p < 280 → g (41 + 2 * lv) p = A p) → ev R N F T f 3 pl lv n sp A = some r → (∀ (v : Int) (g' : hkG), cKp lv (lv - 1) g g' → cPost R N (41 + 2 * lv) r v g' → Q (some (0, v)) t g') → Xp 78 (d + 4 * k + 10) 25 [(2, 24), (0, lv), (0, n), (0, c)] [] t g Q
def cSL (t : Nat) (R N F : Int) (T : Int → Int) (f : Nat) : Prop := ∀ (k d : Nat) (lv pl n c : Int) (v4 : hkV) (g : hkG) (sp : Prop) (A : Int → Int) (r : evT) (Q : Option hkV → Nat → hkG → Prop), lv + k = 4 → 0 ≤ lv → cSt R N F T pl sp g → 0 ≤ c → c ≤ pl → pl ≤ F → 1 ≤ n → n ≤ pl → (¬ sp → gvec (bxC R N) A ∧ ∀ p : Int, 0 ≤ p → p < 280 → g (29 + 2 * lv) p = A p) → ev R N F T f 4 pl lv n sp A = some r → (∀ (v : Int) (g' : hkG), cKp (lv - 1) (lv - 1) g g' → cPost R N (29 + 2 * lv) r v g' → Q (some (0, v)) t g') → Xp 77 (d + 4 * k + 11) 23 [(2, 24), (0, lv), (0, n), (0, c), v4] [] t g Q
theorem cOne_s (ht : 190 ≤ t) (F60 : F ≤ 60) {f : Nat} (hSum : cSum t R N F T f) : cOne t R N F T (f + 1) := by
  intro k d lv pl g sp A r Q hk h0 hS p0 pF hev hQ
  rw [ev_0] at hev
  have hc := bx_C hS.1.1.1
  obtain ⟨a1, a2⟩ := rd_f (l := lv + 1) ht (by omega) (by omega)
  have hsm := sm_t (l := lv + 1) (by omega) (by omega)
  obtain ⟨m1, m2, m3, m4, m5⟩ := id hsm
  have mt : jA (28 + 2 * (lv + 1)) 0 ≤ t := Nat.le_trans m1 ht
  have hs40 : ∀ (D : Nat) (Q' : Option hkV → Nat → hkG → Prop), Xp 80 D 0 [(2, 24), (0, 40)] [] t g Q' = Q' (some (0, hkTf (hrC T F pl = 40))) t g := fun D Q' => sx_sees ht hS F60 p0 (by decide)
  have el : hkW (lv + 1) = lv + 1 := hkW_in (by omega) (by omega)
  have ep : hkW (pl + 1) = pl + 1 := hkW_in (by omega) (by omega)
  by_cases c40 : hrC T F pl = 40
  · rw [if_neg (by clear el ep; omega)] at hev
    have hpF := hrC_lt (T := T) (F := F) (p := pl) (by clear el ep; omega)
    have IN : Xp 81 (d + 4 * k + 8) 0 [(2, 24), (0, lv), hkU] [] t g (fun r1 t1 g1 => Xp 79 (d + 4 * k + 8 + 1) 14 [(2, 24), (0, lv), hkU] (hkPush r1 []) t1 g1 Q) := by
      by_cases h4 : lv < 4
      · rw [if_pos ⟨c40, h4⟩] at hev
        obtain ⟨k', rfl⟩ : ∃ k' : Nat, k = k' + 1 := ⟨k - 1, by clear el ep; omega⟩
        obtain ⟨r1, e1, e2⟩ := evB_s hev
        have hbd := ev_bd f 2 (pl + 1) (lv + 1) 0 sp A r1 (by decide) (by clear el ep; omega) (fun h => absurd h (by decide)) e1
        rw [if_neg (by decide)] at hbd
        have h7 := hS.2.2.2.2.1
        rw [show d + 4 * (k' + 1) + 8 = d + 4 * k' + 11 + 1 from by clear el ep; omega]
        have K := hSum k' d (lv + 1) (pl + 1) (hkSet g 24 7 (pl + 1)) sp A r1 (fun r2 t2 g2 => Xp 81 (d + 4 * k' + 11 + 1) 32 [(2, 24), (0, lv), hkU] (hkPush r2 []) t2 g2 (fun r1 t1 g1 => Xp 79 (d + 4 * k' + 11 + 1 + 1) 14 [(2, 24), (0, lv), hkU] (hkPush r1 []) t1 g1 Q)) (by clear el ep; omega) (by clear el ep; omega) (cSt_at hS) (by clear el ep; omega) (by clear el ep; omega) e1 (fun v g2 k2 P2 => by
          have k2' : cKp lv lv g g2 := cKp_t (cKp_24 (by decide)) (cKp_w k2 (by clear el ep; omega) (by clear el ep; omega))
          by_cases hf : r1.1 = -1
          · rw [if_pos hf] at e2
            have e2 := (Option.some.inj e2).symm
            subst e2
            have hne : g2 24 2 ≠ -1 := by
              rcases P2.2 with h | h
              · rw [h.2]; clear el ep; omega
              · exact absurd hf h.1
            have hq := hQ v g2 k2' P2
            clear el ep
            simp only [x_81_32, x_81_33, x_81_34, x_81_36, x_81_39, x_81_42, x_81_43, x_81_44, x_81_47, x_81_48, x_81_49, x_81_52, x_81_55, x_81_56, x_81_57, x_81_60, x_81_63, x_81_64, hkJK_24, hkP1_0, hkP1_2, hkP1_u, hkC8, List.map_cons, List.map_nil, List.sum_cons, List.sum_nil, hkCat_0, hkCat_1, hkCat_2, Nat.reduceAdd, Nat.reduceLeDiff, hkPush_s, hkPush_n, true_and, and_true, implies_true, true_implies, not_true_eq_false, not_false_eq_true, false_implies, hkTf_0, hkTf_n1, hkOr01, hkOr11, Int.reduceEq, Int.reduceLT, Int.reduceLE, hk102a, hk102b, hk102c, Nat.reduceEqDiff, or_true, true_or, or_false, false_or, and_false, false_and, Classical.not_not, true_implies, List.set_cons_zero, List.set_cons_succ, ne_eq, x_79_14, hkJK_24, hkJK_25, jA_24_4, jL_25, jR_24_4, hkP1_0, hkP1_2, hkP1_u, hkC8, List.map_cons, List.map_nil, List.sum_cons, List.sum_nil, hkCat_0, hkCat_1, hkCat_2, Nat.reduceAdd, Nat.reduceLeDiff, hkPush_s, hkPush_n, true_and, and_true, implies_true, true_implies, not_true_eq_false, not_false_eq_true, false_implies, hkTf_0, hkTf_n1, hkOr01, hkOr11, Int.reduceEq, Int.reduceLT, Int.reduceLE, hk102a, hk102b, hk102c, Nat.reduceEqDiff, or_true, true_or, or_false, false_or, and_false, false_and, Classical.not_not, true_implies, List.set_cons_zero, List.set_cons_succ, ne_eq, sx_seesF hne, sx_fail1 hne]
            repeat' (first | exact hq | refine And.intro ?_ ?_ | intro _ | trivial | omega | (exfalso; omega))
          · rw [if_neg hf] at e2
            obtain ⟨hS2, hv, hvec⟩ := cSt_p (cSt_at hS) k2 P2 hf
            subst hv
            have h22 := hS2.2.2.2.1
            have h27 := hS2.2.2.2.2.1
            have hs41 : ∀ (D : Nat) (Q' : Option hkV → Nat → hkG → Prop), Xp 80 D 0 [(2, 24), (0, 41)] [] t g2 Q' = Q' (some (0, hkTf (hrC T F r1.2.1 = 41))) t g2 := fun D Q' => sx_sees ht hS2 F60 (by clear el ep; omega) (by decide)
            have ep2 : hkW (r1.2.1 + 1) = r1.2.1 + 1 := hkW_in (by clear el ep; omega) (by clear el ep; omega)
            by_cases h41 : hrC T F r1.2.1 = 41
            · rw [if_pos h41] at e2
              have e2 := (Option.some.inj e2).symm
              subst e2
              have hS3 := cSt_at (pl' := r1.2.1 + 1) hS2
              have hq := hQ r1.1 (hkSet g2 24 7 (r1.2.1 + 1)) (cKp_t k2' (cKp_24 (by decide))) ⟨hS3.1, Or.inr ⟨hf, rfl, hS3.2.2.2.1, hS3.2.2.2.2.1, hS3.2.2.2.2.2, fun h => ⟨(hvec h).1, fun p q0 q1 => by rw [hkSet_row (by clear el ep ep2; omega)]; exact (hvec h).2 p q0 q1⟩⟩⟩
              simp only [x_81_32, x_81_33, x_81_34, x_81_36, x_81_39, x_81_42, x_81_43, x_81_44, x_81_47, x_81_48, x_81_49, x_81_52, x_81_55, x_81_56, x_81_57, x_81_60, x_81_63, x_81_64, hkJK_24, hkP1_0, hkP1_2, hkP1_u, hkC8, List.map_cons, List.map_nil, List.sum_cons, List.sum_nil, hkCat_0, hkCat_1, hkCat_2, Nat.reduceAdd, Nat.reduceLeDiff, hkPush_s, hkPush_n, true_and, and_true, implies_true, true_implies, not_true_eq_false, not_false_eq_true, false_implies, hkTf_0, hkTf_n1, hkOr01, hkOr11, Int.reduceEq, Int.reduceLT, Int.reduceLE, hk102a, hk102b, hk102c, Nat.reduceEqDiff, or_true, true_or, or_false, false_or, and_false, false_and, Classical.not_not, true_implies, List.set_cons_zero, List.set_cons_succ, ne_eq, x_79_14, hkJK_24, hkJK_25, jA_24_4, jL_25, jR_24_4, hkP1_0, hkP1_2, hkP1_u, hkC8, List.map_cons, List.map_nil, List.sum_cons, List.sum_nil, hkCat_0, hkCat_1, hkCat_2, Nat.reduceAdd, Nat.reduceLeDiff, hkPush_s, hkPush_n, true_and, and_true, implies_true, true_implies, not_true_eq_false, not_false_eq_true, false_implies, hkTf_0, hkTf_n1, hkOr01, hkOr11, Int.reduceEq, Int.reduceLT, Int.reduceLE, hk102a, hk102b, hk102c, Nat.reduceEqDiff, or_true, true_or, or_false, false_or, and_false, false_and, Classical.not_not, true_implies, List.set_cons_zero, List.set_cons_succ, ne_eq, hs41, h27, ep2]
              clear el ep ep2
              repeat' (first | exact hq | refine And.intro ?_ ?_ | intro _ | trivial | omega | (exfalso; omega))
            · rw [if_neg h41] at e2
              have e2 := (Option.some.inj e2).symm
              subst e2
              have hq := hQ r1.1 (hkSet g2 24 2 r1.2.1) (cKp_t k2' (cKp_24 (by decide))) ⟨RB_c hS2.1 (fun q hq => hkSet_row (by clear el ep ep2; omega)), Or.inl ⟨rfl, by rw [hkSet_rd, if_pos ⟨rfl, rfl⟩]⟩⟩
              clear el ep
              simp only [x_81_32, x_81_33, x_81_34, x_81_36, x_81_39, x_81_42, x_81_43, x_81_44, x_81_47, x_81_48, x_81_49, x_81_52, x_81_55, x_81_56, x_81_57, x_81_60, x_81_63, x_81_64, hkJK_24, hkP1_0, hkP1_2, hkP1_u, hkC8, List.map_cons, List.map_nil, List.sum_cons, List.sum_nil, hkCat_0, hkCat_1, hkCat_2, Nat.reduceAdd, Nat.reduceLeDiff, hkPush_s, hkPush_n, true_and, and_true, implies_true, true_implies, not_true_eq_false, not_false_eq_true, false_implies, hkTf_0, hkTf_n1, hkOr01, hkOr11, Int.reduceEq, Int.reduceLT, Int.reduceLE, hk102a, hk102b, hk102c, Nat.reduceEqDiff, or_true, true_or, or_false, false_or, and_false, false_and, Classical.not_not, true_implies, List.set_cons_zero, List.set_cons_succ, ne_eq, x_79_14, hkJK_24, hkJK_25, jA_24_4, jL_25, jR_24_4, hkP1_0, hkP1_2, hkP1_u, hkC8, List.map_cons, List.map_nil, List.sum_cons, List.sum_nil, hkCat_0, hkCat_1, hkCat_2, Nat.reduceAdd, Nat.reduceLeDiff, hkPush_s, hkPush_n, true_and, and_true, implies_true, true_implies, not_true_eq_false, not_false_eq_true, false_implies, hkTf_0, hkTf_n1, hkOr01, hkOr11, Int.reduceEq, Int.reduceLT, Int.reduceLE, hk102a, hk102b, hk102c, Nat.reduceEqDiff, or_true, true_or, or_false, false_or, and_false, false_and, Classical.not_not, true_implies, List.set_cons_zero, List.set_cons_succ, ne_eq, hs41, h27, ep2, sx_fail0 h22]
              clear ep2
              repeat' (first | exact hq | refine And.intro ?_ ?_ | intro _ | trivial | omega | (exfalso; omega)))
        simp only [x_81_0, x_81_1, x_81_2, x_81_5, x_81_6, x_81_7, x_81_10, x_81_13, x_81_14, x_81_15, x_81_16, x_81_17, x_81_20, x_81_21, x_81_22, x_81_25, x_81_26, x_81_27, x_81_28, x_81_29, hkJK_24, hkP1_0, hkP1_2, hkP1_u, hkC8, List.map_cons, List.map_nil, List.sum_cons, List.sum_nil, hkCat_0, hkCat_1, hkCat_2, Nat.reduceAdd, Nat.reduceLeDiff, hkPush_s, hkPush_n, true_and, and_true, implies_true, true_implies, not_true_eq_false, not_false_eq_true, false_implies, hkTf_0, hkTf_n1, hkOr01, hkOr11, Int.reduceEq, Int.reduceLT, Int.reduceLE, hk102a, hk102b, hk102c, Nat.reduceEqDiff, or_true, true_or, or_false, false_or, and_false, false_and, Classical.not_not, true_implies, List.set_cons_zero, List.set_cons_succ, ne_eq, h7, ep, el]
        clear el ep
        repeat' (first | exact K | refine And.intro ?_ ?_ | intro _ | trivial | omega | (exfalso; omega))
      · rw [if_neg (fun h => h4 h.2), if_neg (by clear el ep; omega), if_pos (by clear el ep; omega)] at hev
        have hev := (Option.some.inj hev).symm
        subst hev
        have h2 := hS.2.2.2.1
        have h7 := hS.2.2.2.2.1
        have hq := hQ 0 (hkSet g 24 2 pl) (cKp_24 (by decide)) ⟨RB_c hS.1 (fun q hq => hkSet_row (by clear el ep; omega)), Or.inl ⟨rfl, by rw [hkSet_rd, if_pos ⟨rfl, rfl⟩]⟩⟩
        clear el ep
        simp only [x_81_0, x_81_1, x_81_2, x_81_5, x_81_6, x_81_7, x_81_10, x_81_13, x_81_14, hkJK_24, hkP1_0, hkP1_2, hkP1_u, hkC8, List.map_cons, List.map_nil, List.sum_cons, List.sum_nil, hkCat_0, hkCat_1, hkCat_2, Nat.reduceAdd, Nat.reduceLeDiff, hkPush_s, hkPush_n, true_and, and_true, implies_true, true_implies, not_true_eq_false, not_false_eq_true, false_implies, hkTf_0, hkTf_n1, hkOr01, hkOr11, Int.reduceEq, Int.reduceLT, Int.reduceLE, hk102a, hk102b, hk102c, Nat.reduceEqDiff, or_true, true_or, or_false, false_or, and_false, false_and, Classical.not_not, true_implies, List.set_cons_zero, List.set_cons_succ, ne_eq, x_79_14, hkJK_24, hkJK_25, jA_24_4, jL_25, jR_24_4, hkP1_0, hkP1_2, hkP1_u, hkC8, List.map_cons, List.map_nil, List.sum_cons, List.sum_nil, hkCat_0, hkCat_1, hkCat_2, Nat.reduceAdd, Nat.reduceLeDiff, hkPush_s, hkPush_n, true_and, and_true, implies_true, true_implies, not_true_eq_false, not_false_eq_true, false_implies, hkTf_0, hkTf_n1, hkOr01, hkOr11, Int.reduceEq, Int.reduceLT, Int.reduceLE, hk102a, hk102b, hk102c, Nat.reduceEqDiff, or_true, true_or, or_false, false_or, and_false, false_and, Classical.not_not, true_implies, List.set_cons_zero, List.set_cons_succ, ne_eq, h7, sx_fail0 h2]
        repeat' (first | exact hq | refine And.intro ?_ ?_ | intro _ | trivial | omega | (exfalso; omega))
    simp only [x_79_0, x_79_1, x_79_3, hkJK_24, hkJK_25, jA_24_4, jL_25, jR_24_4, hkP1_0, hkP1_2, hkP1_u, hkC8, List.map_cons, List.map_nil, List.sum_cons, List.sum_nil, hkCat_0, hkCat_1, hkCat_2, Nat.reduceAdd, Nat.reduceLeDiff, hkPush_s, hkPush_n, true_and, and_true, implies_true, true_implies, not_true_eq_false, not_false_eq_true, false_implies, hkTf_0, hkTf_n1, hkOr01, hkOr11, Int.reduceEq, Int.reduceLT, Int.reduceLE, hk102a, hk102b, hk102c, Nat.reduceEqDiff, or_true, true_or, or_false, false_or, and_false, false_and, Classical.not_not, true_implies, List.set_cons_zero, List.set_cons_succ, ne_eq, hs40]
    rw [hkTf_t c40]
    clear el ep
    simp only [x_79_6, x_79_9, x_79_10, x_79_11, hkJK_24, hkJK_25, jA_24_4, jL_25, jR_24_4, hkP1_0, hkP1_2, hkP1_u, hkC8, List.map_cons, List.map_nil, List.sum_cons, List.sum_nil, hkCat_0, hkCat_1, hkCat_2, Nat.reduceAdd, Nat.reduceLeDiff, hkPush_s, hkPush_n, true_and, and_true, implies_true, true_implies, not_true_eq_false, not_false_eq_true, false_implies, hkTf_0, hkTf_n1, hkOr01, hkOr11, Int.reduceEq, Int.reduceLT, Int.reduceLE, hk102a, hk102b, hk102c, Nat.reduceEqDiff, or_true, true_or, or_false, false_or, and_false, false_and, Classical.not_not, true_implies, List.set_cons_zero, List.set_cons_succ, ne_eq]
    repeat' (first | exact IN | refine And.intro ?_ ?_ | intro _ | trivial | omega | (exfalso; omega))
  · -- the sum is cleared
    have hSc : cSt R N F T pl sp (hkFil g (29 + 2 * (lv + 1)) 0 280 0) := cSt_k hS (fun q hq => hkFil_row (by clear el ep; omega))
    have z : ∀ p : Int, 0 ≤ p → p < 280 → hkFil g (29 + 2 * (lv + 1)) 0 280 0 (29 + 2 * (lv + 1)) p = 0 := fun p p0 p1 => hkFil_in p0 p1
    have kc : ∀ q : Int, q ≠ 29 + 2 * (lv + 1) → hkFil g (29 + 2 * (lv + 1)) 0 280 0 q = g q := fun q hq => hkFil_row hq
    generalize hgc : hkFil g (29 + 2 * (lv + 1)) 0 280 0 = gc at hSc z kc
    have FR : ∀ g' : hkG, (∀ q : Int, q ≠ 24 → q ≠ 29 + 2 * (lv + 1) → g' q = gc q) → (∀ k : Int, k ≤ 1 → g' 24 k = gc 24 k) → cKp lv lv g g' := fun g' h1 h2 => cKp_q (q1 := 29 + 2 * (lv + 1)) (fun q q1 q2 => by rw [h1 q q1 q2, kc q q2]) (fun k hk => by rw [h2 k hk, kc 24 (by clear el ep; omega)]) (by clear el ep; omega) (fun l l0 l1 => by clear el ep; omega) (fun l l0 l1 => by clear el ep; omega)
    have hs113 : ∀ (D : Nat) (Q' : Option hkV → Nat → hkG → Prop), Xp 80 D 0 [(2, 24), (0, 113)] [] t gc Q' = Q' (some (0, hkTf (hrC T F pl = 113))) t gc := fun D Q' => sx_sees ht hSc F60 p0 (by decide)
    have hs91 : ∀ (D : Nat) (Q' : Option hkV → Nat → hkG → Prop), Xp 80 D 0 [(2, 24), (0, 91)] [] t gc Q' = Q' (some (0, hkTf (hrC T F pl = 91))) t gc := fun D Q' => sx_sees ht hSc F60 p0 (by decide)
    have hc2 := hSc.2.2.2.1
    have hc7 := hSc.2.2.2.2.1
    have K : Xp 79 (d + 4 * k + 8 + 1) 28 [(2, 24), (0, lv), (2, 28 + 2 * (lv + 1))] [] t gc Q := by
      by_cases c113 : hrC T F pl = 113
      · rw [if_neg (by clear el ep; omega), if_neg (fun h => c40 h.1), if_pos c113] at hev
        have hev := (Option.some.inj hev).symm
        subst hev
        have hS3 := cSt_at (pl' := pl + 1) hSc
        have hS4 := cSt_k (g' := hkSet (hkSet gc 24 7 (pl + 1)) (29 + 2 * (lv + 1)) 35 1) hS3 (fun q hq => hkSet_row (by clear el ep; omega))
        have hq := hQ 1 (hkSet (hkSet gc 24 7 (pl + 1)) (29 + 2 * (lv + 1)) 35 1) (FR _ (fun q q1 q2 => by rw [hkSet_row q2, hkSet_row q1]) (fun k hk => by rw [hkSet_row (by clear el ep; omega), hkSet_rd, if_neg (by clear el ep; omega)])) ⟨hS4.1, Or.inr ⟨by show (1 : Int) ≠ -1; decide, rfl, hS4.2.2.2.1, hS4.2.2.2.2.1, hS4.2.2.2.2.2, fun _ => ⟨gvec_un (by decide) (by clear el ep; omega) ⟨by decide, by decide⟩, fun p q0 q1 => by
          show _ = unV 35 1 p
          rw [hkSet_rd, hkSet_row (by clear el ep; omega), z p q0 q1]
          unfold unV
          by_cases e : p = 35
          · rw [if_pos ⟨rfl, e⟩, if_pos e]
          · rw [if_neg (fun h => e h.2), if_neg e]⟩⟩⟩
        simp only [x_79_28, x_79_29, x_79_31, hkJK_24, hkJK_25, jA_24_4, jL_25, jR_24_4, hkP1_0, hkP1_2, hkP1_u, hkC8, List.map_cons, List.map_nil, List.sum_cons, List.sum_nil, hkCat_0, hkCat_1, hkCat_2, Nat.reduceAdd, Nat.reduceLeDiff, hkPush_s, hkPush_n, true_and, and_true, implies_true, true_implies, not_true_eq_false, not_false_eq_true, false_implies, hkTf_0, hkTf_n1, hkOr01, hkOr11, Int.reduceEq, Int.reduceLT, Int.reduceLE, hk102a, hk102b, hk102c, Nat.reduceEqDiff, or_true, true_or, or_false, false_or, and_false, false_and, Classical.not_not, true_implies, List.set_cons_zero, List.set_cons_succ, ne_eq, hs113]
        rw [hkTf_t c113]
        simp only [x_79_34, x_79_37, x_79_38, x_79_39, x_79_42, x_79_43, x_79_44, x_79_47, x_79_48, x_79_51, x_79_53, x_79_54, x_79_55, hkJK_24, hkJK_25, jA_24_4, jL_25, jR_24_4, hkP1_0, hkP1_2, hkP1_u, hkC8, List.map_cons, List.map_nil, List.sum_cons, List.sum_nil, hkCat_0, hkCat_1, hkCat_2, Nat.reduceAdd, Nat.reduceLeDiff, hkPush_s, hkPush_n, true_and, and_true, implies_true, true_implies, not_true_eq_false, not_false_eq_true, false_implies, hkTf_0, hkTf_n1, hkOr01, hkOr11, Int.reduceEq, Int.reduceLT, Int.reduceLE, hk102a, hk102b, hk102c, Nat.reduceEqDiff, or_true, true_or, or_false, false_or, and_false, false_and, Classical.not_not, true_implies, List.set_cons_zero, List.set_cons_succ, ne_eq, x_79_80, x_79_81, hkJK_24, hkJK_25, jA_24_4, jL_25, jR_24_4, hkP1_0, hkP1_2, hkP1_u, hkC8, List.map_cons, List.map_nil, List.sum_cons, List.sum_nil, hkCat_0, hkCat_1, hkCat_2, Nat.reduceAdd, Nat.reduceLeDiff, hkPush_s, hkPush_n, true_and, and_true, implies_true, true_implies, not_true_eq_false, not_false_eq_true, false_implies, hkTf_0, hkTf_n1, hkOr01, hkOr11, Int.reduceEq, Int.reduceLT, Int.reduceLE, hk102a, hk102b, hk102c, Nat.reduceEqDiff, or_true, true_or, or_false, false_or, and_false, false_and, Classical.not_not, true_implies, List.set_cons_zero, List.set_cons_succ, ne_eq, hc7, ep, m2, mt, m3, m4, m5]
        clear el ep
        repeat' (first | exact hq | refine And.intro ?_ ?_ | intro _ | trivial | omega | (exfalso; omega))
      · by_cases c91 : hrC T F pl = 91
        · rw [if_neg (by clear el ep; omega), if_neg (fun h => c40 h.1), if_neg c113, if_neg (fun h => h c91)] at hev
          simp only [x_79_28, x_79_29, x_79_31, hkJK_24, hkJK_25, jA_24_4, jL_25, jR_24_4, hkP1_0, hkP1_2, hkP1_u, hkC8, List.map_cons, List.map_nil, List.sum_cons, List.sum_nil, hkCat_0, hkCat_1, hkCat_2, Nat.reduceAdd, Nat.reduceLeDiff, hkPush_s, hkPush_n, true_and, and_true, implies_true, true_implies, not_true_eq_false, not_false_eq_true, false_implies, hkTf_0, hkTf_n1, hkOr01, hkOr11, Int.reduceEq, Int.reduceLT, Int.reduceLE, hk102a, hk102b, hk102c, Nat.reduceEqDiff, or_true, true_or, or_false, false_or, and_false, false_and, Classical.not_not, true_implies, List.set_cons_zero, List.set_cons_succ, ne_eq, hs113]
          rw [hkTf_f c113]
          simp only [x_79_34, hkJK_24, hkJK_25, jA_24_4, jL_25, jR_24_4, hkP1_0, hkP1_2, hkP1_u, hkC8, List.map_cons, List.map_nil, List.sum_cons, List.sum_nil, hkCat_0, hkCat_1, hkCat_2, Nat.reduceAdd, Nat.reduceLeDiff, hkPush_s, hkPush_n, true_and, and_true, implies_true, true_implies, not_true_eq_false, not_false_eq_true, false_implies, hkTf_0, hkTf_n1, hkOr01, hkOr11, Int.reduceEq, Int.reduceLT, Int.reduceLE, hk102a, hk102b, hk102c, Nat.reduceEqDiff, or_true, true_or, or_false, false_or, and_false, false_and, Classical.not_not, true_implies, List.set_cons_zero, List.set_cons_succ, ne_eq, x_79_58, x_79_59, x_79_61, hkJK_24, hkJK_25, jA_24_4, jL_25, jR_24_4, hkP1_0, hkP1_2, hkP1_u, hkC8, List.map_cons, List.map_nil, List.sum_cons, List.sum_nil, hkCat_0, hkCat_1, hkCat_2, Nat.reduceAdd, Nat.reduceLeDiff, hkPush_s, hkPush_n, true_and, and_true, implies_true, true_implies, not_true_eq_false, not_false_eq_true, false_implies, hkTf_0, hkTf_n1, hkOr01, hkOr11, Int.reduceEq, Int.reduceLT, Int.reduceLE, hk102a, hk102b, hk102c, Nat.reduceEqDiff, or_true, true_or, or_false, false_or, and_false, false_and, Classical.not_not, true_implies, List.set_cons_zero, List.set_cons_succ, ne_eq, hs91]
          rw [hkTf_t c91]
          simp only [x_79_64, x_79_67, x_79_68, x_79_69, hkJK_24, hkJK_25, jA_24_4, jL_25, jR_24_4, hkP1_0, hkP1_2, hkP1_u, hkC8, List.map_cons, List.map_nil, List.sum_cons, List.sum_nil, hkCat_0, hkCat_1, hkCat_2, Nat.reduceAdd, Nat.reduceLeDiff, hkPush_s, hkPush_n, true_and, and_true, implies_true, true_implies, not_true_eq_false, not_false_eq_true, false_implies, hkTf_0, hkTf_n1, hkOr01, hkOr11, Int.reduceEq, Int.reduceLT, Int.reduceLE, hk102a, hk102b, hk102c, Nat.reduceEqDiff, or_true, true_or, or_false, false_or, and_false, false_and, Classical.not_not, true_implies, List.set_cons_zero, List.set_cons_succ, ne_eq]
          have hpF := hrC_lt (T := T) (F := F) (p := pl) (by clear el ep; omega)
          have hdN := dgN_b (T := T) (F := F) 4 (pl + 1) (by clear el ep; omega)
          refine sx_readShape (d := d + 4 * k + 6) ht F60 hsm hSc p0 c91 (by clear el ep; omega) (by clear el ep; omega) (fun h1 g2 k1 k2 k3 => ?_) (fun h1 h2 g2 k1 k2 k3 k4 => ?_) (fun h1 h2 g2 k1 k2 k3 => ?_)
          · rw [if_pos h1] at hev
            have hev := (Option.some.inj hev).symm
            subst hev
            have hq := hQ 1 g2 (FR _ k1 (fun k hk => k2 k (by clear el ep; omega) (by clear el ep; omega))) ⟨RB_c hSc.1 (fun q hq => k1 q (by clear el ep; omega) (by clear el ep; omega)), Or.inl ⟨rfl, k3⟩⟩
            clear el ep
            simp only [x_79_72, hkJK_24, hkJK_25, jA_24_4, jL_25, jR_24_4, hkP1_0, hkP1_2, hkP1_u, hkC8, List.map_cons, List.map_nil, List.sum_cons, List.sum_nil, hkCat_0, hkCat_1, hkCat_2, Nat.reduceAdd, Nat.reduceLeDiff, hkPush_s, hkPush_n, true_and, and_true, implies_true, true_implies, not_true_eq_false, not_false_eq_true, false_implies, hkTf_0, hkTf_n1, hkOr01, hkOr11, Int.reduceEq, Int.reduceLT, Int.reduceLE, hk102a, hk102b, hk102c, Nat.reduceEqDiff, or_true, true_or, or_false, false_or, and_false, false_and, Classical.not_not, true_implies, List.set_cons_zero, List.set_cons_succ, ne_eq, x_79_80, x_79_81, hkJK_24, hkJK_25, jA_24_4, jL_25, jR_24_4, hkP1_0, hkP1_2, hkP1_u, hkC8, List.map_cons, List.map_nil, List.sum_cons, List.sum_nil, hkCat_0, hkCat_1, hkCat_2, Nat.reduceAdd, Nat.reduceLeDiff, hkPush_s, hkPush_n, true_and, and_true, implies_true, true_implies, not_true_eq_false, not_false_eq_true, false_implies, hkTf_0, hkTf_n1, hkOr01, hkOr11, Int.reduceEq, Int.reduceLT, Int.reduceLE, hk102a, hk102b, hk102c, Nat.reduceEqDiff, or_true, true_or, or_false, false_or, and_false, false_and, Classical.not_not, true_implies, List.set_cons_zero, List.set_cons_succ, ne_eq]
            repeat' (first | exact hq | refine And.intro ?_ ?_ | intro _ | trivial | omega | (exfalso; omega))
          · rw [if_neg h1, if_pos h2] at hev
            have hev := (Option.some.inj hev).symm
            subst hev
            have hir : 0 ≤ rdS R N T (pl + 1) (dgN T F 4 (pl + 1)) ∧ rdS R N T (pl + 1) (dgN T F 4 (pl + 1)) < bxC R N := by
              rcases rdS_r (R := R) (N := N) (T := T) (p := pl + 1) hSc.1.1.1 (dgN T F 4 (pl + 1)) hdN.2 (fun r hr => dgN_d 4 (pl + 1) r hr) with h | h
              · exact absurd h h1
              · exact h
            have hq := hQ 1 g2 (FR _ k1 (fun k hk => k2 k (by clear el ep; omega))) ⟨RB_c hSc.1 (fun q hq => k1 q (by clear el ep; omega) (by clear el ep; omega)), Or.inr ⟨by show (1 : Int) ≠ -1; decide, rfl, by rw [k2 2 (by decide)]; exact hc2, k3, by rw [k2 3 (by decide)]; exact hSc.2.2.2.2.2, fun _ => ⟨gvec_un hir.1 (by clear el ep; omega) ⟨by decide, by decide⟩, fun p q0 q1 => by
              show _ = unV (rdS R N T (pl + 1) (dgN T F 4 (pl + 1))) 1 p
              rw [k4 p, z p q0 q1]
              rfl⟩⟩⟩
            clear el ep
            simp only [x_79_72, hkJK_24, hkJK_25, jA_24_4, jL_25, jR_24_4, hkP1_0, hkP1_2, hkP1_u, hkC8, List.map_cons, List.map_nil, List.sum_cons, List.sum_nil, hkCat_0, hkCat_1, hkCat_2, Nat.reduceAdd, Nat.reduceLeDiff, hkPush_s, hkPush_n, true_and, and_true, implies_true, true_implies, not_true_eq_false, not_false_eq_true, false_implies, hkTf_0, hkTf_n1, hkOr01, hkOr11, Int.reduceEq, Int.reduceLT, Int.reduceLE, hk102a, hk102b, hk102c, Nat.reduceEqDiff, or_true, true_or, or_false, false_or, and_false, false_and, Classical.not_not, true_implies, List.set_cons_zero, List.set_cons_succ, ne_eq, x_79_80, x_79_81, hkJK_24, hkJK_25, jA_24_4, jL_25, jR_24_4, hkP1_0, hkP1_2, hkP1_u, hkC8, List.map_cons, List.map_nil, List.sum_cons, List.sum_nil, hkCat_0, hkCat_1, hkCat_2, Nat.reduceAdd, Nat.reduceLeDiff, hkPush_s, hkPush_n, true_and, and_true, implies_true, true_implies, not_true_eq_false, not_false_eq_true, false_implies, hkTf_0, hkTf_n1, hkOr01, hkOr11, Int.reduceEq, Int.reduceLT, Int.reduceLE, hk102a, hk102b, hk102c, Nat.reduceEqDiff, or_true, true_or, or_false, false_or, and_false, false_and, Classical.not_not, true_implies, List.set_cons_zero, List.set_cons_succ, ne_eq]
            repeat' (first | exact hq | refine And.intro ?_ ?_ | intro _ | trivial | omega | (exfalso; omega))
          · rw [if_neg h1, if_neg h2] at hev
            have hev := (Option.some.inj hev).symm
            subst hev
            have hq := hQ 1 g2 (FR _ k1 (fun k hk => k2 k (by clear el ep; omega) (by clear el ep; omega))) ⟨RB_c hSc.1 (fun q hq => k1 q (by clear el ep; omega) (by clear el ep; omega)), Or.inl ⟨rfl, k3⟩⟩
            clear el ep
            simp only [x_79_72, hkJK_24, hkJK_25, jA_24_4, jL_25, jR_24_4, hkP1_0, hkP1_2, hkP1_u, hkC8, List.map_cons, List.map_nil, List.sum_cons, List.sum_nil, hkCat_0, hkCat_1, hkCat_2, Nat.reduceAdd, Nat.reduceLeDiff, hkPush_s, hkPush_n, true_and, and_true, implies_true, true_implies, not_true_eq_false, not_false_eq_true, false_implies, hkTf_0, hkTf_n1, hkOr01, hkOr11, Int.reduceEq, Int.reduceLT, Int.reduceLE, hk102a, hk102b, hk102c, Nat.reduceEqDiff, or_true, true_or, or_false, false_or, and_false, false_and, Classical.not_not, true_implies, List.set_cons_zero, List.set_cons_succ, ne_eq, x_79_80, x_79_81, hkJK_24, hkJK_25, jA_24_4, jL_25, jR_24_4, hkP1_0, hkP1_2, hkP1_u, hkC8, List.map_cons, List.map_nil, List.sum_cons, List.sum_nil, hkCat_0, hkCat_1, hkCat_2, Nat.reduceAdd, Nat.reduceLeDiff, hkPush_s, hkPush_n, true_and, and_true, implies_true, true_implies, not_true_eq_false, not_false_eq_true, false_implies, hkTf_0, hkTf_n1, hkOr01, hkOr11, Int.reduceEq, Int.reduceLT, Int.reduceLE, hk102a, hk102b, hk102c, Nat.reduceEqDiff, or_true, true_or, or_false, false_or, and_false, false_and, Classical.not_not, true_implies, List.set_cons_zero, List.set_cons_succ, ne_eq]
            repeat' (first | exact hq | refine And.intro ?_ ?_ | intro _ | trivial | omega | (exfalso; omega))
        · simp only [x_79_28, x_79_29, x_79_31, hkJK_24, hkJK_25, jA_24_4, jL_25, jR_24_4, hkP1_0, hkP1_2, hkP1_u, hkC8, List.map_cons, List.map_nil, List.sum_cons, List.sum_nil, hkCat_0, hkCat_1, hkCat_2, Nat.reduceAdd, Nat.reduceLeDiff, hkPush_s, hkPush_n, true_and, and_true, implies_true, true_implies, not_true_eq_false, not_false_eq_true, false_implies, hkTf_0, hkTf_n1, hkOr01, hkOr11, Int.reduceEq, Int.reduceLT, Int.reduceLE, hk102a, hk102b, hk102c, Nat.reduceEqDiff, or_true, true_or, or_false, false_or, and_false, false_and, Classical.not_not, true_implies, List.set_cons_zero, List.set_cons_succ, ne_eq, hs113]
          rw [hkTf_f c113]
          simp only [x_79_34, hkJK_24, hkJK_25, jA_24_4, jL_25, jR_24_4, hkP1_0, hkP1_2, hkP1_u, hkC8, List.map_cons, List.map_nil, List.sum_cons, List.sum_nil, hkCat_0, hkCat_1, hkCat_2, Nat.reduceAdd, Nat.reduceLeDiff, hkPush_s, hkPush_n, true_and, and_true, implies_true, true_implies, not_true_eq_false, not_false_eq_true, false_implies, hkTf_0, hkTf_n1, hkOr01, hkOr11, Int.reduceEq, Int.reduceLT, Int.reduceLE, hk102a, hk102b, hk102c, Nat.reduceEqDiff, or_true, true_or, or_false, false_or, and_false, false_and, Classical.not_not, true_implies, List.set_cons_zero, List.set_cons_succ, ne_eq, x_79_58, x_79_59, x_79_61, hkJK_24, hkJK_25, jA_24_4, jL_25, jR_24_4, hkP1_0, hkP1_2, hkP1_u, hkC8, List.map_cons, List.map_nil, List.sum_cons, List.sum_nil, hkCat_0, hkCat_1, hkCat_2, Nat.reduceAdd, Nat.reduceLeDiff, hkPush_s, hkPush_n, true_and, and_true, implies_true, true_implies, not_true_eq_false, not_false_eq_true, false_implies, hkTf_0, hkTf_n1, hkOr01, hkOr11, Int.reduceEq, Int.reduceLT, Int.reduceLE, hk102a, hk102b, hk102c, Nat.reduceEqDiff, or_true, true_or, or_false, false_or, and_false, false_and, Classical.not_not, true_implies, List.set_cons_zero, List.set_cons_succ, ne_eq, hs91]
          rw [hkTf_f c91]
          simp only [x_79_64, hkJK_24, hkJK_25, jA_24_4, jL_25, jR_24_4, hkP1_0, hkP1_2, hkP1_u, hkC8, List.map_cons, List.map_nil, List.sum_cons, List.sum_nil, hkCat_0, hkCat_1, hkCat_2, Nat.reduceAdd, Nat.reduceLeDiff, hkPush_s, hkPush_n, true_and, and_true, implies_true, true_implies, not_true_eq_false, not_false_eq_true, false_implies, hkTf_0, hkTf_n1, hkOr01, hkOr11, Int.reduceEq, Int.reduceLT, Int.reduceLE, hk102a, hk102b, hk102c, Nat.reduceEqDiff, or_true, true_or, or_false, false_or, and_false, false_and, Classical.not_not, true_implies, List.set_cons_zero, List.set_cons_succ, ne_eq, x_79_75, x_79_76, x_79_77, hkJK_24, hkJK_25, jA_24_4, jL_25, jR_24_4, hkP1_0, hkP1_2, hkP1_u, hkC8, List.map_cons, List.map_nil, List.sum_cons, List.sum_nil, hkCat_0, hkCat_1, hkCat_2, Nat.reduceAdd, Nat.reduceLeDiff, hkPush_s, hkPush_n, true_and, and_true, implies_true, true_implies, not_true_eq_false, not_false_eq_true, false_implies, hkTf_0, hkTf_n1, hkOr01, hkOr11, Int.reduceEq, Int.reduceLT, Int.reduceLE, hk102a, hk102b, hk102c, Nat.reduceEqDiff, or_true, true_or, or_false, false_or, and_false, false_and, Classical.not_not, true_implies, List.set_cons_zero, List.set_cons_succ, ne_eq]
          refine sx_readNumber (d := d + 4 * k + 7) ht F60 hsm hSc p0 (by clear el ep; omega) (fun h g2 k1 k2 k3 k4 => ?_) (fun h g2 k1 k2 k3 => ?_)
          · rw [if_pos h] at hev
            have hev := (Option.some.inj hev).symm
            subst hev
            have hq := hQ 1 g2 (FR _ k1 (fun k hk => k2 k (by clear el ep; omega))) ⟨RB_c hSc.1 (fun q hq => k1 q (by clear el ep; omega) (by clear el ep; omega)), Or.inr ⟨by show (1 : Int) ≠ -1; decide, rfl, by rw [k2 2 (by decide)]; exact hc2, k3, by rw [k2 3 (by decide)]; exact hSc.2.2.2.2.2, fun _ => ⟨gvec_un (by decide) (by clear el ep; omega) dgV_r, fun p q0 q1 => by
              show _ = unV 0 (dgVl T (dgN T F 4 pl) pl 0) p
              rw [k4 p, z p q0 q1]
              rfl⟩⟩⟩
            clear el ep
            simp only [x_79_80, x_79_81, hkJK_24, hkJK_25, jA_24_4, jL_25, jR_24_4, hkP1_0, hkP1_2, hkP1_u, hkC8, List.map_cons, List.map_nil, List.sum_cons, List.sum_nil, hkCat_0, hkCat_1, hkCat_2, Nat.reduceAdd, Nat.reduceLeDiff, hkPush_s, hkPush_n, true_and, and_true, implies_true, true_implies, not_true_eq_false, not_false_eq_true, false_implies, hkTf_0, hkTf_n1, hkOr01, hkOr11, Int.reduceEq, Int.reduceLT, Int.reduceLE, hk102a, hk102b, hk102c, Nat.reduceEqDiff, or_true, true_or, or_false, false_or, and_false, false_and, Classical.not_not, true_implies, List.set_cons_zero, List.set_cons_succ, ne_eq]
            repeat' (first | exact hq | refine And.intro ?_ ?_ | intro _ | trivial | omega | (exfalso; omega))
          · rw [if_neg h, if_neg (fun h2 => c40 h2.1), if_neg c113, if_pos c91] at hev
            have hev := (Option.some.inj hev).symm
            subst hev
            have hq := hQ 1 g2 (FR _ k1 (fun k hk => k2 k (by clear el ep; omega))) ⟨RB_c hSc.1 (fun q hq => k1 q (by clear el ep; omega) (by clear el ep; omega)), Or.inl ⟨rfl, k3⟩⟩
            clear el ep
            simp only [x_79_80, x_79_81, hkJK_24, hkJK_25, jA_24_4, jL_25, jR_24_4, hkP1_0, hkP1_2, hkP1_u, hkC8, List.map_cons, List.map_nil, List.sum_cons, List.sum_nil, hkCat_0, hkCat_1, hkCat_2, Nat.reduceAdd, Nat.reduceLeDiff, hkPush_s, hkPush_n, true_and, and_true, implies_true, true_implies, not_true_eq_false, not_false_eq_true, false_implies, hkTf_0, hkTf_n1, hkOr01, hkOr11, Int.reduceEq, Int.reduceLT, Int.reduceLE, hk102a, hk102b, hk102c, Nat.reduceEqDiff, or_true, true_or, or_false, false_or, and_false, false_and, Classical.not_not, true_implies, List.set_cons_zero, List.set_cons_succ, ne_eq]
            repeat' (first | exact hq | refine And.intro ?_ ?_ | intro _ | trivial | omega | (exfalso; omega))
    simp only [x_79_0, x_79_1, x_79_3, hkJK_24, hkJK_25, jA_24_4, jL_25, jR_24_4, hkP1_0, hkP1_2, hkP1_u, hkC8, List.map_cons, List.map_nil, List.sum_cons, List.sum_nil, hkCat_0, hkCat_1, hkCat_2, Nat.reduceAdd, Nat.reduceLeDiff, hkPush_s, hkPush_n, true_and, and_true, implies_true, true_implies, not_true_eq_false, not_false_eq_true, false_implies, hkTf_0, hkTf_n1, hkOr01, hkOr11, Int.reduceEq, Int.reduceLT, Int.reduceLE, hk102a, hk102b, hk102c, Nat.reduceEqDiff, or_true, true_or, or_false, false_or, and_false, false_and, Classical.not_not, true_implies, List.set_cons_zero, List.set_cons_succ, ne_eq, hs40]
    rw [hkTf_f c40]
    simp only [x_79_6, x_79_9, x_79_10, x_79_11, x_79_14, x_79_15, x_79_16, x_79_19, x_79_20, x_79_21, x_79_22, x_79_23, x_79_24, x_79_25, hkJK_24, hkJK_25, jA_24_4, jL_25, jR_24_4, hkP1_0, hkP1_2, hkP1_u, hkC8, List.map_cons, List.map_nil, List.sum_cons, List.sum_nil, hkCat_0, hkCat_1, hkCat_2, Nat.reduceAdd, Nat.reduceLeDiff, hkPush_s, hkPush_n, true_and, and_true, implies_true, true_implies, not_true_eq_false, not_false_eq_true, false_implies, hkTf_0, hkTf_n1, hkOr01, hkOr11, Int.reduceEq, Int.reduceLT, Int.reduceLE, hk102a, hk102b, hk102c, Nat.reduceEqDiff, or_true, true_or, or_false, false_or, and_false, false_and, Classical.not_not, true_implies, List.set_cons_zero, List.set_cons_succ, ne_eq, hkLe_t ht, hkJK_25, jL_25, a1, a2, el, sx_sclr ht hsm, hgc]
    clear el ep
    repeat' (first | exact K | refine And.intro ?_ ?_ | intro _ | trivial | omega | (exfalso; omega))
theorem cPro_s (ht : 190 ≤ t) (F60 : F ≤ 60) {f : Nat} (hOne : cOne t R N F T f) (hL : cPL t R N F T f) : cPro t R N F T (f + 1) := by
  intro k d lv pl g sp A r Q hk h0 hS p0 pF hev hQ
  rw [ev_1] at hev
  obtain ⟨r1, e1, e2⟩ := evB_s hev
  have hbd := ev_bd f 0 pl lv 0 sp A r1 (by decide) pF (fun h => absurd h (by decide)) e1
  rw [if_neg (by decide)] at hbd
  obtain ⟨a1, a2⟩ := rd_f (l := lv + 1) ht (by omega) (by omega)
  obtain ⟨b1, b2⟩ := rs_f (l := lv) ht (by omega) (by omega)
  have hsm := sm_t (l := lv + 1) (by omega) (by omega)
  have hsd : smOk (40 + 2 * lv) (41 + 2 * lv) := by
    have h := sm_t (l := lv + 6) (by omega) (by omega)
    rw [show 28 + 2 * (lv + 6) = 40 + 2 * lv from by omega, show 29 + 2 * (lv + 6) = 41 + 2 * lv from by omega] at h
    exact h
  have el : hkW (lv + 1) = lv + 1 := hkW_in (by omega) (by omega)
  have K := hOne k d lv pl g sp A r1 (fun r2 t2 g2 => Xp 78 (d + 4 * k + 9 + 1) 5 [(2, 24), (0, lv), hkU, hkU] (hkPush r2 []) t2 g2 Q) hk h0 hS p0 pF e1 (fun v g2 k2 P2 => by
    have kq : ∀ q : Int, q ≠ 41 + 2 * lv → hkCpy g2 (29 + 2 * (lv + 1)) 0 (41 + 2 * lv) 0 280 q = g2 q := fun q hq => hkCpy_row hq
    have kr : ∀ p : Int, 0 ≤ p → p < 280 → hkCpy g2 (29 + 2 * (lv + 1)) 0 (41 + 2 * lv) 0 280 (41 + 2 * lv) p = g2 (29 + 2 * (lv + 1)) p := fun p q0 q1 => by rw [hkCpy_in q0 (by clear el; omega)]; congr 1; clear el; omega
    have STP : Xp 78 (d + 4 * k + 9 + 1) 25 [(2, 24), (0, lv), (0, v), (0, 0)] [] t (hkCpy g2 (29 + 2 * (lv + 1)) 0 (41 + 2 * lv) 0 280) Q → Xp 78 (d + 4 * k + 9 + 1) 5 [(2, 24), (0, lv), hkU, hkU] (hkPush (some (0, v)) []) t g2 Q := by
      intro hx
      simp only [x_78_5, x_78_6, x_78_7, x_78_10, x_78_11, x_78_12, x_78_13, x_78_16, x_78_17, x_78_18, x_78_19, x_78_20, x_78_23, x_78_24, hkJK_22, hkJK_24, hkJK_25, hkJK_26, jA_24_4, jA_24_5, jA_24_9, jL_25, jL_26, jR_24_4, jR_24_5, jR_24_9, hkP1_0, hkP1_2, hkP1_u, hkC8, List.map_cons, List.map_nil, List.sum_cons, List.sum_nil, hkCat_0, hkCat_1, hkCat_2, Nat.reduceAdd, Nat.reduceLeDiff, hkPush_s, hkPush_n, true_and, and_true, implies_true, true_implies, not_true_eq_false, not_false_eq_true, false_implies, hkTf_0, hkTf_n1, hkOr01, hkOr11, Int.reduceEq, Int.reduceLT, Int.reduceLE, hk102a, hk102b, hk102c, Nat.reduceEqDiff, or_true, true_or, or_false, false_or, and_false, false_and, Classical.not_not, true_implies, List.set_cons_zero, List.set_cons_succ, ne_eq, hkLe_t ht, hkJK_25, jL_25, hkJK_26, jL_26, a1, a2, b1, b2, el, hsm.2.1, hsd.2.1, sx_sbec ht hsd hsm]
      clear el
      repeat' (first | exact hx | refine And.intro ?_ ?_ | intro _ | trivial | omega | (exfalso; omega))
    refine STP ?_
    generalize hkCpy g2 (29 + 2 * (lv + 1)) 0 (41 + 2 * lv) 0 280 = g3 at kq kr
    have k23 : cKp lv (lv - 1) g2 g3 := cKp_q (q1 := 41 + 2 * lv) (fun q q1 q2 => kq q q2) (fun k hk => by rw [kq 24 (by clear el; omega)]) (by clear el; omega) (fun l l0 l1 => by clear el; omega) (fun l l0 l1 => by clear el; omega)
    have k3 : cKp lv (lv - 1) g g3 := cKp_t (cKp_w k2 (by clear el; omega) (by clear el; omega)) k23
    have hb3 : RB g3 R N := RB_c P2.1 (fun q hq => kq q (by clear el; omega))
    by_cases hf : r1.1 = -1
    · rw [if_pos hf] at e2
      have e2 := (Option.some.inj e2).symm
      subst e2
      have h22 : g3 24 2 = r.2.1 := by
        rw [kq 24 (by clear el; omega)]
        rcases P2.2 with h | h
        · exact h.2
        · exact absurd hf h.1
      have hne : g3 24 2 ≠ -1 := by rw [h22]; clear el; omega
      have hq := hQ v g3 k3 ⟨hb3, Or.inl ⟨hf, h22⟩⟩
      clear el
      rw [x_78_25]
      simp only [x_78_26, x_78_28, x_78_31, x_78_32, x_78_34, x_78_37, hkJK_22, hkJK_24, hkJK_25, hkJK_26, jA_24_4, jA_24_5, jA_24_9, jL_25, jL_26, jR_24_4, jR_24_5, jR_24_9, hkP1_0, hkP1_2, hkP1_u, hkC8, List.map_cons, List.map_nil, List.sum_cons, List.sum_nil, hkCat_0, hkCat_1, hkCat_2, Nat.reduceAdd, Nat.reduceLeDiff, hkPush_s, hkPush_n, true_and, and_true, implies_true, true_implies, not_true_eq_false, not_false_eq_true, false_implies, hkTf_0, hkTf_n1, hkOr01, hkOr11, Int.reduceEq, Int.reduceLT, Int.reduceLE, hk102a, hk102b, hk102c, Nat.reduceEqDiff, or_true, true_or, or_false, false_or, and_false, false_and, Classical.not_not, true_implies, List.set_cons_zero, List.set_cons_succ, ne_eq, x_78_108, x_78_109, hkJK_22, hkJK_24, hkJK_25, hkJK_26, jA_24_4, jA_24_5, jA_24_9, jL_25, jL_26, jR_24_4, jR_24_5, jR_24_9, hkP1_0, hkP1_2, hkP1_u, hkC8, List.map_cons, List.map_nil, List.sum_cons, List.sum_nil, hkCat_0, hkCat_1, hkCat_2, Nat.reduceAdd, Nat.reduceLeDiff, hkPush_s, hkPush_n, true_and, and_true, implies_true, true_implies, not_true_eq_false, not_false_eq_true, false_implies, hkTf_0, hkTf_n1, hkOr01, hkOr11, Int.reduceEq, Int.reduceLT, Int.reduceLE, hk102a, hk102b, hk102c, Nat.reduceEqDiff, or_true, true_or, or_false, false_or, and_false, false_and, Classical.not_not, true_implies, List.set_cons_zero, List.set_cons_succ, ne_eq, sx_seesF hne]
      repeat' (first | exact hq | refine And.intro ?_ ?_ | intro _ | trivial | omega | (exfalso; omega))
    · rw [if_neg hf] at e2
      obtain ⟨hS2, hv, hvec⟩ := cSt_p hS k2 P2 hf
      subst hv
      have hS3 : cSt R N F T r1.2.1 r1.2.2.1 g3 := cSt_k hS2 (fun q hq => kq q (by clear el; omega))
      have hn : 1 ≤ r1.1 ∧ r1.1 ≤ 0 + (r1.2.1 - pl) := by
        rcases hbd.2.2.2 with h | h
        · exact absurd h hf
        · exact h
      exact hL k d lv r1.2.1 r1.1 0 g3 r1.2.2.1 r1.2.2.2 r Q hk h0 hS3 (by decide) (by clear el; omega) hbd.2.1 hn.1 (by clear el; omega) (fun h => ⟨(hvec h).1, fun p q0 q1 => by rw [kr p q0 q1]; exact (hvec h).2 p q0 q1⟩) e2 (fun v g' k' P' => hQ v g' (cKp_t k3 k') P'))
  simp only [x_78_0, x_78_1, x_78_2, hkJK_22, hkJK_24, hkJK_25, hkJK_26, jA_24_4, jA_24_5, jA_24_9, jL_25, jL_26, jR_24_4, jR_24_5, jR_24_9, hkP1_0, hkP1_2, hkP1_u, hkC8, List.map_cons, List.map_nil, List.sum_cons, List.sum_nil, hkCat_0, hkCat_1, hkCat_2, Nat.reduceAdd, Nat.reduceLeDiff, hkPush_s, hkPush_n, true_and, and_true, implies_true, true_implies, not_true_eq_false, not_false_eq_true, false_implies, hkTf_0, hkTf_n1, hkOr01, hkOr11, Int.reduceEq, Int.reduceLT, Int.reduceLE, hk102a, hk102b, hk102c, Nat.reduceEqDiff, or_true, true_or, or_false, false_or, and_false, false_and, Classical.not_not, true_implies, List.set_cons_zero, List.set_cons_succ, ne_eq]
  clear el
  repeat' (first | exact K | refine And.intro ?_ ?_ | intro _ | trivial | omega | (exfalso; omega))
theorem cPL_s (ht : 190 ≤ t) (F60 : F ≤ 60) {f : Nat} (hOne : cOne t R N F T f) (hL : cPL t R N F T f) : cPL t R N F T (f + 1) := by
  intro k d lv pl n c g sp A r Q hk h0 hS c0 c1 pF n1 npl hA hev hQ
  rw [ev_3] at hev
  have p0 : 0 ≤ pl := by omega
  have hs42 : ∀ (D : Nat) (Q' : Option hkV → Nat → hkG → Prop), Xp 80 D 0 [(2, 24), (0, 42)] [] t g Q' = Q' (some (0, hkTf (hrC T F pl = 42))) t g := fun D Q' => sx_sees ht hS F60 p0 (by decide)
  by_cases c42 : hrC T F pl = 42
  · rw [if_pos c42] at hev
    have hpF := hrC_lt (T := T) (F := F) (p := pl) (by omega)
    obtain ⟨r1, e1, e2⟩ := evB_s hev
    have hbd := ev_bd f 0 (pl + 1) lv 0 sp A r1 (by decide) (by omega) (fun h => absurd h (by decide)) e1
    rw [if_neg (by decide)] at hbd
    obtain ⟨a1, a2⟩ := rd_f (l := lv + 1) ht (by omega) (by omega)
    obtain ⟨b1, b2⟩ := rs_f (l := lv) ht (by omega) (by omega)
    have hsm := sm_t (l := lv + 1) (by omega) (by omega)
    have hsd : smOk (40 + 2 * lv) (41 + 2 * lv) := by
      have h := sm_t (l := lv + 6) (by omega) (by omega)
      rw [show 28 + 2 * (lv + 6) = 40 + 2 * lv from by omega, show 29 + 2 * (lv + 6) = 41 + 2 * lv from by omega] at h
      exact h
    have h7 := hS.2.2.2.2.1
    obtain ⟨ep, ec, el⟩ : hkW (pl + 1) = pl + 1 ∧ hkW (c + 1) = c + 1 ∧ hkW (lv + 1) = lv + 1 := ⟨hkW_in (by omega) (by omega), hkW_in (by omega) (by omega), hkW_in (by omega) (by omega)⟩
    have K := hOne k d lv (pl + 1) (hkSet g 24 7 (pl + 1)) sp A r1 (fun r2 t2 g2 => Xp 78 (d + 4 * k + 9 + 1) 57 [(2, 24), (0, lv), (0, n), (0, c)] (hkPush r2 [(0, n), (0, 1)]) t2 g2 Q) hk h0 (cSt_at hS) (by clear ep ec el; omega) (by clear ep ec el; omega) e1 (fun v g2 k2 P2 => by
      have k2' : cKp lv lv g g2 := cKp_t (cKp_24 (by decide)) k2
      by_cases hf : r1.1 = -1
      · rw [if_pos hf] at e2
        have e2 := (Option.some.inj e2).symm
        subst e2
        have h22 : g2 24 2 = r.2.1 := by
          rcases P2.2 with h | h
          · exact h.2
          · exact absurd hf h.1
        have hne : g2 24 2 ≠ -1 := by rw [h22]; clear ep ec el; omega
        have hgo : ¬ (g2 24 2 = -1 ∧ g2 24 3 = 0) := fun h => hne h.1
        have hq := hQ (hkW (1 + max n v)) g2 (cKp_w k2' (by clear ep ec el; omega) (by clear ep ec el; omega)) ⟨P2.1, Or.inl ⟨hf, h22⟩⟩
        have L : Xp 78 (d + 4 * k + 9 + 1) 25 [(2, 24), (0, lv), (0, hkW (1 + max n v)), (0, c + 1)] [] t g2 Q := by
          clear ep ec el
          rw [x_78_25]
          simp only [x_78_26, x_78_28, x_78_31, x_78_32, x_78_34, x_78_37, hkJK_22, hkJK_24, hkJK_25, hkJK_26, jA_24_4, jA_24_5, jA_24_9, jL_25, jL_26, jR_24_4, jR_24_5, jR_24_9, hkP1_0, hkP1_2, hkP1_u, hkC8, List.map_cons, List.map_nil, List.sum_cons, List.sum_nil, hkCat_0, hkCat_1, hkCat_2, Nat.reduceAdd, Nat.reduceLeDiff, hkPush_s, hkPush_n, true_and, and_true, implies_true, true_implies, not_true_eq_false, not_false_eq_true, false_implies, hkTf_0, hkTf_n1, hkOr01, hkOr11, Int.reduceEq, Int.reduceLT, Int.reduceLE, hk102a, hk102b, hk102c, Nat.reduceEqDiff, or_true, true_or, or_false, false_or, and_false, false_and, Classical.not_not, true_implies, List.set_cons_zero, List.set_cons_succ, ne_eq, x_78_108, x_78_109, hkJK_22, hkJK_24, hkJK_25, hkJK_26, jA_24_4, jA_24_5, jA_24_9, jL_25, jL_26, jR_24_4, jR_24_5, jR_24_9, hkP1_0, hkP1_2, hkP1_u, hkC8, List.map_cons, List.map_nil, List.sum_cons, List.sum_nil, hkCat_0, hkCat_1, hkCat_2, Nat.reduceAdd, Nat.reduceLeDiff, hkPush_s, hkPush_n, true_and, and_true, implies_true, true_implies, not_true_eq_false, not_false_eq_true, false_implies, hkTf_0, hkTf_n1, hkOr01, hkOr11, Int.reduceEq, Int.reduceLT, Int.reduceLE, hk102a, hk102b, hk102c, Nat.reduceEqDiff, or_true, true_or, or_false, false_or, and_false, false_and, Classical.not_not, true_implies, List.set_cons_zero, List.set_cons_succ, ne_eq, sx_seesF hne]
          repeat' (first | exact hq | refine And.intro ?_ ?_ | intro _ | trivial | omega | (exfalso; omega))
        simp only [x_78_57, x_78_60, x_78_61, x_78_62, x_78_63, hkJK_22, hkJK_24, hkJK_25, hkJK_26, jA_24_4, jA_24_5, jA_24_9, jL_25, jL_26, jR_24_4, jR_24_5, jR_24_9, hkP1_0, hkP1_2, hkP1_u, hkC8, List.map_cons, List.map_nil, List.sum_cons, List.sum_nil, hkCat_0, hkCat_1, hkCat_2, Nat.reduceAdd, Nat.reduceLeDiff, hkPush_s, hkPush_n, true_and, and_true, implies_true, true_implies, not_true_eq_false, not_false_eq_true, false_implies, hkTf_0, hkTf_n1, hkOr01, hkOr11, Int.reduceEq, Int.reduceLT, Int.reduceLE, hk102a, hk102b, hk102c, Nat.reduceEqDiff, or_true, true_or, or_false, false_or, and_false, false_and, Classical.not_not, true_implies, List.set_cons_zero, List.set_cons_succ, ne_eq, sx_max, sx_goesOn]
        rw [hkTf_f hgo]
        simp only [x_78_66, hkJK_22, hkJK_24, hkJK_25, hkJK_26, jA_24_4, jA_24_5, jA_24_9, jL_25, jL_26, jR_24_4, jR_24_5, jR_24_9, hkP1_0, hkP1_2, hkP1_u, hkC8, List.map_cons, List.map_nil, List.sum_cons, List.sum_nil, hkCat_0, hkCat_1, hkCat_2, Nat.reduceAdd, Nat.reduceLeDiff, hkPush_s, hkPush_n, true_and, and_true, implies_true, true_implies, not_true_eq_false, not_false_eq_true, false_implies, hkTf_0, hkTf_n1, hkOr01, hkOr11, Int.reduceEq, Int.reduceLT, Int.reduceLE, hk102a, hk102b, hk102c, Nat.reduceEqDiff, or_true, true_or, or_false, false_or, and_false, false_and, Classical.not_not, true_implies, List.set_cons_zero, List.set_cons_succ, ne_eq, x_78_102, x_78_105, hkJK_22, hkJK_24, hkJK_25, hkJK_26, jA_24_4, jA_24_5, jA_24_9, jL_25, jL_26, jR_24_4, jR_24_5, jR_24_9, hkP1_0, hkP1_2, hkP1_u, hkC8, List.map_cons, List.map_nil, List.sum_cons, List.sum_nil, hkCat_0, hkCat_1, hkCat_2, Nat.reduceAdd, Nat.reduceLeDiff, hkPush_s, hkPush_n, true_and, and_true, implies_true, true_implies, not_true_eq_false, not_false_eq_true, false_implies, hkTf_0, hkTf_n1, hkOr01, hkOr11, Int.reduceEq, Int.reduceLT, Int.reduceLE, hk102a, hk102b, hk102c, Nat.reduceEqDiff, or_true, true_or, or_false, false_or, and_false, false_and, Classical.not_not, true_implies, List.set_cons_zero, List.set_cons_succ, ne_eq, ec]
        clear ep ec el
        repeat' (first | exact L | refine And.intro ?_ ?_ | intro _ | trivial | omega | (exfalso; omega))
      · rw [if_neg hf] at e2
        obtain ⟨hS2, hv, hvec⟩ := cSt_p (cSt_at hS) k2 P2 hf
        subst hv
        have hn : 1 ≤ r1.1 ∧ r1.1 ≤ 0 + (r1.2.1 - (pl + 1)) := by
          rcases hbd.2.2.2 with h | h
          · exact absurd h hf
          · exact h
        have em : hkW (1 + max n r1.1) = 1 + max n r1.1 := hkW_in (by clear ep ec el; omega) (by clear ep ec el; omega)
        have h22 := hS2.2.2.2.1
        have h23 := hS2.2.2.2.2.2
        -- from here on the loop again
        have GO : ∀ (sp' : Prop) (A' : Int → Int) (g3 : hkG), cKp lv (lv - 1) g2 g3 → cSt R N F T r1.2.1 sp' g3 → (¬ sp' → gvec (bxC R N) A' ∧ ∀ p : Int, 0 ≤ p → p < 280 → g3 (41 + 2 * lv) p = A' p) → ev R N F T f 3 r1.2.1 lv (1 + max n r1.1) sp' A' = some r → Xp 78 (d + 4 * k + 9 + 1) 102 [(2, 24), (0, lv), (0, 1 + max n r1.1), (0, c)] [] t g3 Q := by
          intro sp' A' g3 k3 hS3 hA3 hev3
          have L := hL k d lv r1.2.1 (1 + max n r1.1) (c + 1) g3 sp' A' r Q hk h0 hS3 (by clear ep ec el em; omega) (by clear ep ec el em; omega) hbd.2.1 (by clear ep ec el em; omega) (by clear ep ec el em; omega) hA3 hev3 (fun v g' k' P' => hQ v g' (cKp_t (cKp_w k2' (by clear ep ec el em; omega) (by clear ep ec el em; omega)) (cKp_t k3 k')) P')
          simp only [x_78_102, x_78_105, hkJK_22, hkJK_24, hkJK_25, hkJK_26, jA_24_4, jA_24_5, jA_24_9, jL_25, jL_26, jR_24_4, jR_24_5, jR_24_9, hkP1_0, hkP1_2, hkP1_u, hkC8, List.map_cons, List.map_nil, List.sum_cons, List.sum_nil, hkCat_0, hkCat_1, hkCat_2, Nat.reduceAdd, Nat.reduceLeDiff, hkPush_s, hkPush_n, true_and, and_true, implies_true, true_implies, not_true_eq_false, not_false_eq_true, false_implies, hkTf_0, hkTf_n1, hkOr01, hkOr11, Int.reduceEq, Int.reduceLT, Int.reduceLE, hk102a, hk102b, hk102c, Nat.reduceEqDiff, or_true, true_or, or_false, false_or, and_false, false_and, Classical.not_not, true_implies, List.set_cons_zero, List.set_cons_succ, ne_eq, ec]
          clear ep ec el em
          repeat' (first | exact L | refine And.intro ?_ ?_ | intro _ | trivial | omega | (exfalso; omega))
        simp only [x_78_57, x_78_60, x_78_61, x_78_62, x_78_63, hkJK_22, hkJK_24, hkJK_25, hkJK_26, jA_24_4, jA_24_5, jA_24_9, jL_25, jL_26, jR_24_4, jR_24_5, jR_24_9, hkP1_0, hkP1_2, hkP1_u, hkC8, List.map_cons, List.map_nil, List.sum_cons, List.sum_nil, hkCat_0, hkCat_1, hkCat_2, Nat.reduceAdd, Nat.reduceLeDiff, hkPush_s, hkPush_n, true_and, and_true, implies_true, true_implies, not_true_eq_false, not_false_eq_true, false_implies, hkTf_0, hkTf_n1, hkOr01, hkOr11, Int.reduceEq, Int.reduceLT, Int.reduceLE, hk102a, hk102b, hk102c, Nat.reduceEqDiff, or_true, true_or, or_false, false_or, and_false, false_and, Classical.not_not, true_implies, List.set_cons_zero, List.set_cons_succ, ne_eq, sx_max, sx_goesOn, em]
        by_cases hs1 : r1.2.2.1
        · have hgo : ¬ (g2 24 2 = -1 ∧ g2 24 3 = 0) := fun h => by rw [h23, hkTf_t hs1] at h; exact absurd h.2 (by decide)
          have hT1 : (r1.2.2.1 ∨ ¬ fitsP R N A r1.2.2.2) = r1.2.2.1 := propext ⟨fun _ => hs1, Or.inl⟩
          rw [hT1] at e2
          have G := GO r1.2.2.1 _ g2 cKp_r hS2 (fun h => absurd hs1 h) e2
          rw [hkTf_f hgo]
          simp only [x_78_66, hkJK_22, hkJK_24, hkJK_25, hkJK_26, jA_24_4, jA_24_5, jA_24_9, jL_25, jL_26, jR_24_4, jR_24_5, jR_24_9, hkP1_0, hkP1_2, hkP1_u, hkC8, List.map_cons, List.map_nil, List.sum_cons, List.sum_nil, hkCat_0, hkCat_1, hkCat_2, Nat.reduceAdd, Nat.reduceLeDiff, hkPush_s, hkPush_n, true_and, and_true, implies_true, true_implies, not_true_eq_false, not_false_eq_true, false_implies, hkTf_0, hkTf_n1, hkOr01, hkOr11, Int.reduceEq, Int.reduceLT, Int.reduceLE, hk102a, hk102b, hk102c, Nat.reduceEqDiff, or_true, true_or, or_false, false_or, and_false, false_and, Classical.not_not, true_implies, List.set_cons_zero, List.set_cons_succ, ne_eq]
          clear ep ec el em
          repeat' (first | exact G | refine And.intro ?_ ?_ | intro _ | trivial | omega | (exfalso; omega))
        · have hgo : g2 24 2 = -1 ∧ g2 24 3 = 0 := ⟨h22, by rw [h23, hkTf_f hs1]⟩
          have hsp : ¬ sp := fun h => hs1 (hbd.2.2.1 h)
          obtain ⟨gA, rA⟩ := hA hsp
          obtain ⟨gB, rB⟩ := hvec hs1
          have rA2 : ∀ p : Int, 0 ≤ p → p < 280 → g2 (41 + 2 * lv) p = A p := fun p q0 q1 => by rw [k2'.2.2.2 lv h0 (Int.le_refl _)]; exact rA p q0 q1
          have gA2 : gvec (bxC R N) (g2 (41 + 2 * lv)) := gvec_cong (fun p q0 q1 => (rA2 p q0 q1).symm) gA
          have gB2 : gvec (bxC R N) (g2 (29 + 2 * (lv + 1))) := gvec_cong (fun p q0 q1 => (rB p q0 q1).symm) gB
          have hfe : fitsP R N (g2 (41 + 2 * lv)) (g2 (29 + 2 * (lv + 1))) ↔ fitsP R N A r1.2.2.2 := fitsP_cong rA2 rB
          rw [hkTf_t hgo]
          simp only [x_78_66, x_78_69, x_78_70, x_78_71, x_78_74, x_78_75, x_78_78, x_78_79, x_78_80, x_78_81, x_78_84, x_78_85, x_78_86, x_78_87, x_78_88, hkJK_22, hkJK_24, hkJK_25, hkJK_26, jA_24_4, jA_24_5, jA_24_9, jL_25, jL_26, jR_24_4, jR_24_5, jR_24_9, hkP1_0, hkP1_2, hkP1_u, hkC8, List.map_cons, List.map_nil, List.sum_cons, List.sum_nil, hkCat_0, hkCat_1, hkCat_2, Nat.reduceAdd, Nat.reduceLeDiff, hkPush_s, hkPush_n, true_and, and_true, implies_true, true_implies, not_true_eq_false, not_false_eq_true, false_implies, hkTf_0, hkTf_n1, hkOr01, hkOr11, Int.reduceEq, Int.reduceLT, Int.reduceLE, hk102a, hk102b, hk102c, Nat.reduceEqDiff, or_true, true_or, or_false, false_or, and_false, false_and, Classical.not_not, true_implies, List.set_cons_zero, List.set_cons_succ, ne_eq, hkLe_t ht, hkJK_25, jL_25, hkJK_26, jL_26, a1, a2, b1, b2, el, hsm.2.1, hsd.2.1]
          refine And.intro (by clear ep ec el em; omega) (And.intro (by clear ep ec el em; omega) ?_)
          refine sx_multiplied (d := d + 4 * k) ht hS2.1 hsd hsm (by clear ep ec el em; omega) (by clear ep ec el em; omega) (by clear ep ec el em; omega) gA2 gB2 (fun h g3 k3 hb3 v3 => ?_) (fun h g3 k3 hb3 => ?_)
          · have hT1 : (r1.2.2.1 ∨ ¬ fitsP R N A r1.2.2.2) = False := propext ⟨fun h2 => h2.elim hs1 (fun h3 => h3 (hfe.1 h)), False.elim⟩
            rw [hT1] at e2
            have f24 : g3 24 = g2 24 := k3 24 (by decide) (by decide) (by decide) (by clear ep ec el em; omega)
            have f27 : g3 27 = g2 27 := k3 27 (by decide) (by decide) (by decide) (by clear ep ec el em; omega)
            have G := GO False _ (hkSet g3 24 3 0) ⟨fun q h1 h2 h3 h4 h5 => by rw [hkSet_row h4, k3 q h1 h2 h3 (by clear ep ec el em; omega)], fun j hj => by rw [hkSet_rd, if_neg (by clear ep ec el em; omega), f24], fun l l0 l1 => by rw [hkSet_row (by clear ep ec el em; omega), k3 _ (by clear ep ec el em; omega) (by clear ep ec el em; omega) (by clear ep ec el em; omega) (by clear ep ec el em; omega)], fun l l0 l1 => by rw [hkSet_row (by clear ep ec el em; omega), k3 _ (by clear ep ec el em; omega) (by clear ep ec el em; omega) (by clear ep ec el em; omega) (by clear ep ec el em; omega)]⟩ ⟨RB_c hb3 (fun q hq => hkSet_row (by clear ep ec el em; omega)), by rw [hkSet_rd, if_neg (by decide), f24]; exact hS2.2.1, fun x x0 x1 => by rw [hkSet_row (by decide), f27]; exact hS2.2.2.1 x x0 x1, by rw [hkSet_rd, if_neg (by decide), f24]; exact h22, by rw [hkSet_rd, if_neg (by decide), f24]; exact hS2.2.2.2.2.1, by rw [hkSet_rd, if_pos ⟨rfl, rfl⟩, hkTf_f (fun h => h)]⟩ (fun _ => ⟨fits_gvec (hfe.1 h), fun p q0 q1 => by rw [hkSet_row (by clear ep ec el em; omega), v3 p q0 q1]; exact mprod_cong rA2 rB⟩) e2
            simp only [x_78_91, x_78_94, x_78_95, x_78_98, x_78_99, hkJK_22, hkJK_24, hkJK_25, hkJK_26, jA_24_4, jA_24_5, jA_24_9, jL_25, jL_26, jR_24_4, jR_24_5, jR_24_9, hkP1_0, hkP1_2, hkP1_u, hkC8, List.map_cons, List.map_nil, List.sum_cons, List.sum_nil, hkCat_0, hkCat_1, hkCat_2, Nat.reduceAdd, Nat.reduceLeDiff, hkPush_s, hkPush_n, true_and, and_true, implies_true, true_implies, not_true_eq_false, not_false_eq_true, false_implies, hkTf_0, hkTf_n1, hkOr01, hkOr11, Int.reduceEq, Int.reduceLT, Int.reduceLE, hk102a, hk102b, hk102c, Nat.reduceEqDiff, or_true, true_or, or_false, false_or, and_false, false_and, Classical.not_not, true_implies, List.set_cons_zero, List.set_cons_succ, ne_eq]
            clear ep ec el em
            repeat' (first | exact G | refine And.intro ?_ ?_ | intro _ | trivial | omega | (exfalso; omega))
          · have hT1 : (r1.2.2.1 ∨ ¬ fitsP R N A r1.2.2.2) = True := propext ⟨fun _ => trivial, fun _ => Or.inr (fun h2 => h (hfe.2 h2))⟩
            rw [hT1] at e2
            have f24 : g3 24 = g2 24 := k3 24 (by decide) (by decide) (by decide)
            have f27 : g3 27 = g2 27 := k3 27 (by decide) (by decide) (by decide)
            have G := GO True _ (hkSet g3 24 3 1) ⟨fun q h1 h2 h3 h4 h5 => by rw [hkSet_row h4, k3 q h1 h2 h3], fun j hj => by rw [hkSet_rd, if_neg (by clear ep ec el em; omega), f24], fun l l0 l1 => by rw [hkSet_row (by clear ep ec el em; omega), k3 _ (by clear ep ec el em; omega) (by clear ep ec el em; omega) (by clear ep ec el em; omega)], fun l l0 l1 => by rw [hkSet_row (by clear ep ec el em; omega), k3 _ (by clear ep ec el em; omega) (by clear ep ec el em; omega) (by clear ep ec el em; omega)]⟩ ⟨RB_c hb3 (fun q hq => hkSet_row (by clear ep ec el em; omega)), by rw [hkSet_rd, if_neg (by decide), f24]; exact hS2.2.1, fun x x0 x1 => by rw [hkSet_row (by decide), f27]; exact hS2.2.2.1 x x0 x1, by rw [hkSet_rd, if_neg (by decide), f24]; exact h22, by rw [hkSet_rd, if_neg (by decide), f24]; exact hS2.2.2.2.2.1, by rw [hkSet_rd, if_pos ⟨rfl, rfl⟩, hkTf_t trivial]⟩ (fun h => absurd trivial h) e2
            simp only [x_78_91, x_78_94, x_78_95, x_78_98, x_78_99, hkJK_22, hkJK_24, hkJK_25, hkJK_26, jA_24_4, jA_24_5, jA_24_9, jL_25, jL_26, jR_24_4, jR_24_5, jR_24_9, hkP1_0, hkP1_2, hkP1_u, hkC8, List.map_cons, List.map_nil, List.sum_cons, List.sum_nil, hkCat_0, hkCat_1, hkCat_2, Nat.reduceAdd, Nat.reduceLeDiff, hkPush_s, hkPush_n, true_and, and_true, implies_true, true_implies, not_true_eq_false, not_false_eq_true, false_implies, hkTf_0, hkTf_n1, hkOr01, hkOr11, Int.reduceEq, Int.reduceLT, Int.reduceLE, hk102a, hk102b, hk102c, Nat.reduceEqDiff, or_true, true_or, or_false, false_or, and_false, false_and, Classical.not_not, true_implies, List.set_cons_zero, List.set_cons_succ, ne_eq]
            clear ep ec el em
            repeat' (first | exact G | refine And.intro ?_ ?_ | intro _ | trivial | omega | (exfalso; omega)))
    rw [x_78_25]
    simp only [x_78_26, x_78_28, x_78_31, x_78_32, x_78_34, hkJK_22, hkJK_24, hkJK_25, hkJK_26, jA_24_4, jA_24_5, jA_24_9, jL_25, jL_26, jR_24_4, jR_24_5, jR_24_9, hkP1_0, hkP1_2, hkP1_u, hkC8, List.map_cons, List.map_nil, List.sum_cons, List.sum_nil, hkCat_0, hkCat_1, hkCat_2, Nat.reduceAdd, Nat.reduceLeDiff, hkPush_s, hkPush_n, true_and, and_true, implies_true, true_implies, not_true_eq_false, not_false_eq_true, false_implies, hkTf_0, hkTf_n1, hkOr01, hkOr11, Int.reduceEq, Int.reduceLT, Int.reduceLE, hk102a, hk102b, hk102c, Nat.reduceEqDiff, or_true, true_or, or_false, false_or, and_false, false_and, Classical.not_not, true_implies, List.set_cons_zero, List.set_cons_succ, ne_eq, hs42]
    rw [hkTf_t c42]
    simp only [x_78_37, x_78_40, x_78_41, x_78_42, x_78_45, x_78_46, x_78_47, x_78_50, x_78_51, x_78_52, x_78_53, x_78_54, hkJK_22, hkJK_24, hkJK_25, hkJK_26, jA_24_4, jA_24_5, jA_24_9, jL_25, jL_26, jR_24_4, jR_24_5, jR_24_9, hkP1_0, hkP1_2, hkP1_u, hkC8, List.map_cons, List.map_nil, List.sum_cons, List.sum_nil, hkCat_0, hkCat_1, hkCat_2, Nat.reduceAdd, Nat.reduceLeDiff, hkPush_s, hkPush_n, true_and, and_true, implies_true, true_implies, not_true_eq_false, not_false_eq_true, false_implies, hkTf_0, hkTf_n1, hkOr01, hkOr11, Int.reduceEq, Int.reduceLT, Int.reduceLE, hk102a, hk102b, hk102c, Nat.reduceEqDiff, or_true, true_or, or_false, false_or, and_false, false_and, Classical.not_not, true_implies, List.set_cons_zero, List.set_cons_succ, ne_eq, h7, ep]
    clear ep ec el
    repeat' (first | exact K | refine And.intro ?_ ?_ | intro _ | trivial | omega | (exfalso; omega))
  · rw [if_neg c42] at hev
    have hev := (Option.some.inj hev).symm
    subst hev
    have hq := hQ n g cKp_r ⟨hS.1, Or.inr ⟨by show n ≠ -1; omega, rfl, hS.2.2.2.1, hS.2.2.2.2.1, hS.2.2.2.2.2, hA⟩⟩
    rw [x_78_25]
    simp only [x_78_26, x_78_28, x_78_31, x_78_32, x_78_34, x_78_37, hkJK_22, hkJK_24, hkJK_25, hkJK_26, jA_24_4, jA_24_5, jA_24_9, jL_25, jL_26, jR_24_4, jR_24_5, jR_24_9, hkP1_0, hkP1_2, hkP1_u, hkC8, List.map_cons, List.map_nil, List.sum_cons, List.sum_nil, hkCat_0, hkCat_1, hkCat_2, Nat.reduceAdd, Nat.reduceLeDiff, hkPush_s, hkPush_n, true_and, and_true, implies_true, true_implies, not_true_eq_false, not_false_eq_true, false_implies, hkTf_0, hkTf_n1, hkOr01, hkOr11, Int.reduceEq, Int.reduceLT, Int.reduceLE, hk102a, hk102b, hk102c, Nat.reduceEqDiff, or_true, true_or, or_false, false_or, and_false, false_and, Classical.not_not, true_implies, List.set_cons_zero, List.set_cons_succ, ne_eq, x_78_108, x_78_109, hkJK_22, hkJK_24, hkJK_25, hkJK_26, jA_24_4, jA_24_5, jA_24_9, jL_25, jL_26, jR_24_4, jR_24_5, jR_24_9, hkP1_0, hkP1_2, hkP1_u, hkC8, List.map_cons, List.map_nil, List.sum_cons, List.sum_nil, hkCat_0, hkCat_1, hkCat_2, Nat.reduceAdd, Nat.reduceLeDiff, hkPush_s, hkPush_n, true_and, and_true, implies_true, true_implies, not_true_eq_false, not_false_eq_true, false_implies, hkTf_0, hkTf_n1, hkOr01, hkOr11, Int.reduceEq, Int.reduceLT, Int.reduceLE, hk102a, hk102b, hk102c, Nat.reduceEqDiff, or_true, true_or, or_false, false_or, and_false, false_and, Classical.not_not, true_implies, List.set_cons_zero, List.set_cons_succ, ne_eq, hs42]
    repeat' (first | exact hq | refine And.intro ?_ ?_ | intro _ | trivial | omega | (exfalso; omega))
end SP
