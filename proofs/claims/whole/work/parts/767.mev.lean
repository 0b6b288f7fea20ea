/-! the reference reads a text as the evaluator does -/
def mKp (lv : Int) (g g' : hkG) : Prop := (∀ q : Int, q < 66 ∨ q = 67 ∨ q = 68 ∨ q = 69 ∨ q = 72 ∨ q = 73 ∨ 85 ≤ q → g' q = g q) ∧ (∀ k : Int, k ≤ 15 ∨ (19 ≤ k ∧ k ≠ 29 ∧ k ≠ 33 ∧ k ≠ 34) → g' 66 k = g 66 k) ∧ ∀ x : Int, x < 280 * lv → g' 83 x = g 83 x
theorem mKp_r {lv : Int} {g : hkG} : mKp lv g g := ⟨fun _ _ => rfl, fun _ _ => rfl, fun _ _ => rfl⟩
theorem mKp_t {lv : Int} {g g' g'' : hkG} (h : mKp lv g g') (h' : mKp lv g' g'') : mKp lv g g'' := ⟨fun q a => by rw [h'.1 q a, h.1 q a], fun q a => by rw [h'.2.1 q a, h.2.1 q a], fun q a => by rw [h'.2.2 q a, h.2.2 q a]⟩
theorem mKp_w {lv lv' : Int} {g g' : hkG} (h : mKp lv g g') (hl : lv' ≤ lv) : mKp lv' g g' := ⟨h.1, h.2.1, fun x hx => h.2.2 x (by omega)⟩
theorem mKp_f {lv k v : Int} {g : hkG} (hk : k = 29 ∨ k = 33 ∨ k = 34) : mKp lv g (hkSet g 66 k v) := ⟨fun q hq => hkSet_row (by omega), fun j hj => by rw [hkSet_rd, if_neg (by omega)], fun x _ => by rw [hkSet_row (by decide)]⟩
theorem mKp_h {lv : Int} {g g' : hkG} (h : hdKeep lv g g') : mKp lv g g' := ⟨h.1, fun k hk => h.2.1 k (by omega), h.2.2⟩
def hnd (g : hkG) (lv p : Int) : Int := g 83 (280 * lv + p)
def mPost (R N op w lv : Int) (r : evT) (v : Int) (g' : hkG) : Prop := RB g' R N ∧ v = r.1 ∧ g' 66 33 = r.2.1 ∧ (r.1 ≠ -1 → g' 66 34 = op ∧ (w = 1 → g' 66 29 = hkTf r.2.2.1 ∧ gvec (bxC R N) (hnd g' lv) ∧ (¬ r.2.2.1 → ∀ p : Int, 0 ≤ p → p < 280 → hnd g' lv p = r.2.2.2 p)))
theorem mSt_p {R N F pl op op' w lv lv' v : Int} {T : Int → Int} {sp : Prop} {g g' : hkG} {r : evT} (hS : mSt R N F T pl op' sp w g) (k : mKp lv' g g') (hp : mPost R N op w lv r v g') (hr : r.1 ≠ -1) : mSt R N F T r.2.1 op r.2.2.1 w g' := ⟨hp.1, by rw [k.2.1 32 (by decide)]; exact hS.2.1, fun x x0 x1 => by rw [k.1 85 (by decide)]; exact hS.2.2.1 x x0 x1, hp.2.2.1, (hp.2.2.2 hr).1, fun h => ((hp.2.2.2 hr).2 h).1⟩
section SP
variable {t : Nat} {R N F : Int} {T : Int → Int}
def mOne (t : Nat) (R N F : Int) (T : Int → Int) (f : Nat) : Prop := ∀ (k d : Nat) (lv w pl op : Int) (g : hkG) (sp : Prop) (A : Int → Int) (r : evT) (Q : Option hkV → Nat → hkG → Prop), op + k = 4 → 0 ≤ op → 0 ≤ lv → lv + 2 * k ≤ 15 → (w = 0 ∨ w = 1) → mSt R N F T pl op sp w g → 0 ≤ pl → pl ≤ F → ev R N F T f 0 pl op 0 sp A = some r → (∀ (v : Int) (g' : hkG), mKp lv g g' → mPost R N op w lv r v g' → Q (some (0, v)) t g') → Xp 153 (d + 3 * k + 12) 0 [(2, 66), (0, lv), (0, w), hkU, hkU, hkU] [] t g Q
def mPro (t : Nat) (R N F : Int) (T : Int → Int) (f : Nat) : Prop := ∀ (k d : Nat) (lv w pl op : Int) (g : hkG) (sp : Prop) (A : Int → Int) (r : evT) (Q : Option hkV → Nat → hkG → Prop), op + k = 4 → 0 ≤ op → 0 ≤ lv → lv + 1 + 2 * k ≤ 15 → (w = 0 ∨ w = 1) → mSt R N F T pl op sp w g → 0 ≤ pl → pl ≤ F → ev R N F T f 1 pl op 0 sp A = some r → (∀ (v : Int) (g' : hkG), mKp lv g g' → mPost R N op w lv r v g' → Q (some (0, v)) t g') → Xp 152 (d + 3 * k + 13) 0 [(2, 66), (0, lv), (0, w), hkU, hkU] [] t g Q
def mSum (t : Nat) (R N F : Int) (T : Int → Int) (f : Nat) : Prop := ∀ (k d : Nat) (lv w pl op : Int) (g : hkG) (sp : Prop) (A : Int → Int) (r : evT) (Q : Option hkV → Nat → hkG → Prop), op + k = 4 → 0 ≤ op → 0 ≤ lv → lv + 2 + 2 * k ≤ 15 → (w = 0 ∨ w = 1) → mSt R N F T pl op sp w g → 0 ≤ pl → pl ≤ F → ev R N F T f 2 pl op 0 sp A = some r → (∀ (v : Int) (g' : hkG), mKp lv g g' → mPost R N op w lv r v g' → Q (some (0, v)) t g') → Xp 151 (d + 3 * k + 14) 0 [(2, 66), (0, lv), (0, w), hkU, hkU, hkU] [] t g Q
def mPL (t : Nat) (R N F : Int) (T : Int → Int) (f : Nat) : Prop := ∀ (k d : Nat) (lv w pl op n : Int) (v4 : hkV) (g : hkG) (sp : Prop) (A : Int → Int) (r : evT) (Q : Option hkV → Nat → hkG → Prop), op + k = 4 → 0 ≤ op → 0 ≤ lv → lv + 1 + 2 * k ≤ 15 → (w = 0 ∨ w = 1) → mSt R N F T pl op sp w g → 0 ≤ pl → pl ≤ F → 1 ≤ n → n ≤ pl → (w = 1 → gvec (bxC R N) (hnd g lv) ∧ (¬ sp → ∀ p : Int, 0 ≤ p → p < 280 → hnd g lv p = A p)) → ev R N F T f 3 pl op n sp A = some r → (∀ (v : Int) (g' : hkG), mKp lv g g' → mPost R N op w lv r v g' → Q (some (0, v)) t g') → Xp 152 (d + 3 * k + 13) 7 [(2, 66), (0, lv), (0, w), (0, n), v4] [] t g Q
def mSL (t : Nat) (R N F : Int) (T : Int → Int) (f : Nat) : Prop := ∀ (k d : Nat) (lv w pl op n : Int) (v4 v5 : hkV) (g : hkG) (sp : Prop) (A : Int → Int) (r : evT) (Q : Option hkV → Nat → hkG → Prop), op + k = 4 → 0 ≤ op → 0 ≤ lv → lv + 2 + 2 * k ≤ 15 → (w = 0 ∨ w = 1) → mSt R N F T pl op sp w g → 0 ≤ pl → pl ≤ F → 1 ≤ n → n ≤ pl → (w = 1 → gvec (bxC R N) (hnd g lv) ∧ (¬ sp → ∀ p : Int, 0 ≤ p → p < 280 → hnd g lv p = A p)) → ev R N F T f 4 pl op n sp A = some r → (∀ (v : Int) (g' : hkG), mKp lv g g' → mPost R N op w lv r v g' → Q (some (0, v)) t g') → Xp 151 (d + 3 * k + 14) 7 [(2, 66), (0, lv), (0, w), (0, n), v4, v5] [] t g Q
theorem bec_hnd {g : hkG} {lv l v : Int} (l0 : 0 ≤ l) (l1 : l < 280) : ∀ p : Int, 0 ≤ p → p < 280 → hnd (hkSet (hkFil g 83 (280 * lv) (280 * lv + 280) 0) 83 (280 * lv + l) v) lv p = unV l v p := fun p p0 p1 => by
  unfold hnd unV
  rw [hkSet_rd]
  by_cases e : p = l
  · rw [if_pos ⟨rfl, by omega⟩, if_pos e]
  · rw [if_neg (fun h => e (by omega)), if_neg e, hkFil_in (by omega) (by omega)]
/-- what a one leaves that was read to its end -/
theorem mOne_b (ht : 190 ≤ t) {lv w l dd v x pl' op : Int} {g1 g : hkG} {sp : Prop} {Q : Option hkV → Nat → hkG → Prop} (hw : w = 0 ∨ w = 1) (h0 : 0 ≤ lv) (h15 : lv ≤ 15) (d0 : 0 ≤ dd) (d1 : dd ≤ 1) (l0 : 0 ≤ l) (l1 : l < bxC R N) (hv : rngS v) (hS : mSt R N F T pl' op sp w g1) (k1 : mKp lv g g1)
    (hQ : ∀ g' : hkG, mKp lv g g' → mPost R N op w lv (1, pl', sp, unV (35 * dd + l) v) 1 g' → Q (some (0, 1)) t g') :
    (w = 0 → Q (some (0, 1)) t g1) ∧ (w = 1 → Q (some (0, 1)) t (hkSet (hkFil g1 83 (280 * lv) (280 * lv + 280) 0) 83 (280 * lv + 35 * dd + l) v)) := by
  have hc := bx_C hS.1.1.1
  refine ⟨fun e => hQ g1 k1 ⟨hS.1, rfl, hS.2.2.2.1, fun _ => ⟨hS.2.2.2.2.1, fun h => ?_⟩⟩, fun e => ?_⟩
  · rw [e] at h; exact absurd h (by decide)
  · rw [show 280 * lv + 35 * dd + l = 280 * lv + (35 * dd + l) from by omega]
    have hb := bec_hnd (g := g1) (lv := lv) (l := 35 * dd + l) (v := v) (by omega) (by omega)
    have kr : ∀ q : Int, q ≠ 83 → hkSet (hkFil g1 83 (280 * lv) (280 * lv + 280) 0) 83 (280 * lv + (35 * dd + l)) v q = g1 q := fun q hq => by rw [hkSet_row hq, hkFil_row hq]
    refine hQ _ (mKp_t k1 ⟨fun q hq => kr q (by omega), fun j _ => by rw [kr 66 (by decide)], fun x hx => by rw [hkSet_rd, if_neg (by omega), hkFil_rd, if_neg (by omega)]⟩) ⟨RB_c hS.1 (fun q hq => kr q (by omega)), rfl, by rw [kr 66 (by decide)]; exact hS.2.2.2.1, fun _ => ⟨by rw [kr 66 (by decide)]; exact hS.2.2.2.2.1, fun _ => ⟨by rw [kr 66 (by decide)]; exact hS.2.2.2.2.2 e, gvec_cong (fun p p0 p1 => (hb p p0 p1).symm) (gvec_un (by omega) (by omega) hv), fun _ => hb⟩⟩⟩
theorem mOne_s (ht : 190 ≤ t) (F60 : F ≤ 60) {f : Nat} (hSum : mSum t R N F T f) : mOne t R N F T (f + 1) := by
  intro k d lv w pl op g sp A r Q hk ho h0 h15 hw hS p0 pF hev hQ
  rw [ev_0] at hev
  have hc := bx_C hS.1.1.1
  have h33 := hS.2.2.2.1
  have h34 := hS.2.2.2.2.1
  have hd : ∀ (D : Nat) (Q' : Option hkV → Nat → hkG → Prop), Xp 154 (D + 1) 0 [(2, 66)] [] t g Q' = Q' (some (0, hkTf (48 ≤ hrC T F pl ∧ hrC T F pl ≤ 57))) t g := fun D Q' => sx_isDigit ht hS F60 p0
  have hh : ∀ (D : Nat) (Q' : Option hkV → Nat → hkG → Prop), Xp 155 D 0 [(2, 66)] [] t g Q' = Q' (some (0, hrC T F pl)) t g := fun D Q' => sx_here ht hS F60 p0
  have ep : hkW (pl + 1) = pl + 1 := hkW_in (by omega) (by omega)
  have eo : hkW (op + 1) = op + 1 := hkW_in (by omega) (by omega)
  by_cases cd : 48 ≤ hrC T F pl ∧ hrC T F pl ≤ 57
  · rw [if_pos cd] at hev
    have hev := (Option.some.inj hev).symm
    subst hev
    have hdN := dgN_b (T := T) (F := F) 4 pl pF
    simp only [x_153_0, x_153_1, x_153_4, x_153_5, x_153_6, hkJK_66, hkP1_0, hkP1_2, hkP1_u, hkC8, List.map_cons, List.map_nil, List.sum_cons, List.sum_nil, hkCat_0, hkCat_1, hkCat_2, Nat.reduceAdd, Nat.reduceLeDiff, hkPush_s, hkPush_n, true_and, and_true, implies_true, true_implies, not_true_eq_false, not_false_eq_true, false_implies, hkTf_0, hkTf_n1, hkOr01, hkOr11, Int.reduceEq, Int.reduceLT, Int.reduceLE, hk102a, hk102b, hk102c, Nat.reduceEqDiff, or_true, true_or, or_false, false_or, and_false, false_and, Classical.not_not, true_implies, List.set_cons_zero, List.set_cons_succ, ne_eq, hd, h33]
    rw [hkTf_t cd]
    simp only [x_153_9, x_153_12, x_153_13, x_153_14, x_153_15, hkJK_66, hkP1_0, hkP1_2, hkP1_u, hkC8, List.map_cons, List.map_nil, List.sum_cons, List.sum_nil, hkCat_0, hkCat_1, hkCat_2, Nat.reduceAdd, Nat.reduceLeDiff, hkPush_s, hkPush_n, true_and, and_true, implies_true, true_implies, not_true_eq_false, not_false_eq_true, false_implies, hkTf_0, hkTf_n1, hkOr01, hkOr11, Int.reduceEq, Int.reduceLT, Int.reduceLE, hk102a, hk102b, hk102c, Nat.reduceEqDiff, or_true, true_or, or_false, false_or, and_false, false_and, Classical.not_not, true_implies, List.set_cons_zero, List.set_cons_succ, ne_eq]
    refine sx_mdigits (d := d + 3 * k + 9) ht F60 hS p0 (fun g1 k1 k2 k3 k4 => ?_)
    have hd1 : ∀ r : Nat, r < dgN T F 4 pl → g1 74 r = T (pl + r) - 48 ∧ 48 ≤ T (pl + r) ∧ T (pl + r) ≤ 57 := fun r hr => ⟨k4 r hr, dgN_d 4 pl r hr⟩
    have hS1 : mSt R N F T (pl + dgN T F 4 pl) op sp w g1 := ⟨RB_s hS.1 (fun q q1 q2 => k1 q q2 (by clear ep eo; omega)) (fun j _ _ => k2 j (by clear ep eo; omega)), by rw [k2 32 (by decide)]; exact hS.2.1, fun x x0 x1 => by rw [k1 85 (by decide) (by decide)]; exact hS.2.2.1 x x0 x1, k3, by rw [k2 34 (by decide)]; exact h34, fun h => by rw [k2 29 (by decide)]; exact hS.2.2.2.2.2 h⟩
    have kk : mKp lv g g1 := ⟨fun q hq => k1 q (by clear ep eo; omega) (by clear ep eo; omega), fun j hj => k2 j (by clear ep eo; omega), fun x _ => by rw [k1 83 (by decide) (by decide)]⟩
    obtain ⟨z0, z1⟩ := mOne_b (x := 0) ht (dd := 0) (l := 0) (v := dgVl T (dgN T F 4 pl) pl 0) (Q := Q) hw h0 (by clear ep eo; omega) (by decide) (by decide) (by decide) (by clear ep eo; omega) dgV_r hS1 kk (fun g' k' P' => hQ 1 g' k' P')
    simp only [x_153_18, hkJK_66, hkP1_0, hkP1_2, hkP1_u, hkC8, List.map_cons, List.map_nil, List.sum_cons, List.sum_nil, hkCat_0, hkCat_1, hkCat_2, Nat.reduceAdd, Nat.reduceLeDiff, hkPush_s, hkPush_n, true_and, and_true, implies_true, true_implies, not_true_eq_false, not_false_eq_true, false_implies, hkTf_0, hkTf_n1, hkOr01, hkOr11, Int.reduceEq, Int.reduceLT, Int.reduceLE, hk102a, hk102b, hk102c, Nat.reduceEqDiff, or_true, true_or, or_false, false_or, and_false, false_and, Classical.not_not, true_implies, List.set_cons_zero, List.set_cons_succ, ne_eq, sx_mnum ht hdN.2 hd1]
    rcases hw with e | e
    · have z := z0 e
      subst e
      clear ep eo
      simp only [x_153_21, x_153_23, x_153_24, x_153_27, x_153_28, x_153_29, x_153_30, x_153_31, x_153_33, x_153_36, x_153_37, hkJK_66, hkP1_0, hkP1_2, hkP1_u, hkC8, List.map_cons, List.map_nil, List.sum_cons, List.sum_nil, hkCat_0, hkCat_1, hkCat_2, Nat.reduceAdd, Nat.reduceLeDiff, hkPush_s, hkPush_n, true_and, and_true, implies_true, true_implies, not_true_eq_false, not_false_eq_true, false_implies, hkTf_0, hkTf_n1, hkOr01, hkOr11, Int.reduceEq, Int.reduceLT, Int.reduceLE, hk102a, hk102b, hk102c, Nat.reduceEqDiff, or_true, true_or, or_false, false_or, and_false, false_and, Classical.not_not, true_implies, List.set_cons_zero, List.set_cons_succ, ne_eq]
      repeat' (first | exact z | refine And.intro ?_ ?_ | intro _ | trivial | omega | (exfalso; omega))
    · have z := z1 e
      subst e
      clear ep eo
      simp only [x_153_21, x_153_23, x_153_24, x_153_27, x_153_28, x_153_29, x_153_30, x_153_31, x_153_33, x_153_36, x_153_37, hkJK_66, hkP1_0, hkP1_2, hkP1_u, hkC8, List.map_cons, List.map_nil, List.sum_cons, List.sum_nil, hkCat_0, hkCat_1, hkCat_2, Nat.reduceAdd, Nat.reduceLeDiff, hkPush_s, hkPush_n, true_and, and_true, implies_true, true_implies, not_true_eq_false, not_false_eq_true, false_implies, hkTf_0, hkTf_n1, hkOr01, hkOr11, Int.reduceEq, Int.reduceLT, Int.reduceLE, hk102a, hk102b, hk102c, Nat.reduceEqDiff, or_true, true_or, or_false, false_or, and_false, false_and, Classical.not_not, true_implies, List.set_cons_zero, List.set_cons_succ, ne_eq, sx_mbecomes ht h0 (show lv ≤ 15 by omega) (show (0 : Int) ≤ 0 by decide) (show (0 : Int) ≤ 1 by decide) (show (0 : Int) ≤ 0 by decide) (show (0 : Int) < 35 by decide)]
      repeat' (first | exact z | refine And.intro ?_ ?_ | intro _ | trivial | omega | (exfalso; omega))
  · rw [if_neg cd] at hev
    by_cases c40 : hrC T F pl = 40 ∧ op < 4
    · rw [if_pos c40] at hev
      obtain ⟨k', rfl⟩ : ∃ k' : Nat, k = k' + 1 := ⟨k - 1, by clear ep eo; omega⟩
      have hpF := hrC_lt (T := T) (F := F) (p := pl) (by clear ep eo; omega)
      obtain ⟨r1, e1, e2⟩ := evB_s hev
      have hbd := ev_bd f 2 (pl + 1) (op + 1) 0 sp A r1 (by decide) (by clear ep eo; omega) (fun h => absurd h (by decide)) e1
      rw [if_neg (by decide)] at hbd
      rw [show d + 3 * (k' + 1) + 12 = d + 3 * k' + 14 + 1 from by clear ep eo; omega]
      have hS1 : mSt R N F T (pl + 1) (op + 1) sp w (hkSet (hkSet g 66 34 (op + 1)) 66 33 (pl + 1)) := mSt_at (mSt_op hS)
      have k01 : mKp lv g (hkSet (hkSet g 66 34 (op + 1)) 66 33 (pl + 1)) := mKp_t (mKp_f (by decide)) (mKp_f (by decide))
      have h33' : hkSet g 66 34 (op + 1) 66 33 = pl := by rw [hkSet_rd, if_neg (by decide)]; exact h33
      have K := hSum k' d lv w (pl + 1) (op + 1) _ sp A r1 (fun r2 t2 g2 => Xp 153 (d + 3 * k' + 14 + 1) 81 [(2, 66), (0, lv), (0, w), (0, pl), hkU, hkU] (hkPush r2 []) t2 g2 Q) (by clear ep eo; omega) (by clear ep eo; omega) h0 (by clear ep eo; omega) hw hS1 (by clear ep eo; omega) (by clear ep eo; omega) e1 (fun v g2 k2 P2 => by
        have k2' := mKp_t k01 k2
        by_cases hf : r1.1 = -1
        · rw [if_pos hf] at e2
          have e2 := (Option.some.inj e2).symm
          subst e2
          have hv : v = -1 := by rw [P2.2.1]; exact hf
          subst hv
          have hq := hQ (-1) g2 k2' ⟨P2.1, P2.2.1, P2.2.2.1, fun h => absurd hf h⟩
          clear ep eo
          simp only [x_153_81, x_153_83, x_153_85, x_153_86, x_153_89, x_153_90, x_153_93, x_153_95, x_153_98, x_153_99, hkJK_66, hkP1_0, hkP1_2, hkP1_u, hkC8, List.map_cons, List.map_nil, List.sum_cons, List.sum_nil, hkCat_0, hkCat_1, hkCat_2, Nat.reduceAdd, Nat.reduceLeDiff, hkPush_s, hkPush_n, true_and, and_true, implies_true, true_implies, not_true_eq_false, not_false_eq_true, false_implies, hkTf_0, hkTf_n1, hkOr01, hkOr11, Int.reduceEq, Int.reduceLT, Int.reduceLE, hk102a, hk102b, hk102c, Nat.reduceEqDiff, or_true, true_or, or_false, false_or, and_false, false_and, Classical.not_not, true_implies, List.set_cons_zero, List.set_cons_succ, ne_eq]
          repeat' (first | exact hq | refine And.intro ?_ ?_ | intro _ | trivial | omega | (exfalso; omega))
        · rw [if_neg hf] at e2
          have hS2 := mSt_p hS1 k2 P2 hf
          have hh2 : ∀ (D : Nat) (Q' : Option hkV → Nat → hkG → Prop), Xp 155 D 0 [(2, 66)] [] t g2 Q' = Q' (some (0, hrC T F r1.2.1)) t g2 := fun D Q' => sx_here ht hS2 F60 (by clear ep eo; omega)
          have hv := P2.2.1
          subst hv
          have h33b := hS2.2.2.2.1
          have h34b := hS2.2.2.2.2.1
          by_cases h41 : hrC T F r1.2.1 = 41
          · rw [if_pos h41] at e2
            have e2 := (Option.some.inj e2).symm
            subst e2
            have hF2 := hrC_lt (T := T) (F := F) (p := r1.2.1) (by clear ep eo; omega)
            have hS3 : mSt R N F T (r1.2.1 + 1) op r1.2.2.1 w (hkSet (hkSet g2 66 34 op) 66 33 (r1.2.1 + 1)) := mSt_at (mSt_op hS2)
            have f83 : hkSet (hkSet g2 66 34 op) 66 33 (r1.2.1 + 1) 83 = g2 83 := by rw [hkSet_row (by decide), hkSet_row (by decide)]
            have fh : hnd (hkSet (hkSet g2 66 34 op) 66 33 (r1.2.1 + 1)) lv = hnd g2 lv := by funext p; unfold hnd; rw [f83]
            have hq := hQ r1.1 (hkSet (hkSet g2 66 34 op) 66 33 (r1.2.1 + 1)) (mKp_t k2' (mKp_t (mKp_f (by decide)) (mKp_f (by decide)))) ⟨hS3.1, rfl, hS3.2.2.2.1, fun _ => ⟨hS3.2.2.2.2.1, fun h => ⟨hS3.2.2.2.2.2 h, by rw [fh]; exact ((P2.2.2.2 hf).2 h).2.1, fun hs => by rw [fh]; exact ((P2.2.2.2 hf).2 h).2.2 hs⟩⟩⟩
            have h33c : hkSet g2 66 34 op 66 33 = r1.2.1 := by rw [hkSet_rd, if_neg (by decide)]; exact h33b
            obtain ⟨eo2, ep2⟩ : hkW (op + 1 - 1) = op ∧ hkW (r1.2.1 + 1) = r1.2.1 + 1 := ⟨by rw [hkW_in (by clear ep eo; omega) (by clear ep eo; omega)]; clear ep eo; omega, hkW_in (by clear ep eo; omega) (by clear ep eo; omega)⟩
            simp only [x_153_81, x_153_83, x_153_85, x_153_86, x_153_89, x_153_90, x_153_93, x_153_95, x_153_98, x_153_99, x_153_100, x_153_101, x_153_102, x_153_105, x_153_106, x_153_107, x_153_110, x_153_111, x_153_112, x_153_115, x_153_116, x_153_117, x_153_120, x_153_122, hkJK_66, hkP1_0, hkP1_2, hkP1_u, hkC8, List.map_cons, List.map_nil, List.sum_cons, List.sum_nil, hkCat_0, hkCat_1, hkCat_2, Nat.reduceAdd, Nat.reduceLeDiff, hkPush_s, hkPush_n, true_and, and_true, implies_true, true_implies, not_true_eq_false, not_false_eq_true, false_implies, hkTf_0, hkTf_n1, hkOr01, hkOr11, Int.reduceEq, Int.reduceLT, Int.reduceLE, hk102a, hk102b, hk102c, Nat.reduceEqDiff, or_true, true_or, or_false, false_or, and_false, false_and, Classical.not_not, true_implies, List.set_cons_zero, List.set_cons_succ, ne_eq, hh2, h34b, eo2, h33c, ep2]
            clear ep eo eo2 ep2
            repeat' (first | exact hq | refine And.intro ?_ ?_ | intro _ | trivial | omega | (exfalso; omega))
          · rw [if_neg h41] at e2
            have e2 := (Option.some.inj e2).symm
            subst e2
            have hq := hQ (-1) g2 k2' ⟨P2.1, rfl, P2.2.2.1, fun h => absurd rfl h⟩
            clear ep eo
            simp only [x_153_81, x_153_83, x_153_85, x_153_86, x_153_89, x_153_90, x_153_93, x_153_95, x_153_98, x_153_99, hkJK_66, hkP1_0, hkP1_2, hkP1_u, hkC8, List.map_cons, List.map_nil, List.sum_cons, List.sum_nil, hkCat_0, hkCat_1, hkCat_2, Nat.reduceAdd, Nat.reduceLeDiff, hkPush_s, hkPush_n, true_and, and_true, implies_true, true_implies, not_true_eq_false, not_false_eq_true, false_implies, hkTf_0, hkTf_n1, hkOr01, hkOr11, Int.reduceEq, Int.reduceLT, Int.reduceLE, hk102a, hk102b, hk102c, Nat.reduceEqDiff, or_true, true_or, or_false, false_or, and_false, false_and, Classical.not_not, true_implies, List.set_cons_zero, List.set_cons_succ, ne_eq, hh2]
            repeat' (first | exact hq | refine And.intro ?_ ?_ | intro _ | trivial | omega | (exfalso; omega)))
      simp only [x_153_0, x_153_1, x_153_4, x_153_5, x_153_6, hkJK_66, hkP1_0, hkP1_2, hkP1_u, hkC8, List.map_cons, List.map_nil, List.sum_cons, List.sum_nil, hkCat_0, hkCat_1, hkCat_2, Nat.reduceAdd, Nat.reduceLeDiff, hkPush_s, hkPush_n, true_and, and_true, implies_true, true_implies, not_true_eq_false, not_false_eq_true, false_implies, hkTf_0, hkTf_n1, hkOr01, hkOr11, Int.reduceEq, Int.reduceLT, Int.reduceLE, hk102a, hk102b, hk102c, Nat.reduceEqDiff, or_true, true_or, or_false, false_or, and_false, false_and, Classical.not_not, true_implies, List.set_cons_zero, List.set_cons_succ, ne_eq, hd, h33]
      rw [hkTf_f cd]
      simp only [x_153_9, hkJK_66, hkP1_0, hkP1_2, hkP1_u, hkC8, List.map_cons, List.map_nil, List.sum_cons, List.sum_nil, hkCat_0, hkCat_1, hkCat_2, Nat.reduceAdd, Nat.reduceLeDiff, hkPush_s, hkPush_n, true_and, and_true, implies_true, true_implies, not_true_eq_false, not_false_eq_true, false_implies, hkTf_0, hkTf_n1, hkOr01, hkOr11, Int.reduceEq, Int.reduceLT, Int.reduceLE, hk102a, hk102b, hk102c, Nat.reduceEqDiff, or_true, true_or, or_false, false_or, and_false, false_and, Classical.not_not, true_implies, List.set_cons_zero, List.set_cons_succ, ne_eq, x_153_38, x_153_39, x_153_42, x_153_44, x_153_47, x_153_48, x_153_51, x_153_52, x_153_55, x_153_56, x_153_57, x_153_60, x_153_61, x_153_62, x_153_65, x_153_66, x_153_67, x_153_70, x_153_71, x_153_72, x_153_75, x_153_76, x_153_77, x_153_78, hkJK_66, hkP1_0, hkP1_2, hkP1_u, hkC8, List.map_cons, List.map_nil, List.sum_cons, List.sum_nil, hkCat_0, hkCat_1, hkCat_2, Nat.reduceAdd, Nat.reduceLeDiff, hkPush_s, hkPush_n, true_and, and_true, implies_true, true_implies, not_true_eq_false, not_false_eq_true, false_implies, hkTf_0, hkTf_n1, hkOr01, hkOr11, Int.reduceEq, Int.reduceLT, Int.reduceLE, hk102a, hk102b, hk102c, Nat.reduceEqDiff, or_true, true_or, or_false, false_or, and_false, false_and, Classical.not_not, true_implies, List.set_cons_zero, List.set_cons_succ, ne_eq, hh, h34, eo, h33', ep]
      clear ep eo
      repeat' (first | exact K | refine And.intro ?_ ?_ | intro _ | trivial | omega | (exfalso; omega))
    · rw [if_neg c40] at hev
      have TO123 : Xp 153 (d + 3 * k + 11 + 1) 123 [(2, 66), (0, lv), (0, w), (0, pl), hkU, hkU] [] t g Q → Xp 153 (d + 3 * k + 11 + 1) 0 [(2, 66), (0, lv), (0, w), hkU, hkU, hkU] [] t g Q := by
        intro hx
        simp only [x_153_0, x_153_1, x_153_4, x_153_5, x_153_6, hkJK_66, hkP1_0, hkP1_2, hkP1_u, hkC8, List.map_cons, List.map_nil, List.sum_cons, List.sum_nil, hkCat_0, hkCat_1, hkCat_2, Nat.reduceAdd, Nat.reduceLeDiff, hkPush_s, hkPush_n, true_and, and_true, implies_true, true_implies, not_true_eq_false, not_false_eq_true, false_implies, hkTf_0, hkTf_n1, hkOr01, hkOr11, Int.reduceEq, Int.reduceLT, Int.reduceLE, hk102a, hk102b, hk102c, Nat.reduceEqDiff, or_true, true_or, or_false, false_or, and_false, false_and, Classical.not_not, true_implies, List.set_cons_zero, List.set_cons_succ, ne_eq, hd, h33]
        rw [hkTf_f cd]
        clear ep eo
        simp only [x_153_9, hkJK_66, hkP1_0, hkP1_2, hkP1_u, hkC8, List.map_cons, List.map_nil, List.sum_cons, List.sum_nil, hkCat_0, hkCat_1, hkCat_2, Nat.reduceAdd, Nat.reduceLeDiff, hkPush_s, hkPush_n, true_and, and_true, implies_true, true_implies, not_true_eq_false, not_false_eq_true, false_implies, hkTf_0, hkTf_n1, hkOr01, hkOr11, Int.reduceEq, Int.reduceLT, Int.reduceLE, hk102a, hk102b, hk102c, Nat.reduceEqDiff, or_true, true_or, or_false, false_or, and_false, false_and, Classical.not_not, true_implies, List.set_cons_zero, List.set_cons_succ, ne_eq, x_153_38, x_153_39, x_153_42, x_153_44, x_153_47, x_153_48, x_153_51, x_153_52, hkJK_66, hkP1_0, hkP1_2, hkP1_u, hkC8, List.map_cons, List.map_nil, List.sum_cons, List.sum_nil, hkCat_0, hkCat_1, hkCat_2, Nat.reduceAdd, Nat.reduceLeDiff, hkPush_s, hkPush_n, true_and, and_true, implies_true, true_implies, not_true_eq_false, not_false_eq_true, false_implies, hkTf_0, hkTf_n1, hkOr01, hkOr11, Int.reduceEq, Int.reduceLT, Int.reduceLE, hk102a, hk102b, hk102c, Nat.reduceEqDiff, or_true, true_or, or_false, false_or, and_false, false_and, Classical.not_not, true_implies, List.set_cons_zero, List.set_cons_succ, ne_eq, hh, h34]
        repeat' (first | exact hx | refine And.intro ?_ ?_ | intro _ | trivial | omega | (exfalso; omega))
      refine TO123 ?_
      by_cases c113 : hrC T F pl = 113
      · rw [if_pos c113] at hev
        have hev := (Option.some.inj hev).symm
        subst hev
        have hpF := hrC_lt (T := T) (F := F) (p := pl) (by clear ep eo; omega)
        have hS1 : mSt R N F T (pl + 1) op sp w (hkSet g 66 33 (pl + 1)) := mSt_at hS
        obtain ⟨z0, z1⟩ := mOne_b (x := 0) ht (dd := 1) (l := 0) (v := 1) (Q := Q) hw h0 (by clear ep eo; omega) (by decide) (by decide) (by decide) (by clear ep eo; omega) ⟨by decide, by decide⟩ hS1 (mKp_f (by decide) : mKp lv g _) (fun g' k' P' => hQ 1 g' k' P')
        rcases hw with e | e
        · have z := z0 e
          subst e
          simp only [x_153_123, x_153_124, x_153_127, x_153_129, x_153_132, x_153_133, x_153_134, x_153_137, x_153_138, x_153_139, x_153_142, x_153_143, x_153_146, x_153_147, x_153_148, x_153_149, x_153_150, x_153_151, x_153_154, x_153_155, hkJK_66, hkP1_0, hkP1_2, hkP1_u, hkC8, List.map_cons, List.map_nil, List.sum_cons, List.sum_nil, hkCat_0, hkCat_1, hkCat_2, Nat.reduceAdd, Nat.reduceLeDiff, hkPush_s, hkPush_n, true_and, and_true, implies_true, true_implies, not_true_eq_false, not_false_eq_true, false_implies, hkTf_0, hkTf_n1, hkOr01, hkOr11, Int.reduceEq, Int.reduceLT, Int.reduceLE, hk102a, hk102b, hk102c, Nat.reduceEqDiff, or_true, true_or, or_false, false_or, and_false, false_and, Classical.not_not, true_implies, List.set_cons_zero, List.set_cons_succ, ne_eq, hh, c113, h33, ep]
          clear ep eo
          repeat' (first | exact z | refine And.intro ?_ ?_ | intro _ | trivial | omega | (exfalso; omega))
        · have z := z1 e
          subst e
          simp only [x_153_123, x_153_124, x_153_127, x_153_129, x_153_132, x_153_133, x_153_134, x_153_137, x_153_138, x_153_139, x_153_142, x_153_143, x_153_146, x_153_147, x_153_148, x_153_149, x_153_150, x_153_151, x_153_154, x_153_155, hkJK_66, hkP1_0, hkP1_2, hkP1_u, hkC8, List.map_cons, List.map_nil, List.sum_cons, List.sum_nil, hkCat_0, hkCat_1, hkCat_2, Nat.reduceAdd, Nat.reduceLeDiff, hkPush_s, hkPush_n, true_and, and_true, implies_true, true_implies, not_true_eq_false, not_false_eq_true, false_implies, hkTf_0, hkTf_n1, hkOr01, hkOr11, Int.reduceEq, Int.reduceLT, Int.reduceLE, hk102a, hk102b, hk102c, Nat.reduceEqDiff, or_true, true_or, or_false, false_or, and_false, false_and, Classical.not_not, true_implies, List.set_cons_zero, List.set_cons_succ, ne_eq, hh, c113, h33, ep, sx_mbecomes ht h0 (show lv ≤ 15 by clear ep eo; omega) (show (0 : Int) ≤ 1 by decide) (show (1 : Int) ≤ 1 by decide) (show (0 : Int) ≤ 0 by decide) (show (0 : Int) < 35 by decide)]
          clear ep eo
          repeat' (first | exact z | refine And.intro ?_ ?_ | intro _ | trivial | omega | (exfalso; omega))
      · rw [if_neg c113] at hev
        by_cases c91 : hrC T F pl ≠ 91
        · rw [if_pos c91] at hev
          have hev := (Option.some.inj hev).symm
          subst hev
          have hq := hQ (-1) g mKp_r ⟨hS.1, rfl, h33, fun h => absurd rfl h⟩
          clear ep eo
          simp only [x_153_123, x_153_124, x_153_127, x_153_129, hkJK_66, hkP1_0, hkP1_2, hkP1_u, hkC8, List.map_cons, List.map_nil, List.sum_cons, List.sum_nil, hkCat_0, hkCat_1, hkCat_2, Nat.reduceAdd, Nat.reduceLeDiff, hkPush_s, hkPush_n, true_and, and_true, implies_true, true_implies, not_true_eq_false, not_false_eq_true, false_implies, hkTf_0, hkTf_n1, hkOr01, hkOr11, Int.reduceEq, Int.reduceLT, Int.reduceLE, hk102a, hk102b, hk102c, Nat.reduceEqDiff, or_true, true_or, or_false, false_or, and_false, false_and, Classical.not_not, true_implies, List.set_cons_zero, List.set_cons_succ, ne_eq, x_153_156, x_153_157, x_153_160, x_153_162, x_153_165, x_153_166, hkJK_66, hkP1_0, hkP1_2, hkP1_u, hkC8, List.map_cons, List.map_nil, List.sum_cons, List.sum_nil, hkCat_0, hkCat_1, hkCat_2, Nat.reduceAdd, Nat.reduceLeDiff, hkPush_s, hkPush_n, true_and, and_true, implies_true, true_implies, not_true_eq_false, not_false_eq_true, false_implies, hkTf_0, hkTf_n1, hkOr01, hkOr11, Int.reduceEq, Int.reduceLT, Int.reduceLE, hk102a, hk102b, hk102c, Nat.reduceEqDiff, or_true, true_or, or_false, false_or, and_false, false_and, Classical.not_not, true_implies, List.set_cons_zero, List.set_cons_succ, ne_eq, hh]
          repeat' (first | exact hq | refine And.intro ?_ ?_ | intro _ | trivial | omega | (exfalso; omega))
        · rw [if_neg c91] at hev
          have hpF := hrC_lt (T := T) (F := F) (p := pl) (by clear ep eo; omega)
          have c91' : hrC T F pl = 91 := Classical.not_not.1 c91
          have hdN := dgN_b (T := T) (F := F) 4 (pl + 1) (by clear ep eo; omega)
          have hS1 : mSt R N F T (pl + 1) op sp w (hkSet g 66 33 (pl + 1)) := mSt_at hS
          have K : Xp 153 (d + 3 * k + 11 + 1) 177 [(2, 66), (0, lv), (0, w), (0, pl), hkU, hkU] [] t (hkSet g 66 33 (pl + 1)) Q := by
            simp only [x_153_177, x_153_178, x_153_179, hkJK_66, hkP1_0, hkP1_2, hkP1_u, hkC8, List.map_cons, List.map_nil, List.sum_cons, List.sum_nil, hkCat_0, hkCat_1, hkCat_2, Nat.reduceAdd, Nat.reduceLeDiff, hkPush_s, hkPush_n, true_and, and_true, implies_true, true_implies, not_true_eq_false, not_false_eq_true, false_implies, hkTf_0, hkTf_n1, hkOr01, hkOr11, Int.reduceEq, Int.reduceLT, Int.reduceLE, hk102a, hk102b, hk102c, Nat.reduceEqDiff, or_true, true_or, or_false, false_or, and_false, false_and, Classical.not_not, true_implies, List.set_cons_zero, List.set_cons_succ, ne_eq]
            refine sx_mdigits (d := d + 3 * k + 9) ht F60 hS1 (by clear ep eo; omega) (fun g1 k1 k2 k3 k4 => ?_)
            have k1' : ∀ q : Int, q ≠ 66 → q ≠ 74 → g1 q = g q := fun q q1 q2 => by rw [k1 q q1 q2, hkSet_row q1]
            have k2' : ∀ j : Int, j ≠ 33 → g1 66 j = g 66 j := fun j hj => by rw [k2 j hj, hkSet_rd, if_neg (fun h => hj h.2)]
            have hS2 : mSt R N F T (pl + 1 + dgN T F 4 (pl + 1)) op sp w g1 := ⟨RB_s hS.1 (fun q q1 q2 => k1' q q2 (by clear ep eo; omega)) (fun j _ _ => k2' j (by clear ep eo; omega)), by rw [k2' 32 (by decide)]; exact hS.2.1, fun x x0 x1 => by rw [k1' 85 (by decide) (by decide)]; exact hS.2.2.1 x x0 x1, k3, by rw [k2' 34 (by decide)]; exact h34, fun h => by rw [k2' 29 (by decide)]; exact hS.2.2.2.2.2 h⟩
            have kk : mKp lv g g1 := ⟨fun q hq => k1' q (by clear ep eo; omega) (by clear ep eo; omega), fun j hj => k2' j (by clear ep eo; omega), fun x _ => by rw [k1' 83 (by decide) (by decide)]⟩
            obtain ⟨n, v1, v2, v3, v4⟩ := rdS_sh (R := R) (N := N) (T := T) (p := pl + 1) hS.1.1.1 (dgN T F 4 (pl + 1)) hdN.2 (fun r hr => dgN_d 4 (pl + 1) r hr)
            have hf : ∀ r : Int, 0 ≤ r → r < dgN T F 4 (pl + 1) → g1 74 r = dgF n (dgN T F 4 (pl + 1)) r ∧ 0 ≤ dgF n (dgN T F 4 (pl + 1)) r ∧ dgF n (dgN T F 4 (pl + 1)) r ≤ 9 := fun r r0 r1 => by
              have a1 := k4 r.toNat (by clear ep eo; omega)
              have a2 := v3 r.toNat (by clear ep eo; omega)
              have a3 := dgN_d (T := T) (F := F) 4 (pl + 1) r.toNat (by clear ep eo; omega)
              rw [show ((r.toNat : Nat) : Int) = r from by clear ep eo; omega] at a1 a2 a3
              exact ⟨by rw [a1, a2], by rw [a2]; clear ep eo; omega, by rw [a2]; clear ep eo; omega⟩
            have SH : ∀ (D : Nat) (Q' : Option hkV → Nat → hkG → Prop), Xp 112 (D + 1) 0 [(2, 66), (0, (dgN T F 4 (pl + 1) : Int)), hkU, hkU, hkU, hkU] [] t g1 Q' = Q' (some (0, rdS R N T (pl + 1) (dgN T F 4 (pl + 1)))) t g1 := fun D Q' => by
              rw [v4]
              exact sx_mshapeOf (d := D) ht hS2.1.2.2.2.2.1 hf (fun hmR => (nb_all hS.1.1.1 hmR v2).2.2)
            have hrr := rdS_r (R := R) (N := N) (T := T) (p := pl + 1) hS.1.1.1 (dgN T F 4 (pl + 1)) hdN.2 (fun r hr => dgN_d 4 (pl + 1) r hr)
            have hh1 : ∀ (D : Nat) (Q' : Option hkV → Nat → hkG → Prop), Xp 155 D 0 [(2, 66)] [] t g1 Q' = Q' (some (0, hrC T F (pl + 1 + dgN T F 4 (pl + 1)))) t g1 := fun D Q' => sx_here ht hS2 F60 (by clear ep eo; omega)
            by_cases ci : rdS R N T (pl + 1) (dgN T F 4 (pl + 1)) = -1
            · rw [if_pos ci] at hev
              have hev := (Option.some.inj hev).symm
              subst hev
              have hq := hQ (-1) (hkSet g1 66 33 pl) (mKp_t kk (mKp_f (by decide))) ⟨(mSt_at hS2).1, rfl, by rw [hkSet_rd, if_pos ⟨rfl, rfl⟩], fun h => absurd rfl h⟩
              rw [ci] at SH
              clear ep eo
              simp only [x_153_182, x_153_184, x_153_185, x_153_187, x_153_190, x_153_192, x_153_194, x_153_195, x_153_198, x_153_199, x_153_200, x_153_203, x_153_204, hkJK_66, hkP1_0, hkP1_2, hkP1_u, hkC8, List.map_cons, List.map_nil, List.sum_cons, List.sum_nil, hkCat_0, hkCat_1, hkCat_2, Nat.reduceAdd, Nat.reduceLeDiff, hkPush_s, hkPush_n, true_and, and_true, implies_true, true_implies, not_true_eq_false, not_false_eq_true, false_implies, hkTf_0, hkTf_n1, hkOr01, hkOr11, Int.reduceEq, Int.reduceLT, Int.reduceLE, hk102a, hk102b, hk102c, Nat.reduceEqDiff, or_true, true_or, or_false, false_or, and_false, false_and, Classical.not_not, true_implies, List.set_cons_zero, List.set_cons_succ, ne_eq, SH]
              repeat' (first | exact hq | refine And.intro ?_ ?_ | intro _ | trivial | omega | (exfalso; omega))
            · rw [if_neg ci] at hev
              have hir : 0 ≤ rdS R N T (pl + 1) (dgN T F 4 (pl + 1)) ∧ rdS R N T (pl + 1) (dgN T F 4 (pl + 1)) < bxC R N := by rcases hrr with h | h; (exact absurd h ci); exact h
              have K2 : Xp 153 (d + 3 * k + 11 + 1) 205 [(2, 66), (0, lv), (0, w), (0, pl), (0, (dgN T F 4 (pl + 1) : Int)), (0, rdS R N T (pl + 1) (dgN T F 4 (pl + 1)))] [] t g1 Q := by
                by_cases c93 : hrC T F (pl + 1 + dgN T F 4 (pl + 1)) = 93
                · rw [if_pos c93] at hev
                  have hev := (Option.some.inj hev).symm
                  subst hev
                  have hF2 := hrC_lt (T := T) (F := F) (p := pl + 1 + dgN T F 4 (pl + 1)) (by clear ep eo; omega)
                  have hS3 : mSt R N F T (pl + 1 + dgN T F 4 (pl + 1) + 1) op sp w (hkSet g1 66 33 (pl + 1 + dgN T F 4 (pl + 1) + 1)) := mSt_at hS2
                  have ep3 : hkW (pl + 1 + dgN T F 4 (pl + 1) + 1) = pl + 1 + dgN T F 4 (pl + 1) + 1 := hkW_in (by clear ep eo; omega) (by clear ep eo; omega)
                  obtain ⟨z0, z1⟩ := mOne_b (x := 0) ht (dd := 0) (l := rdS R N T (pl + 1) (dgN T F 4 (pl + 1))) (v := 1) (Q := Q) hw h0 (by clear ep eo ep3; omega) (by decide) (by decide) hir.1 hir.2 ⟨by decide, by decide⟩ hS3 (mKp_t kk (mKp_f (by decide))) (fun g' k' P' => hQ 1 g' k' (by rw [show (35 : Int) * 0 + rdS R N T (pl + 1) (dgN T F 4 (pl + 1)) = rdS R N T (pl + 1) (dgN T F 4 (pl + 1)) from by clear ep eo ep3; omega] at P'; exact P'))
                  rcases hw with e | e
                  · have z := z0 e
                    subst e
                    simp only [x_153_205, x_153_206, x_153_209, x_153_211, x_153_214, x_153_215, x_153_216, x_153_217, x_153_218, x_153_221, x_153_222, x_153_223, x_153_226, x_153_227, x_153_230, x_153_231, x_153_232, x_153_233, x_153_235, x_153_236, x_153_239, x_153_240, hkJK_66, hkP1_0, hkP1_2, hkP1_u, hkC8, List.map_cons, List.map_nil, List.sum_cons, List.sum_nil, hkCat_0, hkCat_1, hkCat_2, Nat.reduceAdd, Nat.reduceLeDiff, hkPush_s, hkPush_n, true_and, and_true, implies_true, true_implies, not_true_eq_false, not_false_eq_true, false_implies, hkTf_0, hkTf_n1, hkOr01, hkOr11, Int.reduceEq, Int.reduceLT, Int.reduceLE, hk102a, hk102b, hk102c, Nat.reduceEqDiff, or_true, true_or, or_false, false_or, and_false, false_and, Classical.not_not, true_implies, List.set_cons_zero, List.set_cons_succ, ne_eq, hh1, c93, k3, ep3]
                    clear ep eo ep3
                    repeat' (first | exact z | refine And.intro ?_ ?_ | intro _ | trivial | omega | (exfalso; omega))
                  · have z := z1 e
                    subst e
                    simp only [x_153_205, x_153_206, x_153_209, x_153_211, x_153_214, x_153_215, x_153_216, x_153_217, x_153_218, x_153_221, x_153_222, x_153_223, x_153_226, x_153_227, x_153_230, x_153_231, x_153_232, x_153_233, x_153_235, x_153_236, x_153_239, x_153_240, hkJK_66, hkP1_0, hkP1_2, hkP1_u, hkC8, List.map_cons, List.map_nil, List.sum_cons, List.sum_nil, hkCat_0, hkCat_1, hkCat_2, Nat.reduceAdd, Nat.reduceLeDiff, hkPush_s, hkPush_n, true_and, and_true, implies_true, true_implies, not_true_eq_false, not_false_eq_true, false_implies, hkTf_0, hkTf_n1, hkOr01, hkOr11, Int.reduceEq, Int.reduceLT, Int.reduceLE, hk102a, hk102b, hk102c, Nat.reduceEqDiff, or_true, true_or, or_false, false_or, and_false, false_and, Classical.not_not, true_implies, List.set_cons_zero, List.set_cons_succ, ne_eq, hh1, c93, k3, ep3, sx_mbecomes ht h0 (show lv ≤ 15 by clear ep eo ep3; omega) (show (0 : Int) ≤ 0 by decide) (show (0 : Int) ≤ 1 by decide) hir.1 (show rdS R N T (pl + 1) (dgN T F 4 (pl + 1)) < 35 by clear ep eo ep3; omega)]
                    clear ep eo ep3
                    repeat' (first | exact z | refine And.intro ?_ ?_ | intro _ | trivial | omega | (exfalso; omega))
                · rw [if_neg c93] at hev
                  have hev := (Option.some.inj hev).symm
                  subst hev
                  have hq := hQ (-1) g1 kk ⟨hS2.1, rfl, k3, fun h => absurd rfl h⟩
                  clear ep eo
                  simp only [x_153_205, x_153_206, x_153_209, x_153_211, x_153_214, x_153_215, hkJK_66, hkP1_0, hkP1_2, hkP1_u, hkC8, List.map_cons, List.map_nil, List.sum_cons, List.sum_nil, hkCat_0, hkCat_1, hkCat_2, Nat.reduceAdd, Nat.reduceLeDiff, hkPush_s, hkPush_n, true_and, and_true, implies_true, true_implies, not_true_eq_false, not_false_eq_true, false_implies, hkTf_0, hkTf_n1, hkOr01, hkOr11, Int.reduceEq, Int.reduceLT, Int.reduceLE, hk102a, hk102b, hk102c, Nat.reduceEqDiff, or_true, true_or, or_false, false_or, and_false, false_and, Classical.not_not, true_implies, List.set_cons_zero, List.set_cons_succ, ne_eq, hh1]
                  repeat' (first | exact hq | refine And.intro ?_ ?_ | intro _ | trivial | omega | (exfalso; omega))
              clear ep eo
              simp only [x_153_182, x_153_184, x_153_185, x_153_187, x_153_190, x_153_192, x_153_194, x_153_195, hkJK_66, hkP1_0, hkP1_2, hkP1_u, hkC8, List.map_cons, List.map_nil, List.sum_cons, List.sum_nil, hkCat_0, hkCat_1, hkCat_2, Nat.reduceAdd, Nat.reduceLeDiff, hkPush_s, hkPush_n, true_and, and_true, implies_true, true_implies, not_true_eq_false, not_false_eq_true, false_implies, hkTf_0, hkTf_n1, hkOr01, hkOr11, Int.reduceEq, Int.reduceLT, Int.reduceLE, hk102a, hk102b, hk102c, Nat.reduceEqDiff, or_true, true_or, or_false, false_or, and_false, false_and, Classical.not_not, true_implies, List.set_cons_zero, List.set_cons_succ, ne_eq, SH]
              repeat' (first | exact K2 | refine And.intro ?_ ?_ | intro _ | trivial | omega | (exfalso; omega))
          simp only [x_153_123, x_153_124, x_153_127, x_153_129, hkJK_66, hkP1_0, hkP1_2, hkP1_u, hkC8, List.map_cons, List.map_nil, List.sum_cons, List.sum_nil, hkCat_0, hkCat_1, hkCat_2, Nat.reduceAdd, Nat.reduceLeDiff, hkPush_s, hkPush_n, true_and, and_true, implies_true, true_implies, not_true_eq_false, not_false_eq_true, false_implies, hkTf_0, hkTf_n1, hkOr01, hkOr11, Int.reduceEq, Int.reduceLT, Int.reduceLE, hk102a, hk102b, hk102c, Nat.reduceEqDiff, or_true, true_or, or_false, false_or, and_false, false_and, Classical.not_not, true_implies, List.set_cons_zero, List.set_cons_succ, ne_eq, x_153_156, x_153_157, x_153_160, x_153_162, x_153_165, x_153_166, x_153_167, x_153_168, x_153_169, x_153_172, x_153_173, x_153_174, hkJK_66, hkP1_0, hkP1_2, hkP1_u, hkC8, List.map_cons, List.map_nil, List.sum_cons, List.sum_nil, hkCat_0, hkCat_1, hkCat_2, Nat.reduceAdd, Nat.reduceLeDiff, hkPush_s, hkPush_n, true_and, and_true, implies_true, true_implies, not_true_eq_false, not_false_eq_true, false_implies, hkTf_0, hkTf_n1, hkOr01, hkOr11, Int.reduceEq, Int.reduceLT, Int.reduceLE, hk102a, hk102b, hk102c, Nat.reduceEqDiff, or_true, true_or, or_false, false_or, and_false, false_and, Classical.not_not, true_implies, List.set_cons_zero, List.set_cons_succ, ne_eq, hh, c91', h33, ep]
          clear ep eo
          repeat' (first | exact K | refine And.intro ?_ ?_ | intro _ | trivial | omega | (exfalso; omega))
theorem mPro_s (ht : 190 ≤ t) (F60 : F ≤ 60) {f : Nat} (hOne : mOne t R N F T f) (hL : mPL t R N F T f) : mPro t R N F T (f + 1) := by
  intro k d lv w pl op g sp A r Q hk ho h0 h15 hw hS p0 pF hev hQ
  rw [ev_1] at hev
  obtain ⟨r1, e1, e2⟩ := evB_s hev
  have hbd := ev_bd f 0 pl op 0 sp A r1 (by decide) pF (fun h => absurd h (by decide)) e1
  rw [if_neg (by decide)] at hbd
  have K := hOne k d lv w pl op g sp A r1 (fun r2 t2 g2 => Xp 152 (d + 3 * k + 12 + 1) 6 [(2, 66), (0, lv), (0, w), hkU, hkU] (hkPush r2 []) t2 g2 Q) hk ho h0 (by omega) hw hS p0 pF e1 (fun v g2 k2 P2 => by
    have hv := P2.2.1
    subst hv
    by_cases hf : r1.1 = -1
    · rw [if_pos hf] at e2
      have e2 := (Option.some.inj e2).symm
      subst e2
      have hq := hQ r.1 g2 k2 P2
      have L : Xp 152 (d + 3 * k + 12 + 1) 7 [(2, 66), (0, lv), (0, w), (0, r.1), hkU] [] t g2 Q := by
        rw [x_152_7]
        simp only [x_152_8, x_152_9, hkJK_66, hkP1_0, hkP1_2, hkP1_u, hkC8, List.map_cons, List.map_nil, List.sum_cons, List.sum_nil, hkCat_0, hkCat_1, hkCat_2, Nat.reduceAdd, Nat.reduceLeDiff, hkPush_s, hkPush_n, true_and, and_true, implies_true, true_implies, not_true_eq_false, not_false_eq_true, false_implies, hkTf_0, hkTf_n1, hkOr01, hkOr11, Int.reduceEq, Int.reduceLT, Int.reduceLE, hk102a, hk102b, hk102c, Nat.reduceEqDiff, or_true, true_or, or_false, false_or, and_false, false_and, Classical.not_not, true_implies, List.set_cons_zero, List.set_cons_succ, ne_eq, x_152_73, x_152_74, hkJK_66, hkP1_0, hkP1_2, hkP1_u, hkC8, List.map_cons, List.map_nil, List.sum_cons, List.sum_nil, hkCat_0, hkCat_1, hkCat_2, Nat.reduceAdd, Nat.reduceLeDiff, hkPush_s, hkPush_n, true_and, and_true, implies_true, true_implies, not_true_eq_false, not_false_eq_true, false_implies, hkTf_0, hkTf_n1, hkOr01, hkOr11, Int.reduceEq, Int.reduceLT, Int.reduceLE, hk102a, hk102b, hk102c, Nat.reduceEqDiff, or_true, true_or, or_false, false_or, and_false, false_and, Classical.not_not, true_implies, List.set_cons_zero, List.set_cons_succ, ne_eq]
        repeat' (first | exact hq | refine And.intro ?_ ?_ | intro _ | trivial | omega | (exfalso; omega))
      simp only [x_152_6, hkJK_66, hkP1_0, hkP1_2, hkP1_u, hkC8, List.map_cons, List.map_nil, List.sum_cons, List.sum_nil, hkCat_0, hkCat_1, hkCat_2, Nat.reduceAdd, Nat.reduceLeDiff, hkPush_s, hkPush_n, true_and, and_true, implies_true, true_implies, not_true_eq_false, not_false_eq_true, false_implies, hkTf_0, hkTf_n1, hkOr01, hkOr11, Int.reduceEq, Int.reduceLT, Int.reduceLE, hk102a, hk102b, hk102c, Nat.reduceEqDiff, or_true, true_or, or_false, false_or, and_false, false_and, Classical.not_not, true_implies, List.set_cons_zero, List.set_cons_succ, ne_eq]
      repeat' (first | exact L | refine And.intro ?_ ?_ | intro _ | trivial | omega | (exfalso; omega))
    · rw [if_neg hf] at e2
      have hn : 1 ≤ r1.1 ∧ r1.1 ≤ 0 + (r1.2.1 - pl) := by
        rcases hbd.2.2.2 with h | h
        · exact absurd h hf
        · exact h
      have L := hL k d lv w r1.2.1 op r1.1 hkU g2 r1.2.2.1 r1.2.2.2 r Q hk ho h0 h15 hw (mSt_p hS k2 P2 hf) (by omega) hbd.2.1 hn.1 (by omega) (fun h => ((P2.2.2.2 hf).2 h).2) e2 (fun v g' k' P' => hQ v g' (mKp_t k2 k') P')
      simp only [x_152_6, hkJK_66, hkP1_0, hkP1_2, hkP1_u, hkC8, List.map_cons, List.map_nil, List.sum_cons, List.sum_nil, hkCat_0, hkCat_1, hkCat_2, Nat.reduceAdd, Nat.reduceLeDiff, hkPush_s, hkPush_n, true_and, and_true, implies_true, true_implies, not_true_eq_false, not_false_eq_true, false_implies, hkTf_0, hkTf_n1, hkOr01, hkOr11, Int.reduceEq, Int.reduceLT, Int.reduceLE, hk102a, hk102b, hk102c, Nat.reduceEqDiff, or_true, true_or, or_false, false_or, and_false, false_and, Classical.not_not, true_implies, List.set_cons_zero, List.set_cons_succ, ne_eq]
      repeat' (first | exact L | refine And.intro ?_ ?_ | intro _ | trivial | omega | (exfalso; omega)))
  simp only [x_152_0, x_152_1, x_152_2, x_152_3, hkJK_66, hkP1_0, hkP1_2, hkP1_u, hkC8, List.map_cons, List.map_nil, List.sum_cons, List.sum_nil, hkCat_0, hkCat_1, hkCat_2, Nat.reduceAdd, Nat.reduceLeDiff, hkPush_s, hkPush_n, true_and, and_true, implies_true, true_implies, not_true_eq_false, not_false_eq_true, false_implies, hkTf_0, hkTf_n1, hkOr01, hkOr11, Int.reduceEq, Int.reduceLT, Int.reduceLE, hk102a, hk102b, hk102c, Nat.reduceEqDiff, or_true, true_or, or_false, false_or, and_false, false_and, Classical.not_not, true_implies, List.set_cons_zero, List.set_cons_succ, ne_eq]
  repeat' (first | exact K | refine And.intro ?_ ?_ | intro _ | trivial | omega | (exfalso; omega))
theorem mSum_s (ht : 190 ≤ t) (F60 : F ≤ 60) {f : Nat} (hPro : mPro t R N F T f) (hL : mSL t R N F T f) : mSum t R N F T (f + 1) := by
  intro k d lv w pl op g sp A r Q hk ho h0 h15 hw hS p0 pF hev hQ
  rw [ev_2] at hev
  obtain ⟨r1, e1, e2⟩ := evB_s hev
  have hbd := ev_bd f 1 pl op 0 sp A r1 (by decide) pF (fun h => absurd h (by decide)) e1
  rw [if_neg (by decide)] at hbd
  have K := hPro k d lv w pl op g sp A r1 (fun r2 t2 g2 => Xp 151 (d + 3 * k + 13 + 1) 6 [(2, 66), (0, lv), (0, w), hkU, hkU, hkU] (hkPush r2 []) t2 g2 Q) hk ho h0 (by omega) hw hS p0 pF e1 (fun v g2 k2 P2 => by
    have hv := P2.2.1
    subst hv
    by_cases hf : r1.1 = -1
    · rw [if_pos hf] at e2
      have e2 := (Option.some.inj e2).symm
      subst e2
      have hq := hQ r.1 g2 k2 P2
      have L : Xp 151 (d + 3 * k + 13 + 1) 7 [(2, 66), (0, lv), (0, w), (0, r.1), hkU, hkU] [] t g2 Q := by
        rw [x_151_7]
        simp only [x_151_8, x_151_9, hkJK_66, hkP1_0, hkP1_2, hkP1_u, hkC8, List.map_cons, List.map_nil, List.sum_cons, List.sum_nil, hkCat_0, hkCat_1, hkCat_2, Nat.reduceAdd, Nat.reduceLeDiff, hkPush_s, hkPush_n, true_and, and_true, implies_true, true_implies, not_true_eq_false, not_false_eq_true, false_implies, hkTf_0, hkTf_n1, hkOr01, hkOr11, Int.reduceEq, Int.reduceLT, Int.reduceLE, hk102a, hk102b, hk102c, Nat.reduceEqDiff, or_true, true_or, or_false, false_or, and_false, false_and, Classical.not_not, true_implies, List.set_cons_zero, List.set_cons_succ, ne_eq, x_151_98, x_151_99, hkJK_66, hkP1_0, hkP1_2, hkP1_u, hkC8, List.map_cons, List.map_nil, List.sum_cons, List.sum_nil, hkCat_0, hkCat_1, hkCat_2, Nat.reduceAdd, Nat.reduceLeDiff, hkPush_s, hkPush_n, true_and, and_true, implies_true, true_implies, not_true_eq_false, not_false_eq_true, false_implies, hkTf_0, hkTf_n1, hkOr01, hkOr11, Int.reduceEq, Int.reduceLT, Int.reduceLE, hk102a, hk102b, hk102c, Nat.reduceEqDiff, or_true, true_or, or_false, false_or, and_false, false_and, Classical.not_not, true_implies, List.set_cons_zero, List.set_cons_succ, ne_eq]
        repeat' (first | exact hq | refine And.intro ?_ ?_ | intro _ | trivial | omega | (exfalso; omega))
      simp only [x_151_6, hkJK_66, hkP1_0, hkP1_2, hkP1_u, hkC8, List.map_cons, List.map_nil, List.sum_cons, List.sum_nil, hkCat_0, hkCat_1, hkCat_2, Nat.reduceAdd, Nat.reduceLeDiff, hkPush_s, hkPush_n, true_and, and_true, implies_true, true_implies, not_true_eq_false, not_false_eq_true, false_implies, hkTf_0, hkTf_n1, hkOr01, hkOr11, Int.reduceEq, Int.reduceLT, Int.reduceLE, hk102a, hk102b, hk102c, Nat.reduceEqDiff, or_true, true_or, or_false, false_or, and_false, false_and, Classical.not_not, true_implies, List.set_cons_zero, List.set_cons_succ, ne_eq]
      repeat' (first | exact L | refine And.intro ?_ ?_ | intro _ | trivial | omega | (exfalso; omega))
    · rw [if_neg hf] at e2
      have hn : 1 ≤ r1.1 ∧ r1.1 ≤ 0 + (r1.2.1 - pl) := by
        rcases hbd.2.2.2 with h | h
        · exact absurd h hf
        · exact h
      have L := hL k d lv w r1.2.1 op r1.1 hkU hkU g2 r1.2.2.1 r1.2.2.2 r Q hk ho h0 h15 hw (mSt_p hS k2 P2 hf) (by omega) hbd.2.1 hn.1 (by omega) (fun h => ((P2.2.2.2 hf).2 h).2) e2 (fun v g' k' P' => hQ v g' (mKp_t k2 k') P')
      simp only [x_151_6, hkJK_66, hkP1_0, hkP1_2, hkP1_u, hkC8, List.map_cons, List.map_nil, List.sum_cons, List.sum_nil, hkCat_0, hkCat_1, hkCat_2, Nat.reduceAdd, Nat.reduceLeDiff, hkPush_s, hkPush_n, true_and, and_true, implies_true, true_implies, not_true_eq_false, not_false_eq_true, false_implies, hkTf_0, hkTf_n1, hkOr01, hkOr11, Int.reduceEq, Int.reduceLT, Int.reduceLE, hk102a, hk102b, hk102c, Nat.reduceEqDiff, or_true, true_or, or_false, false_or, and_false, false_and, Classical.not_not, true_implies, List.set_cons_zero, List.set_cons_succ, ne_eq]
      repeat' (first | exact L | refine And.intro ?_ ?_ | intro _ | trivial | omega | (exfalso; omega)))
  simp only [x_151_0, x_151_1, x_151_2, x_151_3, hkJK_66, hkP1_0, hkP1_2, hkP1_u, hkC8, List.map_cons, List.map_nil, List.sum_cons, List.sum_nil, hkCat_0, hkCat_1, hkCat_2, Nat.reduceAdd, Nat.reduceLeDiff, hkPush_s, hkPush_n, true_and, and_true, implies_true, true_implies, not_true_eq_false, not_false_eq_true, false_implies, hkTf_0, hkTf_n1, hkOr01, hkOr11, Int.reduceEq, Int.reduceLT, Int.reduceLE, hk102a, hk102b, hk102c, Nat.reduceEqDiff, or_true, true_or, or_false, false_or, and_false, false_and, Classical.not_not, true_implies, List.set_cons_zero, List.set_cons_succ, ne_eq]
  repeat' (first | exact K | refine And.intro ?_ ?_ | intro _ | trivial | omega | (exfalso; omega))
theorem mPL_s (ht : 190 ≤ t) (F60 : F ≤ 60) {f : Nat} (hOne : mOne t R N F T f) (hL : mPL t R N F T f) : mPL t R N F T (f + 1) := by
  intro k d lv w pl op n v4 g sp A r Q hk ho h0 h15 hw hS p0 pF n1 npl hA hev hQ
  rw [ev_3] at hev
  have h33 := hS.2.2.2.1
  have hh : ∀ (D : Nat) (Q' : Option hkV → Nat → hkG → Prop), Xp 155 D 0 [(2, 66)] [] t g Q' = Q' (some (0, hrC T F pl)) t g := fun D Q' => sx_here ht hS F60 p0
  by_cases c42 : hrC T F pl = 42
  · rw [if_pos c42] at hev
    have hpF := hrC_lt (T := T) (F := F) (p := pl) (by omega)
    obtain ⟨r1, e1, e2⟩ := evB_s hev
    have hbd := ev_bd f 0 (pl + 1) op 0 sp A r1 (by decide) (by omega) (fun h => absurd h (by decide)) e1
    rw [if_neg (by decide)] at hbd
    obtain ⟨ep, el⟩ : hkW (pl + 1) = pl + 1 ∧ hkW (lv + 1) = lv + 1 := ⟨hkW_in (by omega) (by omega), hkW_in (by omega) (by omega)⟩
    have hS1 : mSt R N F T (pl + 1) op sp w (hkSet g 66 33 (pl + 1)) := mSt_at hS
    have K := hOne k d (lv + 1) w (pl + 1) op (hkSet g 66 33 (pl + 1)) sp A r1 (fun r2 t2 g2 => Xp 152 (d + 3 * k + 12 + 1) 39 [(2, 66), (0, lv), (0, w), (0, n), v4] (hkPush r2 []) t2 g2 Q) hk ho (by clear ep el; omega) (by clear ep el; omega) hw hS1 (by clear ep el; omega) (by clear ep el; omega) e1 (fun v g2 k2 P2 => by
      have k2' : mKp (lv + 1) g g2 := mKp_t (mKp_f (by decide)) k2
      have hv := P2.2.1
      subst hv
      by_cases hf : r1.1 = -1
      · rw [if_pos hf] at e2
        have e2 := (Option.some.inj e2).symm
        subst e2
        have hq := hQ (-1) g2 (mKp_w k2' (by clear ep el; omega)) ⟨P2.1, hf.symm, P2.2.2.1, fun h => absurd hf h⟩
        clear ep el
        simp only [x_152_39, x_152_41, x_152_43, x_152_44, x_152_47, x_152_48, hkJK_66, hkP1_0, hkP1_2, hkP1_u, hkC8, List.map_cons, List.map_nil, List.sum_cons, List.sum_nil, hkCat_0, hkCat_1, hkCat_2, Nat.reduceAdd, Nat.reduceLeDiff, hkPush_s, hkPush_n, true_and, and_true, implies_true, true_implies, not_true_eq_false, not_false_eq_true, false_implies, hkTf_0, hkTf_n1, hkOr01, hkOr11, Int.reduceEq, Int.reduceLT, Int.reduceLE, hk102a, hk102b, hk102c, Nat.reduceEqDiff, or_true, true_or, or_false, false_or, and_false, false_and, Classical.not_not, true_implies, List.set_cons_zero, List.set_cons_succ, ne_eq]
        repeat' (first | exact hq | refine And.intro ?_ ?_ | intro _ | trivial | omega | (exfalso; omega))
      · rw [if_neg hf] at e2
        have hS2 := mSt_p hS1 k2 P2 hf
        have hn : 1 ≤ r1.1 ∧ r1.1 ≤ 0 + (r1.2.1 - (pl + 1)) := by
          rcases hbd.2.2.2 with h | h
          · exact absurd h hf
          · exact h
        have em : hkW (1 + max n r1.1) = 1 + max n r1.1 := hkW_in (by clear ep el; omega) (by clear ep el; omega)
        have GO : ∀ g3 : hkG, mKp lv g2 g3 → mSt R N F T r1.2.1 op (r1.2.2.1 ∨ ¬ fitsP R N A r1.2.2.2) w g3 → (w = 1 → gvec (bxC R N) (hnd g3 lv) ∧ (¬ (r1.2.2.1 ∨ ¬ fitsP R N A r1.2.2.2) → ∀ p : Int, 0 ≤ p → p < 280 → hnd g3 lv p = mprod R N A r1.2.2.2 p)) → Xp 152 (d + 3 * k + 12 + 1) 61 [(2, 66), (0, lv), (0, w), (0, n), (0, r1.1)] [] t g3 Q := by
          intro g3 k3 hS3 hA3
          have L := hL k d lv w r1.2.1 op (1 + max n r1.1) (0, r1.1) g3 _ _ r Q hk ho h0 h15 hw hS3 (by clear ep el em; omega) hbd.2.1 (by clear ep el em; omega) (by clear ep el em; omega) hA3 e2 (fun v g' k' P' => hQ v g' (mKp_t (mKp_w k2' (by clear ep el em; omega)) (mKp_t k3 k')) P')
          simp only [x_152_61, x_152_62, x_152_63, x_152_65, x_152_68, x_152_69, x_152_70, hkJK_66, hkP1_0, hkP1_2, hkP1_u, hkC8, List.map_cons, List.map_nil, List.sum_cons, List.sum_nil, hkCat_0, hkCat_1, hkCat_2, Nat.reduceAdd, Nat.reduceLeDiff, hkPush_s, hkPush_n, true_and, and_true, implies_true, true_implies, not_true_eq_false, not_false_eq_true, false_implies, hkTf_0, hkTf_n1, hkOr01, hkOr11, Int.reduceEq, Int.reduceLT, Int.reduceLE, hk102a, hk102b, hk102c, Nat.reduceEqDiff, or_true, true_or, or_false, false_or, and_false, false_and, Classical.not_not, true_implies, List.set_cons_zero, List.set_cons_succ, ne_eq, sx_max, em]
          clear ep el em
          repeat' (first | exact L | refine And.intro ?_ ?_ | intro _ | trivial | omega | (exfalso; omega))
        rcases hw with e | e
        · subst e
          have G := GO g2 mKp_r ⟨hS2.1, hS2.2.1, hS2.2.2.1, hS2.2.2.2.1, hS2.2.2.2.2.1, fun h => absurd h (by decide)⟩ (fun h => absurd h (by decide))
          clear ep el em
          simp only [x_152_39, x_152_41, x_152_43, x_152_44, x_152_47, x_152_48, x_152_49, x_152_50, hkJK_66, hkP1_0, hkP1_2, hkP1_u, hkC8, List.map_cons, List.map_nil, List.sum_cons, List.sum_nil, hkCat_0, hkCat_1, hkCat_2, Nat.reduceAdd, Nat.reduceLeDiff, hkPush_s, hkPush_n, true_and, and_true, implies_true, true_implies, not_true_eq_false, not_false_eq_true, false_implies, hkTf_0, hkTf_n1, hkOr01, hkOr11, Int.reduceEq, Int.reduceLT, Int.reduceLE, hk102a, hk102b, hk102c, Nat.reduceEqDiff, or_true, true_or, or_false, false_or, and_false, false_and, Classical.not_not, true_implies, List.set_cons_zero, List.set_cons_succ, ne_eq]
          repeat' (first | exact G | refine And.intro ?_ ?_ | intro _ | trivial | omega | (exfalso; omega))
        · subst e
          obtain ⟨gA, rA⟩ := hA rfl
          obtain ⟨q29, gB, rB⟩ := (P2.2.2.2 hf).2 rfl
          have eA : ∀ p : Int, 0 ≤ p → p < 280 → hnd g2 lv p = hnd g lv p := fun p a b => by unfold hnd; exact k2'.2.2 _ (by clear ep el em; omega)
          have gA2 : gvec (bxC R N) (hnd g2 lv) := gvec_cong (fun p a b => (eA p a b).symm) gA
          have hfe : ¬ r1.2.2.1 → (fitsP R N (hnd g2 lv) (hnd g2 (lv + 1)) ↔ fitsP R N A r1.2.2.2) := fun hs => fitsP_cong (fun p a b => by rw [eA p a b]; exact rA (fun h => hs (hbd.2.2.1 h)) p a b) (rB hs)
          have hpe : (r1.2.2.1 ∨ ¬ fitsP R N (hnd g2 lv) (hnd g2 (lv + 1))) = (r1.2.2.1 ∨ ¬ fitsP R N A r1.2.2.2) := propext (by
            by_cases hs : r1.2.2.1
            · exact ⟨fun _ => Or.inl hs, fun _ => Or.inl hs⟩
            · rw [hfe hs])
          have K3 : Xp 152 (d + 3 * k + 12 + 1) 53 [(2, 66), (0, lv), (0, 1), (0, n), (0, r1.1)] [] t g2 Q := by
            simp only [x_152_53, x_152_54, x_152_55, x_152_56, x_152_57, x_152_58, hkJK_66, hkP1_0, hkP1_2, hkP1_u, hkC8, List.map_cons, List.map_nil, List.sum_cons, List.sum_nil, hkCat_0, hkCat_1, hkCat_2, Nat.reduceAdd, Nat.reduceLeDiff, hkPush_s, hkPush_n, true_and, and_true, implies_true, true_implies, not_true_eq_false, not_false_eq_true, false_implies, hkTf_0, hkTf_n1, hkOr01, hkOr11, Int.reduceEq, Int.reduceLT, Int.reduceLE, hk102a, hk102b, hk102c, Nat.reduceEqDiff, or_true, true_or, or_false, false_or, and_false, false_and, Classical.not_not, true_implies, List.set_cons_zero, List.set_cons_succ, ne_eq, el]
            refine sx_mmultiplies (d := d + 3 * k) ht hS2.1 (to := lv) (ot := lv + 1) (A := hnd g2 lv) (B := hnd g2 (lv + 1)) (P := r1.2.2.1) h0 (by clear ep el em; omega) (by clear ep el em; omega) (by clear ep el em; omega) gA2 gB (fun _ _ _ => rfl) (fun _ _ _ => rfl) q29 (fun g3 m1 hb3 m2 m3 m4 => ?_)
            rw [hpe] at m2 m3 m4
            refine GO g3 (mKp_h m1) ⟨hb3, by rw [m1.2.1 32 (by decide)]; exact hS2.2.1, fun x x0 x1 => by rw [m1.1 85 (by decide)]; exact hS2.2.2.1 x x0 x1, by rw [m1.2.1 33 (by decide)]; exact hS2.2.2.2.1, by rw [m1.2.1 34 (by decide)]; exact hS2.2.2.2.2.1, fun _ => m2⟩ (fun _ => ?_)
            by_cases hs : r1.2.2.1 ∨ ¬ fitsP R N A r1.2.2.2
            · exact ⟨fun p a b => by have := m3 hs p a b; unfold hnd; rw [this]; exact ⟨⟨by decide, by decide⟩, fun _ => rfl⟩, fun h => absurd hs h⟩
            · have hs1 : ¬ r1.2.2.1 := fun h => hs (Or.inl h)
              have hs2 : fitsP R N A r1.2.2.2 := Classical.byContradiction (fun h => hs (Or.inr h))
              have hmp : ∀ p : Int, 0 ≤ p → p < 280 → hnd g3 lv p = mprod R N A r1.2.2.2 p := fun p a b => by
                have := m4 hs p a b
                unfold hnd
                rw [this]
                exact mprod_cong (fun p a b => by rw [eA p a b]; exact rA (fun h => hs1 (hbd.2.2.1 h)) p a b) (rB hs1)
              exact ⟨gvec_cong (fun p a b => (hmp p a b).symm) (fits_gvec hs2), fun _ => hmp⟩
          clear ep el em
          simp only [x_152_39, x_152_41, x_152_43, x_152_44, x_152_47, x_152_48, x_152_49, x_152_50, hkJK_66, hkP1_0, hkP1_2, hkP1_u, hkC8, List.map_cons, List.map_nil, List.sum_cons, List.sum_nil, hkCat_0, hkCat_1, hkCat_2, Nat.reduceAdd, Nat.reduceLeDiff, hkPush_s, hkPush_n, true_and, and_true, implies_true, true_implies, not_true_eq_false, not_false_eq_true, false_implies, hkTf_0, hkTf_n1, hkOr01, hkOr11, Int.reduceEq, Int.reduceLT, Int.reduceLE, hk102a, hk102b, hk102c, Nat.reduceEqDiff, or_true, true_or, or_false, false_or, and_false, false_and, Classical.not_not, true_implies, List.set_cons_zero, List.set_cons_succ, ne_eq]
          repeat' (first | exact K3 | refine And.intro ?_ ?_ | intro _ | trivial | omega | (exfalso; omega)))
    rw [x_152_7]
    simp only [x_152_8, x_152_9, x_152_12, x_152_13, x_152_16, x_152_18, x_152_21, x_152_22, x_152_23, x_152_26, x_152_27, x_152_28, x_152_31, x_152_32, x_152_33, x_152_34, x_152_35, x_152_36, hkJK_66, hkP1_0, hkP1_2, hkP1_u, hkC8, List.map_cons, List.map_nil, List.sum_cons, List.sum_nil, hkCat_0, hkCat_1, hkCat_2, Nat.reduceAdd, Nat.reduceLeDiff, hkPush_s, hkPush_n, true_and, and_true, implies_true, true_implies, not_true_eq_false, not_false_eq_true, false_implies, hkTf_0, hkTf_n1, hkOr01, hkOr11, Int.reduceEq, Int.reduceLT, Int.reduceLE, hk102a, hk102b, hk102c, Nat.reduceEqDiff, or_true, true_or, or_false, false_or, and_false, false_and, Classical.not_not, true_implies, List.set_cons_zero, List.set_cons_succ, ne_eq, hh, c42, h33, ep, el]
    clear ep el
    repeat' (first | exact K | refine And.intro ?_ ?_ | intro _ | trivial | omega | (exfalso; omega))
  · rw [if_neg c42] at hev
    have hev := (Option.some.inj hev).symm
    subst hev
    have hq := hQ n g mKp_r ⟨hS.1, rfl, h33, fun _ => ⟨hS.2.2.2.2.1, fun h => ⟨hS.2.2.2.2.2 h, hA h⟩⟩⟩
    rw [x_152_7]
    simp only [x_152_8, x_152_9, x_152_12, x_152_13, x_152_16, x_152_18, hkJK_66, hkP1_0, hkP1_2, hkP1_u, hkC8, List.map_cons, List.map_nil, List.sum_cons, List.sum_nil, hkCat_0, hkCat_1, hkCat_2, Nat.reduceAdd, Nat.reduceLeDiff, hkPush_s, hkPush_n, true_and, and_true, implies_true, true_implies, not_true_eq_false, not_false_eq_true, false_implies, hkTf_0, hkTf_n1, hkOr01, hkOr11, Int.reduceEq, Int.reduceLT, Int.reduceLE, hk102a, hk102b, hk102c, Nat.reduceEqDiff, or_true, true_or, or_false, false_or, and_false, false_and, Classical.not_not, true_implies, List.set_cons_zero, List.set_cons_succ, ne_eq, x_152_73, x_152_74, hkJK_66, hkP1_0, hkP1_2, hkP1_u, hkC8, List.map_cons, List.map_nil, List.sum_cons, List.sum_nil, hkCat_0, hkCat_1, hkCat_2, Nat.reduceAdd, Nat.reduceLeDiff, hkPush_s, hkPush_n, true_and, and_true, implies_true, true_implies, not_true_eq_false, not_false_eq_true, false_implies, hkTf_0, hkTf_n1, hkOr01, hkOr11, Int.reduceEq, Int.reduceLT, Int.reduceLE, hk102a, hk102b, hk102c, Nat.reduceEqDiff, or_true, true_or, or_false, false_or, and_false, false_and, Classical.not_not, true_implies, List.set_cons_zero, List.set_cons_succ, ne_eq, hh]
    repeat' (first | exact hq | refine And.intro ?_ ?_ | intro _ | trivial | omega | (exfalso; omega))
theorem mSL_s (ht : 190 ≤ t) (F60 : F ≤ 60) {f : Nat} (hPro : mPro t R N F T f) (hL : mSL t R N F T f) : mSL t R N F T (f + 1) := by
  intro k d lv w pl op n v4 v5 g sp A r Q hk ho h0 h15 hw hS p0 pF n1 npl hA hev hQ
  rw [ev_4] at hev
  have h33 := hS.2.2.2.1
  have hh : ∀ (D : Nat) (Q' : Option hkV → Nat → hkG → Prop), Xp 155 D 0 [(2, 66)] [] t g Q' = Q' (some (0, hrC T F pl)) t g := fun D Q' => sx_here ht hS F60 p0
  by_cases cpm : hrC T F pl = 43 ∨ hrC T F pl = 45
  · rw [if_pos cpm] at hev
    have hpF := hrC_lt (T := T) (F := F) (p := pl) (by omega)
    obtain ⟨sg, hsg⟩ : ∃ sg : Int, sg = if hrC T F pl = 43 then 1 else -1 := ⟨_, rfl⟩
    have hsg1 : sg = 1 ∨ sg = -1 := by rw [hsg]; split; exact Or.inl rfl; exact Or.inr rfl
    rw [← hsg] at hev
    have HD : Xp 151 (d + 3 * k + 13 + 1) 46 [(2, 66), (0, lv), (0, w), (0, n), (0, sg), v5] [] t g Q → Xp 151 (d + 3 * k + 13 + 1) 7 [(2, 66), (0, lv), (0, w), (0, n), v4, v5] [] t g Q := by
      intro hx
      rw [x_151_7]
      by_cases c43 : hrC T F pl = 43
      · rw [if_pos c43] at hsg
        subst hsg
        simp only [x_151_8, x_151_9, x_151_12, x_151_13, x_151_16, x_151_18, x_151_21, x_151_22, x_151_25, x_151_27, x_151_30, x_151_31, x_151_34, x_151_36, x_151_39, x_151_40, x_151_43, x_151_44, hkJK_66, hkP1_0, hkP1_2, hkP1_u, hkC8, List.map_cons, List.map_nil, List.sum_cons, List.sum_nil, hkCat_0, hkCat_1, hkCat_2, Nat.reduceAdd, Nat.reduceLeDiff, hkPush_s, hkPush_n, true_and, and_true, implies_true, true_implies, not_true_eq_false, not_false_eq_true, false_implies, hkTf_0, hkTf_n1, hkOr01, hkOr11, Int.reduceEq, Int.reduceLT, Int.reduceLE, hk102a, hk102b, hk102c, Nat.reduceEqDiff, or_true, true_or, or_false, false_or, and_false, false_and, Classical.not_not, true_implies, List.set_cons_zero, List.set_cons_succ, ne_eq, hh, c43]
        repeat' (first | exact hx | refine And.intro ?_ ?_ | intro _ | trivial | omega | (exfalso; omega))
      · rw [if_neg c43] at hsg
        subst hsg
        have c45 : hrC T F pl = 45 := by omega
        simp only [x_151_8, x_151_9, x_151_12, x_151_13, x_151_16, x_151_18, x_151_21, x_151_22, x_151_25, x_151_27, x_151_30, x_151_31, x_151_34, x_151_36, x_151_39, x_151_40, x_151_43, x_151_44, hkJK_66, hkP1_0, hkP1_2, hkP1_u, hkC8, List.map_cons, List.map_nil, List.sum_cons, List.sum_nil, hkCat_0, hkCat_1, hkCat_2, Nat.reduceAdd, Nat.reduceLeDiff, hkPush_s, hkPush_n, true_and, and_true, implies_true, true_implies, not_true_eq_false, not_false_eq_true, false_implies, hkTf_0, hkTf_n1, hkOr01, hkOr11, Int.reduceEq, Int.reduceLT, Int.reduceLE, hk102a, hk102b, hk102c, Nat.reduceEqDiff, or_true, true_or, or_false, false_or, and_false, false_and, Classical.not_not, true_implies, List.set_cons_zero, List.set_cons_succ, ne_eq, hh, c45]
        repeat' (first | exact hx | refine And.intro ?_ ?_ | intro _ | trivial | omega | (exfalso; omega))
    refine HD ?_
    obtain ⟨r1, e1, e2⟩ := evB_s hev
    have hbd := ev_bd f 1 (pl + 1) op 0 sp A r1 (by decide) (by omega) (fun h => absurd h (by decide)) e1
    rw [if_neg (by decide)] at hbd
    obtain ⟨ep, el⟩ : hkW (pl + 1) = pl + 1 ∧ hkW (lv + 1) = lv + 1 := ⟨hkW_in (by omega) (by omega), hkW_in (by omega) (by omega)⟩
    have hS1 : mSt R N F T (pl + 1) op sp w (hkSet g 66 33 (pl + 1)) := mSt_at hS
    have K := hPro k d (lv + 1) w (pl + 1) op (hkSet g 66 33 (pl + 1)) sp A r1 (fun r2 t2 g2 => Xp 151 (d + 3 * k + 13 + 1) 64 [(2, 66), (0, lv), (0, w), (0, n), (0, sg), v5] (hkPush r2 []) t2 g2 Q) hk ho (by clear ep el; omega) (by clear ep el; omega) hw hS1 (by clear ep el; omega) (by clear ep el; omega) e1 (fun v g2 k2 P2 => by
      have k2' : mKp (lv + 1) g g2 := mKp_t (mKp_f (by decide)) k2
      have hv := P2.2.1
      subst hv
      by_cases hf : r1.1 = -1
      · rw [if_pos hf] at e2
        have e2 := (Option.some.inj e2).symm
        subst e2
        have hq := hQ (-1) g2 (mKp_w k2' (by clear ep el; omega)) ⟨P2.1, hf.symm, P2.2.2.1, fun h => absurd hf h⟩
        clear ep el
        simp only [x_151_64, x_151_66, x_151_68, x_151_69, x_151_72, x_151_73, hkJK_66, hkP1_0, hkP1_2, hkP1_u, hkC8, List.map_cons, List.map_nil, List.sum_cons, List.sum_nil, hkCat_0, hkCat_1, hkCat_2, Nat.reduceAdd, Nat.reduceLeDiff, hkPush_s, hkPush_n, true_and, and_true, implies_true, true_implies, not_true_eq_false, not_false_eq_true, false_implies, hkTf_0, hkTf_n1, hkOr01, hkOr11, Int.reduceEq, Int.reduceLT, Int.reduceLE, hk102a, hk102b, hk102c, Nat.reduceEqDiff, or_true, true_or, or_false, false_or, and_false, false_and, Classical.not_not, true_implies, List.set_cons_zero, List.set_cons_succ, ne_eq]
        repeat' (first | exact hq | refine And.intro ?_ ?_ | intro _ | trivial | omega | (exfalso; omega))
      · rw [if_neg hf] at e2
        have hS2 := mSt_p hS1 k2 P2 hf
        have hn : 1 ≤ r1.1 ∧ r1.1 ≤ 0 + (r1.2.1 - (pl + 1)) := by
          rcases hbd.2.2.2 with h | h
          · exact absurd h hf
          · exact h
        obtain ⟨em1, em⟩ : hkW (1 + n) = 1 + n ∧ hkW (1 + n + r1.1) = 1 + n + r1.1 := ⟨hkW_in (by clear ep el; omega) (by clear ep el; omega), hkW_in (by clear ep el; omega) (by clear ep el; omega)⟩
        have GO : ∀ g3 : hkG, mKp lv g2 g3 → mSt R N F T r1.2.1 op (r1.2.2.1 ∨ ¬ addP A r1.2.2.2 sg) w g3 → (w = 1 → gvec (bxC R N) (hnd g3 lv) ∧ (¬ (r1.2.2.1 ∨ ¬ addP A r1.2.2.2 sg) → ∀ p : Int, 0 ≤ p → p < 280 → hnd g3 lv p = A p + sg * r1.2.2.2 p)) → Xp 151 (d + 3 * k + 13 + 1) 88 [(2, 66), (0, lv), (0, w), (0, n), (0, sg), (0, r1.1)] [] t g3 Q := by
          intro g3 k3 hS3 hA3
          have L := hL k d lv w r1.2.1 op (1 + n + r1.1) (0, sg) (0, r1.1) g3 _ _ r Q hk ho h0 h15 hw hS3 (by clear ep el em em1; omega) hbd.2.1 (by clear ep el em em1; omega) (by clear ep el em em1; omega) hA3 e2 (fun v g' k' P' => hQ v g' (mKp_t (mKp_w k2' (by clear ep el em em1; omega)) (mKp_t k3 k')) P')
          simp only [x_151_88, x_151_89, x_151_90, x_151_91, x_151_93, x_151_94, x_151_95, hkJK_66, hkP1_0, hkP1_2, hkP1_u, hkC8, List.map_cons, List.map_nil, List.sum_cons, List.sum_nil, hkCat_0, hkCat_1, hkCat_2, Nat.reduceAdd, Nat.reduceLeDiff, hkPush_s, hkPush_n, true_and, and_true, implies_true, true_implies, not_true_eq_false, not_false_eq_true, false_implies, hkTf_0, hkTf_n1, hkOr01, hkOr11, Int.reduceEq, Int.reduceLT, Int.reduceLE, hk102a, hk102b, hk102c, Nat.reduceEqDiff, or_true, true_or, or_false, false_or, and_false, false_and, Classical.not_not, true_implies, List.set_cons_zero, List.set_cons_succ, ne_eq, em1, em]
          clear ep el em em1
          repeat' (first | exact L | refine And.intro ?_ ?_ | intro _ | trivial | omega | (exfalso; omega))
        rcases hw with e | e
        · subst e
          have G := GO g2 mKp_r ⟨hS2.1, hS2.2.1, hS2.2.2.1, hS2.2.2.2.1, hS2.2.2.2.2.1, fun h => absurd h (by decide)⟩ (fun h => absurd h (by decide))
          clear ep el em em1
          simp only [x_151_64, x_151_66, x_151_68, x_151_69, x_151_72, x_151_73, x_151_74, x_151_75, hkJK_66, hkP1_0, hkP1_2, hkP1_u, hkC8, List.map_cons, List.map_nil, List.sum_cons, List.sum_nil, hkCat_0, hkCat_1, hkCat_2, Nat.reduceAdd, Nat.reduceLeDiff, hkPush_s, hkPush_n, true_and, and_true, implies_true, true_implies, not_true_eq_false, not_false_eq_true, false_implies, hkTf_0, hkTf_n1, hkOr01, hkOr11, Int.reduceEq, Int.reduceLT, Int.reduceLE, hk102a, hk102b, hk102c, Nat.reduceEqDiff, or_true, true_or, or_false, false_or, and_false, false_and, Classical.not_not, true_implies, List.set_cons_zero, List.set_cons_succ, ne_eq]
          repeat' (first | exact G | refine And.intro ?_ ?_ | intro _ | trivial | omega | (exfalso; omega))
        · subst e
          obtain ⟨gA, rA⟩ := hA rfl
          obtain ⟨q29, gB, rB⟩ := (P2.2.2.2 hf).2 rfl
          have eA : ∀ p : Int, 0 ≤ p → p < 280 → hnd g2 lv p = hnd g lv p := fun p a b => by unfold hnd; exact k2'.2.2 _ (by clear ep el em em1; omega)
          have gA2 : gvec (bxC R N) (hnd g2 lv) := gvec_cong (fun p a b => (eA p a b).symm) gA
          have hfe : ¬ r1.2.2.1 → (addP (hnd g2 lv) (hnd g2 (lv + 1)) sg ↔ addP A r1.2.2.2 sg) := fun hs => addP_cong (fun p a b => by rw [eA p a b]; exact rA (fun h => hs (hbd.2.2.1 h)) p a b) (rB hs)
          have hpe : (r1.2.2.1 ∨ ¬ addP (hnd g2 lv) (hnd g2 (lv + 1)) sg) = (r1.2.2.1 ∨ ¬ addP A r1.2.2.2 sg) := propext (by
            by_cases hs : r1.2.2.1
            · exact ⟨fun _ => Or.inl hs, fun _ => Or.inl hs⟩
            · rw [hfe hs])
          have K3 : Xp 151 (d + 3 * k + 13 + 1) 78 [(2, 66), (0, lv), (0, 1), (0, n), (0, sg), (0, r1.1)] [] t g2 Q := by
            simp only [x_151_78, x_151_79, x_151_80, x_151_81, x_151_82, x_151_83, x_151_85, hkJK_66, hkP1_0, hkP1_2, hkP1_u, hkC8, List.map_cons, List.map_nil, List.sum_cons, List.sum_nil, hkCat_0, hkCat_1, hkCat_2, Nat.reduceAdd, Nat.reduceLeDiff, hkPush_s, hkPush_n, true_and, and_true, implies_true, true_implies, not_true_eq_false, not_false_eq_true, false_implies, hkTf_0, hkTf_n1, hkOr01, hkOr11, Int.reduceEq, Int.reduceLT, Int.reduceLE, hk102a, hk102b, hk102c, Nat.reduceEqDiff, or_true, true_or, or_false, false_or, and_false, false_and, Classical.not_not, true_implies, List.set_cons_zero, List.set_cons_succ, ne_eq, el]
            refine sx_madds (d := d + 3 * k + 11) ht (R := R) (N := N) (to := lv) (ot := lv + 1) (by' := sg) (A := hnd g2 lv) (B := hnd g2 (lv + 1)) (P := r1.2.2.1) h0 (by clear ep el em em1; omega) (by clear ep el em em1; omega) (by clear ep el em em1; omega) hsg1 (fun p a b => ⟨rfl, (gA2 p a b).1⟩) (fun p a b => ⟨rfl, (gB p a b).1⟩) hS2.1 q29 (fun g3 m1 hb3 m2 m3 m4 => ?_)
            rw [hpe] at m2 m3 m4
            refine GO g3 (mKp_h m1) ⟨hb3, by rw [m1.2.1 32 (by decide)]; exact hS2.2.1, fun x x0 x1 => by rw [m1.1 85 (by decide)]; exact hS2.2.2.1 x x0 x1, by rw [m1.2.1 33 (by decide)]; exact hS2.2.2.2.1, by rw [m1.2.1 34 (by decide)]; exact hS2.2.2.2.2.1, fun _ => m2⟩ (fun _ => ?_)
            by_cases hs : r1.2.2.1 ∨ ¬ addP A r1.2.2.2 sg
            · exact ⟨fun p a b => by have := m3 hs p a b; unfold hnd; rw [this]; exact ⟨⟨by decide, by decide⟩, fun _ => rfl⟩, fun h => absurd hs h⟩
            · have hs1 : ¬ r1.2.2.1 := fun h => hs (Or.inl h)
              have hs2 : addP A r1.2.2.2 sg := Classical.byContradiction (fun h => hs (Or.inr h))
              have hmp : ∀ p : Int, 0 ≤ p → p < 280 → hnd g3 lv p = hnd g2 lv p + sg * hnd g2 (lv + 1) p := fun p a b => m4 hs p a b
              have hmq : ∀ p : Int, 0 ≤ p → p < 280 → hnd g3 lv p = A p + sg * r1.2.2.2 p := fun p a b => by rw [hmp p a b, eA p a b, rA (fun h => hs1 (hbd.2.2.1 h)) p a b, rB hs1 p a b]
              exact ⟨gvec_cong (fun p a b => (hmp p a b).symm) (addP_gvec ((hfe hs1).2 hs2) gA2 gB), fun _ => hmq⟩
          clear ep el em em1
          simp only [x_151_64, x_151_66, x_151_68, x_151_69, x_151_72, x_151_73, x_151_74, x_151_75, hkJK_66, hkP1_0, hkP1_2, hkP1_u, hkC8, List.map_cons, List.map_nil, List.sum_cons, List.sum_nil, hkCat_0, hkCat_1, hkCat_2, Nat.reduceAdd, Nat.reduceLeDiff, hkPush_s, hkPush_n, true_and, and_true, implies_true, true_implies, not_true_eq_false, not_false_eq_true, false_implies, hkTf_0, hkTf_n1, hkOr01, hkOr11, Int.reduceEq, Int.reduceLT, Int.reduceLE, hk102a, hk102b, hk102c, Nat.reduceEqDiff, or_true, true_or, or_false, false_or, and_false, false_and, Classical.not_not, true_implies, List.set_cons_zero, List.set_cons_succ, ne_eq]
          repeat' (first | exact K3 | refine And.intro ?_ ?_ | intro _ | trivial | omega | (exfalso; omega)))
    simp only [x_151_46, x_151_47, x_151_48, x_151_51, x_151_52, x_151_53, x_151_56, x_151_57, x_151_58, x_151_59, x_151_60, x_151_61, hkJK_66, hkP1_0, hkP1_2, hkP1_u, hkC8, List.map_cons, List.map_nil, List.sum_cons, List.sum_nil, hkCat_0, hkCat_1, hkCat_2, Nat.reduceAdd, Nat.reduceLeDiff, hkPush_s, hkPush_n, true_and, and_true, implies_true, true_implies, not_true_eq_false, not_false_eq_true, false_implies, hkTf_0, hkTf_n1, hkOr01, hkOr11, Int.reduceEq, Int.reduceLT, Int.reduceLE, hk102a, hk102b, hk102c, Nat.reduceEqDiff, or_true, true_or, or_false, false_or, and_false, false_and, Classical.not_not, true_implies, List.set_cons_zero, List.set_cons_succ, ne_eq, h33, ep, el]
    clear ep el
    repeat' (first | exact K | refine And.intro ?_ ?_ | intro _ | trivial | omega | (exfalso; omega))
  · rw [if_neg cpm] at hev
    have hev := (Option.some.inj hev).symm
    subst hev
    have hq := hQ n g mKp_r ⟨hS.1, rfl, h33, fun _ => ⟨hS.2.2.2.2.1, fun h => ⟨hS.2.2.2.2.2 h, hA h⟩⟩⟩
    rw [x_151_7]
    simp only [x_151_8, x_151_9, x_151_12, x_151_13, x_151_16, x_151_18, x_151_21, x_151_22, x_151_25, x_151_27, hkJK_66, hkP1_0, hkP1_2, hkP1_u, hkC8, List.map_cons, List.map_nil, List.sum_cons, List.sum_nil, hkCat_0, hkCat_1, hkCat_2, Nat.reduceAdd, Nat.reduceLeDiff, hkPush_s, hkPush_n, true_and, and_true, implies_true, true_implies, not_true_eq_false, not_false_eq_true, false_implies, hkTf_0, hkTf_n1, hkOr01, hkOr11, Int.reduceEq, Int.reduceLT, Int.reduceLE, hk102a, hk102b, hk102c, Nat.reduceEqDiff, or_true, true_or, or_false, false_or, and_false, false_and, Classical.not_not, true_implies, List.set_cons_zero, List.set_cons_succ, ne_eq, x_151_98, x_151_99, hkJK_66, hkP1_0, hkP1_2, hkP1_u, hkC8, List.map_cons, List.map_nil, List.sum_cons, List.sum_nil, hkCat_0, hkCat_1, hkCat_2, Nat.reduceAdd, Nat.reduceLeDiff, hkPush_s, hkPush_n, true_and, and_true, implies_true, true_implies, not_true_eq_false, not_false_eq_true, false_implies, hkTf_0, hkTf_n1, hkOr01, hkOr11, Int.reduceEq, Int.reduceLT, Int.reduceLE, hk102a, hk102b, hk102c, Nat.reduceEqDiff, or_true, true_or, or_false, false_or, and_false, false_and, Classical.not_not, true_implies, List.set_cons_zero, List.set_cons_succ, ne_eq, hh]
    repeat' (first | exact hq | refine And.intro ?_ ?_ | intro _ | trivial | omega | (exfalso; omega))
theorem m_all (ht : 190 ≤ t) (F60 : F ≤ 60) : ∀ f : Nat, mOne t R N F T f ∧ mPro t R N F T f ∧ mSum t R N F T f ∧ mPL t R N F T f ∧ mSL t R N F T f := by
  intro f
  induction f with
  | zero =>
    refine ⟨fun k d lv w pl op g sp A r Q _ _ _ _ _ _ _ _ hev => ?_, fun k d lv w pl op g sp A r Q _ _ _ _ _ _ _ _ hev => ?_, fun k d lv w pl op g sp A r Q _ _ _ _ _ _ _ _ hev => ?_, fun k d lv w pl op n v4 g sp A r Q _ _ _ _ _ _ _ _ _ _ _ hev => ?_, fun k d lv w pl op n v4 v5 g sp A r Q _ _ _ _ _ _ _ _ _ _ _ hev => ?_⟩
    all_goals (have h' : (none : Option evT) = some r := hev; cases h')
  | succ f ih =>
    obtain ⟨i1, i2, i3, i4, i5⟩ := ih
    exact ⟨mOne_s ht F60 i3, mPro_s ht F60 i1 i4, mSum_s ht F60 i2 i5, mPL_s ht F60 i1 i4, mSL_s ht F60 i2 i5⟩
end SP
