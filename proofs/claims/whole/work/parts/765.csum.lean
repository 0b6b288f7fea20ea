/-! the class reads a sum -/
section SP
variable {t : Nat} {R N F : Int} {T : Int → Int}
theorem cSum_s (ht : 190 ≤ t) (F60 : F ≤ 60) {f : Nat} (hPro : cPro t R N F T f) (hL : cSL t R N F T f) : cSum t R N F T (f + 1) := by
  intro k d lv pl g sp A r Q hk h0 hS p0 pF hev hQ
  rw [ev_2] at hev
  obtain ⟨r1, e1, e2⟩ := evB_s hev
  have hbd := ev_bd f 1 pl lv 0 sp A r1 (by decide) pF (fun h => absurd h (by decide)) e1
  rw [if_neg (by decide)] at hbd
  obtain ⟨a1, a2⟩ := rd_f (l := lv) ht (by omega) (by omega)
  obtain ⟨b1, b2⟩ := rs_f (l := lv) ht (by omega) (by omega)
  have hsm := sm_t (l := lv) (by omega) (by omega)
  have hsd : smOk (40 + 2 * lv) (41 + 2 * lv) := by
    have h := sm_t (l := lv + 6) (by omega) (by omega)
    rw [show 28 + 2 * (lv + 6) = 40 + 2 * lv from by omega, show 29 + 2 * (lv + 6) = 41 + 2 * lv from by omega] at h
    exact h
  have K := hPro k d lv pl g sp A r1 (fun r2 t2 g2 => Xp 77 (d + 4 * k + 10 + 1) 5 [(2, 24), (0, lv), hkU, hkU, hkU] (hkPush r2 []) t2 g2 Q) hk h0 hS p0 pF e1 (fun v g2 k2 P2 => by
    have kq : ∀ q : Int, q ≠ 29 + 2 * lv → hkCpy g2 (41 + 2 * lv) 0 (29 + 2 * lv) 0 280 q = g2 q := fun q hq => hkCpy_row hq
    have kr : ∀ p : Int, 0 ≤ p → p < 280 → hkCpy g2 (41 + 2 * lv) 0 (29 + 2 * lv) 0 280 (29 + 2 * lv) p = g2 (41 + 2 * lv) p := fun p q0 q1 => by rw [hkCpy_in q0 (by omega)]; congr 1; omega
    have STP : Xp 77 (d + 4 * k + 10 + 1) 23 [(2, 24), (0, lv), (0, v), (0, 0), hkU] [] t (hkCpy g2 (41 + 2 * lv) 0 (29 + 2 * lv) 0 280) Q → Xp 77 (d + 4 * k + 10 + 1) 5 [(2, 24), (0, lv), hkU, hkU, hkU] (hkPush (some (0, v)) []) t g2 Q := by
      intro hx
      simp only [x_77_5, x_77_6, x_77_7, x_77_10, x_77_11, x_77_12, x_77_13, x_77_16, x_77_17, x_77_18, x_77_21, x_77_22, hkJK_24, hkJK_25, hkJK_26, jA_24_4, jA_24_5, jL_25, jL_26, jR_24_4, jR_24_5, hkP1_0, hkP1_2, hkP1_u, hkC8, List.map_cons, List.map_nil, List.sum_cons, List.sum_nil, hkCat_0, hkCat_1, hkCat_2, Nat.reduceAdd, Nat.reduceLeDiff, hkPush_s, hkPush_n, true_and, and_true, implies_true, true_implies, not_true_eq_false, not_false_eq_true, false_implies, hkTf_0, hkTf_n1, hkOr01, hkOr11, Int.reduceEq, Int.reduceLT, Int.reduceLE, hk102a, hk102b, hk102c, Nat.reduceEqDiff, or_true, true_or, or_false, false_or, and_false, false_and, Classical.not_not, true_implies, List.set_cons_zero, List.set_cons_succ, ne_eq, hkLe_t ht, hkJK_25, jL_25, hkJK_26, jL_26, a1, a2, b1, b2, hsm.2.1, hsd.2.1, sx_sbec ht hsm hsd]
      repeat' (first | exact hx | refine And.intro ?_ ?_ | intro _ | trivial | omega | (exfalso; omega))
    refine STP ?_
    generalize hkCpy g2 (41 + 2 * lv) 0 (29 + 2 * lv) 0 280 = g3 at kq kr
    have k23 : cKp (lv - 1) (lv - 1) g2 g3 := cKp_q (q1 := 29 + 2 * lv) (fun q q1 q2 => kq q q2) (fun k hk => by rw [kq 24 (by omega)]) (by omega) (fun l l0 l1 => by omega) (fun l l0 l1 => by omega)
    have k3 : cKp (lv - 1) (lv - 1) g g3 := cKp_t (cKp_w k2 (by omega) (by omega)) k23
    have hb3 : RB g3 R N := RB_c P2.1 (fun q hq => kq q (by omega))
    by_cases hf : r1.1 = -1
    · rw [if_pos hf] at e2
      have e2 := (Option.some.inj e2).symm
      subst e2
      have h22 : g3 24 2 = r.2.1 := by
        rw [kq 24 (by omega)]
        rcases P2.2 with h | h
        · exact h.2
        · exact absurd hf h.1
      have hne : g3 24 2 ≠ -1 := by rw [h22]; omega
      have hq := hQ v g3 k3 ⟨hb3, Or.inl ⟨hf, h22⟩⟩
      rw [x_77_23]
      simp only [x_77_24, x_77_26, x_77_29, x_77_30, x_77_32, x_77_35, x_77_38, x_77_39, x_77_41, x_77_44, hkJK_24, hkJK_25, hkJK_26, jA_24_4, jA_24_5, jL_25, jL_26, jR_24_4, jR_24_5, hkP1_0, hkP1_2, hkP1_u, hkC8, List.map_cons, List.map_nil, List.sum_cons, List.sum_nil, hkCat_0, hkCat_1, hkCat_2, Nat.reduceAdd, Nat.reduceLeDiff, hkPush_s, hkPush_n, true_and, and_true, implies_true, true_implies, not_true_eq_false, not_false_eq_true, false_implies, hkTf_0, hkTf_n1, hkOr01, hkOr11, Int.reduceEq, Int.reduceLT, Int.reduceLE, hk102a, hk102b, hk102c, Nat.reduceEqDiff, or_true, true_or, or_false, false_or, and_false, false_and, Classical.not_not, true_implies, List.set_cons_zero, List.set_cons_succ, ne_eq, x_77_125, x_77_126, hkJK_24, hkJK_25, hkJK_26, jA_24_4, jA_24_5, jL_25, jL_26, jR_24_4, jR_24_5, hkP1_0, hkP1_2, hkP1_u, hkC8, List.map_cons, List.map_nil, List.sum_cons, List.sum_nil, hkCat_0, hkCat_1, hkCat_2, Nat.reduceAdd, Nat.reduceLeDiff, hkPush_s, hkPush_n, true_and, and_true, implies_true, true_implies, not_true_eq_false, not_false_eq_true, false_implies, hkTf_0, hkTf_n1, hkOr01, hkOr11, Int.reduceEq, Int.reduceLT, Int.reduceLE, hk102a, hk102b, hk102c, Nat.reduceEqDiff, or_true, true_or, or_false, false_or, and_false, false_and, Classical.not_not, true_implies, List.set_cons_zero, List.set_cons_succ, ne_eq, sx_seesF hne]
      repeat' (first | exact hq | refine And.intro ?_ ?_ | intro _ | trivial | omega | (exfalso; omega))
    · rw [if_neg hf] at e2
      obtain ⟨hS2, hv, hvec⟩ := cSt_p hS k2 P2 hf
      subst hv
      have hS3 : cSt R N F T r1.2.1 r1.2.2.1 g3 := cSt_k hS2 (fun q hq => kq q (by omega))
      have hn : 1 ≤ r1.1 ∧ r1.1 ≤ 0 + (r1.2.1 - pl) := by
        rcases hbd.2.2.2 with h | h
        · exact absurd h hf
        · exact h
      exact hL k d lv r1.2.1 r1.1 0 hkU g3 r1.2.2.1 r1.2.2.2 r Q hk h0 hS3 (by decide) (by omega) hbd.2.1 hn.1 (by omega) (fun h => ⟨(hvec h).1, fun p q0 q1 => by rw [kr p q0 q1]; exact (hvec h).2 p q0 q1⟩) e2 (fun v g' k' P' => hQ v g' (cKp_t k3 k') P'))
  simp only [x_77_0, x_77_1, x_77_2, hkJK_24, hkJK_25, hkJK_26, jA_24_4, jA_24_5, jL_25, jL_26, jR_24_4, jR_24_5, hkP1_0, hkP1_2, hkP1_u, hkC8, List.map_cons, List.map_nil, List.sum_cons, List.sum_nil, hkCat_0, hkCat_1, hkCat_2, Nat.reduceAdd, Nat.reduceLeDiff, hkPush_s, hkPush_n, true_and, and_true, implies_true, true_implies, not_true_eq_false, not_false_eq_true, false_implies, hkTf_0, hkTf_n1, hkOr01, hkOr11, Int.reduceEq, Int.reduceLT, Int.reduceLE, hk102a, hk102b, hk102c, Nat.reduceEqDiff, or_true, true_or, or_false, false_or, and_false, false_and, Classical.not_not, true_implies, List.set_cons_zero, List.set_cons_succ, ne_eq]
  repeat' (first | exact K | refine And.intro ?_ ?_ | intro _ | trivial | omega | (exfalso; omega))
theorem addP_cong {A A' B B' : Int → Int} {sg : Int} (hA : ∀ p : Int, 0 ≤ p → p < 280 → A p = A' p) (hB : ∀ p : Int, 0 ≤ p → p < 280 → B p = B' p) : addP A B sg ↔ addP A' B' sg := by
  constructor
  · intro h p p0 p1; rw [← hA p p0 p1, ← hB p p0 p1]; exact h p p0 p1
  · intro h p p0 p1; rw [hA p p0 p1, hB p p0 p1]; exact h p p0 p1
theorem addP_gvec {C sg : Int} {A B : Int → Int} (h : addP A B sg) (hA : gvec C A) (hB : gvec C B) : gvec C (fun p => A p + sg * B p) := fun p p0 p1 => ⟨h p p0 p1, fun hp => by
  show A p + sg * B p = 0
  rw [(hA p p0 p1).2 hp, (hB p p0 p1).2 hp, Int.mul_zero]; rfl⟩
theorem cSL_s (ht : 190 ≤ t) (F60 : F ≤ 60) {f : Nat} (hPro : cPro t R N F T f) (hL : cSL t R N F T f) : cSL t R N F T (f + 1) := by
  intro k d lv pl n c v4 g sp A r Q hk h0 hS c0 c1 pF n1 npl hA hev hQ
  rw [ev_4] at hev
  have p0 : 0 ≤ pl := by omega
  have hs43 : ∀ (D : Nat) (Q' : Option hkV → Nat → hkG → Prop), Xp 80 D 0 [(2, 24), (0, 43)] [] t g Q' = Q' (some (0, hkTf (hrC T F pl = 43))) t g := fun D Q' => sx_sees ht hS F60 p0 (by decide)
  have hs45 : ∀ (D : Nat) (Q' : Option hkV → Nat → hkG → Prop), Xp 80 D 0 [(2, 24), (0, 45)] [] t g Q' = Q' (some (0, hkTf (hrC T F pl = 45))) t g := fun D Q' => sx_sees ht hS F60 p0 (by decide)
  by_cases cpm : hrC T F pl = 43 ∨ hrC T F pl = 45
  · rw [if_pos cpm] at hev
    have hpF := hrC_lt (T := T) (F := F) (p := pl) (by omega)
    obtain ⟨sg, hsg⟩ : ∃ sg : Int, sg = if hrC T F pl = 43 then 1 else -1 := ⟨_, rfl⟩
    have hsg1 : sg = 1 ∨ sg = -1 := by rw [hsg]; split; exact Or.inl rfl; exact Or.inr rfl
    rw [← hsg] at hev
    have HD : Xp 77 (d + 4 * k + 10 + 1) 63 [(2, 24), (0, lv), (0, n), (0, c), (0, sg)] [] t g Q → Xp 77 (d + 4 * k + 10 + 1) 23 [(2, 24), (0, lv), (0, n), (0, c), v4] [] t g Q := by
      intro hx
      rw [x_77_23]
      by_cases c43 : hrC T F pl = 43
      · rw [if_pos c43] at hsg
        subst hsg
        simp only [x_77_24, x_77_26, x_77_29, x_77_30, x_77_32, x_77_35, x_77_38, x_77_39, x_77_41, x_77_44, x_77_47, x_77_48, x_77_50, x_77_53, x_77_56, x_77_57, x_77_60, x_77_61, hkJK_24, hkJK_25, hkJK_26, jA_24_4, jA_24_5, jL_25, jL_26, jR_24_4, jR_24_5, hkP1_0, hkP1_2, hkP1_u, hkC8, List.map_cons, List.map_nil, List.sum_cons, List.sum_nil, hkCat_0, hkCat_1, hkCat_2, Nat.reduceAdd, Nat.reduceLeDiff, hkPush_s, hkPush_n, true_and, and_true, implies_true, true_implies, not_true_eq_false, not_false_eq_true, false_implies, hkTf_0, hkTf_n1, hkOr01, hkOr11, Int.reduceEq, Int.reduceLT, Int.reduceLE, hk102a, hk102b, hk102c, Nat.reduceEqDiff, or_true, true_or, or_false, false_or, and_false, false_and, Classical.not_not, true_implies, List.set_cons_zero, List.set_cons_succ, ne_eq, hs43, hs45]
        repeat' (first | exact hx | refine And.intro ?_ ?_ | intro _ | trivial | omega | (exfalso; omega))
      · rw [if_neg c43] at hsg
        subst hsg
        have c45 : hrC T F pl = 45 := by omega
        simp only [x_77_24, x_77_26, x_77_29, x_77_30, x_77_32, x_77_35, x_77_38, x_77_39, x_77_41, x_77_44, x_77_47, x_77_48, x_77_50, x_77_53, x_77_56, x_77_57, x_77_60, x_77_61, hkJK_24, hkJK_25, hkJK_26, jA_24_4, jA_24_5, jL_25, jL_26, jR_24_4, jR_24_5, hkP1_0, hkP1_2, hkP1_u, hkC8, List.map_cons, List.map_nil, List.sum_cons, List.sum_nil, hkCat_0, hkCat_1, hkCat_2, Nat.reduceAdd, Nat.reduceLeDiff, hkPush_s, hkPush_n, true_and, and_true, implies_true, true_implies, not_true_eq_false, not_false_eq_true, false_implies, hkTf_0, hkTf_n1, hkOr01, hkOr11, Int.reduceEq, Int.reduceLT, Int.reduceLE, hk102a, hk102b, hk102c, Nat.reduceEqDiff, or_true, true_or, or_false, false_or, and_false, false_and, Classical.not_not, true_implies, List.set_cons_zero, List.set_cons_succ, ne_eq, hs43, hs45]
        repeat' (first | exact hx | refine And.intro ?_ ?_ | intro _ | trivial | omega | (exfalso; omega))
    obtain ⟨r1, e1, e2⟩ := evB_s hev
    have hbd := ev_bd f 1 (pl + 1) lv 0 sp A r1 (by decide) (by omega) (fun h => absurd h (by decide)) e1
    rw [if_neg (by decide)] at hbd
    obtain ⟨a1, a2⟩ := rd_f (l := lv) ht (by omega) (by omega)
    obtain ⟨b1, b2⟩ := rs_f (l := lv) ht (by omega) (by omega)
    have hsm := sm_t (l := lv) (by omega) (by omega)
    have hsd : smOk (40 + 2 * lv) (41 + 2 * lv) := by
      have h := sm_t (l := lv + 6) (by omega) (by omega)
      rw [show 28 + 2 * (lv + 6) = 40 + 2 * lv from by omega, show 29 + 2 * (lv + 6) = 41 + 2 * lv from by omega] at h
      exact h
    have h7 := hS.2.2.2.2.1
    refine HD ?_
    obtain ⟨ep, ec⟩ : hkW (pl + 1) = pl + 1 ∧ hkW (c + 1) = c + 1 := ⟨hkW_in (by omega) (by omega), hkW_in (by omega) (by omega)⟩
    have K := hPro k d lv (pl + 1) (hkSet g 24 7 (pl + 1)) sp A r1 (fun r2 t2 g2 => Xp 77 (d + 4 * k + 10 + 1) 80 [(2, 24), (0, lv), (0, n), (0, c), (0, sg)] (hkPush r2 [(0, 1), (0, n)]) t2 g2 Q) hk h0 (cSt_at hS) (by clear ep ec; omega) (by clear ep ec; omega) e1 (fun v g2 k2 P2 => by
      have k2' : cKp lv (lv - 1) g g2 := cKp_t (cKp_24 (by decide)) k2
      by_cases hf : r1.1 = -1
      · rw [if_pos hf] at e2
        have e2 := (Option.some.inj e2).symm
        subst e2
        have h22 : g2 24 2 = r.2.1 := by
          rcases P2.2 with h | h
          · exact h.2
          · exact absurd hf h.1
        have hne : g2 24 2 ≠ -1 := by rw [h22]; clear ep ec; omega
        have hgo : ¬ (g2 24 2 = -1 ∧ g2 24 3 = 0) := fun h => hne h.1
        have hq := hQ (hkW (n + hkW (1 + v))) g2 (cKp_w k2' (by clear ep ec; omega) (by clear ep ec; omega)) ⟨P2.1, Or.inl ⟨hf, h22⟩⟩
        have L : Xp 77 (d + 4 * k + 10 + 1) 23 [(2, 24), (0, lv), (0, hkW (n + hkW (1 + v))), (0, c + 1), (0, sg)] [] t g2 Q := by
          clear ep ec
          rw [x_77_23]
          simp only [x_77_24, x_77_26, x_77_29, x_77_30, x_77_32, x_77_35, x_77_38, x_77_39, x_77_41, x_77_44, hkJK_24, hkJK_25, hkJK_26, jA_24_4, jA_24_5, jL_25, jL_26, jR_24_4, jR_24_5, hkP1_0, hkP1_2, hkP1_u, hkC8, List.map_cons, List.map_nil, List.sum_cons, List.sum_nil, hkCat_0, hkCat_1, hkCat_2, Nat.reduceAdd, Nat.reduceLeDiff, hkPush_s, hkPush_n, true_and, and_true, implies_true, true_implies, not_true_eq_false, not_false_eq_true, false_implies, hkTf_0, hkTf_n1, hkOr01, hkOr11, Int.reduceEq, Int.reduceLT, Int.reduceLE, hk102a, hk102b, hk102c, Nat.reduceEqDiff, or_true, true_or, or_false, false_or, and_false, false_and, Classical.not_not, true_implies, List.set_cons_zero, List.set_cons_succ, ne_eq, x_77_125, x_77_126, hkJK_24, hkJK_25, hkJK_26, jA_24_4, jA_24_5, jL_25, jL_26, jR_24_4, jR_24_5, hkP1_0, hkP1_2, hkP1_u, hkC8, List.map_cons, List.map_nil, List.sum_cons, List.sum_nil, hkCat_0, hkCat_1, hkCat_2, Nat.reduceAdd, Nat.reduceLeDiff, hkPush_s, hkPush_n, true_and, and_true, implies_true, true_implies, not_true_eq_false, not_false_eq_true, false_implies, hkTf_0, hkTf_n1, hkOr01, hkOr11, Int.reduceEq, Int.reduceLT, Int.reduceLE, hk102a, hk102b, hk102c, Nat.reduceEqDiff, or_true, true_or, or_false, false_or, and_false, false_and, Classical.not_not, true_implies, List.set_cons_zero, List.set_cons_succ, ne_eq, sx_seesF hne]
          repeat' (first | exact hq | refine And.intro ?_ ?_ | intro _ | trivial | omega | (exfalso; omega))
        simp only [x_77_80, x_77_81, x_77_82, x_77_83, x_77_84, hkJK_24, hkJK_25, hkJK_26, jA_24_4, jA_24_5, jL_25, jL_26, jR_24_4, jR_24_5, hkP1_0, hkP1_2, hkP1_u, hkC8, List.map_cons, List.map_nil, List.sum_cons, List.sum_nil, hkCat_0, hkCat_1, hkCat_2, Nat.reduceAdd, Nat.reduceLeDiff, hkPush_s, hkPush_n, true_and, and_true, implies_true, true_implies, not_true_eq_false, not_false_eq_true, false_implies, hkTf_0, hkTf_n1, hkOr01, hkOr11, Int.reduceEq, Int.reduceLT, Int.reduceLE, hk102a, hk102b, hk102c, Nat.reduceEqDiff, or_true, true_or, or_false, false_or, and_false, false_and, Classical.not_not, true_implies, List.set_cons_zero, List.set_cons_succ, ne_eq, sx_goesOn]
        rw [hkTf_f hgo]
        simp only [x_77_87, hkJK_24, hkJK_25, hkJK_26, jA_24_4, jA_24_5, jL_25, jL_26, jR_24_4, jR_24_5, hkP1_0, hkP1_2, hkP1_u, hkC8, List.map_cons, List.map_nil, List.sum_cons, List.sum_nil, hkCat_0, hkCat_1, hkCat_2, Nat.reduceAdd, Nat.reduceLeDiff, hkPush_s, hkPush_n, true_and, and_true, implies_true, true_implies, not_true_eq_false, not_false_eq_true, false_implies, hkTf_0, hkTf_n1, hkOr01, hkOr11, Int.reduceEq, Int.reduceLT, Int.reduceLE, hk102a, hk102b, hk102c, Nat.reduceEqDiff, or_true, true_or, or_false, false_or, and_false, false_and, Classical.not_not, true_implies, List.set_cons_zero, List.set_cons_succ, ne_eq, x_77_119, x_77_122, hkJK_24, hkJK_25, hkJK_26, jA_24_4, jA_24_5, jL_25, jL_26, jR_24_4, jR_24_5, hkP1_0, hkP1_2, hkP1_u, hkC8, List.map_cons, List.map_nil, List.sum_cons, List.sum_nil, hkCat_0, hkCat_1, hkCat_2, Nat.reduceAdd, Nat.reduceLeDiff, hkPush_s, hkPush_n, true_and, and_true, implies_true, true_implies, not_true_eq_false, not_false_eq_true, false_implies, hkTf_0, hkTf_n1, hkOr01, hkOr11, Int.reduceEq, Int.reduceLT, Int.reduceLE, hk102a, hk102b, hk102c, Nat.reduceEqDiff, or_true, true_or, or_false, false_or, and_false, false_and, Classical.not_not, true_implies, List.set_cons_zero, List.set_cons_succ, ne_eq, ec]
        clear ep ec
        repeat' (first | exact L | refine And.intro ?_ ?_ | intro _ | trivial | omega | (exfalso; omega))
      · rw [if_neg hf] at e2
        obtain ⟨hS2, hv, hvec⟩ := cSt_p (cSt_at hS) k2 P2 hf
        subst hv
        have hn : 1 ≤ r1.1 ∧ r1.1 ≤ 0 + (r1.2.1 - (pl + 1)) := by
          rcases hbd.2.2.2 with h | h
          · exact absurd h hf
          · exact h
        have em1 : hkW (1 + r1.1) = 1 + r1.1 := hkW_in (by clear ep ec; omega) (by clear ep ec; omega)
        have em : hkW (n + (1 + r1.1)) = 1 + n + r1.1 := by rw [hkW_in (by clear ep ec em1; omega) (by clear ep ec em1; omega)]; clear ep ec em1; omega
        have h22 := hS2.2.2.2.1
        have h23 := hS2.2.2.2.2.2
        have GO : ∀ (sp' : Prop) (A' : Int → Int) (g3 : hkG), cKp (lv - 1) (lv - 1) g2 g3 → cSt R N F T r1.2.1 sp' g3 → (¬ sp' → gvec (bxC R N) A' ∧ ∀ p : Int, 0 ≤ p → p < 280 → g3 (29 + 2 * lv) p = A' p) → ev R N F T f 4 r1.2.1 lv (1 + n + r1.1) sp' A' = some r → Xp 77 (d + 4 * k + 10 + 1) 119 [(2, 24), (0, lv), (0, 1 + n + r1.1), (0, c), (0, sg)] [] t g3 Q := by
          intro sp' A' g3 k3 hS3 hA3 hev3
          have L := hL k d lv r1.2.1 (1 + n + r1.1) (c + 1) (0, sg) g3 sp' A' r Q hk h0 hS3 (by clear ep ec em em1; omega) (by clear ep ec em em1; omega) hbd.2.1 (by clear ep ec em em1; omega) (by clear ep ec em em1; omega) hA3 hev3 (fun v g' k' P' => hQ v g' (cKp_t (cKp_w k2' (by clear ep ec em em1; omega) (by clear ep ec em em1; omega)) (cKp_t k3 k')) P')
          simp only [x_77_119, x_77_122, hkJK_24, hkJK_25, hkJK_26, jA_24_4, jA_24_5, jL_25, jL_26, jR_24_4, jR_24_5, hkP1_0, hkP1_2, hkP1_u, hkC8, List.map_cons, List.map_nil, List.sum_cons, List.sum_nil, hkCat_0, hkCat_1, hkCat_2, Nat.reduceAdd, Nat.reduceLeDiff, hkPush_s, hkPush_n, true_and, and_true, implies_true, true_implies, not_true_eq_false, not_false_eq_true, false_implies, hkTf_0, hkTf_n1, hkOr01, hkOr11, Int.reduceEq, Int.reduceLT, Int.reduceLE, hk102a, hk102b, hk102c, Nat.reduceEqDiff, or_true, true_or, or_false, false_or, and_false, false_and, Classical.not_not, true_implies, List.set_cons_zero, List.set_cons_succ, ne_eq, ec]
          clear ep ec em em1
          repeat' (first | exact L | refine And.intro ?_ ?_ | intro _ | trivial | omega | (exfalso; omega))
        simp only [x_77_80, x_77_81, x_77_82, x_77_83, x_77_84, hkJK_24, hkJK_25, hkJK_26, jA_24_4, jA_24_5, jL_25, jL_26, jR_24_4, jR_24_5, hkP1_0, hkP1_2, hkP1_u, hkC8, List.map_cons, List.map_nil, List.sum_cons, List.sum_nil, hkCat_0, hkCat_1, hkCat_2, Nat.reduceAdd, Nat.reduceLeDiff, hkPush_s, hkPush_n, true_and, and_true, implies_true, true_implies, not_true_eq_false, not_false_eq_true, false_implies, hkTf_0, hkTf_n1, hkOr01, hkOr11, Int.reduceEq, Int.reduceLT, Int.reduceLE, hk102a, hk102b, hk102c, Nat.reduceEqDiff, or_true, true_or, or_false, false_or, and_false, false_and, Classical.not_not, true_implies, List.set_cons_zero, List.set_cons_succ, ne_eq, sx_goesOn, em1, em]
        by_cases hs1 : r1.2.2.1
        · have hgo : ¬ (g2 24 2 = -1 ∧ g2 24 3 = 0) := fun h => by rw [h23, hkTf_t hs1] at h; exact absurd h.2 (by decide)
          have hT1 : (r1.2.2.1 ∨ ¬ addP A r1.2.2.2 sg) = r1.2.2.1 := propext ⟨fun _ => hs1, Or.inl⟩
          rw [hT1] at e2
          have G := GO r1.2.2.1 _ g2 cKp_r hS2 (fun h => absurd hs1 h) e2
          rw [hkTf_f hgo]
          simp only [x_77_87, hkJK_24, hkJK_25, hkJK_26, jA_24_4, jA_24_5, jL_25, jL_26, jR_24_4, jR_24_5, hkP1_0, hkP1_2, hkP1_u, hkC8, List.map_cons, List.map_nil, List.sum_cons, List.sum_nil, hkCat_0, hkCat_1, hkCat_2, Nat.reduceAdd, Nat.reduceLeDiff, hkPush_s, hkPush_n, true_and, and_true, implies_true, true_implies, not_true_eq_false, not_false_eq_true, false_implies, hkTf_0, hkTf_n1, hkOr01, hkOr11, Int.reduceEq, Int.reduceLT, Int.reduceLE, hk102a, hk102b, hk102c, Nat.reduceEqDiff, or_true, true_or, or_false, false_or, and_false, false_and, Classical.not_not, true_implies, List.set_cons_zero, List.set_cons_succ, ne_eq]
          clear ep ec em em1
          repeat' (first | exact G | refine And.intro ?_ ?_ | intro _ | trivial | omega | (exfalso; omega))
        · have hgo : g2 24 2 = -1 ∧ g2 24 3 = 0 := ⟨h22, by rw [h23, hkTf_f hs1]⟩
          have hsp : ¬ sp := fun h => hs1 (hbd.2.2.1 h)
          obtain ⟨gA, rA⟩ := hA hsp
          obtain ⟨gB, rB⟩ := hvec hs1
          have rA2 : ∀ p : Int, 0 ≤ p → p < 280 → g2 (29 + 2 * lv) p = A p := fun p q0 q1 => by rw [k2'.2.2.1 lv h0 (Int.le_refl _)]; exact rA p q0 q1
          have gA2 : gvec (bxC R N) (g2 (29 + 2 * lv)) := gvec_cong (fun p q0 q1 => (rA2 p q0 q1).symm) gA
          have gB2 : gvec (bxC R N) (g2 (41 + 2 * lv)) := gvec_cong (fun p q0 q1 => (rB p q0 q1).symm) gB
          have hfe : addP (g2 (29 + 2 * lv)) (g2 (41 + 2 * lv)) sg ↔ addP A r1.2.2.2 sg := addP_cong rA2 rB
          rw [hkTf_t hgo]
          simp only [x_77_87, x_77_90, x_77_91, x_77_92, x_77_95, x_77_96, x_77_97, x_77_98, x_77_101, x_77_102, x_77_103, x_77_105, hkJK_24, hkJK_25, hkJK_26, jA_24_4, jA_24_5, jL_25, jL_26, jR_24_4, jR_24_5, hkP1_0, hkP1_2, hkP1_u, hkC8, List.map_cons, List.map_nil, List.sum_cons, List.sum_nil, hkCat_0, hkCat_1, hkCat_2, Nat.reduceAdd, Nat.reduceLeDiff, hkPush_s, hkPush_n, true_and, and_true, implies_true, true_implies, not_true_eq_false, not_false_eq_true, false_implies, hkTf_0, hkTf_n1, hkOr01, hkOr11, Int.reduceEq, Int.reduceLT, Int.reduceLE, hk102a, hk102b, hk102c, Nat.reduceEqDiff, or_true, true_or, or_false, false_or, and_false, false_and, Classical.not_not, true_implies, List.set_cons_zero, List.set_cons_succ, ne_eq, hkLe_t ht, hkJK_25, jL_25, hkJK_26, jL_26, a1, a2, b1, b2, hsm.2.1, hsd.2.1]
          refine And.intro (by clear ep ec em em1; omega) (And.intro (by clear ep ec em em1; omega) ?_)
          refine sx_added (d := d + 4 * k + 9) ht hsm hsd (by clear ep ec em em1; omega) hsg1 (fun p q0 q1 => (gA2 p q0 q1).1) (fun p q0 q1 => (gB2 p q0 q1).1) (fun g3 k3 v3 => ?_)
          have f24 : g3 24 = g2 24 := k3 24 (by clear ep ec em em1; omega)
          have f27 : g3 27 = g2 27 := k3 27 (by clear ep ec em em1; omega)
          have hb3 : RB g3 R N := RB_c hS2.1 (fun q hq => k3 q (by clear ep ec em em1; omega))
          have FRM : ∀ v : Int, cKp (lv - 1) (lv - 1) g2 (hkSet g3 24 3 v) := fun v => ⟨fun q h1 h2 h3 h4 h5 => by rw [hkSet_row h4, k3 q (by clear ep ec em em1; omega)], fun j hj => by rw [hkSet_rd, if_neg (by clear ep ec em em1; omega), f24], fun l l0 l1 => by rw [hkSet_row (by clear ep ec em em1; omega), k3 _ (by clear ep ec em em1; omega)], fun l l0 l1 => by rw [hkSet_row (by clear ep ec em em1; omega), k3 _ (by clear ep ec em em1; omega)]⟩
          have STM : ∀ (P : Prop) (v : Int), v = hkTf P → cSt R N F T r1.2.1 P (hkSet g3 24 3 v) := fun P v hv => ⟨RB_c hb3 (fun q hq => hkSet_row (by clear ep ec em em1; omega)), by rw [hkSet_rd, if_neg (by decide), f24]; exact hS2.2.1, fun x x0 x1 => by rw [hkSet_row (by decide), f27]; exact hS2.2.2.1 x x0 x1, by rw [hkSet_rd, if_neg (by decide), f24]; exact h22, by rw [hkSet_rd, if_neg (by decide), f24]; exact hS2.2.2.2.2.1, by rw [hkSet_rd, if_pos ⟨rfl, rfl⟩]; exact hv⟩
          by_cases h : addP A r1.2.2.2 sg
          · have hT1 : (r1.2.2.1 ∨ ¬ addP A r1.2.2.2 sg) = False := propext ⟨fun h2 => h2.elim hs1 (fun h3 => h3 h), False.elim⟩
            rw [hT1] at e2
            have G := GO False _ (hkSet g3 24 3 0) (FRM 0) (STM False 0 (hkTf_f (fun h => h)).symm) (fun _ => ⟨addP_gvec h gA gB, fun p q0 q1 => by rw [hkSet_row (by clear ep ec em em1; omega), v3 p q0 q1, rA2 p q0 q1, rB p q0 q1]⟩) e2
            rw [hkTf_t (hfe.2 h)]
            simp only [x_77_108, x_77_111, x_77_112, x_77_115, x_77_116, hkJK_24, hkJK_25, hkJK_26, jA_24_4, jA_24_5, jL_25, jL_26, jR_24_4, jR_24_5, hkP1_0, hkP1_2, hkP1_u, hkC8, List.map_cons, List.map_nil, List.sum_cons, List.sum_nil, hkCat_0, hkCat_1, hkCat_2, Nat.reduceAdd, Nat.reduceLeDiff, hkPush_s, hkPush_n, true_and, and_true, implies_true, true_implies, not_true_eq_false, not_false_eq_true, false_implies, hkTf_0, hkTf_n1, hkOr01, hkOr11, Int.reduceEq, Int.reduceLT, Int.reduceLE, hk102a, hk102b, hk102c, Nat.reduceEqDiff, or_true, true_or, or_false, false_or, and_false, false_and, Classical.not_not, true_implies, List.set_cons_zero, List.set_cons_succ, ne_eq]
            clear ep ec em em1
            repeat' (first | exact G | refine And.intro ?_ ?_ | intro _ | trivial | omega | (exfalso; omega))
          · have hT1 : (r1.2.2.1 ∨ ¬ addP A r1.2.2.2 sg) = True := propext ⟨fun _ => trivial, fun _ => Or.inr h⟩
            rw [hT1] at e2
            have G := GO True _ (hkSet g3 24 3 1) (FRM 1) (STM True 1 (hkTf_t trivial).symm) (fun h => absurd trivial h) e2
            rw [hkTf_f (fun h2 => h (hfe.1 h2))]
            simp only [x_77_108, x_77_111, x_77_112, x_77_115, x_77_116, hkJK_24, hkJK_25, hkJK_26, jA_24_4, jA_24_5, jL_25, jL_26, jR_24_4, jR_24_5, hkP1_0, hkP1_2, hkP1_u, hkC8, List.map_cons, List.map_nil, List.sum_cons, List.sum_nil, hkCat_0, hkCat_1, hkCat_2, Nat.reduceAdd, Nat.reduceLeDiff, hkPush_s, hkPush_n, true_and, and_true, implies_true, true_implies, not_true_eq_false, not_false_eq_true, false_implies, hkTf_0, hkTf_n1, hkOr01, hkOr11, Int.reduceEq, Int.reduceLT, Int.reduceLE, hk102a, hk102b, hk102c, Nat.reduceEqDiff, or_true, true_or, or_false, false_or, and_false, false_and, Classical.not_not, true_implies, List.set_cons_zero, List.set_cons_succ, ne_eq]
            clear ep ec em em1
            repeat' (first | exact G | refine And.intro ?_ ?_ | intro _ | trivial | omega | (exfalso; omega)))
    simp only [x_77_63, x_77_64, x_77_65, x_77_68, x_77_69, x_77_70, x_77_73, x_77_74, x_77_75, x_77_76, x_77_77, hkJK_24, hkJK_25, hkJK_26, jA_24_4, jA_24_5, jL_25, jL_26, jR_24_4, jR_24_5, hkP1_0, hkP1_2, hkP1_u, hkC8, List.map_cons, List.map_nil, List.sum_cons, List.sum_nil, hkCat_0, hkCat_1, hkCat_2, Nat.reduceAdd, Nat.reduceLeDiff, hkPush_s, hkPush_n, true_and, and_true, implies_true, true_implies, not_true_eq_false, not_false_eq_true, false_implies, hkTf_0, hkTf_n1, hkOr01, hkOr11, Int.reduceEq, Int.reduceLT, Int.reduceLE, hk102a, hk102b, hk102c, Nat.reduceEqDiff, or_true, true_or, or_false, false_or, and_false, false_and, Classical.not_not, true_implies, List.set_cons_zero, List.set_cons_succ, ne_eq, h7, ep]
    clear ep ec
    repeat' (first | exact K | refine And.intro ?_ ?_ | intro _ | trivial | omega | (exfalso; omega))
  · rw [if_neg cpm] at hev
    have hev := (Option.some.inj hev).symm
    subst hev
    have hq := hQ n g cKp_r ⟨hS.1, Or.inr ⟨by show n ≠ -1; omega, rfl, hS.2.2.2.1, hS.2.2.2.2.1, hS.2.2.2.2.2, hA⟩⟩
    rw [x_77_23]
    simp only [x_77_24, x_77_26, x_77_29, x_77_30, x_77_32, x_77_35, x_77_38, x_77_39, x_77_41, x_77_44, hkJK_24, hkJK_25, hkJK_26, jA_24_4, jA_24_5, jL_25, jL_26, jR_24_4, jR_24_5, hkP1_0, hkP1_2, hkP1_u, hkC8, List.map_cons, List.map_nil, List.sum_cons, List.sum_nil, hkCat_0, hkCat_1, hkCat_2, Nat.reduceAdd, Nat.reduceLeDiff, hkPush_s, hkPush_n, true_and, and_true, implies_true, true_implies, not_true_eq_false, not_false_eq_true, false_implies, hkTf_0, hkTf_n1, hkOr01, hkOr11, Int.reduceEq, Int.reduceLT, Int.reduceLE, hk102a, hk102b, hk102c, Nat.reduceEqDiff, or_true, true_or, or_false, false_or, and_false, false_and, Classical.not_not, true_implies, List.set_cons_zero, List.set_cons_succ, ne_eq, x_77_125, x_77_126, hkJK_24, hkJK_25, hkJK_26, jA_24_4, jA_24_5, jL_25, jL_26, jR_24_4, jR_24_5, hkP1_0, hkP1_2, hkP1_u, hkC8, List.map_cons, List.map_nil, List.sum_cons, List.sum_nil, hkCat_0, hkCat_1, hkCat_2, Nat.reduceAdd, Nat.reduceLeDiff, hkPush_s, hkPush_n, true_and, and_true, implies_true, true_implies, not_true_eq_false, not_false_eq_true, false_implies, hkTf_0, hkTf_n1, hkOr01, hkOr11, Int.reduceEq, Int.reduceLT, Int.reduceLE, hk102a, hk102b, hk102c, Nat.reduceEqDiff, or_true, true_or, or_false, false_or, and_false, false_and, Classical.not_not, true_implies, List.set_cons_zero, List.set_cons_succ, ne_eq, hs43, hs45]
    repeat' (first | exact hq | refine And.intro ?_ ?_ | intro _ | trivial | omega | (exfalso; omega))
theorem c_all (ht : 190 ≤ t) (F60 : F ≤ 60) : ∀ f : Nat, cOne t R N F T f ∧ cPro t R N F T f ∧ cSum t R N F T f ∧ cPL t R N F T f ∧ cSL t R N F T f := by
  intro f
  induction f with
  | zero =>
    refine ⟨fun k d lv pl g sp A r Q _ _ _ _ _ hev => ?_, fun k d lv pl g sp A r Q _ _ _ _ _ hev => ?_, fun k d lv pl g sp A r Q _ _ _ _ _ hev => ?_, fun k d lv pl n c g sp A r Q _ _ _ _ _ _ _ _ _ hev => ?_, fun k d lv pl n c v4 g sp A r Q _ _ _ _ _ _ _ _ _ hev => ?_⟩
    all_goals (have h' : (none : Option evT) = some r := hev; cases h')
  | succ f ih =>
    obtain ⟨i1, i2, i3, i4, i5⟩ := ih
    exact ⟨cOne_s ht F60 i3, cPro_s ht F60 i1 i4, cSum_s ht F60 i2 i5, cPL_s ht F60 i1 i4, cSL_s ht F60 i2 i5⟩
end SP
