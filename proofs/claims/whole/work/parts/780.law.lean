/-! the law: case by case (by program: wip/whole/gen_law2.py) -/
theorem hkRun_ret : ∀ (n d y : Nat) (c : hkC) (r : Option hkV) (t : Nat) (g : hkG), hkRun n d y c = some (r, t, g) → ∀ v : hkV, r = some v → (hkRt y = 0 → v.1 = 0) ∧ (hkRt y = 1 → v.1 = 1) := by
  intro n
  induction n with
  | zero => intro d y c r t g h; simp [hkRun] at h
  | succ n ih =>
    intro d y c r t g h v hv
    obtain ⟨pc, ls, st, t1, g1⟩ := c
    unfold hkRun at h
    split at h
    · cases h
    · rename_i i len hf
      split at h
      · cases h
      · rename_i q hq
        exact ih d y q r t g h v hv
      · rename_i y' as pc' ls' st' hq
        split at h
        · cases h
        · rename_i d'
          split at h
          · cases h
          · rename_i r' t' g' hr
            exact ih (d' + 1) y _ r t g h v hv
      · rename_i r2 hq
        cases h
        subst hv
        rcases hkRet_inv hq with ⟨-, x, -, h1, h2⟩ | ⟨-, x, -, h1, h2⟩ | ⟨-, h1, h2⟩
        · cases h1
          exact ⟨fun _ => rfl, fun h3 => (by rcases h2 with h2 | h2; (rw [h3] at h2; cases h2); (rw [h3] at h2; cases h2.1))⟩
        · cases h1
          exact ⟨fun h3 => (by rw [h3] at h2; cases h2), fun _ => rfl⟩
        · cases h2.1
theorem Xp_kr {y d pc : Nat} {ls st : List hkV} {t : Nat} {g : hkG} {Q : Option hkV → Nat → hkG → Prop} (h : Xp y d pc ls st t g Q) : Xp y d pc ls st t g (fun r t' g' => Q r t' g' ∧ (∀ z : Int, z < 0 → g' z = g z) ∧ ∀ v : hkV, r = some v → (hkRt y = 0 → v.1 = 0) ∧ (hkRt y = 1 → v.1 = 1)) := by
  obtain ⟨n, r, t', g', h1, h2⟩ := h
  exact ⟨n, r, t', g', h1, h2, (hkRun_keep n d y _ r t' g' h1).2, hkRun_ret n d y _ r t' g' h1⟩
theorem hkCat_le {v : hkV} : hkCat v ≤ 2 := by unfold hkCat; split <;> omega
theorem law_case {xs : Int → Int} {L : Int} {y y' D pcA pcB : Nat} {as as' ls : List hkV} {t : Nat} {g : hkG} {Q : Option hkV → Nat → hkG → Prop} (T : Tie xs L y D as y' as' t g)
    (hA : ∀ (v : hkV) (g1 : hkG), (∀ z : Int, z < 0 → g1 z = g z) → Xp y' D 0 as' [] t g1 (fun r t g => Xp 184 (D + 1) pcB ls (hkPush r [v]) t g Q) → Xp 184 (D + 1) pcA ls [v] t g1 Q)
    (hB : ∀ (v : hkV) (g2 : hkG), ((hkRt y = 0 → v.1 = 0) ∧ (hkRt y = 1 → v.1 = 1)) → Rel xs L g2 → Xp 184 (D + 1) pcB ls [v, v] t g2 Q) : Xp y D 0 as [] t g (fun r t g => Xp 184 (D + 1) pcA ls (hkPush r []) t g Q) := by
  refine Xp_mono (Xp_kr T) (fun r t1 g1 h => ?_)
  obtain ⟨⟨v, hr, ht, hx⟩, kz, hv⟩ := h
  subst hr
  subst ht
  refine hA v g1 kz (Xp_mono hx (fun r2 t2 g2 h2 => ?_))
  obtain ⟨h1, h2, h3⟩ := h2
  subst h1
  subst h2
  exact hB v g2 (hv v rfl) h3
section SP
variable {d : Nat} {g : hkG} {xs : Int → Int} {L i : Int} {Q : Option hkV → Nat → hkG → Prop}
theorem lwc_0 (hI : ∀ k : Int, inI (xs k)) (hR : Rel xs L g) (i0 : 0 ≤ i) (iL : i + 7 ≤ L) (L1 : L ≤ 3584) (hN : ∀ g2 : hkG, Rel xs L g2 → Xp 184 (d + 41) 1190 [(4, 0), (2, 0), (2, 66), (0, i)] [] 190 g2 Q) : Xp 184 (d + 41) 33 [(4, 0), (2, 0), (2, 66), (0, i)] [(0, 0)] 190 g Q := by
  have hN2 : ∀ g2 : hkG, Rel xs L g2 → Xp 184 (d + 40 + 1) 1190 [(4, 0), (2, 0), (2, 66), (0, i)] [] 190 g2 Q := hN
  obtain ⟨R, N, hb, -, -, -, -, hL0, hx⟩ := id hR
  have b1 : 0 ≤ i + 1 := by omega
  have c1 : i + 1 < L := by omega
  have e1 : g (-1) (i + 1) = xs (i + 1) := hx _ b1 c1
  have b2 : 0 ≤ i + 2 := by omega
  have c2 : i + 2 < L := by omega
  have e2 : g (-1) (i + 2) = xs (i + 2) := hx _ b2 c2
  obtain ⟨w1, w2⟩ : hkW (i + 1) = i + 1 ∧ hkW (i + 2) = i + 2 := ⟨hkW_in (by omega) (by omega), hkW_in (by omega) (by omega)⟩
  have K : Xp 184 (d + 40 + 1) 33 [(4, 0), (2, 0), (2, 66), (0, i)] [(0, 0)] 190 g Q := by
    simp only [x_184_33_k0, x_184_156, x_184_157, x_184_158, x_184_159, x_184_160, x_184_161, x_184_162, x_184_163, x_184_164, x_184_165, x_184_166, x_184_167, hkJK_0, hkJK_66, hkP1_0, hkP1_2, hkP1_u, hkC8, List.map_cons, List.map_nil, List.sum_cons, List.sum_nil, hkCat_0, hkCat_1, hkCat_2, Nat.reduceAdd, Nat.reduceLeDiff, hkPush_s, hkPush_n, true_and, and_true, implies_true, true_implies, not_true_eq_false, not_false_eq_true, false_implies, hkTf_0, hkTf_n1, hkOr01, hkOr11, Int.reduceEq, Int.reduceLT, Int.reduceLE, hk102a, hk102b, hk102c, Nat.reduceEqDiff, or_true, true_or, or_false, false_or, and_false, false_and, Classical.not_not, true_implies, List.set_cons_zero, List.set_cons_succ, ne_eq, hL0, b1, c1, e1, w1, b2, c2, e2, w2]
    refine law_case (D := d + 40) (pcB := 184) (tie_box (d := d + 28) (Nat.le_refl 190)  hR) (fun v g1 kz hx1 => ?_) (fun v g2 hv hrel => ?_)
    · have f0 : g1 (-2) 0 = L := by rw [kz (-2) (by decide)]; exact hL0
      have f1 : g1 (-1) (i + 1) = xs (i + 1) := by rw [kz (-1) (by decide)]; exact e1
      have f2 : g1 (-1) (i + 2) = xs (i + 2) := by rw [kz (-1) (by decide)]; exact e2
      have hc := hkCat_le (v := v)
      simp only [x_184_170, x_184_171, x_184_172, x_184_173, x_184_174, x_184_175, x_184_176, x_184_177, x_184_178, x_184_179, x_184_180, x_184_181, hkJK_0, hkJK_66, hkP1_0, hkP1_2, hkP1_u, hkC8, List.map_cons, List.map_nil, List.sum_cons, List.sum_nil, hkCat_0, hkCat_1, hkCat_2, Nat.reduceAdd, Nat.reduceLeDiff, hkPush_s, hkPush_n, true_and, and_true, implies_true, true_implies, not_true_eq_false, not_false_eq_true, false_implies, hkTf_0, hkTf_n1, hkOr01, hkOr11, Int.reduceEq, Int.reduceLT, Int.reduceLE, hk102a, hk102b, hk102c, Nat.reduceEqDiff, or_true, true_or, or_false, false_or, and_false, false_and, Classical.not_not, true_implies, List.set_cons_zero, List.set_cons_succ, ne_eq, f0, b1, c1, f1, w1, b2, c2, f2, w2]
      clear w1 w2
      repeat' (first | exact hx1 | refine And.intro ?_ ?_ | intro _ | trivial | omega | (exfalso; omega))
    · obtain ⟨a, x⟩ := v
      have h0 : a = 0 := hv.1 (by decide +kernel)
      subst h0
      have hq := hN2 g2 hrel
      clear w1 w2
      simp only [x_184_184, hkJK_0, hkJK_66, hkP1_0, hkP1_2, hkP1_u, hkC8, List.map_cons, List.map_nil, List.sum_cons, List.sum_nil, hkCat_0, hkCat_1, hkCat_2, Nat.reduceAdd, Nat.reduceLeDiff, hkPush_s, hkPush_n, true_and, and_true, implies_true, true_implies, not_true_eq_false, not_false_eq_true, false_implies, hkTf_0, hkTf_n1, hkOr01, hkOr11, Int.reduceEq, Int.reduceLT, Int.reduceLE, hk102a, hk102b, hk102c, Nat.reduceEqDiff, or_true, true_or, or_false, false_or, and_false, false_and, Classical.not_not, true_implies, List.set_cons_zero, List.set_cons_succ, ne_eq]
      repeat' (first | exact hq | refine And.intro ?_ ?_ | intro _ | trivial | omega | (exfalso; omega))
  exact K
theorem lwc_1 (hI : ∀ k : Int, inI (xs k)) (hR : Rel xs L g) (i0 : 0 ≤ i) (iL : i + 7 ≤ L) (L1 : L ≤ 3584) (hN : ∀ g2 : hkG, Rel xs L g2 → Xp 184 (d + 41) 1190 [(4, 0), (2, 0), (2, 66), (0, i)] [] 190 g2 Q) : Xp 184 (d + 41) 33 [(4, 0), (2, 0), (2, 66), (0, i)] [(0, 1)] 190 g Q := by
  have hN2 : ∀ g2 : hkG, Rel xs L g2 → Xp 184 (d + 40 + 1) 1190 [(4, 0), (2, 0), (2, 66), (0, i)] [] 190 g2 Q := hN
  obtain ⟨R, N, hb, -, -, -, -, hL0, hx⟩ := id hR
  have b1 : 0 ≤ i + 1 := by omega
  have c1 : i + 1 < L := by omega
  have e1 : g (-1) (i + 1) = xs (i + 1) := hx _ b1 c1
  have b2 : 0 ≤ i + 2 := by omega
  have c2 : i + 2 < L := by omega
  have e2 : g (-1) (i + 2) = xs (i + 2) := hx _ b2 c2
  obtain ⟨w1, w2⟩ : hkW (i + 1) = i + 1 ∧ hkW (i + 2) = i + 2 := ⟨hkW_in (by omega) (by omega), hkW_in (by omega) (by omega)⟩
  have K : Xp 184 (d + 40 + 1) 33 [(4, 0), (2, 0), (2, 66), (0, i)] [(0, 1)] 190 g Q := by
    simp only [x_184_33_k1, x_184_189, x_184_190, x_184_191, x_184_192, x_184_193, x_184_194, x_184_195, x_184_196, x_184_197, x_184_198, x_184_199, x_184_200, hkJK_0, hkJK_66, hkP1_0, hkP1_2, hkP1_u, hkC8, List.map_cons, List.map_nil, List.sum_cons, List.sum_nil, hkCat_0, hkCat_1, hkCat_2, Nat.reduceAdd, Nat.reduceLeDiff, hkPush_s, hkPush_n, true_and, and_true, implies_true, true_implies, not_true_eq_false, not_false_eq_true, false_implies, hkTf_0, hkTf_n1, hkOr01, hkOr11, Int.reduceEq, Int.reduceLT, Int.reduceLE, hk102a, hk102b, hk102c, Nat.reduceEqDiff, or_true, true_or, or_false, false_or, and_false, false_and, Classical.not_not, true_implies, List.set_cons_zero, List.set_cons_succ, ne_eq, hL0, b1, c1, e1, w1, b2, c2, e2, w2]
    refine law_case (D := d + 40) (pcB := 217) (tie_row (d := d + 28) (Nat.le_refl 190)  hR) (fun v g1 kz hx1 => ?_) (fun v g2 hv hrel => ?_)
    · have f0 : g1 (-2) 0 = L := by rw [kz (-2) (by decide)]; exact hL0
      have f1 : g1 (-1) (i + 1) = xs (i + 1) := by rw [kz (-1) (by decide)]; exact e1
      have f2 : g1 (-1) (i + 2) = xs (i + 2) := by rw [kz (-1) (by decide)]; exact e2
      have hc := hkCat_le (v := v)
      simp only [x_184_203, x_184_204, x_184_205, x_184_206, x_184_207, x_184_208, x_184_209, x_184_210, x_184_211, x_184_212, x_184_213, x_184_214, hkJK_0, hkJK_66, hkP1_0, hkP1_2, hkP1_u, hkC8, List.map_cons, List.map_nil, List.sum_cons, List.sum_nil, hkCat_0, hkCat_1, hkCat_2, Nat.reduceAdd, Nat.reduceLeDiff, hkPush_s, hkPush_n, true_and, and_true, implies_true, true_implies, not_true_eq_false, not_false_eq_true, false_implies, hkTf_0, hkTf_n1, hkOr01, hkOr11, Int.reduceEq, Int.reduceLT, Int.reduceLE, hk102a, hk102b, hk102c, Nat.reduceEqDiff, or_true, true_or, or_false, false_or, and_false, false_and, Classical.not_not, true_implies, List.set_cons_zero, List.set_cons_succ, ne_eq, f0, b1, c1, f1, w1, b2, c2, f2, w2]
      clear w1 w2
      repeat' (first | exact hx1 | refine And.intro ?_ ?_ | intro _ | trivial | omega | (exfalso; omega))
    · obtain ⟨a, x⟩ := v
      have h0 : a = 0 := hv.1 (by decide +kernel)
      subst h0
      have hq := hN2 g2 hrel
      clear w1 w2
      simp only [x_184_217, hkJK_0, hkJK_66, hkP1_0, hkP1_2, hkP1_u, hkC8, List.map_cons, List.map_nil, List.sum_cons, List.sum_nil, hkCat_0, hkCat_1, hkCat_2, Nat.reduceAdd, Nat.reduceLeDiff, hkPush_s, hkPush_n, true_and, and_true, implies_true, true_implies, not_true_eq_false, not_false_eq_true, false_implies, hkTf_0, hkTf_n1, hkOr01, hkOr11, Int.reduceEq, Int.reduceLT, Int.reduceLE, hk102a, hk102b, hk102c, Nat.reduceEqDiff, or_true, true_or, or_false, false_or, and_false, false_and, Classical.not_not, true_implies, List.set_cons_zero, List.set_cons_succ, ne_eq]
      repeat' (first | exact hq | refine And.intro ?_ ?_ | intro _ | trivial | omega | (exfalso; omega))
  exact K
theorem lwc_2 (hI : ∀ k : Int, inI (xs k)) (hR : Rel xs L g) (i0 : 0 ≤ i) (iL : i + 7 ≤ L) (L1 : L ≤ 3584) (hN : ∀ g2 : hkG, Rel xs L g2 → Xp 184 (d + 41) 1190 [(4, 0), (2, 0), (2, 66), (0, i)] [] 190 g2 Q) : Xp 184 (d + 41) 33 [(4, 0), (2, 0), (2, 66), (0, i)] [(0, 2)] 190 g Q := by
  have hN2 : ∀ g2 : hkG, Rel xs L g2 → Xp 184 (d + 40 + 1) 1190 [(4, 0), (2, 0), (2, 66), (0, i)] [] 190 g2 Q := hN
  obtain ⟨R, N, hb, -, -, -, -, hL0, hx⟩ := id hR
  have b1 : 0 ≤ i + 1 := by omega
  have c1 : i + 1 < L := by omega
  have e1 : g (-1) (i + 1) = xs (i + 1) := hx _ b1 c1
  obtain w1 : hkW (i + 1) = i + 1 := hkW_in (by omega) (by omega)
  have K : Xp 184 (d + 40 + 1) 33 [(4, 0), (2, 0), (2, 66), (0, i)] [(0, 2)] 190 g Q := by
    simp only [x_184_33_k2, x_184_222, x_184_223, x_184_224, x_184_225, x_184_226, x_184_227, x_184_228, hkJK_0, hkJK_66, hkP1_0, hkP1_2, hkP1_u, hkC8, List.map_cons, List.map_nil, List.sum_cons, List.sum_nil, hkCat_0, hkCat_1, hkCat_2, Nat.reduceAdd, Nat.reduceLeDiff, hkPush_s, hkPush_n, true_and, and_true, implies_true, true_implies, not_true_eq_false, not_false_eq_true, false_implies, hkTf_0, hkTf_n1, hkOr01, hkOr11, Int.reduceEq, Int.reduceLT, Int.reduceLE, hk102a, hk102b, hk102c, Nat.reduceEqDiff, or_true, true_or, or_false, false_or, and_false, false_and, Classical.not_not, true_implies, List.set_cons_zero, List.set_cons_succ, ne_eq, hL0, b1, c1, e1, w1]
    refine law_case (D := d + 40) (pcB := 240) (tie_number (d := d + 28) (Nat.le_refl 190) (hI (i + 1)) hR) (fun v g1 kz hx1 => ?_) (fun v g2 hv hrel => ?_)
    · have f0 : g1 (-2) 0 = L := by rw [kz (-2) (by decide)]; exact hL0
      have f1 : g1 (-1) (i + 1) = xs (i + 1) := by rw [kz (-1) (by decide)]; exact e1
      have hc := hkCat_le (v := v)
      simp only [x_184_231, x_184_232, x_184_233, x_184_234, x_184_235, x_184_236, x_184_237, hkJK_0, hkJK_66, hkP1_0, hkP1_2, hkP1_u, hkC8, List.map_cons, List.map_nil, List.sum_cons, List.sum_nil, hkCat_0, hkCat_1, hkCat_2, Nat.reduceAdd, Nat.reduceLeDiff, hkPush_s, hkPush_n, true_and, and_true, implies_true, true_implies, not_true_eq_false, not_false_eq_true, false_implies, hkTf_0, hkTf_n1, hkOr01, hkOr11, Int.reduceEq, Int.reduceLT, Int.reduceLE, hk102a, hk102b, hk102c, Nat.reduceEqDiff, or_true, true_or, or_false, false_or, and_false, false_and, Classical.not_not, true_implies, List.set_cons_zero, List.set_cons_succ, ne_eq, f0, b1, c1, f1, w1]
      clear w1
      repeat' (first | exact hx1 | refine And.intro ?_ ?_ | intro _ | trivial | omega | (exfalso; omega))
    · obtain ⟨a, x⟩ := v
      have h0 : a = 0 := hv.1 (by decide +kernel)
      subst h0
      have hq := hN2 g2 hrel
      clear w1
      simp only [x_184_240, hkJK_0, hkJK_66, hkP1_0, hkP1_2, hkP1_u, hkC8, List.map_cons, List.map_nil, List.sum_cons, List.sum_nil, hkCat_0, hkCat_1, hkCat_2, Nat.reduceAdd, Nat.reduceLeDiff, hkPush_s, hkPush_n, true_and, and_true, implies_true, true_implies, not_true_eq_false, not_false_eq_true, false_implies, hkTf_0, hkTf_n1, hkOr01, hkOr11, Int.reduceEq, Int.reduceLT, Int.reduceLE, hk102a, hk102b, hk102c, Nat.reduceEqDiff, or_true, true_or, or_false, false_or, and_false, false_and, Classical.not_not, true_implies, List.set_cons_zero, List.set_cons_succ, ne_eq]
      repeat' (first | exact hq | refine And.intro ?_ ?_ | intro _ | trivial | omega | (exfalso; omega))
  exact K
theorem lwc_3 (hI : ∀ k : Int, inI (xs k)) (hR : Rel xs L g) (i0 : 0 ≤ i) (iL : i + 7 ≤ L) (L1 : L ≤ 3584) (hN : ∀ g2 : hkG, Rel xs L g2 → Xp 184 (d + 41) 1190 [(4, 0), (2, 0), (2, 66), (0, i)] [] 190 g2 Q) : Xp 184 (d + 41) 33 [(4, 0), (2, 0), (2, 66), (0, i)] [(0, 3)] 190 g Q := by
  have hN2 : ∀ g2 : hkG, Rel xs L g2 → Xp 184 (d + 40 + 1) 1190 [(4, 0), (2, 0), (2, 66), (0, i)] [] 190 g2 Q := hN
  obtain ⟨R, N, hb, -, -, -, -, hL0, hx⟩ := id hR
  have b1 : 0 ≤ i + 1 := by omega
  have c1 : i + 1 < L := by omega
  have e1 : g (-1) (i + 1) = xs (i + 1) := hx _ b1 c1
  have b2 : 0 ≤ i + 2 := by omega
  have c2 : i + 2 < L := by omega
  have e2 : g (-1) (i + 2) = xs (i + 2) := hx _ b2 c2
  obtain ⟨w1, w2⟩ : hkW (i + 1) = i + 1 ∧ hkW (i + 2) = i + 2 := ⟨hkW_in (by omega) (by omega), hkW_in (by omega) (by omega)⟩
  have K : Xp 184 (d + 40 + 1) 33 [(4, 0), (2, 0), (2, 66), (0, i)] [(0, 3)] 190 g Q := by
    simp only [x_184_33_k3, x_184_245, x_184_246, x_184_247, x_184_248, x_184_249, x_184_250, x_184_251, x_184_252, x_184_253, x_184_254, x_184_255, x_184_256, hkJK_0, hkJK_66, hkP1_0, hkP1_2, hkP1_u, hkC8, List.map_cons, List.map_nil, List.sum_cons, List.sum_nil, hkCat_0, hkCat_1, hkCat_2, Nat.reduceAdd, Nat.reduceLeDiff, hkPush_s, hkPush_n, true_and, and_true, implies_true, true_implies, not_true_eq_false, not_false_eq_true, false_implies, hkTf_0, hkTf_n1, hkOr01, hkOr11, Int.reduceEq, Int.reduceLT, Int.reduceLE, hk102a, hk102b, hk102c, Nat.reduceEqDiff, or_true, true_or, or_false, false_or, and_false, false_and, Classical.not_not, true_implies, List.set_cons_zero, List.set_cons_succ, ne_eq, hL0, b1, c1, e1, w1, b2, c2, e2, w2]
    refine law_case (D := d + 40) (pcB := 273) (tie_of (d := d + 28) (Nat.le_refl 190)  hR) (fun v g1 kz hx1 => ?_) (fun v g2 hv hrel => ?_)
    · have f0 : g1 (-2) 0 = L := by rw [kz (-2) (by decide)]; exact hL0
      have f1 : g1 (-1) (i + 1) = xs (i + 1) := by rw [kz (-1) (by decide)]; exact e1
      have f2 : g1 (-1) (i + 2) = xs (i + 2) := by rw [kz (-1) (by decide)]; exact e2
      have hc := hkCat_le (v := v)
      simp only [x_184_259, x_184_260, x_184_261, x_184_262, x_184_263, x_184_264, x_184_265, x_184_266, x_184_267, x_184_268, x_184_269, x_184_270, hkJK_0, hkJK_66, hkP1_0, hkP1_2, hkP1_u, hkC8, List.map_cons, List.map_nil, List.sum_cons, List.sum_nil, hkCat_0, hkCat_1, hkCat_2, Nat.reduceAdd, Nat.reduceLeDiff, hkPush_s, hkPush_n, true_and, and_true, implies_true, true_implies, not_true_eq_false, not_false_eq_true, false_implies, hkTf_0, hkTf_n1, hkOr01, hkOr11, Int.reduceEq, Int.reduceLT, Int.reduceLE, hk102a, hk102b, hk102c, Nat.reduceEqDiff, or_true, true_or, or_false, false_or, and_false, false_and, Classical.not_not, true_implies, List.set_cons_zero, List.set_cons_succ, ne_eq, f0, b1, c1, f1, w1, b2, c2, f2, w2]
      clear w1 w2
      repeat' (first | exact hx1 | refine And.intro ?_ ?_ | intro _ | trivial | omega | (exfalso; omega))
    · obtain ⟨a, x⟩ := v
      have h0 : a = 0 := hv.1 (by decide +kernel)
      subst h0
      have hq := hN2 g2 hrel
      clear w1 w2
      simp only [x_184_273, hkJK_0, hkJK_66, hkP1_0, hkP1_2, hkP1_u, hkC8, List.map_cons, List.map_nil, List.sum_cons, List.sum_nil, hkCat_0, hkCat_1, hkCat_2, Nat.reduceAdd, Nat.reduceLeDiff, hkPush_s, hkPush_n, true_and, and_true, implies_true, true_implies, not_true_eq_false, not_false_eq_true, false_implies, hkTf_0, hkTf_n1, hkOr01, hkOr11, Int.reduceEq, Int.reduceLT, Int.reduceLE, hk102a, hk102b, hk102c, Nat.reduceEqDiff, or_true, true_or, or_false, false_or, and_false, false_and, Classical.not_not, true_implies, List.set_cons_zero, List.set_cons_succ, ne_eq]
      repeat' (first | exact hq | refine And.intro ?_ ?_ | intro _ | trivial | omega | (exfalso; omega))
  exact K
theorem lwc_4 (hI : ∀ k : Int, inI (xs k)) (hR : Rel xs L g) (i0 : 0 ≤ i) (iL : i + 7 ≤ L) (L1 : L ≤ 3584) (hN : ∀ g2 : hkG, Rel xs L g2 → Xp 184 (d + 41) 1190 [(4, 0), (2, 0), (2, 66), (0, i)] [] 190 g2 Q) : Xp 184 (d + 41) 33 [(4, 0), (2, 0), (2, 66), (0, i)] [(0, 4)] 190 g Q := by
  have hN2 : ∀ g2 : hkG, Rel xs L g2 → Xp 184 (d + 40 + 1) 1190 [(4, 0), (2, 0), (2, 66), (0, i)] [] 190 g2 Q := hN
  obtain ⟨R, N, hb, -, -, -, -, hL0, hx⟩ := id hR
  have b1 : 0 ≤ i + 1 := by omega
  have c1 : i + 1 < L := by omega
  have e1 : g (-1) (i + 1) = xs (i + 1) := hx _ b1 c1
  obtain w1 : hkW (i + 1) = i + 1 := hkW_in (by omega) (by omega)
  have K : Xp 184 (d + 40 + 1) 33 [(4, 0), (2, 0), (2, 66), (0, i)] [(0, 4)] 190 g Q := by
    simp only [x_184_33_k4, x_184_278, x_184_279, x_184_280, x_184_281, x_184_282, x_184_283, x_184_284, hkJK_0, hkJK_66, hkP1_0, hkP1_2, hkP1_u, hkC8, List.map_cons, List.map_nil, List.sum_cons, List.sum_nil, hkCat_0, hkCat_1, hkCat_2, Nat.reduceAdd, Nat.reduceLeDiff, hkPush_s, hkPush_n, true_and, and_true, implies_true, true_implies, not_true_eq_false, not_false_eq_true, false_implies, hkTf_0, hkTf_n1, hkOr01, hkOr11, Int.reduceEq, Int.reduceLT, Int.reduceLE, hk102a, hk102b, hk102c, Nat.reduceEqDiff, or_true, true_or, or_false, false_or, and_false, false_and, Classical.not_not, true_implies, List.set_cons_zero, List.set_cons_succ, ne_eq, hL0, b1, c1, e1, w1]
    refine law_case (D := d + 40) (pcB := 296) (tie_kinds (d := d + 28) (Nat.le_refl 190)  hR) (fun v g1 kz hx1 => ?_) (fun v g2 hv hrel => ?_)
    · have f0 : g1 (-2) 0 = L := by rw [kz (-2) (by decide)]; exact hL0
      have f1 : g1 (-1) (i + 1) = xs (i + 1) := by rw [kz (-1) (by decide)]; exact e1
      have hc := hkCat_le (v := v)
      simp only [x_184_287, x_184_288, x_184_289, x_184_290, x_184_291, x_184_292, x_184_293, hkJK_0, hkJK_66, hkP1_0, hkP1_2, hkP1_u, hkC8, List.map_cons, List.map_nil, List.sum_cons, List.sum_nil, hkCat_0, hkCat_1, hkCat_2, Nat.reduceAdd, Nat.reduceLeDiff, hkPush_s, hkPush_n, true_and, and_true, implies_true, true_implies, not_true_eq_false, not_false_eq_true, false_implies, hkTf_0, hkTf_n1, hkOr01, hkOr11, Int.reduceEq, Int.reduceLT, Int.reduceLE, hk102a, hk102b, hk102c, Nat.reduceEqDiff, or_true, true_or, or_false, false_or, and_false, false_and, Classical.not_not, true_implies, List.set_cons_zero, List.set_cons_succ, ne_eq, f0, b1, c1, f1, w1]
      clear w1
      repeat' (first | exact hx1 | refine And.intro ?_ ?_ | intro _ | trivial | omega | (exfalso; omega))
    · obtain ⟨a, x⟩ := v
      have h0 : a = 0 := hv.1 (by decide +kernel)
      subst h0
      have hq := hN2 g2 hrel
      clear w1
      simp only [x_184_296, hkJK_0, hkJK_66, hkP1_0, hkP1_2, hkP1_u, hkC8, List.map_cons, List.map_nil, List.sum_cons, List.sum_nil, hkCat_0, hkCat_1, hkCat_2, Nat.reduceAdd, Nat.reduceLeDiff, hkPush_s, hkPush_n, true_and, and_true, implies_true, true_implies, not_true_eq_false, not_false_eq_true, false_implies, hkTf_0, hkTf_n1, hkOr01, hkOr11, Int.reduceEq, Int.reduceLT, Int.reduceLE, hk102a, hk102b, hk102c, Nat.reduceEqDiff, or_true, true_or, or_false, false_or, and_false, false_and, Classical.not_not, true_implies, List.set_cons_zero, List.set_cons_succ, ne_eq]
      repeat' (first | exact hq | refine And.intro ?_ ?_ | intro _ | trivial | omega | (exfalso; omega))
  exact K
theorem lwc_5 (hI : ∀ k : Int, inI (xs k)) (hR : Rel xs L g) (i0 : 0 ≤ i) (iL : i + 7 ≤ L) (L1 : L ≤ 3584) (hN : ∀ g2 : hkG, Rel xs L g2 → Xp 184 (d + 41) 1190 [(4, 0), (2, 0), (2, 66), (0, i)] [] 190 g2 Q) : Xp 184 (d + 41) 33 [(4, 0), (2, 0), (2, 66), (0, i)] [(0, 5)] 190 g Q := by
  have hN2 : ∀ g2 : hkG, Rel xs L g2 → Xp 184 (d + 40 + 1) 1190 [(4, 0), (2, 0), (2, 66), (0, i)] [] 190 g2 Q := hN
  obtain ⟨R, N, hb, -, -, -, -, hL0, hx⟩ := id hR
  have b1 : 0 ≤ i + 1 := by omega
  have c1 : i + 1 < L := by omega
  have e1 : g (-1) (i + 1) = xs (i + 1) := hx _ b1 c1
  have b2 : 0 ≤ i + 2 := by omega
  have c2 : i + 2 < L := by omega
  have e2 : g (-1) (i + 2) = xs (i + 2) := hx _ b2 c2
  have b3 : 0 ≤ i + 3 := by omega
  have c3 : i + 3 < L := by omega
  have e3 : g (-1) (i + 3) = xs (i + 3) := hx _ b3 c3
  have b4 : 0 ≤ i + 4 := by omega
  have c4 : i + 4 < L := by omega
  have e4 : g (-1) (i + 4) = xs (i + 4) := hx _ b4 c4
  obtain ⟨w1, w2, w3, w4⟩ : hkW (i + 1) = i + 1 ∧ hkW (i + 2) = i + 2 ∧ hkW (i + 3) = i + 3 ∧ hkW (i + 4) = i + 4 := ⟨hkW_in (by omega) (by omega), hkW_in (by omega) (by omega), hkW_in (by omega) (by omega), hkW_in (by omega) (by omega)⟩
  have K : Xp 184 (d + 40 + 1) 33 [(4, 0), (2, 0), (2, 66), (0, i)] [(0, 5)] 190 g Q := by
    simp only [x_184_33_k5, x_184_301, x_184_302, x_184_303, x_184_304, x_184_305, x_184_306, x_184_307, x_184_308, x_184_309, x_184_310, x_184_311, x_184_312, x_184_313, x_184_314, x_184_315, x_184_316, x_184_317, x_184_318, x_184_319, x_184_320, x_184_321, x_184_322, hkJK_0, hkJK_66, hkP1_0, hkP1_2, hkP1_u, hkC8, List.map_cons, List.map_nil, List.sum_cons, List.sum_nil, hkCat_0, hkCat_1, hkCat_2, Nat.reduceAdd, Nat.reduceLeDiff, hkPush_s, hkPush_n, true_and, and_true, implies_true, true_implies, not_true_eq_false, not_false_eq_true, false_implies, hkTf_0, hkTf_n1, hkOr01, hkOr11, Int.reduceEq, Int.reduceLT, Int.reduceLE, hk102a, hk102b, hk102c, Nat.reduceEqDiff, or_true, true_or, or_false, false_or, and_false, false_and, Classical.not_not, true_implies, List.set_cons_zero, List.set_cons_succ, ne_eq, hL0, b1, c1, e1, w1, b2, c2, e2, w2, b3, c3, e3, w3, b4, c4, e4, w4]
    refine law_case (D := d + 40) (pcB := 349) (tie_times (d := d + 28) (Nat.le_refl 190)  hR) (fun v g1 kz hx1 => ?_) (fun v g2 hv hrel => ?_)
    · have f0 : g1 (-2) 0 = L := by rw [kz (-2) (by decide)]; exact hL0
      have f1 : g1 (-1) (i + 1) = xs (i + 1) := by rw [kz (-1) (by decide)]; exact e1
      have f2 : g1 (-1) (i + 2) = xs (i + 2) := by rw [kz (-1) (by decide)]; exact e2
      have f3 : g1 (-1) (i + 3) = xs (i + 3) := by rw [kz (-1) (by decide)]; exact e3
      have f4 : g1 (-1) (i + 4) = xs (i + 4) := by rw [kz (-1) (by decide)]; exact e4
      have hc := hkCat_le (v := v)
      simp only [x_184_325, x_184_326, x_184_327, x_184_328, x_184_329, x_184_330, x_184_331, x_184_332, x_184_333, x_184_334, x_184_335, x_184_336, x_184_337, x_184_338, x_184_339, x_184_340, x_184_341, x_184_342, x_184_343, x_184_344, x_184_345, x_184_346, hkJK_0, hkJK_66, hkP1_0, hkP1_2, hkP1_u, hkC8, List.map_cons, List.map_nil, List.sum_cons, List.sum_nil, hkCat_0, hkCat_1, hkCat_2, Nat.reduceAdd, Nat.reduceLeDiff, hkPush_s, hkPush_n, true_and, and_true, implies_true, true_implies, not_true_eq_false, not_false_eq_true, false_implies, hkTf_0, hkTf_n1, hkOr01, hkOr11, Int.reduceEq, Int.reduceLT, Int.reduceLE, hk102a, hk102b, hk102c, Nat.reduceEqDiff, or_true, true_or, or_false, false_or, and_false, false_and, Classical.not_not, true_implies, List.set_cons_zero, List.set_cons_succ, ne_eq, f0, b1, c1, f1, w1, b2, c2, f2, w2, b3, c3, f3, w3, b4, c4, f4, w4]
      clear w1 w2 w3 w4
      repeat' (first | exact hx1 | refine And.intro ?_ ?_ | intro _ | trivial | omega | (exfalso; omega))
    · obtain ⟨a, x⟩ := v
      have h0 : a = 0 := hv.1 (by decide +kernel)
      subst h0
      have hq := hN2 g2 hrel
      clear w1 w2 w3 w4
      simp only [x_184_349, hkJK_0, hkJK_66, hkP1_0, hkP1_2, hkP1_u, hkC8, List.map_cons, List.map_nil, List.sum_cons, List.sum_nil, hkCat_0, hkCat_1, hkCat_2, Nat.reduceAdd, Nat.reduceLeDiff, hkPush_s, hkPush_n, true_and, and_true, implies_true, true_implies, not_true_eq_false, not_false_eq_true, false_implies, hkTf_0, hkTf_n1, hkOr01, hkOr11, Int.reduceEq, Int.reduceLT, Int.reduceLE, hk102a, hk102b, hk102c, Nat.reduceEqDiff, or_true, true_or, or_false, false_or, and_false, false_and, Classical.not_not, true_implies, List.set_cons_zero, List.set_cons_succ, ne_eq]
      repeat' (first | exact hq | refine And.intro ?_ ?_ | intro _ | trivial | omega | (exfalso; omega))
  exact K
theorem lwc_6 (hI : ∀ k : Int, inI (xs k)) (hR : Rel xs L g) (i0 : 0 ≤ i) (iL : i + 7 ≤ L) (L1 : L ≤ 3584) (hN : ∀ g2 : hkG, Rel xs L g2 → Xp 184 (d + 41) 1190 [(4, 0), (2, 0), (2, 66), (0, i)] [] 190 g2 Q) : Xp 184 (d + 41) 33 [(4, 0), (2, 0), (2, 66), (0, i)] [(0, 6)] 190 g Q := by
  have hN2 : ∀ g2 : hkG, Rel xs L g2 → Xp 184 (d + 40 + 1) 1190 [(4, 0), (2, 0), (2, 66), (0, i)] [] 190 g2 Q := hN
  obtain ⟨R, N, hb, -, -, -, -, hL0, hx⟩ := id hR
  have b1 : 0 ≤ i + 1 := by omega
  have c1 : i + 1 < L := by omega
  have e1 : g (-1) (i + 1) = xs (i + 1) := hx _ b1 c1
  have b2 : 0 ≤ i + 2 := by omega
  have c2 : i + 2 < L := by omega
  have e2 : g (-1) (i + 2) = xs (i + 2) := hx _ b2 c2
  have b3 : 0 ≤ i + 3 := by omega
  have c3 : i + 3 < L := by omega
  have e3 : g (-1) (i + 3) = xs (i + 3) := hx _ b3 c3
  obtain ⟨w1, w2, w3⟩ : hkW (i + 1) = i + 1 ∧ hkW (i + 2) = i + 2 ∧ hkW (i + 3) = i + 3 := ⟨hkW_in (by omega) (by omega), hkW_in (by omega) (by omega), hkW_in (by omega) (by omega)⟩
  have K : Xp 184 (d + 40 + 1) 33 [(4, 0), (2, 0), (2, 66), (0, i)] [(0, 6)] 190 g Q := by
    simp only [x_184_33_k6, x_184_354, x_184_355, x_184_356, x_184_357, x_184_358, x_184_359, x_184_360, x_184_361, x_184_362, x_184_363, x_184_364, x_184_365, x_184_366, x_184_367, x_184_368, x_184_369, x_184_370, hkJK_0, hkJK_66, hkP1_0, hkP1_2, hkP1_u, hkC8, List.map_cons, List.map_nil, List.sum_cons, List.sum_nil, hkCat_0, hkCat_1, hkCat_2, Nat.reduceAdd, Nat.reduceLeDiff, hkPush_s, hkPush_n, true_and, and_true, implies_true, true_implies, not_true_eq_false, not_false_eq_true, false_implies, hkTf_0, hkTf_n1, hkOr01, hkOr11, Int.reduceEq, Int.reduceLT, Int.reduceLE, hk102a, hk102b, hk102c, Nat.reduceEqDiff, or_true, true_or, or_false, false_or, and_false, false_and, Classical.not_not, true_implies, List.set_cons_zero, List.set_cons_succ, ne_eq, hL0, b1, c1, e1, w1, b2, c2, e2, w2, b3, c3, e3, w3]
    refine law_case (D := d + 40) (pcB := 392) (tie_turns (d := d + 28) (Nat.le_refl 190)  hR) (fun v g1 kz hx1 => ?_) (fun v g2 hv hrel => ?_)
    · have f0 : g1 (-2) 0 = L := by rw [kz (-2) (by decide)]; exact hL0
      have f1 : g1 (-1) (i + 1) = xs (i + 1) := by rw [kz (-1) (by decide)]; exact e1
      have f2 : g1 (-1) (i + 2) = xs (i + 2) := by rw [kz (-1) (by decide)]; exact e2
      have f3 : g1 (-1) (i + 3) = xs (i + 3) := by rw [kz (-1) (by decide)]; exact e3
      have hc := hkCat_le (v := v)
      simp only [x_184_373, x_184_374, x_184_375, x_184_376, x_184_377, x_184_378, x_184_379, x_184_380, x_184_381, x_184_382, x_184_383, x_184_384, x_184_385, x_184_386, x_184_387, x_184_388, x_184_389, hkJK_0, hkJK_66, hkP1_0, hkP1_2, hkP1_u, hkC8, List.map_cons, List.map_nil, List.sum_cons, List.sum_nil, hkCat_0, hkCat_1, hkCat_2, Nat.reduceAdd, Nat.reduceLeDiff, hkPush_s, hkPush_n, true_and, and_true, implies_true, true_implies, not_true_eq_false, not_false_eq_true, false_implies, hkTf_0, hkTf_n1, hkOr01, hkOr11, Int.reduceEq, Int.reduceLT, Int.reduceLE, hk102a, hk102b, hk102c, Nat.reduceEqDiff, or_true, true_or, or_false, false_or, and_false, false_and, Classical.not_not, true_implies, List.set_cons_zero, List.set_cons_succ, ne_eq, f0, b1, c1, f1, w1, b2, c2, f2, w2, b3, c3, f3, w3]
      clear w1 w2 w3
      repeat' (first | exact hx1 | refine And.intro ?_ ?_ | intro _ | trivial | omega | (exfalso; omega))
    · obtain ⟨a, x⟩ := v
      have h0 : a = 0 := hv.1 (by decide +kernel)
      subst h0
      have hq := hN2 g2 hrel
      clear w1 w2 w3
      simp only [x_184_392, hkJK_0, hkJK_66, hkP1_0, hkP1_2, hkP1_u, hkC8, List.map_cons, List.map_nil, List.sum_cons, List.sum_nil, hkCat_0, hkCat_1, hkCat_2, Nat.reduceAdd, Nat.reduceLeDiff, hkPush_s, hkPush_n, true_and, and_true, implies_true, true_implies, not_true_eq_false, not_false_eq_true, false_implies, hkTf_0, hkTf_n1, hkOr01, hkOr11, Int.reduceEq, Int.reduceLT, Int.reduceLE, hk102a, hk102b, hk102c, Nat.reduceEqDiff, or_true, true_or, or_false, false_or, and_false, false_and, Classical.not_not, true_implies, List.set_cons_zero, List.set_cons_succ, ne_eq]
      repeat' (first | exact hq | refine And.intro ?_ ?_ | intro _ | trivial | omega | (exfalso; omega))
  exact K
theorem lwc_7 (hI : ∀ k : Int, inI (xs k)) (hR : Rel xs L g) (i0 : 0 ≤ i) (iL : i + 7 ≤ L) (L1 : L ≤ 3584) (hN : ∀ g2 : hkG, Rel xs L g2 → Xp 184 (d + 41) 1190 [(4, 0), (2, 0), (2, 66), (0, i)] [] 190 g2 Q) : Xp 184 (d + 41) 33 [(4, 0), (2, 0), (2, 66), (0, i)] [(0, 7)] 190 g Q := by
  have hN2 : ∀ g2 : hkG, Rel xs L g2 → Xp 184 (d + 40 + 1) 1190 [(4, 0), (2, 0), (2, 66), (0, i)] [] 190 g2 Q := hN
  obtain ⟨R, N, hb, -, -, -, -, hL0, hx⟩ := id hR
  have b1 : 0 ≤ i + 1 := by omega
  have c1 : i + 1 < L := by omega
  have e1 : g (-1) (i + 1) = xs (i + 1) := hx _ b1 c1
  have b2 : 0 ≤ i + 2 := by omega
  have c2 : i + 2 < L := by omega
  have e2 : g (-1) (i + 2) = xs (i + 2) := hx _ b2 c2
  have b3 : 0 ≤ i + 3 := by omega
  have c3 : i + 3 < L := by omega
  have e3 : g (-1) (i + 3) = xs (i + 3) := hx _ b3 c3
  have b4 : 0 ≤ i + 4 := by omega
  have c4 : i + 4 < L := by omega
  have e4 : g (-1) (i + 4) = xs (i + 4) := hx _ b4 c4
  obtain ⟨w1, w2, w3, w4⟩ : hkW (i + 1) = i + 1 ∧ hkW (i + 2) = i + 2 ∧ hkW (i + 3) = i + 3 ∧ hkW (i + 4) = i + 4 := ⟨hkW_in (by omega) (by omega), hkW_in (by omega) (by omega), hkW_in (by omega) (by omega), hkW_in (by omega) (by omega)⟩
  have K : Xp 184 (d + 40 + 1) 33 [(4, 0), (2, 0), (2, 66), (0, i)] [(0, 7)] 190 g Q := by
    simp only [x_184_33_k7, x_184_397, x_184_398, x_184_399, x_184_400, x_184_401, x_184_402, x_184_403, x_184_404, x_184_405, x_184_406, x_184_407, x_184_408, x_184_409, x_184_410, x_184_411, x_184_412, x_184_413, x_184_414, x_184_415, x_184_416, x_184_417, x_184_418, hkJK_0, hkJK_66, hkP1_0, hkP1_2, hkP1_u, hkC8, List.map_cons, List.map_nil, List.sum_cons, List.sum_nil, hkCat_0, hkCat_1, hkCat_2, Nat.reduceAdd, Nat.reduceLeDiff, hkPush_s, hkPush_n, true_and, and_true, implies_true, true_implies, not_true_eq_false, not_false_eq_true, false_implies, hkTf_0, hkTf_n1, hkOr01, hkOr11, Int.reduceEq, Int.reduceLT, Int.reduceLE, hk102a, hk102b, hk102c, Nat.reduceEqDiff, or_true, true_or, or_false, false_or, and_false, false_and, Classical.not_not, true_implies, List.set_cons_zero, List.set_cons_succ, ne_eq, hL0, b1, c1, e1, w1, b2, c2, e2, w2, b3, c3, e3, w3, b4, c4, e4, w4]
    refine law_case (D := d + 40) (pcB := 445) (tie_around (d := d + 28) (Nat.le_refl 190)  hR) (fun v g1 kz hx1 => ?_) (fun v g2 hv hrel => ?_)
    · have f0 : g1 (-2) 0 = L := by rw [kz (-2) (by decide)]; exact hL0
      have f1 : g1 (-1) (i + 1) = xs (i + 1) := by rw [kz (-1) (by decide)]; exact e1
      have f2 : g1 (-1) (i + 2) = xs (i + 2) := by rw [kz (-1) (by decide)]; exact e2
      have f3 : g1 (-1) (i + 3) = xs (i + 3) := by rw [kz (-1) (by decide)]; exact e3
      have f4 : g1 (-1) (i + 4) = xs (i + 4) := by rw [kz (-1) (by decide)]; exact e4
      have hc := hkCat_le (v := v)
      simp only [x_184_421, x_184_422, x_184_423, x_184_424, x_184_425, x_184_426, x_184_427, x_184_428, x_184_429, x_184_430, x_184_431, x_184_432, x_184_433, x_184_434, x_184_435, x_184_436, x_184_437, x_184_438, x_184_439, x_184_440, x_184_441, x_184_442, hkJK_0, hkJK_66, hkP1_0, hkP1_2, hkP1_u, hkC8, List.map_cons, List.map_nil, List.sum_cons, List.sum_nil, hkCat_0, hkCat_1, hkCat_2, Nat.reduceAdd, Nat.reduceLeDiff, hkPush_s, hkPush_n, true_and, and_true, implies_true, true_implies, not_true_eq_false, not_false_eq_true, false_implies, hkTf_0, hkTf_n1, hkOr01, hkOr11, Int.reduceEq, Int.reduceLT, Int.reduceLE, hk102a, hk102b, hk102c, Nat.reduceEqDiff, or_true, true_or, or_false, false_or, and_false, false_and, Classical.not_not, true_implies, List.set_cons_zero, List.set_cons_succ, ne_eq, f0, b1, c1, f1, w1, b2, c2, f2, w2, b3, c3, f3, w3, b4, c4, f4, w4]
      clear w1 w2 w3 w4
      repeat' (first | exact hx1 | refine And.intro ?_ ?_ | intro _ | trivial | omega | (exfalso; omega))
    · obtain ⟨a, x⟩ := v
      have h0 : a = 0 := hv.1 (by decide +kernel)
      subst h0
      have hq := hN2 g2 hrel
      clear w1 w2 w3 w4
      simp only [x_184_445, hkJK_0, hkJK_66, hkP1_0, hkP1_2, hkP1_u, hkC8, List.map_cons, List.map_nil, List.sum_cons, List.sum_nil, hkCat_0, hkCat_1, hkCat_2, Nat.reduceAdd, Nat.reduceLeDiff, hkPush_s, hkPush_n, true_and, and_true, implies_true, true_implies, not_true_eq_false, not_false_eq_true, false_implies, hkTf_0, hkTf_n1, hkOr01, hkOr11, Int.reduceEq, Int.reduceLT, Int.reduceLE, hk102a, hk102b, hk102c, Nat.reduceEqDiff, or_true, true_or, or_false, false_or, and_false, false_and, Classical.not_not, true_implies, List.set_cons_zero, List.set_cons_succ, ne_eq]
      repeat' (first | exact hq | refine And.intro ?_ ?_ | intro _ | trivial | omega | (exfalso; omega))
  exact K
theorem lwc_8 (hI : ∀ k : Int, inI (xs k)) (hR : Rel xs L g) (i0 : 0 ≤ i) (iL : i + 7 ≤ L) (L1 : L ≤ 3584) (hN : ∀ g2 : hkG, Rel xs L g2 → Xp 184 (d + 41) 1190 [(4, 0), (2, 0), (2, 66), (0, i)] [] 190 g2 Q) : Xp 184 (d + 41) 33 [(4, 0), (2, 0), (2, 66), (0, i)] [(0, 8)] 190 g Q := by
  have hN2 : ∀ g2 : hkG, Rel xs L g2 → Xp 184 (d + 40 + 1) 1190 [(4, 0), (2, 0), (2, 66), (0, i)] [] 190 g2 Q := hN
  obtain ⟨R, N, hb, -, -, -, -, hL0, hx⟩ := id hR
  have b1 : 0 ≤ i + 1 := by omega
  have c1 : i + 1 < L := by omega
  have e1 : g (-1) (i + 1) = xs (i + 1) := hx _ b1 c1
  have b2 : 0 ≤ i + 2 := by omega
  have c2 : i + 2 < L := by omega
  have e2 : g (-1) (i + 2) = xs (i + 2) := hx _ b2 c2
  obtain ⟨w1, w2⟩ : hkW (i + 1) = i + 1 ∧ hkW (i + 2) = i + 2 := ⟨hkW_in (by omega) (by omega), hkW_in (by omega) (by omega)⟩
  have K : Xp 184 (d + 40 + 1) 33 [(4, 0), (2, 0), (2, 66), (0, i)] [(0, 8)] 190 g Q := by
    simp only [x_184_33_k8, x_184_450, x_184_451, x_184_452, x_184_453, x_184_454, x_184_455, x_184_456, x_184_457, x_184_458, x_184_459, x_184_460, x_184_461, hkJK_0, hkJK_66, hkP1_0, hkP1_2, hkP1_u, hkC8, List.map_cons, List.map_nil, List.sum_cons, List.sum_nil, hkCat_0, hkCat_1, hkCat_2, Nat.reduceAdd, Nat.reduceLeDiff, hkPush_s, hkPush_n, true_and, and_true, implies_true, true_implies, not_true_eq_false, not_false_eq_true, false_implies, hkTf_0, hkTf_n1, hkOr01, hkOr11, Int.reduceEq, Int.reduceLT, Int.reduceLE, hk102a, hk102b, hk102c, Nat.reduceEqDiff, or_true, true_or, or_false, false_or, and_false, false_and, Classical.not_not, true_implies, List.set_cons_zero, List.set_cons_succ, ne_eq, hL0, b1, c1, e1, w1, b2, c2, e2, w2]
    refine law_case (D := d + 40) (pcB := 478) (tie_hooks (d := d + 28) (Nat.le_refl 190)  hR) (fun v g1 kz hx1 => ?_) (fun v g2 hv hrel => ?_)
    · have f0 : g1 (-2) 0 = L := by rw [kz (-2) (by decide)]; exact hL0
      have f1 : g1 (-1) (i + 1) = xs (i + 1) := by rw [kz (-1) (by decide)]; exact e1
      have f2 : g1 (-1) (i + 2) = xs (i + 2) := by rw [kz (-1) (by decide)]; exact e2
      have hc := hkCat_le (v := v)
      simp only [x_184_464, x_184_465, x_184_466, x_184_467, x_184_468, x_184_469, x_184_470, x_184_471, x_184_472, x_184_473, x_184_474, x_184_475, hkJK_0, hkJK_66, hkP1_0, hkP1_2, hkP1_u, hkC8, List.map_cons, List.map_nil, List.sum_cons, List.sum_nil, hkCat_0, hkCat_1, hkCat_2, Nat.reduceAdd, Nat.reduceLeDiff, hkPush_s, hkPush_n, true_and, and_true, implies_true, true_implies, not_true_eq_false, not_false_eq_true, false_implies, hkTf_0, hkTf_n1, hkOr01, hkOr11, Int.reduceEq, Int.reduceLT, Int.reduceLE, hk102a, hk102b, hk102c, Nat.reduceEqDiff, or_true, true_or, or_false, false_or, and_false, false_and, Classical.not_not, true_implies, List.set_cons_zero, List.set_cons_succ, ne_eq, f0, b1, c1, f1, w1, b2, c2, f2, w2]
      clear w1 w2
      repeat' (first | exact hx1 | refine And.intro ?_ ?_ | intro _ | trivial | omega | (exfalso; omega))
    · obtain ⟨a, x⟩ := v
      have h0 : a = 0 := hv.1 (by decide +kernel)
      subst h0
      have hq := hN2 g2 hrel
      clear w1 w2
      simp only [x_184_478, hkJK_0, hkJK_66, hkP1_0, hkP1_2, hkP1_u, hkC8, List.map_cons, List.map_nil, List.sum_cons, List.sum_nil, hkCat_0, hkCat_1, hkCat_2, Nat.reduceAdd, Nat.reduceLeDiff, hkPush_s, hkPush_n, true_and, and_true, implies_true, true_implies, not_true_eq_false, not_false_eq_true, false_implies, hkTf_0, hkTf_n1, hkOr01, hkOr11, Int.reduceEq, Int.reduceLT, Int.reduceLE, hk102a, hk102b, hk102c, Nat.reduceEqDiff, or_true, true_or, or_false, false_or, and_false, false_and, Classical.not_not, true_implies, List.set_cons_zero, List.set_cons_succ, ne_eq]
      repeat' (first | exact hq | refine And.intro ?_ ?_ | intro _ | trivial | omega | (exfalso; omega))
  exact K
theorem lwc_9 (hI : ∀ k : Int, inI (xs k)) (hR : Rel xs L g) (i0 : 0 ≤ i) (iL : i + 7 ≤ L) (L1 : L ≤ 3584) (hN : ∀ g2 : hkG, Rel xs L g2 → Xp 184 (d + 41) 1190 [(4, 0), (2, 0), (2, 66), (0, i)] [] 190 g2 Q) : Xp 184 (d + 41) 33 [(4, 0), (2, 0), (2, 66), (0, i)] [(0, 9)] 190 g Q := by
  have hN2 : ∀ g2 : hkG, Rel xs L g2 → Xp 184 (d + 40 + 1) 1190 [(4, 0), (2, 0), (2, 66), (0, i)] [] 190 g2 Q := hN
  obtain ⟨R, N, hb, -, -, -, -, hL0, hx⟩ := id hR
  have b1 : 0 ≤ i + 1 := by omega
  have c1 : i + 1 < L := by omega
  have e1 : g (-1) (i + 1) = xs (i + 1) := hx _ b1 c1
  have b2 : 0 ≤ i + 2 := by omega
  have c2 : i + 2 < L := by omega
  have e2 : g (-1) (i + 2) = xs (i + 2) := hx _ b2 c2
  have b3 : 0 ≤ i + 3 := by omega
  have c3 : i + 3 < L := by omega
  have e3 : g (-1) (i + 3) = xs (i + 3) := hx _ b3 c3
  obtain ⟨w1, w2, w3⟩ : hkW (i + 1) = i + 1 ∧ hkW (i + 2) = i + 2 ∧ hkW (i + 3) = i + 3 := ⟨hkW_in (by omega) (by omega), hkW_in (by omega) (by omega), hkW_in (by omega) (by omega)⟩
  have K : Xp 184 (d + 40 + 1) 33 [(4, 0), (2, 0), (2, 66), (0, i)] [(0, 9)] 190 g Q := by
    simp only [x_184_33_k9, x_184_483, x_184_484, x_184_485, x_184_486, x_184_487, x_184_488, x_184_489, x_184_490, x_184_491, x_184_492, x_184_493, x_184_494, x_184_495, x_184_496, x_184_497, x_184_498, x_184_499, hkJK_0, hkJK_66, hkP1_0, hkP1_2, hkP1_u, hkC8, List.map_cons, List.map_nil, List.sum_cons, List.sum_nil, hkCat_0, hkCat_1, hkCat_2, Nat.reduceAdd, Nat.reduceLeDiff, hkPush_s, hkPush_n, true_and, and_true, implies_true, true_implies, not_true_eq_false, not_false_eq_true, false_implies, hkTf_0, hkTf_n1, hkOr01, hkOr11, Int.reduceEq, Int.reduceLT, Int.reduceLE, hk102a, hk102b, hk102c, Nat.reduceEqDiff, or_true, true_or, or_false, false_or, and_false, false_and, Classical.not_not, true_implies, List.set_cons_zero, List.set_cons_succ, ne_eq, hL0, b1, c1, e1, w1, b2, c2, e2, w2, b3, c3, e3, w3]
    refine law_case (D := d + 40) (pcB := 521) (tie_roots (d := d + 28) (Nat.le_refl 190)  hR) (fun v g1 kz hx1 => ?_) (fun v g2 hv hrel => ?_)
    · have f0 : g1 (-2) 0 = L := by rw [kz (-2) (by decide)]; exact hL0
      have f1 : g1 (-1) (i + 1) = xs (i + 1) := by rw [kz (-1) (by decide)]; exact e1
      have f2 : g1 (-1) (i + 2) = xs (i + 2) := by rw [kz (-1) (by decide)]; exact e2
      have f3 : g1 (-1) (i + 3) = xs (i + 3) := by rw [kz (-1) (by decide)]; exact e3
      have hc := hkCat_le (v := v)
      simp only [x_184_502, x_184_503, x_184_504, x_184_505, x_184_506, x_184_507, x_184_508, x_184_509, x_184_510, x_184_511, x_184_512, x_184_513, x_184_514, x_184_515, x_184_516, x_184_517, x_184_518, hkJK_0, hkJK_66, hkP1_0, hkP1_2, hkP1_u, hkC8, List.map_cons, List.map_nil, List.sum_cons, List.sum_nil, hkCat_0, hkCat_1, hkCat_2, Nat.reduceAdd, Nat.reduceLeDiff, hkPush_s, hkPush_n, true_and, and_true, implies_true, true_implies, not_true_eq_false, not_false_eq_true, false_implies, hkTf_0, hkTf_n1, hkOr01, hkOr11, Int.reduceEq, Int.reduceLT, Int.reduceLE, hk102a, hk102b, hk102c, Nat.reduceEqDiff, or_true, true_or, or_false, false_or, and_false, false_and, Classical.not_not, true_implies, List.set_cons_zero, List.set_cons_succ, ne_eq, f0, b1, c1, f1, w1, b2, c2, f2, w2, b3, c3, f3, w3]
      clear w1 w2 w3
      repeat' (first | exact hx1 | refine And.intro ?_ ?_ | intro _ | trivial | omega | (exfalso; omega))
    · obtain ⟨a, x⟩ := v
      have h0 : a = 0 := hv.1 (by decide +kernel)
      subst h0
      have hq := hN2 g2 hrel
      clear w1 w2 w3
      simp only [x_184_521, hkJK_0, hkJK_66, hkP1_0, hkP1_2, hkP1_u, hkC8, List.map_cons, List.map_nil, List.sum_cons, List.sum_nil, hkCat_0, hkCat_1, hkCat_2, Nat.reduceAdd, Nat.reduceLeDiff, hkPush_s, hkPush_n, true_and, and_true, implies_true, true_implies, not_true_eq_false, not_false_eq_true, false_implies, hkTf_0, hkTf_n1, hkOr01, hkOr11, Int.reduceEq, Int.reduceLT, Int.reduceLE, hk102a, hk102b, hk102c, Nat.reduceEqDiff, or_true, true_or, or_false, false_or, and_false, false_and, Classical.not_not, true_implies, List.set_cons_zero, List.set_cons_succ, ne_eq]
      repeat' (first | exact hq | refine And.intro ?_ ?_ | intro _ | trivial | omega | (exfalso; omega))
  exact K
theorem lwc_10 (hI : ∀ k : Int, inI (xs k)) (hR : Rel xs L g) (i0 : 0 ≤ i) (iL : i + 7 ≤ L) (L1 : L ≤ 3584) (hN : ∀ g2 : hkG, Rel xs L g2 → Xp 184 (d + 41) 1190 [(4, 0), (2, 0), (2, 66), (0, i)] [] 190 g2 Q) : Xp 184 (d + 41) 33 [(4, 0), (2, 0), (2, 66), (0, i)] [(0, 10)] 190 g Q := by
  have hN2 : ∀ g2 : hkG, Rel xs L g2 → Xp 184 (d + 40 + 1) 1190 [(4, 0), (2, 0), (2, 66), (0, i)] [] 190 g2 Q := hN
  obtain ⟨R, N, hb, -, -, -, -, hL0, hx⟩ := id hR
  have b1 : 0 ≤ i + 1 := by omega
  have c1 : i + 1 < L := by omega
  have e1 : g (-1) (i + 1) = xs (i + 1) := hx _ b1 c1
  have b2 : 0 ≤ i + 2 := by omega
  have c2 : i + 2 < L := by omega
  have e2 : g (-1) (i + 2) = xs (i + 2) := hx _ b2 c2
  obtain ⟨w1, w2⟩ : hkW (i + 1) = i + 1 ∧ hkW (i + 2) = i + 2 := ⟨hkW_in (by omega) (by omega), hkW_in (by omega) (by omega)⟩
  have K : Xp 184 (d + 40 + 1) 33 [(4, 0), (2, 0), (2, 66), (0, i)] [(0, 10)] 190 g Q := by
    simp only [x_184_33_k10, x_184_526, x_184_527, x_184_528, x_184_529, x_184_530, x_184_531, x_184_532, x_184_533, x_184_534, x_184_535, x_184_536, x_184_537, hkJK_0, hkJK_66, hkP1_0, hkP1_2, hkP1_u, hkC8, List.map_cons, List.map_nil, List.sum_cons, List.sum_nil, hkCat_0, hkCat_1, hkCat_2, Nat.reduceAdd, Nat.reduceLeDiff, hkPush_s, hkPush_n, true_and, and_true, implies_true, true_implies, not_true_eq_false, not_false_eq_true, false_implies, hkTf_0, hkTf_n1, hkOr01, hkOr11, Int.reduceEq, Int.reduceLT, Int.reduceLE, hk102a, hk102b, hk102c, Nat.reduceEqDiff, or_true, true_or, or_false, false_or, and_false, false_and, Classical.not_not, true_implies, List.set_cons_zero, List.set_cons_succ, ne_eq, hL0, b1, c1, e1, w1, b2, c2, e2, w2]
    refine law_case (D := d + 40) (pcB := 554) (tie_rootsOf (d := d + 28) (Nat.le_refl 190)  hR) (fun v g1 kz hx1 => ?_) (fun v g2 hv hrel => ?_)
    · have f0 : g1 (-2) 0 = L := by rw [kz (-2) (by decide)]; exact hL0
      have f1 : g1 (-1) (i + 1) = xs (i + 1) := by rw [kz (-1) (by decide)]; exact e1
      have f2 : g1 (-1) (i + 2) = xs (i + 2) := by rw [kz (-1) (by decide)]; exact e2
      have hc := hkCat_le (v := v)
      simp only [x_184_540, x_184_541, x_184_542, x_184_543, x_184_544, x_184_545, x_184_546, x_184_547, x_184_548, x_184_549, x_184_550, x_184_551, hkJK_0, hkJK_66, hkP1_0, hkP1_2, hkP1_u, hkC8, List.map_cons, List.map_nil, List.sum_cons, List.sum_nil, hkCat_0, hkCat_1, hkCat_2, Nat.reduceAdd, Nat.reduceLeDiff, hkPush_s, hkPush_n, true_and, and_true, implies_true, true_implies, not_true_eq_false, not_false_eq_true, false_implies, hkTf_0, hkTf_n1, hkOr01, hkOr11, Int.reduceEq, Int.reduceLT, Int.reduceLE, hk102a, hk102b, hk102c, Nat.reduceEqDiff, or_true, true_or, or_false, false_or, and_false, false_and, Classical.not_not, true_implies, List.set_cons_zero, List.set_cons_succ, ne_eq, f0, b1, c1, f1, w1, b2, c2, f2, w2]
      clear w1 w2
      repeat' (first | exact hx1 | refine And.intro ?_ ?_ | intro _ | trivial | omega | (exfalso; omega))
    · obtain ⟨a, x⟩ := v
      have h0 : a = 0 := hv.1 (by decide +kernel)
      subst h0
      have hq := hN2 g2 hrel
      clear w1 w2
      simp only [x_184_554, hkJK_0, hkJK_66, hkP1_0, hkP1_2, hkP1_u, hkC8, List.map_cons, List.map_nil, List.sum_cons, List.sum_nil, hkCat_0, hkCat_1, hkCat_2, Nat.reduceAdd, Nat.reduceLeDiff, hkPush_s, hkPush_n, true_and, and_true, implies_true, true_implies, not_true_eq_false, not_false_eq_true, false_implies, hkTf_0, hkTf_n1, hkOr01, hkOr11, Int.reduceEq, Int.reduceLT, Int.reduceLE, hk102a, hk102b, hk102c, Nat.reduceEqDiff, or_true, true_or, or_false, false_or, and_false, false_and, Classical.not_not, true_implies, List.set_cons_zero, List.set_cons_succ, ne_eq]
      repeat' (first | exact hq | refine And.intro ?_ ?_ | intro _ | trivial | omega | (exfalso; omega))
  exact K
theorem lwc_11 (hI : ∀ k : Int, inI (xs k)) (hR : Rel xs L g) (i0 : 0 ≤ i) (iL : i + 7 ≤ L) (L1 : L ≤ 3584) (hN : ∀ g2 : hkG, Rel xs L g2 → Xp 184 (d + 41) 1190 [(4, 0), (2, 0), (2, 66), (0, i)] [] 190 g2 Q) : Xp 184 (d + 41) 33 [(4, 0), (2, 0), (2, 66), (0, i)] [(0, 11)] 190 g Q := by
  have hN2 : ∀ g2 : hkG, Rel xs L g2 → Xp 184 (d + 40 + 1) 1190 [(4, 0), (2, 0), (2, 66), (0, i)] [] 190 g2 Q := hN
  obtain ⟨R, N, hb, -, -, -, -, hL0, hx⟩ := id hR
  have b1 : 0 ≤ i + 1 := by omega
  have c1 : i + 1 < L := by omega
  have e1 : g (-1) (i + 1) = xs (i + 1) := hx _ b1 c1
  have b2 : 0 ≤ i + 2 := by omega
  have c2 : i + 2 < L := by omega
  have e2 : g (-1) (i + 2) = xs (i + 2) := hx _ b2 c2
  obtain ⟨w1, w2⟩ : hkW (i + 1) = i + 1 ∧ hkW (i + 2) = i + 2 := ⟨hkW_in (by omega) (by omega), hkW_in (by omega) (by omega)⟩
  have K : Xp 184 (d + 40 + 1) 33 [(4, 0), (2, 0), (2, 66), (0, i)] [(0, 11)] 190 g Q := by
    simp only [x_184_33_k11, x_184_559, x_184_560, x_184_561, x_184_562, x_184_563, x_184_564, x_184_565, x_184_566, x_184_567, x_184_568, x_184_569, x_184_570, hkJK_0, hkJK_66, hkP1_0, hkP1_2, hkP1_u, hkC8, List.map_cons, List.map_nil, List.sum_cons, List.sum_nil, hkCat_0, hkCat_1, hkCat_2, Nat.reduceAdd, Nat.reduceLeDiff, hkPush_s, hkPush_n, true_and, and_true, implies_true, true_implies, not_true_eq_false, not_false_eq_true, false_implies, hkTf_0, hkTf_n1, hkOr01, hkOr11, Int.reduceEq, Int.reduceLT, Int.reduceLE, hk102a, hk102b, hk102c, Nat.reduceEqDiff, or_true, true_or, or_false, false_or, and_false, false_and, Classical.not_not, true_implies, List.set_cons_zero, List.set_cons_succ, ne_eq, hL0, b1, c1, e1, w1, b2, c2, e2, w2]
    refine law_case (D := d + 40) (pcB := 587) (tie_term (d := d + 28) (Nat.le_refl 190)  hR) (fun v g1 kz hx1 => ?_) (fun v g2 hv hrel => ?_)
    · have f0 : g1 (-2) 0 = L := by rw [kz (-2) (by decide)]; exact hL0
      have f1 : g1 (-1) (i + 1) = xs (i + 1) := by rw [kz (-1) (by decide)]; exact e1
      have f2 : g1 (-1) (i + 2) = xs (i + 2) := by rw [kz (-1) (by decide)]; exact e2
      have hc := hkCat_le (v := v)
      simp only [x_184_573, x_184_574, x_184_575, x_184_576, x_184_577, x_184_578, x_184_579, x_184_580, x_184_581, x_184_582, x_184_583, x_184_584, hkJK_0, hkJK_66, hkP1_0, hkP1_2, hkP1_u, hkC8, List.map_cons, List.map_nil, List.sum_cons, List.sum_nil, hkCat_0, hkCat_1, hkCat_2, Nat.reduceAdd, Nat.reduceLeDiff, hkPush_s, hkPush_n, true_and, and_true, implies_true, true_implies, not_true_eq_false, not_false_eq_true, false_implies, hkTf_0, hkTf_n1, hkOr01, hkOr11, Int.reduceEq, Int.reduceLT, Int.reduceLE, hk102a, hk102b, hk102c, Nat.reduceEqDiff, or_true, true_or, or_false, false_or, and_false, false_and, Classical.not_not, true_implies, List.set_cons_zero, List.set_cons_succ, ne_eq, f0, b1, c1, f1, w1, b2, c2, f2, w2]
      clear w1 w2
      repeat' (first | exact hx1 | refine And.intro ?_ ?_ | intro _ | trivial | omega | (exfalso; omega))
    · obtain ⟨a, x⟩ := v
      have h0 : a = 0 := hv.1 (by decide +kernel)
      subst h0
      have hq := hN2 g2 hrel
      clear w1 w2
      simp only [x_184_587, hkJK_0, hkJK_66, hkP1_0, hkP1_2, hkP1_u, hkC8, List.map_cons, List.map_nil, List.sum_cons, List.sum_nil, hkCat_0, hkCat_1, hkCat_2, Nat.reduceAdd, Nat.reduceLeDiff, hkPush_s, hkPush_n, true_and, and_true, implies_true, true_implies, not_true_eq_false, not_false_eq_true, false_implies, hkTf_0, hkTf_n1, hkOr01, hkOr11, Int.reduceEq, Int.reduceLT, Int.reduceLE, hk102a, hk102b, hk102c, Nat.reduceEqDiff, or_true, true_or, or_false, false_or, and_false, false_and, Classical.not_not, true_implies, List.set_cons_zero, List.set_cons_succ, ne_eq]
      repeat' (first | exact hq | refine And.intro ?_ ?_ | intro _ | trivial | omega | (exfalso; omega))
  exact K
theorem lwc_12 (hI : ∀ k : Int, inI (xs k)) (hR : Rel xs L g) (i0 : 0 ≤ i) (iL : i + 7 ≤ L) (L1 : L ≤ 3584) (hN : ∀ g2 : hkG, Rel xs L g2 → Xp 184 (d + 41) 1190 [(4, 0), (2, 0), (2, 66), (0, i)] [] 190 g2 Q) : Xp 184 (d + 41) 33 [(4, 0), (2, 0), (2, 66), (0, i)] [(0, 12)] 190 g Q := by
  have hN2 : ∀ g2 : hkG, Rel xs L g2 → Xp 184 (d + 40 + 1) 1190 [(4, 0), (2, 0), (2, 66), (0, i)] [] 190 g2 Q := hN
  obtain ⟨R, N, hb, -, -, -, -, hL0, hx⟩ := id hR
  have b1 : 0 ≤ i + 1 := by omega
  have c1 : i + 1 < L := by omega
  have e1 : g (-1) (i + 1) = xs (i + 1) := hx _ b1 c1
  have b2 : 0 ≤ i + 2 := by omega
  have c2 : i + 2 < L := by omega
  have e2 : g (-1) (i + 2) = xs (i + 2) := hx _ b2 c2
  have b3 : 0 ≤ i + 3 := by omega
  have c3 : i + 3 < L := by omega
  have e3 : g (-1) (i + 3) = xs (i + 3) := hx _ b3 c3
  obtain ⟨w1, w2, w3⟩ : hkW (i + 1) = i + 1 ∧ hkW (i + 2) = i + 2 ∧ hkW (i + 3) = i + 3 := ⟨hkW_in (by omega) (by omega), hkW_in (by omega) (by omega), hkW_in (by omega) (by omega)⟩
  have K : Xp 184 (d + 40 + 1) 33 [(4, 0), (2, 0), (2, 66), (0, i)] [(0, 12)] 190 g Q := by
    simp only [x_184_33_k12, x_184_592, x_184_593, x_184_594, x_184_595, x_184_596, x_184_597, x_184_598, x_184_599, x_184_600, x_184_601, x_184_602, x_184_603, x_184_604, x_184_605, x_184_606, x_184_607, x_184_608, hkJK_0, hkJK_66, hkP1_0, hkP1_2, hkP1_u, hkC8, List.map_cons, List.map_nil, List.sum_cons, List.sum_nil, hkCat_0, hkCat_1, hkCat_2, Nat.reduceAdd, Nat.reduceLeDiff, hkPush_s, hkPush_n, true_and, and_true, implies_true, true_implies, not_true_eq_false, not_false_eq_true, false_implies, hkTf_0, hkTf_n1, hkOr01, hkOr11, Int.reduceEq, Int.reduceLT, Int.reduceLE, hk102a, hk102b, hk102c, Nat.reduceEqDiff, or_true, true_or, or_false, false_or, and_false, false_and, Classical.not_not, true_implies, List.set_cons_zero, List.set_cons_succ, ne_eq, hL0, b1, c1, e1, w1, b2, c2, e2, w2, b3, c3, e3, w3]
    refine law_case (D := d + 40) (pcB := 630) (tie_scaled (d := d + 28) (Nat.le_refl 190)  hR) (fun v g1 kz hx1 => ?_) (fun v g2 hv hrel => ?_)
    · have f0 : g1 (-2) 0 = L := by rw [kz (-2) (by decide)]; exact hL0
      have f1 : g1 (-1) (i + 1) = xs (i + 1) := by rw [kz (-1) (by decide)]; exact e1
      have f2 : g1 (-1) (i + 2) = xs (i + 2) := by rw [kz (-1) (by decide)]; exact e2
      have f3 : g1 (-1) (i + 3) = xs (i + 3) := by rw [kz (-1) (by decide)]; exact e3
      have hc := hkCat_le (v := v)
      simp only [x_184_611, x_184_612, x_184_613, x_184_614, x_184_615, x_184_616, x_184_617, x_184_618, x_184_619, x_184_620, x_184_621, x_184_622, x_184_623, x_184_624, x_184_625, x_184_626, x_184_627, hkJK_0, hkJK_66, hkP1_0, hkP1_2, hkP1_u, hkC8, List.map_cons, List.map_nil, List.sum_cons, List.sum_nil, hkCat_0, hkCat_1, hkCat_2, Nat.reduceAdd, Nat.reduceLeDiff, hkPush_s, hkPush_n, true_and, and_true, implies_true, true_implies, not_true_eq_false, not_false_eq_true, false_implies, hkTf_0, hkTf_n1, hkOr01, hkOr11, Int.reduceEq, Int.reduceLT, Int.reduceLE, hk102a, hk102b, hk102c, Nat.reduceEqDiff, or_true, true_or, or_false, false_or, and_false, false_and, Classical.not_not, true_implies, List.set_cons_zero, List.set_cons_succ, ne_eq, f0, b1, c1, f1, w1, b2, c2, f2, w2, b3, c3, f3, w3]
      clear w1 w2 w3
      repeat' (first | exact hx1 | refine And.intro ?_ ?_ | intro _ | trivial | omega | (exfalso; omega))
    · obtain ⟨a, x⟩ := v
      have h0 : a = 1 := hv.2 (by decide +kernel)
      subst h0
      have hq := hN2 g2 hrel
      clear w1 w2 w3
      simp only [x_184_630, x_184_631, hkJK_0, hkJK_66, hkP1_0, hkP1_2, hkP1_u, hkC8, List.map_cons, List.map_nil, List.sum_cons, List.sum_nil, hkCat_0, hkCat_1, hkCat_2, Nat.reduceAdd, Nat.reduceLeDiff, hkPush_s, hkPush_n, true_and, and_true, implies_true, true_implies, not_true_eq_false, not_false_eq_true, false_implies, hkTf_0, hkTf_n1, hkOr01, hkOr11, Int.reduceEq, Int.reduceLT, Int.reduceLE, hk102a, hk102b, hk102c, Nat.reduceEqDiff, or_true, true_or, or_false, false_or, and_false, false_and, Classical.not_not, true_implies, List.set_cons_zero, List.set_cons_succ, ne_eq, hkCmp_z]
      repeat' (first | exact hq | refine And.intro ?_ ?_ | intro _ | trivial | omega | (exfalso; omega))
  exact K
theorem lwc_13 (hI : ∀ k : Int, inI (xs k)) (hR : Rel xs L g) (i0 : 0 ≤ i) (iL : i + 7 ≤ L) (L1 : L ≤ 3584) (hN : ∀ g2 : hkG, Rel xs L g2 → Xp 184 (d + 41) 1190 [(4, 0), (2, 0), (2, 66), (0, i)] [] 190 g2 Q) : Xp 184 (d + 41) 33 [(4, 0), (2, 0), (2, 66), (0, i)] [(0, 13)] 190 g Q := by
  have hN2 : ∀ g2 : hkG, Rel xs L g2 → Xp 184 (d + 40 + 1) 1190 [(4, 0), (2, 0), (2, 66), (0, i)] [] 190 g2 Q := hN
  obtain ⟨R, N, hb, -, -, -, -, hL0, hx⟩ := id hR
  have b1 : 0 ≤ i + 1 := by omega
  have c1 : i + 1 < L := by omega
  have e1 : g (-1) (i + 1) = xs (i + 1) := hx _ b1 c1
  obtain w1 : hkW (i + 1) = i + 1 := hkW_in (by omega) (by omega)
  have K : Xp 184 (d + 40 + 1) 33 [(4, 0), (2, 0), (2, 66), (0, i)] [(0, 13)] 190 g Q := by
    simp only [x_184_33_k13, x_184_636, x_184_637, x_184_638, x_184_639, x_184_640, x_184_641, x_184_642, hkJK_0, hkJK_66, hkP1_0, hkP1_2, hkP1_u, hkC8, List.map_cons, List.map_nil, List.sum_cons, List.sum_nil, hkCat_0, hkCat_1, hkCat_2, Nat.reduceAdd, Nat.reduceLeDiff, hkPush_s, hkPush_n, true_and, and_true, implies_true, true_implies, not_true_eq_false, not_false_eq_true, false_implies, hkTf_0, hkTf_n1, hkOr01, hkOr11, Int.reduceEq, Int.reduceLT, Int.reduceLE, hk102a, hk102b, hk102c, Nat.reduceEqDiff, or_true, true_or, or_false, false_or, and_false, false_and, Classical.not_not, true_implies, List.set_cons_zero, List.set_cons_succ, ne_eq, hL0, b1, c1, e1, w1]
    refine law_case (D := d + 40) (pcB := 654) (tie_multiply (d := d + 27) (Nat.le_refl 190)  hR) (fun v g1 kz hx1 => ?_) (fun v g2 hv hrel => ?_)
    · have f0 : g1 (-2) 0 = L := by rw [kz (-2) (by decide)]; exact hL0
      have f1 : g1 (-1) (i + 1) = xs (i + 1) := by rw [kz (-1) (by decide)]; exact e1
      have hc := hkCat_le (v := v)
      simp only [x_184_645, x_184_646, x_184_647, x_184_648, x_184_649, x_184_650, x_184_651, hkJK_0, hkJK_66, hkP1_0, hkP1_2, hkP1_u, hkC8, List.map_cons, List.map_nil, List.sum_cons, List.sum_nil, hkCat_0, hkCat_1, hkCat_2, Nat.reduceAdd, Nat.reduceLeDiff, hkPush_s, hkPush_n, true_and, and_true, implies_true, true_implies, not_true_eq_false, not_false_eq_true, false_implies, hkTf_0, hkTf_n1, hkOr01, hkOr11, Int.reduceEq, Int.reduceLT, Int.reduceLE, hk102a, hk102b, hk102c, Nat.reduceEqDiff, or_true, true_or, or_false, false_or, and_false, false_and, Classical.not_not, true_implies, List.set_cons_zero, List.set_cons_succ, ne_eq, f0, b1, c1, f1, w1]
      clear w1
      repeat' (first | exact hx1 | refine And.intro ?_ ?_ | intro _ | trivial | omega | (exfalso; omega))
    · obtain ⟨a, x⟩ := v
      have h0 : a = 0 := hv.1 (by decide +kernel)
      subst h0
      have hq := hN2 g2 hrel
      clear w1
      simp only [x_184_654, hkJK_0, hkJK_66, hkP1_0, hkP1_2, hkP1_u, hkC8, List.map_cons, List.map_nil, List.sum_cons, List.sum_nil, hkCat_0, hkCat_1, hkCat_2, Nat.reduceAdd, Nat.reduceLeDiff, hkPush_s, hkPush_n, true_and, and_true, implies_true, true_implies, not_true_eq_false, not_false_eq_true, false_implies, hkTf_0, hkTf_n1, hkOr01, hkOr11, Int.reduceEq, Int.reduceLT, Int.reduceLE, hk102a, hk102b, hk102c, Nat.reduceEqDiff, or_true, true_or, or_false, false_or, and_false, false_and, Classical.not_not, true_implies, List.set_cons_zero, List.set_cons_succ, ne_eq]
      repeat' (first | exact hq | refine And.intro ?_ ?_ | intro _ | trivial | omega | (exfalso; omega))
  exact K
theorem lwc_14 (hI : ∀ k : Int, inI (xs k)) (hR : Rel xs L g) (i0 : 0 ≤ i) (iL : i + 7 ≤ L) (L1 : L ≤ 3584) (hN : ∀ g2 : hkG, Rel xs L g2 → Xp 184 (d + 41) 1190 [(4, 0), (2, 0), (2, 66), (0, i)] [] 190 g2 Q) : Xp 184 (d + 41) 33 [(4, 0), (2, 0), (2, 66), (0, i)] [(0, 14)] 190 g Q := by
  have hN2 : ∀ g2 : hkG, Rel xs L g2 → Xp 184 (d + 40 + 1) 1190 [(4, 0), (2, 0), (2, 66), (0, i)] [] 190 g2 Q := hN
  obtain ⟨R, N, hb, -, -, -, -, hL0, hx⟩ := id hR
  have b1 : 0 ≤ i + 1 := by omega
  have c1 : i + 1 < L := by omega
  have e1 : g (-1) (i + 1) = xs (i + 1) := hx _ b1 c1
  have b2 : 0 ≤ i + 2 := by omega
  have c2 : i + 2 < L := by omega
  have e2 : g (-1) (i + 2) = xs (i + 2) := hx _ b2 c2
  have b3 : 0 ≤ i + 3 := by omega
  have c3 : i + 3 < L := by omega
  have e3 : g (-1) (i + 3) = xs (i + 3) := hx _ b3 c3
  have b4 : 0 ≤ i + 4 := by omega
  have c4 : i + 4 < L := by omega
  have e4 : g (-1) (i + 4) = xs (i + 4) := hx _ b4 c4
  have b5 : 0 ≤ i + 5 := by omega
  have c5 : i + 5 < L := by omega
  have e5 : g (-1) (i + 5) = xs (i + 5) := hx _ b5 c5
  have b6 : 0 ≤ i + 6 := by omega
  have c6 : i + 6 < L := by omega
  have e6 : g (-1) (i + 6) = xs (i + 6) := hx _ b6 c6
  obtain ⟨w1, w2, w3, w4, w5, w6⟩ : hkW (i + 1) = i + 1 ∧ hkW (i + 2) = i + 2 ∧ hkW (i + 3) = i + 3 ∧ hkW (i + 4) = i + 4 ∧ hkW (i + 5) = i + 5 ∧ hkW (i + 6) = i + 6 := ⟨hkW_in (by omega) (by omega), hkW_in (by omega) (by omega), hkW_in (by omega) (by omega), hkW_in (by omega) (by omega), hkW_in (by omega) (by omega), hkW_in (by omega) (by omega)⟩
  have K : Xp 184 (d + 40 + 1) 33 [(4, 0), (2, 0), (2, 66), (0, i)] [(0, 14)] 190 g Q := by
    simp only [x_184_33_k14, x_184_659, x_184_660, x_184_661, x_184_662, x_184_663, x_184_664, x_184_665, x_184_666, x_184_667, x_184_668, x_184_669, x_184_670, x_184_671, x_184_672, x_184_673, x_184_674, x_184_675, x_184_676, x_184_677, x_184_678, x_184_679, x_184_680, x_184_681, x_184_682, x_184_683, x_184_684, x_184_685, x_184_686, x_184_687, x_184_689, x_184_690, x_184_691, hkJK_0, hkJK_66, hkP1_0, hkP1_2, hkP1_u, hkC8, List.map_cons, List.map_nil, List.sum_cons, List.sum_nil, hkCat_0, hkCat_1, hkCat_2, Nat.reduceAdd, Nat.reduceLeDiff, hkPush_s, hkPush_n, true_and, and_true, implies_true, true_implies, not_true_eq_false, not_false_eq_true, false_implies, hkTf_0, hkTf_n1, hkOr01, hkOr11, Int.reduceEq, Int.reduceLT, Int.reduceLE, hk102a, hk102b, hk102c, Nat.reduceEqDiff, or_true, true_or, or_false, false_or, and_false, false_and, Classical.not_not, true_implies, List.set_cons_zero, List.set_cons_succ, ne_eq, hL0, b1, c1, e1, w1, b2, c2, e2, w2, b3, c3, e3, w3, b4, c4, e4, w4, b5, c5, e5, w5, b6, c6, e6, w6]
    refine law_case (D := d + 40) (pcB := 729) (tie_feed (d := d + 28) (Nat.le_refl 190)  hR) (fun v g1 kz hx1 => ?_) (fun v g2 hv hrel => ?_)
    · have f0 : g1 (-2) 0 = L := by rw [kz (-2) (by decide)]; exact hL0
      have f1 : g1 (-1) (i + 1) = xs (i + 1) := by rw [kz (-1) (by decide)]; exact e1
      have f2 : g1 (-1) (i + 2) = xs (i + 2) := by rw [kz (-1) (by decide)]; exact e2
      have f3 : g1 (-1) (i + 3) = xs (i + 3) := by rw [kz (-1) (by decide)]; exact e3
      have f4 : g1 (-1) (i + 4) = xs (i + 4) := by rw [kz (-1) (by decide)]; exact e4
      have f5 : g1 (-1) (i + 5) = xs (i + 5) := by rw [kz (-1) (by decide)]; exact e5
      have f6 : g1 (-1) (i + 6) = xs (i + 6) := by rw [kz (-1) (by decide)]; exact e6
      have hc := hkCat_le (v := v)
      simp only [x_184_694, x_184_695, x_184_696, x_184_697, x_184_698, x_184_699, x_184_700, x_184_701, x_184_702, x_184_703, x_184_704, x_184_705, x_184_706, x_184_707, x_184_708, x_184_709, x_184_710, x_184_711, x_184_712, x_184_713, x_184_714, x_184_715, x_184_716, x_184_717, x_184_718, x_184_719, x_184_720, x_184_721, x_184_722, x_184_724, x_184_725, x_184_726, hkJK_0, hkJK_66, hkP1_0, hkP1_2, hkP1_u, hkC8, List.map_cons, List.map_nil, List.sum_cons, List.sum_nil, hkCat_0, hkCat_1, hkCat_2, Nat.reduceAdd, Nat.reduceLeDiff, hkPush_s, hkPush_n, true_and, and_true, implies_true, true_implies, not_true_eq_false, not_false_eq_true, false_implies, hkTf_0, hkTf_n1, hkOr01, hkOr11, Int.reduceEq, Int.reduceLT, Int.reduceLE, hk102a, hk102b, hk102c, Nat.reduceEqDiff, or_true, true_or, or_false, false_or, and_false, false_and, Classical.not_not, true_implies, List.set_cons_zero, List.set_cons_succ, ne_eq, f0, b1, c1, f1, w1, b2, c2, f2, w2, b3, c3, f3, w3, b4, c4, f4, w4, b5, c5, f5, w5, b6, c6, f6, w6]
      clear w1 w2 w3 w4 w5 w6
      repeat' (first | exact hx1 | refine And.intro ?_ ?_ | intro _ | trivial | omega | (exfalso; omega))
    · obtain ⟨a, x⟩ := v
      have h0 : a = 0 := hv.1 (by decide +kernel)
      subst h0
      have hq := hN2 g2 hrel
      clear w1 w2 w3 w4 w5 w6
      simp only [x_184_729, hkJK_0, hkJK_66, hkP1_0, hkP1_2, hkP1_u, hkC8, List.map_cons, List.map_nil, List.sum_cons, List.sum_nil, hkCat_0, hkCat_1, hkCat_2, Nat.reduceAdd, Nat.reduceLeDiff, hkPush_s, hkPush_n, true_and, and_true, implies_true, true_implies, not_true_eq_false, not_false_eq_true, false_implies, hkTf_0, hkTf_n1, hkOr01, hkOr11, Int.reduceEq, Int.reduceLT, Int.reduceLE, hk102a, hk102b, hk102c, Nat.reduceEqDiff, or_true, true_or, or_false, false_or, and_false, false_and, Classical.not_not, true_implies, List.set_cons_zero, List.set_cons_succ, ne_eq]
      repeat' (first | exact hq | refine And.intro ?_ ?_ | intro _ | trivial | omega | (exfalso; omega))
  exact K
theorem lwc_15 (hI : ∀ k : Int, inI (xs k)) (hR : Rel xs L g) (i0 : 0 ≤ i) (iL : i + 7 ≤ L) (L1 : L ≤ 3584) (hN : ∀ g2 : hkG, Rel xs L g2 → Xp 184 (d + 41) 1190 [(4, 0), (2, 0), (2, 66), (0, i)] [] 190 g2 Q) : Xp 184 (d + 41) 33 [(4, 0), (2, 0), (2, 66), (0, i)] [(0, 15)] 190 g Q := by
  have hN2 : ∀ g2 : hkG, Rel xs L g2 → Xp 184 (d + 40 + 1) 1190 [(4, 0), (2, 0), (2, 66), (0, i)] [] 190 g2 Q := hN
  obtain ⟨R, N, hb, -, -, -, -, hL0, hx⟩ := id hR
  have K : Xp 184 (d + 40 + 1) 33 [(4, 0), (2, 0), (2, 66), (0, i)] [(0, 15)] 190 g Q := by
    simp only [x_184_33_k15, x_184_734, x_184_735, hkJK_0, hkJK_66, hkP1_0, hkP1_2, hkP1_u, hkC8, List.map_cons, List.map_nil, List.sum_cons, List.sum_nil, hkCat_0, hkCat_1, hkCat_2, Nat.reduceAdd, Nat.reduceLeDiff, hkPush_s, hkPush_n, true_and, and_true, implies_true, true_implies, not_true_eq_false, not_false_eq_true, false_implies, hkTf_0, hkTf_n1, hkOr01, hkOr11, Int.reduceEq, Int.reduceLT, Int.reduceLE, hk102a, hk102b, hk102c, Nat.reduceEqDiff, or_true, true_or, or_false, false_or, and_false, false_and, Classical.not_not, true_implies, List.set_cons_zero, List.set_cons_succ, ne_eq, hL0]
    refine law_case (D := d + 40) (pcB := 742) (tie_read (d := d + 11) (Nat.le_refl 190)  hR) (fun v g1 kz hx1 => ?_) (fun v g2 hv hrel => ?_)
    · have f0 : g1 (-2) 0 = L := by rw [kz (-2) (by decide)]; exact hL0
      have hc := hkCat_le (v := v)
      simp only [x_184_738, x_184_739, hkJK_0, hkJK_66, hkP1_0, hkP1_2, hkP1_u, hkC8, List.map_cons, List.map_nil, List.sum_cons, List.sum_nil, hkCat_0, hkCat_1, hkCat_2, Nat.reduceAdd, Nat.reduceLeDiff, hkPush_s, hkPush_n, true_and, and_true, implies_true, true_implies, not_true_eq_false, not_false_eq_true, false_implies, hkTf_0, hkTf_n1, hkOr01, hkOr11, Int.reduceEq, Int.reduceLT, Int.reduceLE, hk102a, hk102b, hk102c, Nat.reduceEqDiff, or_true, true_or, or_false, false_or, and_false, false_and, Classical.not_not, true_implies, List.set_cons_zero, List.set_cons_succ, ne_eq, f0]
      skip
      repeat' (first | exact hx1 | refine And.intro ?_ ?_ | intro _ | trivial | omega | (exfalso; omega))
    · obtain ⟨a, x⟩ := v
      have h0 : a = 0 := hv.1 (by decide +kernel)
      subst h0
      have hq := hN2 g2 hrel
      skip
      simp only [x_184_742, hkJK_0, hkJK_66, hkP1_0, hkP1_2, hkP1_u, hkC8, List.map_cons, List.map_nil, List.sum_cons, List.sum_nil, hkCat_0, hkCat_1, hkCat_2, Nat.reduceAdd, Nat.reduceLeDiff, hkPush_s, hkPush_n, true_and, and_true, implies_true, true_implies, not_true_eq_false, not_false_eq_true, false_implies, hkTf_0, hkTf_n1, hkOr01, hkOr11, Int.reduceEq, Int.reduceLT, Int.reduceLE, hk102a, hk102b, hk102c, Nat.reduceEqDiff, or_true, true_or, or_false, false_or, and_false, false_and, Classical.not_not, true_implies, List.set_cons_zero, List.set_cons_succ, ne_eq]
      repeat' (first | exact hq | refine And.intro ?_ ?_ | intro _ | trivial | omega | (exfalso; omega))
  exact K
theorem lwc_16 (hI : ∀ k : Int, inI (xs k)) (hR : Rel xs L g) (i0 : 0 ≤ i) (iL : i + 7 ≤ L) (L1 : L ≤ 3584) (hN : ∀ g2 : hkG, Rel xs L g2 → Xp 184 (d + 41) 1190 [(4, 0), (2, 0), (2, 66), (0, i)] [] 190 g2 Q) : Xp 184 (d + 41) 33 [(4, 0), (2, 0), (2, 66), (0, i)] [(0, 16)] 190 g Q := by
  have hN2 : ∀ g2 : hkG, Rel xs L g2 → Xp 184 (d + 40 + 1) 1190 [(4, 0), (2, 0), (2, 66), (0, i)] [] 190 g2 Q := hN
  obtain ⟨R, N, hb, -, -, -, -, hL0, hx⟩ := id hR
  have b1 : 0 ≤ i + 1 := by omega
  have c1 : i + 1 < L := by omega
  have e1 : g (-1) (i + 1) = xs (i + 1) := hx _ b1 c1
  have b2 : 0 ≤ i + 2 := by omega
  have c2 : i + 2 < L := by omega
  have e2 : g (-1) (i + 2) = xs (i + 2) := hx _ b2 c2
  have b3 : 0 ≤ i + 3 := by omega
  have c3 : i + 3 < L := by omega
  have e3 : g (-1) (i + 3) = xs (i + 3) := hx _ b3 c3
  obtain ⟨w1, w2, w3⟩ : hkW (i + 1) = i + 1 ∧ hkW (i + 2) = i + 2 ∧ hkW (i + 3) = i + 3 := ⟨hkW_in (by omega) (by omega), hkW_in (by omega) (by omega), hkW_in (by omega) (by omega)⟩
  have K : Xp 184 (d + 40 + 1) 33 [(4, 0), (2, 0), (2, 66), (0, i)] [(0, 16)] 190 g Q := by
    simp only [x_184_33_k16, x_184_747, x_184_748, x_184_749, x_184_750, x_184_751, x_184_752, x_184_753, x_184_754, x_184_755, x_184_756, x_184_757, x_184_758, x_184_759, x_184_760, x_184_761, x_184_762, x_184_763, hkJK_0, hkJK_66, hkP1_0, hkP1_2, hkP1_u, hkC8, List.map_cons, List.map_nil, List.sum_cons, List.sum_nil, hkCat_0, hkCat_1, hkCat_2, Nat.reduceAdd, Nat.reduceLeDiff, hkPush_s, hkPush_n, true_and, and_true, implies_true, true_implies, not_true_eq_false, not_false_eq_true, false_implies, hkTf_0, hkTf_n1, hkOr01, hkOr11, Int.reduceEq, Int.reduceLT, Int.reduceLE, hk102a, hk102b, hk102c, Nat.reduceEqDiff, or_true, true_or, or_false, false_or, and_false, false_and, Classical.not_not, true_implies, List.set_cons_zero, List.set_cons_succ, ne_eq, hL0, b1, c1, e1, w1, b2, c2, e2, w2, b3, c3, e3, w3]
    refine law_case (D := d + 40) (pcB := 785) (tie_drawn (d := d + 27) (Nat.le_refl 190)  hR) (fun v g1 kz hx1 => ?_) (fun v g2 hv hrel => ?_)
    · have f0 : g1 (-2) 0 = L := by rw [kz (-2) (by decide)]; exact hL0
      have f1 : g1 (-1) (i + 1) = xs (i + 1) := by rw [kz (-1) (by decide)]; exact e1
      have f2 : g1 (-1) (i + 2) = xs (i + 2) := by rw [kz (-1) (by decide)]; exact e2
      have f3 : g1 (-1) (i + 3) = xs (i + 3) := by rw [kz (-1) (by decide)]; exact e3
      have hc := hkCat_le (v := v)
      simp only [x_184_766, x_184_767, x_184_768, x_184_769, x_184_770, x_184_771, x_184_772, x_184_773, x_184_774, x_184_775, x_184_776, x_184_777, x_184_778, x_184_779, x_184_780, x_184_781, x_184_782, hkJK_0, hkJK_66, hkP1_0, hkP1_2, hkP1_u, hkC8, List.map_cons, List.map_nil, List.sum_cons, List.sum_nil, hkCat_0, hkCat_1, hkCat_2, Nat.reduceAdd, Nat.reduceLeDiff, hkPush_s, hkPush_n, true_and, and_true, implies_true, true_implies, not_true_eq_false, not_false_eq_true, false_implies, hkTf_0, hkTf_n1, hkOr01, hkOr11, Int.reduceEq, Int.reduceLT, Int.reduceLE, hk102a, hk102b, hk102c, Nat.reduceEqDiff, or_true, true_or, or_false, false_or, and_false, false_and, Classical.not_not, true_implies, List.set_cons_zero, List.set_cons_succ, ne_eq, f0, b1, c1, f1, w1, b2, c2, f2, w2, b3, c3, f3, w3]
      clear w1 w2 w3
      repeat' (first | exact hx1 | refine And.intro ?_ ?_ | intro _ | trivial | omega | (exfalso; omega))
    · obtain ⟨a, x⟩ := v
      have h0 : a = 0 := hv.1 (by decide +kernel)
      subst h0
      have hq := hN2 g2 hrel
      clear w1 w2 w3
      simp only [x_184_785, hkJK_0, hkJK_66, hkP1_0, hkP1_2, hkP1_u, hkC8, List.map_cons, List.map_nil, List.sum_cons, List.sum_nil, hkCat_0, hkCat_1, hkCat_2, Nat.reduceAdd, Nat.reduceLeDiff, hkPush_s, hkPush_n, true_and, and_true, implies_true, true_implies, not_true_eq_false, not_false_eq_true, false_implies, hkTf_0, hkTf_n1, hkOr01, hkOr11, Int.reduceEq, Int.reduceLT, Int.reduceLE, hk102a, hk102b, hk102c, Nat.reduceEqDiff, or_true, true_or, or_false, false_or, and_false, false_and, Classical.not_not, true_implies, List.set_cons_zero, List.set_cons_succ, ne_eq]
      repeat' (first | exact hq | refine And.intro ?_ ?_ | intro _ | trivial | omega | (exfalso; omega))
  exact K
theorem lwc_17 (hI : ∀ k : Int, inI (xs k)) (hR : Rel xs L g) (i0 : 0 ≤ i) (iL : i + 7 ≤ L) (L1 : L ≤ 3584) (hN : ∀ g2 : hkG, Rel xs L g2 → Xp 184 (d + 41) 1190 [(4, 0), (2, 0), (2, 66), (0, i)] [] 190 g2 Q) : Xp 184 (d + 41) 33 [(4, 0), (2, 0), (2, 66), (0, i)] [(0, 17)] 190 g Q := by
  have hN2 : ∀ g2 : hkG, Rel xs L g2 → Xp 184 (d + 40 + 1) 1190 [(4, 0), (2, 0), (2, 66), (0, i)] [] 190 g2 Q := hN
  obtain ⟨R, N, hb, -, -, -, -, hL0, hx⟩ := id hR
  have b1 : 0 ≤ i + 1 := by omega
  have c1 : i + 1 < L := by omega
  have e1 : g (-1) (i + 1) = xs (i + 1) := hx _ b1 c1
  have b2 : 0 ≤ i + 2 := by omega
  have c2 : i + 2 < L := by omega
  have e2 : g (-1) (i + 2) = xs (i + 2) := hx _ b2 c2
  have b3 : 0 ≤ i + 3 := by omega
  have c3 : i + 3 < L := by omega
  have e3 : g (-1) (i + 3) = xs (i + 3) := hx _ b3 c3
  have b4 : 0 ≤ i + 4 := by omega
  have c4 : i + 4 < L := by omega
  have e4 : g (-1) (i + 4) = xs (i + 4) := hx _ b4 c4
  have b5 : 0 ≤ i + 5 := by omega
  have c5 : i + 5 < L := by omega
  have e5 : g (-1) (i + 5) = xs (i + 5) := hx _ b5 c5
  obtain ⟨w1, w2, w3, w4, w5⟩ : hkW (i + 1) = i + 1 ∧ hkW (i + 2) = i + 2 ∧ hkW (i + 3) = i + 3 ∧ hkW (i + 4) = i + 4 ∧ hkW (i + 5) = i + 5 := ⟨hkW_in (by omega) (by omega), hkW_in (by omega) (by omega), hkW_in (by omega) (by omega), hkW_in (by omega) (by omega), hkW_in (by omega) (by omega)⟩
  have K : Xp 184 (d + 40 + 1) 33 [(4, 0), (2, 0), (2, 66), (0, i)] [(0, 17)] 190 g Q := by
    simp only [x_184_33_k17, x_184_790, x_184_791, x_184_792, x_184_793, x_184_794, x_184_795, x_184_796, x_184_797, x_184_798, x_184_799, x_184_800, x_184_801, x_184_802, x_184_803, x_184_804, x_184_805, x_184_806, x_184_807, x_184_808, x_184_809, x_184_810, x_184_811, x_184_812, x_184_813, x_184_814, x_184_815, x_184_816, hkJK_0, hkJK_66, hkP1_0, hkP1_2, hkP1_u, hkC8, List.map_cons, List.map_nil, List.sum_cons, List.sum_nil, hkCat_0, hkCat_1, hkCat_2, Nat.reduceAdd, Nat.reduceLeDiff, hkPush_s, hkPush_n, true_and, and_true, implies_true, true_implies, not_true_eq_false, not_false_eq_true, false_implies, hkTf_0, hkTf_n1, hkOr01, hkOr11, Int.reduceEq, Int.reduceLT, Int.reduceLE, hk102a, hk102b, hk102c, Nat.reduceEqDiff, or_true, true_or, or_false, false_or, and_false, false_and, Classical.not_not, true_implies, List.set_cons_zero, List.set_cons_succ, ne_eq, hL0, b1, c1, e1, w1, b2, c2, e2, w2, b3, c3, e3, w3, b4, c4, e4, w4, b5, c5, e5, w5]
    refine law_case (D := d + 40) (pcB := 848) (tie_chance (d := d + 16) (Nat.le_refl 190)  hR) (fun v g1 kz hx1 => ?_) (fun v g2 hv hrel => ?_)
    · have f0 : g1 (-2) 0 = L := by rw [kz (-2) (by decide)]; exact hL0
      have f1 : g1 (-1) (i + 1) = xs (i + 1) := by rw [kz (-1) (by decide)]; exact e1
      have f2 : g1 (-1) (i + 2) = xs (i + 2) := by rw [kz (-1) (by decide)]; exact e2
      have f3 : g1 (-1) (i + 3) = xs (i + 3) := by rw [kz (-1) (by decide)]; exact e3
      have f4 : g1 (-1) (i + 4) = xs (i + 4) := by rw [kz (-1) (by decide)]; exact e4
      have f5 : g1 (-1) (i + 5) = xs (i + 5) := by rw [kz (-1) (by decide)]; exact e5
      have hc := hkCat_le (v := v)
      simp only [x_184_819, x_184_820, x_184_821, x_184_822, x_184_823, x_184_824, x_184_825, x_184_826, x_184_827, x_184_828, x_184_829, x_184_830, x_184_831, x_184_832, x_184_833, x_184_834, x_184_835, x_184_836, x_184_837, x_184_838, x_184_839, x_184_840, x_184_841, x_184_842, x_184_843, x_184_844, x_184_845, hkJK_0, hkJK_66, hkP1_0, hkP1_2, hkP1_u, hkC8, List.map_cons, List.map_nil, List.sum_cons, List.sum_nil, hkCat_0, hkCat_1, hkCat_2, Nat.reduceAdd, Nat.reduceLeDiff, hkPush_s, hkPush_n, true_and, and_true, implies_true, true_implies, not_true_eq_false, not_false_eq_true, false_implies, hkTf_0, hkTf_n1, hkOr01, hkOr11, Int.reduceEq, Int.reduceLT, Int.reduceLE, hk102a, hk102b, hk102c, Nat.reduceEqDiff, or_true, true_or, or_false, false_or, and_false, false_and, Classical.not_not, true_implies, List.set_cons_zero, List.set_cons_succ, ne_eq, f0, b1, c1, f1, w1, b2, c2, f2, w2, b3, c3, f3, w3, b4, c4, f4, w4, b5, c5, f5, w5]
      clear w1 w2 w3 w4 w5
      repeat' (first | exact hx1 | refine And.intro ?_ ?_ | intro _ | trivial | omega | (exfalso; omega))
    · obtain ⟨a, x⟩ := v
      have h0 : a = 0 := hv.1 (by decide +kernel)
      subst h0
      have hq := hN2 g2 hrel
      clear w1 w2 w3 w4 w5
      simp only [x_184_848, hkJK_0, hkJK_66, hkP1_0, hkP1_2, hkP1_u, hkC8, List.map_cons, List.map_nil, List.sum_cons, List.sum_nil, hkCat_0, hkCat_1, hkCat_2, Nat.reduceAdd, Nat.reduceLeDiff, hkPush_s, hkPush_n, true_and, and_true, implies_true, true_implies, not_true_eq_false, not_false_eq_true, false_implies, hkTf_0, hkTf_n1, hkOr01, hkOr11, Int.reduceEq, Int.reduceLT, Int.reduceLE, hk102a, hk102b, hk102c, Nat.reduceEqDiff, or_true, true_or, or_false, false_or, and_false, false_and, Classical.not_not, true_implies, List.set_cons_zero, List.set_cons_succ, ne_eq]
      repeat' (first | exact hq | refine And.intro ?_ ?_ | intro _ | trivial | omega | (exfalso; omega))
  exact K
theorem lwc_18 (hI : ∀ k : Int, inI (xs k)) (hR : Rel xs L g) (i0 : 0 ≤ i) (iL : i + 7 ≤ L) (L1 : L ≤ 3584) (hN : ∀ g2 : hkG, Rel xs L g2 → Xp 184 (d + 41) 1190 [(4, 0), (2, 0), (2, 66), (0, i)] [] 190 g2 Q) : Xp 184 (d + 41) 33 [(4, 0), (2, 0), (2, 66), (0, i)] [(0, 18)] 190 g Q := by
  have hN2 : ∀ g2 : hkG, Rel xs L g2 → Xp 184 (d + 40 + 1) 1190 [(4, 0), (2, 0), (2, 66), (0, i)] [] 190 g2 Q := hN
  obtain ⟨R, N, hb, -, -, -, -, hL0, hx⟩ := id hR
  have b1 : 0 ≤ i + 1 := by omega
  have c1 : i + 1 < L := by omega
  have e1 : g (-1) (i + 1) = xs (i + 1) := hx _ b1 c1
  have b2 : 0 ≤ i + 2 := by omega
  have c2 : i + 2 < L := by omega
  have e2 : g (-1) (i + 2) = xs (i + 2) := hx _ b2 c2
  have b3 : 0 ≤ i + 3 := by omega
  have c3 : i + 3 < L := by omega
  have e3 : g (-1) (i + 3) = xs (i + 3) := hx _ b3 c3
  obtain ⟨w1, w2, w3⟩ : hkW (i + 1) = i + 1 ∧ hkW (i + 2) = i + 2 ∧ hkW (i + 3) = i + 3 := ⟨hkW_in (by omega) (by omega), hkW_in (by omega) (by omega), hkW_in (by omega) (by omega)⟩
  have K : Xp 184 (d + 40 + 1) 33 [(4, 0), (2, 0), (2, 66), (0, i)] [(0, 18)] 190 g Q := by
    simp only [x_184_33_k18, x_184_853, x_184_854, x_184_855, x_184_856, x_184_857, x_184_858, x_184_859, x_184_860, x_184_861, x_184_862, x_184_863, x_184_864, x_184_865, x_184_866, x_184_867, x_184_868, x_184_869, hkJK_0, hkJK_66, hkP1_0, hkP1_2, hkP1_u, hkC8, List.map_cons, List.map_nil, List.sum_cons, List.sum_nil, hkCat_0, hkCat_1, hkCat_2, Nat.reduceAdd, Nat.reduceLeDiff, hkPush_s, hkPush_n, true_and, and_true, implies_true, true_implies, not_true_eq_false, not_false_eq_true, false_implies, hkTf_0, hkTf_n1, hkOr01, hkOr11, Int.reduceEq, Int.reduceLT, Int.reduceLE, hk102a, hk102b, hk102c, Nat.reduceEqDiff, or_true, true_or, or_false, false_or, and_false, false_and, Classical.not_not, true_implies, List.set_cons_zero, List.set_cons_succ, ne_eq, hL0, b1, c1, e1, w1, b2, c2, e2, w2, b3, c3, e3, w3]
    refine law_case (D := d + 40) (pcB := 891) (tie_tells (d := d + 28) (Nat.le_refl 190)  hR) (fun v g1 kz hx1 => ?_) (fun v g2 hv hrel => ?_)
    · have f0 : g1 (-2) 0 = L := by rw [kz (-2) (by decide)]; exact hL0
      have f1 : g1 (-1) (i + 1) = xs (i + 1) := by rw [kz (-1) (by decide)]; exact e1
      have f2 : g1 (-1) (i + 2) = xs (i + 2) := by rw [kz (-1) (by decide)]; exact e2
      have f3 : g1 (-1) (i + 3) = xs (i + 3) := by rw [kz (-1) (by decide)]; exact e3
      have hc := hkCat_le (v := v)
      simp only [x_184_872, x_184_873, x_184_874, x_184_875, x_184_876, x_184_877, x_184_878, x_184_879, x_184_880, x_184_881, x_184_882, x_184_883, x_184_884, x_184_885, x_184_886, x_184_887, x_184_888, hkJK_0, hkJK_66, hkP1_0, hkP1_2, hkP1_u, hkC8, List.map_cons, List.map_nil, List.sum_cons, List.sum_nil, hkCat_0, hkCat_1, hkCat_2, Nat.reduceAdd, Nat.reduceLeDiff, hkPush_s, hkPush_n, true_and, and_true, implies_true, true_implies, not_true_eq_false, not_false_eq_true, false_implies, hkTf_0, hkTf_n1, hkOr01, hkOr11, Int.reduceEq, Int.reduceLT, Int.reduceLE, hk102a, hk102b, hk102c, Nat.reduceEqDiff, or_true, true_or, or_false, false_or, and_false, false_and, Classical.not_not, true_implies, List.set_cons_zero, List.set_cons_succ, ne_eq, f0, b1, c1, f1, w1, b2, c2, f2, w2, b3, c3, f3, w3]
      clear w1 w2 w3
      repeat' (first | exact hx1 | refine And.intro ?_ ?_ | intro _ | trivial | omega | (exfalso; omega))
    · obtain ⟨a, x⟩ := v
      have h0 : a = 0 := hv.1 (by decide +kernel)
      subst h0
      have hq := hN2 g2 hrel
      clear w1 w2 w3
      simp only [x_184_891, hkJK_0, hkJK_66, hkP1_0, hkP1_2, hkP1_u, hkC8, List.map_cons, List.map_nil, List.sum_cons, List.sum_nil, hkCat_0, hkCat_1, hkCat_2, Nat.reduceAdd, Nat.reduceLeDiff, hkPush_s, hkPush_n, true_and, and_true, implies_true, true_implies, not_true_eq_false, not_false_eq_true, false_implies, hkTf_0, hkTf_n1, hkOr01, hkOr11, Int.reduceEq, Int.reduceLT, Int.reduceLE, hk102a, hk102b, hk102c, Nat.reduceEqDiff, or_true, true_or, or_false, false_or, and_false, false_and, Classical.not_not, true_implies, List.set_cons_zero, List.set_cons_succ, ne_eq]
      repeat' (first | exact hq | refine And.intro ?_ ?_ | intro _ | trivial | omega | (exfalso; omega))
  exact K
theorem lwc_19 (hI : ∀ k : Int, inI (xs k)) (hR : Rel xs L g) (i0 : 0 ≤ i) (iL : i + 7 ≤ L) (L1 : L ≤ 3584) (hN : ∀ g2 : hkG, Rel xs L g2 → Xp 184 (d + 41) 1190 [(4, 0), (2, 0), (2, 66), (0, i)] [] 190 g2 Q) : Xp 184 (d + 41) 33 [(4, 0), (2, 0), (2, 66), (0, i)] [(0, 19)] 190 g Q := by
  have hN2 : ∀ g2 : hkG, Rel xs L g2 → Xp 184 (d + 40 + 1) 1190 [(4, 0), (2, 0), (2, 66), (0, i)] [] 190 g2 Q := hN
  obtain ⟨R, N, hb, -, -, -, -, hL0, hx⟩ := id hR
  have b1 : 0 ≤ i + 1 := by omega
  have c1 : i + 1 < L := by omega
  have e1 : g (-1) (i + 1) = xs (i + 1) := hx _ b1 c1
  have b2 : 0 ≤ i + 2 := by omega
  have c2 : i + 2 < L := by omega
  have e2 : g (-1) (i + 2) = xs (i + 2) := hx _ b2 c2
  have b3 : 0 ≤ i + 3 := by omega
  have c3 : i + 3 < L := by omega
  have e3 : g (-1) (i + 3) = xs (i + 3) := hx _ b3 c3
  obtain ⟨w1, w2, w3⟩ : hkW (i + 1) = i + 1 ∧ hkW (i + 2) = i + 2 ∧ hkW (i + 3) = i + 3 := ⟨hkW_in (by omega) (by omega), hkW_in (by omega) (by omega), hkW_in (by omega) (by omega)⟩
  have K : Xp 184 (d + 40 + 1) 33 [(4, 0), (2, 0), (2, 66), (0, i)] [(0, 19)] 190 g Q := by
    simp only [x_184_33_k19, x_184_896, x_184_897, x_184_898, x_184_899, x_184_900, x_184_901, x_184_902, x_184_903, x_184_904, x_184_905, x_184_906, x_184_907, x_184_908, x_184_909, x_184_910, x_184_911, x_184_912, hkJK_0, hkJK_66, hkP1_0, hkP1_2, hkP1_u, hkC8, List.map_cons, List.map_nil, List.sum_cons, List.sum_nil, hkCat_0, hkCat_1, hkCat_2, Nat.reduceAdd, Nat.reduceLeDiff, hkPush_s, hkPush_n, true_and, and_true, implies_true, true_implies, not_true_eq_false, not_false_eq_true, false_implies, hkTf_0, hkTf_n1, hkOr01, hkOr11, Int.reduceEq, Int.reduceLT, Int.reduceLE, hk102a, hk102b, hk102c, Nat.reduceEqDiff, or_true, true_or, or_false, false_or, and_false, false_and, Classical.not_not, true_implies, List.set_cons_zero, List.set_cons_succ, ne_eq, hL0, b1, c1, e1, w1, b2, c2, e2, w2, b3, c3, e3, w3]
    refine law_case (D := d + 40) (pcB := 934) (tie_film (d := d + 28) (Nat.le_refl 190)  hR) (fun v g1 kz hx1 => ?_) (fun v g2 hv hrel => ?_)
    · have f0 : g1 (-2) 0 = L := by rw [kz (-2) (by decide)]; exact hL0
      have f1 : g1 (-1) (i + 1) = xs (i + 1) := by rw [kz (-1) (by decide)]; exact e1
      have f2 : g1 (-1) (i + 2) = xs (i + 2) := by rw [kz (-1) (by decide)]; exact e2
      have f3 : g1 (-1) (i + 3) = xs (i + 3) := by rw [kz (-1) (by decide)]; exact e3
      have hc := hkCat_le (v := v)
      simp only [x_184_915, x_184_916, x_184_917, x_184_918, x_184_919, x_184_920, x_184_921, x_184_922, x_184_923, x_184_924, x_184_925, x_184_926, x_184_927, x_184_928, x_184_929, x_184_930, x_184_931, hkJK_0, hkJK_66, hkP1_0, hkP1_2, hkP1_u, hkC8, List.map_cons, List.map_nil, List.sum_cons, List.sum_nil, hkCat_0, hkCat_1, hkCat_2, Nat.reduceAdd, Nat.reduceLeDiff, hkPush_s, hkPush_n, true_and, and_true, implies_true, true_implies, not_true_eq_false, not_false_eq_true, false_implies, hkTf_0, hkTf_n1, hkOr01, hkOr11, Int.reduceEq, Int.reduceLT, Int.reduceLE, hk102a, hk102b, hk102c, Nat.reduceEqDiff, or_true, true_or, or_false, false_or, and_false, false_and, Classical.not_not, true_implies, List.set_cons_zero, List.set_cons_succ, ne_eq, f0, b1, c1, f1, w1, b2, c2, f2, w2, b3, c3, f3, w3]
      clear w1 w2 w3
      repeat' (first | exact hx1 | refine And.intro ?_ ?_ | intro _ | trivial | omega | (exfalso; omega))
    · obtain ⟨a, x⟩ := v
      have h0 : a = 0 := hv.1 (by decide +kernel)
      subst h0
      have hq := hN2 g2 hrel
      clear w1 w2 w3
      simp only [x_184_934, hkJK_0, hkJK_66, hkP1_0, hkP1_2, hkP1_u, hkC8, List.map_cons, List.map_nil, List.sum_cons, List.sum_nil, hkCat_0, hkCat_1, hkCat_2, Nat.reduceAdd, Nat.reduceLeDiff, hkPush_s, hkPush_n, true_and, and_true, implies_true, true_implies, not_true_eq_false, not_false_eq_true, false_implies, hkTf_0, hkTf_n1, hkOr01, hkOr11, Int.reduceEq, Int.reduceLT, Int.reduceLE, hk102a, hk102b, hk102c, Nat.reduceEqDiff, or_true, true_or, or_false, false_or, and_false, false_and, Classical.not_not, true_implies, List.set_cons_zero, List.set_cons_succ, ne_eq]
      repeat' (first | exact hq | refine And.intro ?_ ?_ | intro _ | trivial | omega | (exfalso; omega))
  exact K
theorem lwc_20 (hI : ∀ k : Int, inI (xs k)) (hR : Rel xs L g) (i0 : 0 ≤ i) (iL : i + 7 ≤ L) (L1 : L ≤ 3584) (hN : ∀ g2 : hkG, Rel xs L g2 → Xp 184 (d + 41) 1190 [(4, 0), (2, 0), (2, 66), (0, i)] [] 190 g2 Q) : Xp 184 (d + 41) 33 [(4, 0), (2, 0), (2, 66), (0, i)] [(0, 20)] 190 g Q := by
  have hN2 : ∀ g2 : hkG, Rel xs L g2 → Xp 184 (d + 40 + 1) 1190 [(4, 0), (2, 0), (2, 66), (0, i)] [] 190 g2 Q := hN
  obtain ⟨R, N, hb, -, -, -, -, hL0, hx⟩ := id hR
  have K : Xp 184 (d + 40 + 1) 33 [(4, 0), (2, 0), (2, 66), (0, i)] [(0, 20)] 190 g Q := by
    simp only [x_184_33_k20, x_184_939, x_184_940, hkJK_0, hkJK_66, hkP1_0, hkP1_2, hkP1_u, hkC8, List.map_cons, List.map_nil, List.sum_cons, List.sum_nil, hkCat_0, hkCat_1, hkCat_2, Nat.reduceAdd, Nat.reduceLeDiff, hkPush_s, hkPush_n, true_and, and_true, implies_true, true_implies, not_true_eq_false, not_false_eq_true, false_implies, hkTf_0, hkTf_n1, hkOr01, hkOr11, Int.reduceEq, Int.reduceLT, Int.reduceLE, hk102a, hk102b, hk102c, Nat.reduceEqDiff, or_true, true_or, or_false, false_or, and_false, false_and, Classical.not_not, true_implies, List.set_cons_zero, List.set_cons_succ, ne_eq, hL0]
    refine law_case (D := d + 40) (pcB := 947) (tie_image (d := d + 28) (Nat.le_refl 190)  hR) (fun v g1 kz hx1 => ?_) (fun v g2 hv hrel => ?_)
    · have f0 : g1 (-2) 0 = L := by rw [kz (-2) (by decide)]; exact hL0
      have hc := hkCat_le (v := v)
      simp only [x_184_943, x_184_944, hkJK_0, hkJK_66, hkP1_0, hkP1_2, hkP1_u, hkC8, List.map_cons, List.map_nil, List.sum_cons, List.sum_nil, hkCat_0, hkCat_1, hkCat_2, Nat.reduceAdd, Nat.reduceLeDiff, hkPush_s, hkPush_n, true_and, and_true, implies_true, true_implies, not_true_eq_false, not_false_eq_true, false_implies, hkTf_0, hkTf_n1, hkOr01, hkOr11, Int.reduceEq, Int.reduceLT, Int.reduceLE, hk102a, hk102b, hk102c, Nat.reduceEqDiff, or_true, true_or, or_false, false_or, and_false, false_and, Classical.not_not, true_implies, List.set_cons_zero, List.set_cons_succ, ne_eq, f0]
      skip
      repeat' (first | exact hx1 | refine And.intro ?_ ?_ | intro _ | trivial | omega | (exfalso; omega))
    · obtain ⟨a, x⟩ := v
      have h0 : a = 0 := hv.1 (by decide +kernel)
      subst h0
      have hq := hN2 g2 hrel
      skip
      simp only [x_184_947, hkJK_0, hkJK_66, hkP1_0, hkP1_2, hkP1_u, hkC8, List.map_cons, List.map_nil, List.sum_cons, List.sum_nil, hkCat_0, hkCat_1, hkCat_2, Nat.reduceAdd, Nat.reduceLeDiff, hkPush_s, hkPush_n, true_and, and_true, implies_true, true_implies, not_true_eq_false, not_false_eq_true, false_implies, hkTf_0, hkTf_n1, hkOr01, hkOr11, Int.reduceEq, Int.reduceLT, Int.reduceLE, hk102a, hk102b, hk102c, Nat.reduceEqDiff, or_true, true_or, or_false, false_or, and_false, false_and, Classical.not_not, true_implies, List.set_cons_zero, List.set_cons_succ, ne_eq]
      repeat' (first | exact hq | refine And.intro ?_ ?_ | intro _ | trivial | omega | (exfalso; omega))
  exact K
theorem lwc_21 (hI : ∀ k : Int, inI (xs k)) (hR : Rel xs L g) (i0 : 0 ≤ i) (iL : i + 7 ≤ L) (L1 : L ≤ 3584) (hN : ∀ g2 : hkG, Rel xs L g2 → Xp 184 (d + 41) 1190 [(4, 0), (2, 0), (2, 66), (0, i)] [] 190 g2 Q) : Xp 184 (d + 41) 33 [(4, 0), (2, 0), (2, 66), (0, i)] [(0, 21)] 190 g Q := by
  have hN2 : ∀ g2 : hkG, Rel xs L g2 → Xp 184 (d + 40 + 1) 1190 [(4, 0), (2, 0), (2, 66), (0, i)] [] 190 g2 Q := hN
  obtain ⟨R, N, hb, -, -, -, -, hL0, hx⟩ := id hR
  have K : Xp 184 (d + 40 + 1) 33 [(4, 0), (2, 0), (2, 66), (0, i)] [(0, 21)] 190 g Q := by
    simp only [x_184_33_k21, x_184_952, x_184_953, hkJK_0, hkJK_66, hkP1_0, hkP1_2, hkP1_u, hkC8, List.map_cons, List.map_nil, List.sum_cons, List.sum_nil, hkCat_0, hkCat_1, hkCat_2, Nat.reduceAdd, Nat.reduceLeDiff, hkPush_s, hkPush_n, true_and, and_true, implies_true, true_implies, not_true_eq_false, not_false_eq_true, false_implies, hkTf_0, hkTf_n1, hkOr01, hkOr11, Int.reduceEq, Int.reduceLT, Int.reduceLE, hk102a, hk102b, hk102c, Nat.reduceEqDiff, or_true, true_or, or_false, false_or, and_false, false_and, Classical.not_not, true_implies, List.set_cons_zero, List.set_cons_succ, ne_eq, hL0]
    refine law_case (D := d + 40) (pcB := 960) (tie_back (d := d + 28) (Nat.le_refl 190)  hR) (fun v g1 kz hx1 => ?_) (fun v g2 hv hrel => ?_)
    · have f0 : g1 (-2) 0 = L := by rw [kz (-2) (by decide)]; exact hL0
      have hc := hkCat_le (v := v)
      simp only [x_184_956, x_184_957, hkJK_0, hkJK_66, hkP1_0, hkP1_2, hkP1_u, hkC8, List.map_cons, List.map_nil, List.sum_cons, List.sum_nil, hkCat_0, hkCat_1, hkCat_2, Nat.reduceAdd, Nat.reduceLeDiff, hkPush_s, hkPush_n, true_and, and_true, implies_true, true_implies, not_true_eq_false, not_false_eq_true, false_implies, hkTf_0, hkTf_n1, hkOr01, hkOr11, Int.reduceEq, Int.reduceLT, Int.reduceLE, hk102a, hk102b, hk102c, Nat.reduceEqDiff, or_true, true_or, or_false, false_or, and_false, false_and, Classical.not_not, true_implies, List.set_cons_zero, List.set_cons_succ, ne_eq, f0]
      skip
      repeat' (first | exact hx1 | refine And.intro ?_ ?_ | intro _ | trivial | omega | (exfalso; omega))
    · obtain ⟨a, x⟩ := v
      have h0 : a = 0 := hv.1 (by decide +kernel)
      subst h0
      have hq := hN2 g2 hrel
      skip
      simp only [x_184_960, hkJK_0, hkJK_66, hkP1_0, hkP1_2, hkP1_u, hkC8, List.map_cons, List.map_nil, List.sum_cons, List.sum_nil, hkCat_0, hkCat_1, hkCat_2, Nat.reduceAdd, Nat.reduceLeDiff, hkPush_s, hkPush_n, true_and, and_true, implies_true, true_implies, not_true_eq_false, not_false_eq_true, false_implies, hkTf_0, hkTf_n1, hkOr01, hkOr11, Int.reduceEq, Int.reduceLT, Int.reduceLE, hk102a, hk102b, hk102c, Nat.reduceEqDiff, or_true, true_or, or_false, false_or, and_false, false_and, Classical.not_not, true_implies, List.set_cons_zero, List.set_cons_succ, ne_eq]
      repeat' (first | exact hq | refine And.intro ?_ ?_ | intro _ | trivial | omega | (exfalso; omega))
  exact K
theorem lwc_22 (hI : ∀ k : Int, inI (xs k)) (hR : Rel xs L g) (i0 : 0 ≤ i) (iL : i + 7 ≤ L) (L1 : L ≤ 3584) (hN : ∀ g2 : hkG, Rel xs L g2 → Xp 184 (d + 41) 1190 [(4, 0), (2, 0), (2, 66), (0, i)] [] 190 g2 Q) : Xp 184 (d + 41) 33 [(4, 0), (2, 0), (2, 66), (0, i)] [(0, 22)] 190 g Q := by
  have hN2 : ∀ g2 : hkG, Rel xs L g2 → Xp 184 (d + 40 + 1) 1190 [(4, 0), (2, 0), (2, 66), (0, i)] [] 190 g2 Q := hN
  obtain ⟨R, N, hb, -, -, -, -, hL0, hx⟩ := id hR
  have b1 : 0 ≤ i + 1 := by omega
  have c1 : i + 1 < L := by omega
  have e1 : g (-1) (i + 1) = xs (i + 1) := hx _ b1 c1
  have b2 : 0 ≤ i + 2 := by omega
  have c2 : i + 2 < L := by omega
  have e2 : g (-1) (i + 2) = xs (i + 2) := hx _ b2 c2
  have b3 : 0 ≤ i + 3 := by omega
  have c3 : i + 3 < L := by omega
  have e3 : g (-1) (i + 3) = xs (i + 3) := hx _ b3 c3
  have b4 : 0 ≤ i + 4 := by omega
  have c4 : i + 4 < L := by omega
  have e4 : g (-1) (i + 4) = xs (i + 4) := hx _ b4 c4
  obtain ⟨w1, w2, w3, w4⟩ : hkW (i + 1) = i + 1 ∧ hkW (i + 2) = i + 2 ∧ hkW (i + 3) = i + 3 ∧ hkW (i + 4) = i + 4 := ⟨hkW_in (by omega) (by omega), hkW_in (by omega) (by omega), hkW_in (by omega) (by omega), hkW_in (by omega) (by omega)⟩
  have K : Xp 184 (d + 40 + 1) 33 [(4, 0), (2, 0), (2, 66), (0, i)] [(0, 22)] 190 g Q := by
    simp only [x_184_33_k22, x_184_965, x_184_966, x_184_967, x_184_968, x_184_969, x_184_970, x_184_971, x_184_972, x_184_973, x_184_974, x_184_975, x_184_976, x_184_977, x_184_978, x_184_979, x_184_980, x_184_981, x_184_982, x_184_983, x_184_984, x_184_985, x_184_986, hkJK_0, hkJK_66, hkP1_0, hkP1_2, hkP1_u, hkC8, List.map_cons, List.map_nil, List.sum_cons, List.sum_nil, hkCat_0, hkCat_1, hkCat_2, Nat.reduceAdd, Nat.reduceLeDiff, hkPush_s, hkPush_n, true_and, and_true, implies_true, true_implies, not_true_eq_false, not_false_eq_true, false_implies, hkTf_0, hkTf_n1, hkOr01, hkOr11, Int.reduceEq, Int.reduceLT, Int.reduceLE, hk102a, hk102b, hk102c, Nat.reduceEqDiff, or_true, true_or, or_false, false_or, and_false, false_and, Classical.not_not, true_implies, List.set_cons_zero, List.set_cons_succ, ne_eq, hL0, b1, c1, e1, w1, b2, c2, e2, w2, b3, c3, e3, w3, b4, c4, e4, w4]
    refine law_case (D := d + 40) (pcB := 1013) (tie_load (d := d + 28) (Nat.le_refl 190) (hI (i + 3)) hR) (fun v g1 kz hx1 => ?_) (fun v g2 hv hrel => ?_)
    · have f0 : g1 (-2) 0 = L := by rw [kz (-2) (by decide)]; exact hL0
      have f1 : g1 (-1) (i + 1) = xs (i + 1) := by rw [kz (-1) (by decide)]; exact e1
      have f2 : g1 (-1) (i + 2) = xs (i + 2) := by rw [kz (-1) (by decide)]; exact e2
      have f3 : g1 (-1) (i + 3) = xs (i + 3) := by rw [kz (-1) (by decide)]; exact e3
      have f4 : g1 (-1) (i + 4) = xs (i + 4) := by rw [kz (-1) (by decide)]; exact e4
      have hc := hkCat_le (v := v)
      simp only [x_184_989, x_184_990, x_184_991, x_184_992, x_184_993, x_184_994, x_184_995, x_184_996, x_184_997, x_184_998, x_184_999, x_184_1000, x_184_1001, x_184_1002, x_184_1003, x_184_1004, x_184_1005, x_184_1006, x_184_1007, x_184_1008, x_184_1009, x_184_1010, hkJK_0, hkJK_66, hkP1_0, hkP1_2, hkP1_u, hkC8, List.map_cons, List.map_nil, List.sum_cons, List.sum_nil, hkCat_0, hkCat_1, hkCat_2, Nat.reduceAdd, Nat.reduceLeDiff, hkPush_s, hkPush_n, true_and, and_true, implies_true, true_implies, not_true_eq_false, not_false_eq_true, false_implies, hkTf_0, hkTf_n1, hkOr01, hkOr11, Int.reduceEq, Int.reduceLT, Int.reduceLE, hk102a, hk102b, hk102c, Nat.reduceEqDiff, or_true, true_or, or_false, false_or, and_false, false_and, Classical.not_not, true_implies, List.set_cons_zero, List.set_cons_succ, ne_eq, f0, b1, c1, f1, w1, b2, c2, f2, w2, b3, c3, f3, w3, b4, c4, f4, w4]
      clear w1 w2 w3 w4
      repeat' (first | exact hx1 | refine And.intro ?_ ?_ | intro _ | trivial | omega | (exfalso; omega))
    · obtain ⟨a, x⟩ := v
      have h0 : a = 0 := hv.1 (by decide +kernel)
      subst h0
      have hq := hN2 g2 hrel
      clear w1 w2 w3 w4
      simp only [x_184_1013, hkJK_0, hkJK_66, hkP1_0, hkP1_2, hkP1_u, hkC8, List.map_cons, List.map_nil, List.sum_cons, List.sum_nil, hkCat_0, hkCat_1, hkCat_2, Nat.reduceAdd, Nat.reduceLeDiff, hkPush_s, hkPush_n, true_and, and_true, implies_true, true_implies, not_true_eq_false, not_false_eq_true, false_implies, hkTf_0, hkTf_n1, hkOr01, hkOr11, Int.reduceEq, Int.reduceLT, Int.reduceLE, hk102a, hk102b, hk102c, Nat.reduceEqDiff, or_true, true_or, or_false, false_or, and_false, false_and, Classical.not_not, true_implies, List.set_cons_zero, List.set_cons_succ, ne_eq]
      repeat' (first | exact hq | refine And.intro ?_ ?_ | intro _ | trivial | omega | (exfalso; omega))
  exact K
theorem lwc_23 (hI : ∀ k : Int, inI (xs k)) (hR : Rel xs L g) (i0 : 0 ≤ i) (iL : i + 7 ≤ L) (L1 : L ≤ 3584) (hN : ∀ g2 : hkG, Rel xs L g2 → Xp 184 (d + 41) 1190 [(4, 0), (2, 0), (2, 66), (0, i)] [] 190 g2 Q) : Xp 184 (d + 41) 33 [(4, 0), (2, 0), (2, 66), (0, i)] [(0, 23)] 190 g Q := by
  have hN2 : ∀ g2 : hkG, Rel xs L g2 → Xp 184 (d + 40 + 1) 1190 [(4, 0), (2, 0), (2, 66), (0, i)] [] 190 g2 Q := hN
  obtain ⟨R, N, hb, -, -, -, -, hL0, hx⟩ := id hR
  have b1 : 0 ≤ i + 1 := by omega
  have c1 : i + 1 < L := by omega
  have e1 : g (-1) (i + 1) = xs (i + 1) := hx _ b1 c1
  obtain w1 : hkW (i + 1) = i + 1 := hkW_in (by omega) (by omega)
  have K : Xp 184 (d + 40 + 1) 33 [(4, 0), (2, 0), (2, 66), (0, i)] [(0, 23)] 190 g Q := by
    simp only [x_184_33_k23, x_184_1018, x_184_1019, x_184_1020, x_184_1021, x_184_1022, x_184_1023, x_184_1024, hkJK_0, hkJK_66, hkP1_0, hkP1_2, hkP1_u, hkC8, List.map_cons, List.map_nil, List.sum_cons, List.sum_nil, hkCat_0, hkCat_1, hkCat_2, Nat.reduceAdd, Nat.reduceLeDiff, hkPush_s, hkPush_n, true_and, and_true, implies_true, true_implies, not_true_eq_false, not_false_eq_true, false_implies, hkTf_0, hkTf_n1, hkOr01, hkOr11, Int.reduceEq, Int.reduceLT, Int.reduceLE, hk102a, hk102b, hk102c, Nat.reduceEqDiff, or_true, true_or, or_false, false_or, and_false, false_and, Classical.not_not, true_implies, List.set_cons_zero, List.set_cons_succ, ne_eq, hL0, b1, c1, e1, w1]
    refine law_case (D := d + 40) (pcB := 1036) (tie_count (d := d + 28) (Nat.le_refl 190)  hR) (fun v g1 kz hx1 => ?_) (fun v g2 hv hrel => ?_)
    · have f0 : g1 (-2) 0 = L := by rw [kz (-2) (by decide)]; exact hL0
      have f1 : g1 (-1) (i + 1) = xs (i + 1) := by rw [kz (-1) (by decide)]; exact e1
      have hc := hkCat_le (v := v)
      simp only [x_184_1027, x_184_1028, x_184_1029, x_184_1030, x_184_1031, x_184_1032, x_184_1033, hkJK_0, hkJK_66, hkP1_0, hkP1_2, hkP1_u, hkC8, List.map_cons, List.map_nil, List.sum_cons, List.sum_nil, hkCat_0, hkCat_1, hkCat_2, Nat.reduceAdd, Nat.reduceLeDiff, hkPush_s, hkPush_n, true_and, and_true, implies_true, true_implies, not_true_eq_false, not_false_eq_true, false_implies, hkTf_0, hkTf_n1, hkOr01, hkOr11, Int.reduceEq, Int.reduceLT, Int.reduceLE, hk102a, hk102b, hk102c, Nat.reduceEqDiff, or_true, true_or, or_false, false_or, and_false, false_and, Classical.not_not, true_implies, List.set_cons_zero, List.set_cons_succ, ne_eq, f0, b1, c1, f1, w1]
      clear w1
      repeat' (first | exact hx1 | refine And.intro ?_ ?_ | intro _ | trivial | omega | (exfalso; omega))
    · obtain ⟨a, x⟩ := v
      have h0 : a = 0 := hv.1 (by decide +kernel)
      subst h0
      have hq := hN2 g2 hrel
      clear w1
      simp only [x_184_1036, hkJK_0, hkJK_66, hkP1_0, hkP1_2, hkP1_u, hkC8, List.map_cons, List.map_nil, List.sum_cons, List.sum_nil, hkCat_0, hkCat_1, hkCat_2, Nat.reduceAdd, Nat.reduceLeDiff, hkPush_s, hkPush_n, true_and, and_true, implies_true, true_implies, not_true_eq_false, not_false_eq_true, false_implies, hkTf_0, hkTf_n1, hkOr01, hkOr11, Int.reduceEq, Int.reduceLT, Int.reduceLE, hk102a, hk102b, hk102c, Nat.reduceEqDiff, or_true, true_or, or_false, false_or, and_false, false_and, Classical.not_not, true_implies, List.set_cons_zero, List.set_cons_succ, ne_eq]
      repeat' (first | exact hq | refine And.intro ?_ ?_ | intro _ | trivial | omega | (exfalso; omega))
  exact K
theorem lwc_24 (hI : ∀ k : Int, inI (xs k)) (hR : Rel xs L g) (i0 : 0 ≤ i) (iL : i + 7 ≤ L) (L1 : L ≤ 3584) (hN : ∀ g2 : hkG, Rel xs L g2 → Xp 184 (d + 41) 1190 [(4, 0), (2, 0), (2, 66), (0, i)] [] 190 g2 Q) : Xp 184 (d + 41) 33 [(4, 0), (2, 0), (2, 66), (0, i)] [(0, 24)] 190 g Q := by
  have hN2 : ∀ g2 : hkG, Rel xs L g2 → Xp 184 (d + 40 + 1) 1190 [(4, 0), (2, 0), (2, 66), (0, i)] [] 190 g2 Q := hN
  obtain ⟨R, N, hb, -, -, -, -, hL0, hx⟩ := id hR
  have b1 : 0 ≤ i + 1 := by omega
  have c1 : i + 1 < L := by omega
  have e1 : g (-1) (i + 1) = xs (i + 1) := hx _ b1 c1
  have b2 : 0 ≤ i + 2 := by omega
  have c2 : i + 2 < L := by omega
  have e2 : g (-1) (i + 2) = xs (i + 2) := hx _ b2 c2
  have b3 : 0 ≤ i + 3 := by omega
  have c3 : i + 3 < L := by omega
  have e3 : g (-1) (i + 3) = xs (i + 3) := hx _ b3 c3
  obtain ⟨w1, w2, w3⟩ : hkW (i + 1) = i + 1 ∧ hkW (i + 2) = i + 2 ∧ hkW (i + 3) = i + 3 := ⟨hkW_in (by omega) (by omega), hkW_in (by omega) (by omega), hkW_in (by omega) (by omega)⟩
  have K : Xp 184 (d + 40 + 1) 33 [(4, 0), (2, 0), (2, 66), (0, i)] [(0, 24)] 190 g Q := by
    simp only [x_184_33_k24, x_184_1041, x_184_1042, x_184_1043, x_184_1044, x_184_1045, x_184_1046, x_184_1047, x_184_1048, x_184_1049, x_184_1050, x_184_1051, x_184_1052, x_184_1053, x_184_1054, x_184_1055, x_184_1056, x_184_1057, hkJK_0, hkJK_66, hkP1_0, hkP1_2, hkP1_u, hkC8, List.map_cons, List.map_nil, List.sum_cons, List.sum_nil, hkCat_0, hkCat_1, hkCat_2, Nat.reduceAdd, Nat.reduceLeDiff, hkPush_s, hkPush_n, true_and, and_true, implies_true, true_implies, not_true_eq_false, not_false_eq_true, false_implies, hkTf_0, hkTf_n1, hkOr01, hkOr11, Int.reduceEq, Int.reduceLT, Int.reduceLE, hk102a, hk102b, hk102c, Nat.reduceEqDiff, or_true, true_or, or_false, false_or, and_false, false_and, Classical.not_not, true_implies, List.set_cons_zero, List.set_cons_succ, ne_eq, hL0, b1, c1, e1, w1, b2, c2, e2, w2, b3, c3, e3, w3]
    refine law_case (D := d + 40) (pcB := 1079) (tie_sheet (d := d + 28) (Nat.le_refl 190)  hR) (fun v g1 kz hx1 => ?_) (fun v g2 hv hrel => ?_)
    · have f0 : g1 (-2) 0 = L := by rw [kz (-2) (by decide)]; exact hL0
      have f1 : g1 (-1) (i + 1) = xs (i + 1) := by rw [kz (-1) (by decide)]; exact e1
      have f2 : g1 (-1) (i + 2) = xs (i + 2) := by rw [kz (-1) (by decide)]; exact e2
      have f3 : g1 (-1) (i + 3) = xs (i + 3) := by rw [kz (-1) (by decide)]; exact e3
      have hc := hkCat_le (v := v)
      simp only [x_184_1060, x_184_1061, x_184_1062, x_184_1063, x_184_1064, x_184_1065, x_184_1066, x_184_1067, x_184_1068, x_184_1069, x_184_1070, x_184_1071, x_184_1072, x_184_1073, x_184_1074, x_184_1075, x_184_1076, hkJK_0, hkJK_66, hkP1_0, hkP1_2, hkP1_u, hkC8, List.map_cons, List.map_nil, List.sum_cons, List.sum_nil, hkCat_0, hkCat_1, hkCat_2, Nat.reduceAdd, Nat.reduceLeDiff, hkPush_s, hkPush_n, true_and, and_true, implies_true, true_implies, not_true_eq_false, not_false_eq_true, false_implies, hkTf_0, hkTf_n1, hkOr01, hkOr11, Int.reduceEq, Int.reduceLT, Int.reduceLE, hk102a, hk102b, hk102c, Nat.reduceEqDiff, or_true, true_or, or_false, false_or, and_false, false_and, Classical.not_not, true_implies, List.set_cons_zero, List.set_cons_succ, ne_eq, f0, b1, c1, f1, w1, b2, c2, f2, w2, b3, c3, f3, w3]
      clear w1 w2 w3
      repeat' (first | exact hx1 | refine And.intro ?_ ?_ | intro _ | trivial | omega | (exfalso; omega))
    · obtain ⟨a, x⟩ := v
      have h0 : a = 0 := hv.1 (by decide +kernel)
      subst h0
      have hq := hN2 g2 hrel
      clear w1 w2 w3
      simp only [x_184_1079, hkJK_0, hkJK_66, hkP1_0, hkP1_2, hkP1_u, hkC8, List.map_cons, List.map_nil, List.sum_cons, List.sum_nil, hkCat_0, hkCat_1, hkCat_2, Nat.reduceAdd, Nat.reduceLeDiff, hkPush_s, hkPush_n, true_and, and_true, implies_true, true_implies, not_true_eq_false, not_false_eq_true, false_implies, hkTf_0, hkTf_n1, hkOr01, hkOr11, Int.reduceEq, Int.reduceLT, Int.reduceLE, hk102a, hk102b, hk102c, Nat.reduceEqDiff, or_true, true_or, or_false, false_or, and_false, false_and, Classical.not_not, true_implies, List.set_cons_zero, List.set_cons_succ, ne_eq]
      repeat' (first | exact hq | refine And.intro ?_ ?_ | intro _ | trivial | omega | (exfalso; omega))
  exact K
theorem lwc_25 (hI : ∀ k : Int, inI (xs k)) (hR : Rel xs L g) (i0 : 0 ≤ i) (iL : i + 7 ≤ L) (L1 : L ≤ 3584) (hN : ∀ g2 : hkG, Rel xs L g2 → Xp 184 (d + 41) 1190 [(4, 0), (2, 0), (2, 66), (0, i)] [] 190 g2 Q) : Xp 184 (d + 41) 33 [(4, 0), (2, 0), (2, 66), (0, i)] [(0, 25)] 190 g Q := by
  have hN2 : ∀ g2 : hkG, Rel xs L g2 → Xp 184 (d + 40 + 1) 1190 [(4, 0), (2, 0), (2, 66), (0, i)] [] 190 g2 Q := hN
  obtain ⟨R, N, hb, -, -, -, -, hL0, hx⟩ := id hR
  have b1 : 0 ≤ i + 1 := by omega
  have c1 : i + 1 < L := by omega
  have e1 : g (-1) (i + 1) = xs (i + 1) := hx _ b1 c1
  have b2 : 0 ≤ i + 2 := by omega
  have c2 : i + 2 < L := by omega
  have e2 : g (-1) (i + 2) = xs (i + 2) := hx _ b2 c2
  have b3 : 0 ≤ i + 3 := by omega
  have c3 : i + 3 < L := by omega
  have e3 : g (-1) (i + 3) = xs (i + 3) := hx _ b3 c3
  obtain ⟨w1, w2, w3⟩ : hkW (i + 1) = i + 1 ∧ hkW (i + 2) = i + 2 ∧ hkW (i + 3) = i + 3 := ⟨hkW_in (by omega) (by omega), hkW_in (by omega) (by omega), hkW_in (by omega) (by omega)⟩
  have K : Xp 184 (d + 40 + 1) 33 [(4, 0), (2, 0), (2, 66), (0, i)] [(0, 25)] 190 g Q := by
    simp only [x_184_33_k25, x_184_1084, x_184_1085, x_184_1086, x_184_1087, x_184_1088, x_184_1089, x_184_1090, x_184_1091, x_184_1092, x_184_1093, x_184_1094, x_184_1095, x_184_1096, x_184_1097, x_184_1098, x_184_1099, x_184_1100, hkJK_0, hkJK_66, hkP1_0, hkP1_2, hkP1_u, hkC8, List.map_cons, List.map_nil, List.sum_cons, List.sum_nil, hkCat_0, hkCat_1, hkCat_2, Nat.reduceAdd, Nat.reduceLeDiff, hkPush_s, hkPush_n, true_and, and_true, implies_true, true_implies, not_true_eq_false, not_false_eq_true, false_implies, hkTf_0, hkTf_n1, hkOr01, hkOr11, Int.reduceEq, Int.reduceLT, Int.reduceLE, hk102a, hk102b, hk102c, Nat.reduceEqDiff, or_true, true_or, or_false, false_or, and_false, false_and, Classical.not_not, true_implies, List.set_cons_zero, List.set_cons_succ, ne_eq, hL0, b1, c1, e1, w1, b2, c2, e2, w2, b3, c3, e3, w3]
    refine law_case (D := d + 40) (pcB := 1122) (tie_put (d := d + 28) (Nat.le_refl 190) (hI (i + 2)) hR) (fun v g1 kz hx1 => ?_) (fun v g2 hv hrel => ?_)
    · have f0 : g1 (-2) 0 = L := by rw [kz (-2) (by decide)]; exact hL0
      have f1 : g1 (-1) (i + 1) = xs (i + 1) := by rw [kz (-1) (by decide)]; exact e1
      have f2 : g1 (-1) (i + 2) = xs (i + 2) := by rw [kz (-1) (by decide)]; exact e2
      have f3 : g1 (-1) (i + 3) = xs (i + 3) := by rw [kz (-1) (by decide)]; exact e3
      have hc := hkCat_le (v := v)
      simp only [x_184_1103, x_184_1104, x_184_1105, x_184_1106, x_184_1107, x_184_1108, x_184_1109, x_184_1110, x_184_1111, x_184_1112, x_184_1113, x_184_1114, x_184_1115, x_184_1116, x_184_1117, x_184_1118, x_184_1119, hkJK_0, hkJK_66, hkP1_0, hkP1_2, hkP1_u, hkC8, List.map_cons, List.map_nil, List.sum_cons, List.sum_nil, hkCat_0, hkCat_1, hkCat_2, Nat.reduceAdd, Nat.reduceLeDiff, hkPush_s, hkPush_n, true_and, and_true, implies_true, true_implies, not_true_eq_false, not_false_eq_true, false_implies, hkTf_0, hkTf_n1, hkOr01, hkOr11, Int.reduceEq, Int.reduceLT, Int.reduceLE, hk102a, hk102b, hk102c, Nat.reduceEqDiff, or_true, true_or, or_false, false_or, and_false, false_and, Classical.not_not, true_implies, List.set_cons_zero, List.set_cons_succ, ne_eq, f0, b1, c1, f1, w1, b2, c2, f2, w2, b3, c3, f3, w3]
      clear w1 w2 w3
      repeat' (first | exact hx1 | refine And.intro ?_ ?_ | intro _ | trivial | omega | (exfalso; omega))
    · obtain ⟨a, x⟩ := v
      have h0 : a = 0 := hv.1 (by decide +kernel)
      subst h0
      have hq := hN2 g2 hrel
      clear w1 w2 w3
      simp only [x_184_1122, hkJK_0, hkJK_66, hkP1_0, hkP1_2, hkP1_u, hkC8, List.map_cons, List.map_nil, List.sum_cons, List.sum_nil, hkCat_0, hkCat_1, hkCat_2, Nat.reduceAdd, Nat.reduceLeDiff, hkPush_s, hkPush_n, true_and, and_true, implies_true, true_implies, not_true_eq_false, not_false_eq_true, false_implies, hkTf_0, hkTf_n1, hkOr01, hkOr11, Int.reduceEq, Int.reduceLT, Int.reduceLE, hk102a, hk102b, hk102c, Nat.reduceEqDiff, or_true, true_or, or_false, false_or, and_false, false_and, Classical.not_not, true_implies, List.set_cons_zero, List.set_cons_succ, ne_eq]
      repeat' (first | exact hq | refine And.intro ?_ ?_ | intro _ | trivial | omega | (exfalso; omega))
  exact K
theorem lwc_26 (hI : ∀ k : Int, inI (xs k)) (hR : Rel xs L g) (i0 : 0 ≤ i) (iL : i + 7 ≤ L) (L1 : L ≤ 3584) (hN : ∀ g2 : hkG, Rel xs L g2 → Xp 184 (d + 41) 1190 [(4, 0), (2, 0), (2, 66), (0, i)] [] 190 g2 Q) : Xp 184 (d + 41) 33 [(4, 0), (2, 0), (2, 66), (0, i)] [(0, 26)] 190 g Q := by
  have hN2 : ∀ g2 : hkG, Rel xs L g2 → Xp 184 (d + 40 + 1) 1190 [(4, 0), (2, 0), (2, 66), (0, i)] [] 190 g2 Q := hN
  obtain ⟨R, N, hb, -, -, -, -, hL0, hx⟩ := id hR
  have b1 : 0 ≤ i + 1 := by omega
  have c1 : i + 1 < L := by omega
  have e1 : g (-1) (i + 1) = xs (i + 1) := hx _ b1 c1
  have b2 : 0 ≤ i + 2 := by omega
  have c2 : i + 2 < L := by omega
  have e2 : g (-1) (i + 2) = xs (i + 2) := hx _ b2 c2
  have b3 : 0 ≤ i + 3 := by omega
  have c3 : i + 3 < L := by omega
  have e3 : g (-1) (i + 3) = xs (i + 3) := hx _ b3 c3
  have b4 : 0 ≤ i + 4 := by omega
  have c4 : i + 4 < L := by omega
  have e4 : g (-1) (i + 4) = xs (i + 4) := hx _ b4 c4
  have b5 : 0 ≤ i + 5 := by omega
  have c5 : i + 5 < L := by omega
  have e5 : g (-1) (i + 5) = xs (i + 5) := hx _ b5 c5
  obtain ⟨w1, w2, w3, w4, w5⟩ : hkW (i + 1) = i + 1 ∧ hkW (i + 2) = i + 2 ∧ hkW (i + 3) = i + 3 ∧ hkW (i + 4) = i + 4 ∧ hkW (i + 5) = i + 5 := ⟨hkW_in (by omega) (by omega), hkW_in (by omega) (by omega), hkW_in (by omega) (by omega), hkW_in (by omega) (by omega), hkW_in (by omega) (by omega)⟩
  have K : Xp 184 (d + 40 + 1) 33 [(4, 0), (2, 0), (2, 66), (0, i)] [(0, 26)] 190 g Q := by
    simp only [x_184_33_k26, x_184_1127, x_184_1128, x_184_1129, x_184_1130, x_184_1131, x_184_1132, x_184_1133, x_184_1134, x_184_1135, x_184_1136, x_184_1137, x_184_1138, x_184_1139, x_184_1140, x_184_1141, x_184_1142, x_184_1143, x_184_1144, x_184_1145, x_184_1146, x_184_1147, x_184_1148, x_184_1149, x_184_1150, x_184_1151, x_184_1152, x_184_1153, hkJK_0, hkJK_66, hkP1_0, hkP1_2, hkP1_u, hkC8, List.map_cons, List.map_nil, List.sum_cons, List.sum_nil, hkCat_0, hkCat_1, hkCat_2, Nat.reduceAdd, Nat.reduceLeDiff, hkPush_s, hkPush_n, true_and, and_true, implies_true, true_implies, not_true_eq_false, not_false_eq_true, false_implies, hkTf_0, hkTf_n1, hkOr01, hkOr11, Int.reduceEq, Int.reduceLT, Int.reduceLE, hk102a, hk102b, hk102c, Nat.reduceEqDiff, or_true, true_or, or_false, false_or, and_false, false_and, Classical.not_not, true_implies, List.set_cons_zero, List.set_cons_succ, ne_eq, hL0, b1, c1, e1, w1, b2, c2, e2, w2, b3, c3, e3, w3, b4, c4, e4, w4, b5, c5, e5, w5]
    refine law_case (D := d + 40) (pcB := 1185) (tie_copy (d := d + 28) (Nat.le_refl 190) (hI (i + 2)) (hI (i + 4)) (hI (i + 5)) hR) (fun v g1 kz hx1 => ?_) (fun v g2 hv hrel => ?_)
    · have f0 : g1 (-2) 0 = L := by rw [kz (-2) (by decide)]; exact hL0
      have f1 : g1 (-1) (i + 1) = xs (i + 1) := by rw [kz (-1) (by decide)]; exact e1
      have f2 : g1 (-1) (i + 2) = xs (i + 2) := by rw [kz (-1) (by decide)]; exact e2
      have f3 : g1 (-1) (i + 3) = xs (i + 3) := by rw [kz (-1) (by decide)]; exact e3
      have f4 : g1 (-1) (i + 4) = xs (i + 4) := by rw [kz (-1) (by decide)]; exact e4
      have f5 : g1 (-1) (i + 5) = xs (i + 5) := by rw [kz (-1) (by decide)]; exact e5
      have hc := hkCat_le (v := v)
      simp only [x_184_1156, x_184_1157, x_184_1158, x_184_1159, x_184_1160, x_184_1161, x_184_1162, x_184_1163, x_184_1164, x_184_1165, x_184_1166, x_184_1167, x_184_1168, x_184_1169, x_184_1170, x_184_1171, x_184_1172, x_184_1173, x_184_1174, x_184_1175, x_184_1176, x_184_1177, x_184_1178, x_184_1179, x_184_1180, x_184_1181, x_184_1182, hkJK_0, hkJK_66, hkP1_0, hkP1_2, hkP1_u, hkC8, List.map_cons, List.map_nil, List.sum_cons, List.sum_nil, hkCat_0, hkCat_1, hkCat_2, Nat.reduceAdd, Nat.reduceLeDiff, hkPush_s, hkPush_n, true_and, and_true, implies_true, true_implies, not_true_eq_false, not_false_eq_true, false_implies, hkTf_0, hkTf_n1, hkOr01, hkOr11, Int.reduceEq, Int.reduceLT, Int.reduceLE, hk102a, hk102b, hk102c, Nat.reduceEqDiff, or_true, true_or, or_false, false_or, and_false, false_and, Classical.not_not, true_implies, List.set_cons_zero, List.set_cons_succ, ne_eq, f0, b1, c1, f1, w1, b2, c2, f2, w2, b3, c3, f3, w3, b4, c4, f4, w4, b5, c5, f5, w5]
      clear w1 w2 w3 w4 w5
      repeat' (first | exact hx1 | refine And.intro ?_ ?_ | intro _ | trivial | omega | (exfalso; omega))
    · obtain ⟨a, x⟩ := v
      have h0 : a = 0 := hv.1 (by decide +kernel)
      subst h0
      have hq := hN2 g2 hrel
      clear w1 w2 w3 w4 w5
      simp only [x_184_1185, hkJK_0, hkJK_66, hkP1_0, hkP1_2, hkP1_u, hkC8, List.map_cons, List.map_nil, List.sum_cons, List.sum_nil, hkCat_0, hkCat_1, hkCat_2, Nat.reduceAdd, Nat.reduceLeDiff, hkPush_s, hkPush_n, true_and, and_true, implies_true, true_implies, not_true_eq_false, not_false_eq_true, false_implies, hkTf_0, hkTf_n1, hkOr01, hkOr11, Int.reduceEq, Int.reduceLT, Int.reduceLE, hk102a, hk102b, hk102c, Nat.reduceEqDiff, or_true, true_or, or_false, false_or, and_false, false_and, Classical.not_not, true_implies, List.set_cons_zero, List.set_cons_succ, ne_eq]
      repeat' (first | exact hq | refine And.intro ?_ ?_ | intro _ | trivial | omega | (exfalso; omega))
  exact K
theorem l_law (hI : ∀ k : Int, inI (xs k)) (L0 : 0 ≤ L) (L1 : L ≤ 3584) (hQ : ∀ g' : hkG, Q (some (0, 1)) 190 g') : ∀ (m : Nat) (i : Int) (g : hkG), L - 7 - i < 7 * m → 0 ≤ i → i ≤ L + 7 → Rel xs L g → Xp 184 (d + 41) 18 [(4, 0), (2, 0), (2, 66), (0, i)] [] 190 g Q := by
  intro m
  induction m with
  | zero =>
    intro i g hm i0 i1 hR
    obtain ⟨R, N, hb, -, -, -, -, hL0, hx⟩ := id hR
    have e : hkW (L - 7) = L - 7 := hkW_in (by omega) (by omega)
    have hq := hQ g
    rw [x_184_18]
    simp only [x_184_19, x_184_20, x_184_21, x_184_23, x_184_24, hkJK_0, hkJK_66, hkP1_0, hkP1_2, hkP1_u, hkC8, List.map_cons, List.map_nil, List.sum_cons, List.sum_nil, hkCat_0, hkCat_1, hkCat_2, Nat.reduceAdd, Nat.reduceLeDiff, hkPush_s, hkPush_n, true_and, and_true, implies_true, true_implies, not_true_eq_false, not_false_eq_true, false_implies, hkTf_0, hkTf_n1, hkOr01, hkOr11, Int.reduceEq, Int.reduceLT, Int.reduceLE, hk102a, hk102b, hk102c, Nat.reduceEqDiff, or_true, true_or, or_false, false_or, and_false, false_and, Classical.not_not, true_implies, List.set_cons_zero, List.set_cons_succ, ne_eq, x_184_1196, x_184_1197, hkJK_0, hkJK_66, hkP1_0, hkP1_2, hkP1_u, hkC8, List.map_cons, List.map_nil, List.sum_cons, List.sum_nil, hkCat_0, hkCat_1, hkCat_2, Nat.reduceAdd, Nat.reduceLeDiff, hkPush_s, hkPush_n, true_and, and_true, implies_true, true_implies, not_true_eq_false, not_false_eq_true, false_implies, hkTf_0, hkTf_n1, hkOr01, hkOr11, Int.reduceEq, Int.reduceLT, Int.reduceLE, hk102a, hk102b, hk102c, Nat.reduceEqDiff, or_true, true_or, or_false, false_or, and_false, false_and, Classical.not_not, true_implies, List.set_cons_zero, List.set_cons_succ, ne_eq, hL0, e]
    clear e
    repeat' (first | exact hq | refine And.intro ?_ ?_ | intro _ | trivial | omega | (exfalso; omega))
  | succ m ih =>
    intro i g hm i0 i1 hR
    obtain ⟨R, N, hb, -, -, -, -, hL0, hx⟩ := id hR
    have hq := hQ g
    by_cases hi : L - 7 < i
    · have e : hkW (L - 7) = L - 7 := hkW_in (by omega) (by omega)
      rw [x_184_18]
      simp only [x_184_19, x_184_20, x_184_21, x_184_23, x_184_24, hkJK_0, hkJK_66, hkP1_0, hkP1_2, hkP1_u, hkC8, List.map_cons, List.map_nil, List.sum_cons, List.sum_nil, hkCat_0, hkCat_1, hkCat_2, Nat.reduceAdd, Nat.reduceLeDiff, hkPush_s, hkPush_n, true_and, and_true, implies_true, true_implies, not_true_eq_false, not_false_eq_true, false_implies, hkTf_0, hkTf_n1, hkOr01, hkOr11, Int.reduceEq, Int.reduceLT, Int.reduceLE, hk102a, hk102b, hk102c, Nat.reduceEqDiff, or_true, true_or, or_false, false_or, and_false, false_and, Classical.not_not, true_implies, List.set_cons_zero, List.set_cons_succ, ne_eq, x_184_1196, x_184_1197, hkJK_0, hkJK_66, hkP1_0, hkP1_2, hkP1_u, hkC8, List.map_cons, List.map_nil, List.sum_cons, List.sum_nil, hkCat_0, hkCat_1, hkCat_2, Nat.reduceAdd, Nat.reduceLeDiff, hkPush_s, hkPush_n, true_and, and_true, implies_true, true_implies, not_true_eq_false, not_false_eq_true, false_implies, hkTf_0, hkTf_n1, hkOr01, hkOr11, Int.reduceEq, Int.reduceLT, Int.reduceLE, hk102a, hk102b, hk102c, Nat.reduceEqDiff, or_true, true_or, or_false, false_or, and_false, false_and, Classical.not_not, true_implies, List.set_cons_zero, List.set_cons_succ, ne_eq, hL0, e]
      clear e
      repeat' (first | exact hq | refine And.intro ?_ ?_ | intro _ | trivial | omega | (exfalso; omega))
    · have iL : i + 7 ≤ L := by omega
      have ex := hx i i0 (by omega)
      have NX : ∀ g2 : hkG, Rel xs L g2 → Xp 184 (d + 41) 1190 [(4, 0), (2, 0), (2, 66), (0, i)] [] 190 g2 Q := by
        intro g2 hR2
        have IH := ih (i + 7) g2 (by omega) (by omega) (by omega) hR2
        have e : hkW (i + 7) = i + 7 := hkW_in (by omega) (by omega)
        simp only [x_184_1190, x_184_1193, hkJK_0, hkJK_66, hkP1_0, hkP1_2, hkP1_u, hkC8, List.map_cons, List.map_nil, List.sum_cons, List.sum_nil, hkCat_0, hkCat_1, hkCat_2, Nat.reduceAdd, Nat.reduceLeDiff, hkPush_s, hkPush_n, true_and, and_true, implies_true, true_implies, not_true_eq_false, not_false_eq_true, false_implies, hkTf_0, hkTf_n1, hkOr01, hkOr11, Int.reduceEq, Int.reduceLT, Int.reduceLE, hk102a, hk102b, hk102c, Nat.reduceEqDiff, or_true, true_or, or_false, false_or, and_false, false_and, Classical.not_not, true_implies, List.set_cons_zero, List.set_cons_succ, ne_eq, e]
        clear e
        repeat' (first | exact IH | refine And.intro ?_ ?_ | intro _ | trivial | omega | (exfalso; omega))
      have SW : Xp 184 (d + 41) 33 [(4, 0), (2, 0), (2, 66), (0, i)] [(0, hkAnd (xs i) 31)] 190 g Q := by
        by_cases h0 : hkAnd (xs i) 31 = 0
        · rw [h0]; exact lwc_0 hI hR i0 iL L1 NX
        by_cases h1 : hkAnd (xs i) 31 = 1
        · rw [h1]; exact lwc_1 hI hR i0 iL L1 NX
        by_cases h2 : hkAnd (xs i) 31 = 2
        · rw [h2]; exact lwc_2 hI hR i0 iL L1 NX
        by_cases h3 : hkAnd (xs i) 31 = 3
        · rw [h3]; exact lwc_3 hI hR i0 iL L1 NX
        by_cases h4 : hkAnd (xs i) 31 = 4
        · rw [h4]; exact lwc_4 hI hR i0 iL L1 NX
        by_cases h5 : hkAnd (xs i) 31 = 5
        · rw [h5]; exact lwc_5 hI hR i0 iL L1 NX
        by_cases h6 : hkAnd (xs i) 31 = 6
        · rw [h6]; exact lwc_6 hI hR i0 iL L1 NX
        by_cases h7 : hkAnd (xs i) 31 = 7
        · rw [h7]; exact lwc_7 hI hR i0 iL L1 NX
        by_cases h8 : hkAnd (xs i) 31 = 8
        · rw [h8]; exact lwc_8 hI hR i0 iL L1 NX
        by_cases h9 : hkAnd (xs i) 31 = 9
        · rw [h9]; exact lwc_9 hI hR i0 iL L1 NX
        by_cases h10 : hkAnd (xs i) 31 = 10
        · rw [h10]; exact lwc_10 hI hR i0 iL L1 NX
        by_cases h11 : hkAnd (xs i) 31 = 11
        · rw [h11]; exact lwc_11 hI hR i0 iL L1 NX
        by_cases h12 : hkAnd (xs i) 31 = 12
        · rw [h12]; exact lwc_12 hI hR i0 iL L1 NX
        by_cases h13 : hkAnd (xs i) 31 = 13
        · rw [h13]; exact lwc_13 hI hR i0 iL L1 NX
        by_cases h14 : hkAnd (xs i) 31 = 14
        · rw [h14]; exact lwc_14 hI hR i0 iL L1 NX
        by_cases h15 : hkAnd (xs i) 31 = 15
        · rw [h15]; exact lwc_15 hI hR i0 iL L1 NX
        by_cases h16 : hkAnd (xs i) 31 = 16
        · rw [h16]; exact lwc_16 hI hR i0 iL L1 NX
        by_cases h17 : hkAnd (xs i) 31 = 17
        · rw [h17]; exact lwc_17 hI hR i0 iL L1 NX
        by_cases h18 : hkAnd (xs i) 31 = 18
        · rw [h18]; exact lwc_18 hI hR i0 iL L1 NX
        by_cases h19 : hkAnd (xs i) 31 = 19
        · rw [h19]; exact lwc_19 hI hR i0 iL L1 NX
        by_cases h20 : hkAnd (xs i) 31 = 20
        · rw [h20]; exact lwc_20 hI hR i0 iL L1 NX
        by_cases h21 : hkAnd (xs i) 31 = 21
        · rw [h21]; exact lwc_21 hI hR i0 iL L1 NX
        by_cases h22 : hkAnd (xs i) 31 = 22
        · rw [h22]; exact lwc_22 hI hR i0 iL L1 NX
        by_cases h23 : hkAnd (xs i) 31 = 23
        · rw [h23]; exact lwc_23 hI hR i0 iL L1 NX
        by_cases h24 : hkAnd (xs i) 31 = 24
        · rw [h24]; exact lwc_24 hI hR i0 iL L1 NX
        by_cases h25 : hkAnd (xs i) 31 = 25
        · rw [h25]; exact lwc_25 hI hR i0 iL L1 NX
        by_cases h26 : hkAnd (xs i) 31 = 26
        · rw [h26]; exact lwc_26 hI hR i0 iL L1 NX
        rw [x_184_33_d (by omega)]
        exact NX g hR
      have e : hkW (L - 7) = L - 7 := hkW_in (by omega) (by omega)
      rw [x_184_18]
      simp only [x_184_19, x_184_20, x_184_21, x_184_23, x_184_24, x_184_27, x_184_28, x_184_29, x_184_30, x_184_32, hkJK_0, hkJK_66, hkP1_0, hkP1_2, hkP1_u, hkC8, List.map_cons, List.map_nil, List.sum_cons, List.sum_nil, hkCat_0, hkCat_1, hkCat_2, Nat.reduceAdd, Nat.reduceLeDiff, hkPush_s, hkPush_n, true_and, and_true, implies_true, true_implies, not_true_eq_false, not_false_eq_true, false_implies, hkTf_0, hkTf_n1, hkOr01, hkOr11, Int.reduceEq, Int.reduceLT, Int.reduceLE, hk102a, hk102b, hk102c, Nat.reduceEqDiff, or_true, true_or, or_false, false_or, and_false, false_and, Classical.not_not, true_implies, List.set_cons_zero, List.set_cons_succ, ne_eq, hL0, e, ex]
      clear e
      repeat' (first | exact SW | refine And.intro ?_ ?_ | intro _ | trivial | omega | (exfalso; omega))
end SP
