/-! the pure machine's own rules: what a point comes to -/
theorem hkRun_succ : ∀ (n d y : Nat) (c : hkC) (r : Option hkV × Nat × hkG), hkRun n d y c = some r → hkRun (n + 1) d y c = some r := by
  intro n
  induction n with
  | zero => intro d y c r h; simp [hkRun] at h
  | succ n ih =>
    intro d y c r h
    unfold hkRun at h ⊢
    split at h
    · cases h
    · rename_i i len hf
      split at h
      · cases h
      · rename_i q hq
        exact ih _ _ _ _ h
      · rename_i y' as pc' ls' st' hq
        split at h
        · cases h
        · rename_i d'
          split at h
          · cases h
          · rename_i r' t' g' hr
            simp only [ih _ _ _ _ hr]
            exact ih _ _ _ _ h
      · rename_i r' hq
        exact h
theorem hkRun_le {n m d y : Nat} {c : hkC} {r : Option hkV × Nat × hkG} (h : hkRun n d y c = some r) (hm : n ≤ m) : hkRun m d y c = some r := by
  obtain ⟨k, rfl⟩ := Nat.le.dest hm
  induction k with
  | zero => exact h
  | succ k ih => exact hkRun_succ _ _ _ _ _ (ih (Nat.le_add_right _ _))
theorem hkRun_deep : ∀ (n d y : Nat) (c : hkC) (r : Option hkV × Nat × hkG), hkRun n d y c = some r → ∀ e, d ≤ e → hkRun n e y c = some r := by
  intro n
  induction n with
  | zero => intro d y c r h; simp [hkRun] at h
  | succ n ih =>
    intro d y c r h e he
    unfold hkRun at h ⊢
    split at h
    · cases h
    · rename_i i len hf
      split at h
      · cases h
      · rename_i q hq
        exact ih _ _ _ _ h e he
      · rename_i y' as pc' ls' st' hq
        split at h
        · cases h
        · rename_i d'
          split at h
          · cases h
          · rename_i r' t' g' hr
            match e, he with
            | e' + 1, he =>
              simp only [ih _ _ _ _ hr e' (by omega)]
              exact ih _ _ _ _ h (e' + 1) he
      · rename_i r' hq
        exact h
theorem hkRun_one {n m d e y : Nat} {c : hkC} {r r' : Option hkV × Nat × hkG} (h : hkRun n d y c = some r) (h' : hkRun m e y c = some r') : r = r' := by
  have h1 := hkRun_deep _ _ _ _ _ (hkRun_le h (Nat.le_max_left n m)) (max d e) (Nat.le_max_left d e)
  have h2 := hkRun_deep _ _ _ _ _ (hkRun_le h' (Nat.le_max_right n m)) (max d e) (Nat.le_max_right d e)
  rw [h1] at h2
  exact Option.some.inj h2
/-- the pure machine comes from this point to an end with Q -/
def Xp (y d pc : Nat) (ls st : List hkV) (t : Nat) (g : hkG) (Q : Option hkV → Nat → hkG → Prop) : Prop := ∃ (n : Nat) (r : Option hkV) (t' : Nat) (g' : hkG), hkRun n d y (pc, ls, st, t, g) = some (r, t', g') ∧ Q r t' g'
/-- a method's run from its entry -/
def Ev (y d : Nat) (ls : List hkV) (t : Nat) (g : hkG) (r : Option hkV) (t' : Nat) (g' : hkG) : Prop := ∃ n, hkRun n d y (0, ls, [], t, g) = some (r, t', g')
theorem Ev_of {y d : Nat} {ls : List hkV} {t : Nat} {g : hkG} {r : Option hkV} {t' : Nat} {g' : hkG} (h : Xp y d 0 ls [] t g (fun r2 t2 g2 => r2 = r ∧ t2 = t' ∧ g2 = g')) : Ev y d ls t g r t' g' := by
  obtain ⟨n, r2, t2, g2, h1, rfl, rfl, rfl⟩ := h
  exact ⟨n, h1⟩
theorem Ev_ex {y d : Nat} {ls : List hkV} {t : Nat} {g : hkG} {P : Option hkV → Nat → hkG → Prop} (h : Xp y d 0 ls [] t g P) : ∃ r t' g', Ev y d ls t g r t' g' ∧ P r t' g' := by
  obtain ⟨n, r2, t2, g2, h1, h2⟩ := h
  exact ⟨r2, t2, g2, ⟨n, h1⟩, h2⟩
theorem Ev_deep {y d e : Nat} {ls : List hkV} {t : Nat} {g : hkG} {r : Option hkV} {t' : Nat} {g' : hkG} (h : Ev y d ls t g r t' g') (he : d ≤ e) : Ev y e ls t g r t' g' := by
  obtain ⟨n, h⟩ := h
  exact ⟨n, hkRun_deep _ _ _ _ _ h e he⟩
theorem Xp_ev {y d e : Nat} {ls : List hkV} {t : Nat} {g : hkG} {r : Option hkV} {t' : Nat} {g' : hkG} {Q : Option hkV → Nat → hkG → Prop} (h : Ev y d ls t g r t' g') (he : d ≤ e) : Xp y e 0 ls [] t g Q = Q r t' g' := by
  obtain ⟨n, h⟩ := Ev_deep h he
  apply propext
  constructor
  · rintro ⟨m, r2, t2, g2, h2, hq⟩
    have := hkRun_one h h2
    simp only [Prod.mk.injEq] at this
    obtain ⟨rfl, rfl, rfl⟩ := this
    exact hq
  · intro hq
    exact ⟨n, r, t', g', h, hq⟩
theorem Xp_mono {y d pc : Nat} {ls st : List hkV} {t : Nat} {g : hkG} {Q Q' : Option hkV → Nat → hkG → Prop} (h : Xp y d pc ls st t g Q) (hq : ∀ r t' g', Q r t' g' → Q' r t' g') : Xp y d pc ls st t g Q' := by
  obtain ⟨n, r, t', g', h1, h2⟩ := h
  exact ⟨n, r, t', g', h1, hq _ _ _ h2⟩
theorem Xp_deep {y d e pc : Nat} {ls st : List hkV} {t : Nat} {g : hkG} {Q : Option hkV → Nat → hkG → Prop} (h : Xp y d pc ls st t g Q) (he : d ≤ e) : Xp y e pc ls st t g Q := by
  obtain ⟨n, r, t', g', h1, h2⟩ := h
  exact ⟨n, r, t', g', hkRun_deep _ _ _ _ _ h1 e he, h2⟩
section XR
variable {y d pc len : Nat} {ls st : List hkV} {t : Nat} {g : hkG} {Q : Option hkV → Nat → hkG → Prop} {i : Instr}
theorem Xp_go {pc' : Nat} {ls' st' : List hkV} {t' : Nat} {g' : hkG} (hf : hkFetch y pc = some (i, len)) (hp : hkPx y i len (pc, ls, st, t, g) = hkGo pc' ls' st' t' g') : Xp y d pc ls st t g Q = Xp y d pc' ls' st' t' g' Q := by
  apply propext
  constructor
  · rintro ⟨n, r, t2, g2, h, hq⟩
    cases n with
    | zero => simp [hkRun] at h
    | succ n =>
      unfold hkRun at h
      simp only [hf, hp, hkGo] at h
      exact ⟨n, r, t2, g2, h, hq⟩
  · rintro ⟨n, r, t2, g2, h, hq⟩
    refine ⟨n + 1, r, t2, g2, ?_, hq⟩
    unfold hkRun
    simp only [hf, hp, hkGo]
    exact h
theorem Xp_none (hf : hkFetch y pc = some (i, len)) (hp : hkPx y i len (pc, ls, st, t, g) = none) : Xp y d pc ls st t g Q = False := by
  apply propext
  refine ⟨?_, fun h => h.elim⟩
  rintro ⟨n, r, t2, g2, h, hq⟩
  cases n with
  | zero => simp [hkRun] at h
  | succ n =>
    unfold hkRun at h
    simp [hf, hp] at h
theorem Xp_chk {cd : Prop} {pc' : Nat} {ls' st' : List hkV} {t' : Nat} {g' : hkG} (hf : hkFetch y pc = some (i, len)) (hp : hkPx y i len (pc, ls, st, t, g) = hkChk cd (hkGo pc' ls' st' t' g')) : Xp y d pc ls st t g Q = (cd ∧ Xp y d pc' ls' st' t' g' Q) := by
  by_cases hc : cd
  · rw [Xp_go hf (hp.trans (by unfold hkChk; rw [if_pos hc]))]
    simp [hc]
  · rw [Xp_none hf (hp.trans (by unfold hkChk; rw [if_neg hc]))]
    simp [hc]
theorem Xp_br {cd : Prop} {pc1 pc2 : Nat} {ls' st' : List hkV} {t' : Nat} {g' : hkG} (hf : hkFetch y pc = some (i, len)) (hp : hkPx y i len (pc, ls, st, t, g) = hkBr cd (hkGo pc1 ls' st' t' g') (hkGo pc2 ls' st' t' g')) : Xp y d pc ls st t g Q = ((cd → Xp y d pc1 ls' st' t' g' Q) ∧ (¬ cd → Xp y d pc2 ls' st' t' g' Q)) := by
  by_cases hc : cd
  · rw [Xp_go hf (hp.trans (by unfold hkBr; rw [if_pos hc]))]
    simp [hc]
  · rw [Xp_go hf (hp.trans (by unfold hkBr; rw [if_neg hc]))]
    simp [hc]
theorem Xp_call {y' pc' : Nat} {as ls' st' : List hkV} (hf : hkFetch y pc = some (i, len)) (hp : hkPx y i len (pc, ls, st, t, g) = some (.inr (.inl (y', as, pc', ls', st')))) : Xp y (d + 1) pc ls st t g Q = Xp y' d 0 (hkEnt (hkX y') as) [] t g (fun r t' g' => Xp y (d + 1) pc' ls' (hkPush r st') t' g' Q) := by
  apply propext
  constructor
  · rintro ⟨n, r, t2, g2, h, hq⟩
    cases n with
    | zero => simp [hkRun] at h
    | succ n =>
      unfold hkRun at h
      simp only [hf, hp] at h
      split at h
      · cases h
      · rename_i r' t' g' hr
        exact ⟨n, r', t', g', hr, n, r, t2, g2, h, hq⟩
  · rintro ⟨n, r', t', g', hr, m, r, t2, g2, h, hq⟩
    refine ⟨max n m + 1, r, t2, g2, ?_, hq⟩
    unfold hkRun
    simp only [hf, hp, hkRun_le hr (Nat.le_max_left n m), hkRun_le h (Nat.le_max_right n m)]
theorem Xp_ret {r : Option hkV} (hf : hkFetch y pc = some (i, len)) (hp : hkPx y i len (pc, ls, st, t, g) = some (.inr (.inr r))) : Xp y d pc ls st t g Q = Q r t g := by
  apply propext
  constructor
  · rintro ⟨n, r', t2, g2, h, hq⟩
    cases n with
    | zero => simp [hkRun] at h
    | succ n =>
      unfold hkRun at h
      simp only [hf, hp, Option.some.injEq, Prod.mk.injEq] at h
      obtain ⟨rfl, rfl, rfl⟩ := h
      exact hq
  · intro hq
    refine ⟨1, r, t, g, ?_, hq⟩
    unfold hkRun
    simp only [hf, hp]
end XR
