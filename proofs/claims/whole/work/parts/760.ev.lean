/-! a text read: an evaluator with fuel -/
def hrC (T : Int → Int) (F p : Int) : Int := if p < F then T p else -1
def dgN (T : Int → Int) (F : Int) : Nat → Int → Nat
  | 0, _ => 0
  | m + 1, p => if 48 ≤ hrC T F p ∧ hrC T F p ≤ 57 then dgN T F m (p + 1) + 1 else 0
def dgVl (T : Int → Int) : Nat → Int → Int → Int
  | 0, _, v => v
  | k + 1, p, v => dgVl T k (p + 1) (v * 10 + T p - 48)
def dgZ (T : Int → Int) : Nat → Int → Int → Int
  | 0, _, z => z
  | k + 1, p, z => dgZ T k (p + 1) (if T p = 48 then 1 else z)
def rdS (R N : Int) (T : Int → Int) (p : Int) (k : Nat) : Int := if dgZ T k p 0 = 0 then nbV R N (dgVl T k p 0) else -1
abbrev evT := Int × Int × Prop × (Int → Int)
def evB (x : Option evT) (k : evT → Option evT) : Option evT := match x with
  | none => none
  | some r => k r
theorem evB_s {x : Option evT} {k : evT → Option evT} {r : evT} (h : evB x k = some r) : ∃ r1, x = some r1 ∧ k r1 = some r := by
  cases x with
  | none =>
    have h' : (none : Option evT) = some r := h
    cases h'
  | some r1 => exact ⟨r1, rfl, h⟩
noncomputable def ev (R N F : Int) (T : Int → Int) : Nat → Nat → Int → Int → Int → Prop → (Int → Int) → Option evT
  | 0, _, _, _, _, _, _ => none
  | f + 1, 0, pl, op, _, sp, A =>
    if 48 ≤ hrC T F pl ∧ hrC T F pl ≤ 57 then some (1, pl + dgN T F 4 pl, sp, unV 0 (dgVl T (dgN T F 4 pl) pl 0))
    else if hrC T F pl = 40 ∧ op < 4 then evB (ev R N F T f 2 (pl + 1) (op + 1) 0 sp A) (fun r => if r.1 = -1 then some r else if hrC T F r.2.1 = 41 then some (r.1, r.2.1 + 1, r.2.2.1, r.2.2.2) else some (-1, r.2.1, r.2.2.1, r.2.2.2))
    else if hrC T F pl = 113 then some (1, pl + 1, sp, unV 35 1)
    else if hrC T F pl ≠ 91 then some (-1, pl, sp, A)
    else if rdS R N T (pl + 1) (dgN T F 4 (pl + 1)) = -1 then some (-1, pl, sp, A)
    else if hrC T F (pl + 1 + dgN T F 4 (pl + 1)) = 93 then some (1, pl + 1 + dgN T F 4 (pl + 1) + 1, sp, unV (rdS R N T (pl + 1) (dgN T F 4 (pl + 1))) 1)
    else some (-1, pl + 1 + dgN T F 4 (pl + 1), sp, A)
  | f + 1, 1, pl, op, _, sp, A => evB (ev R N F T f 0 pl op 0 sp A) (fun r => if r.1 = -1 then some r else ev R N F T f 3 r.2.1 op r.1 r.2.2.1 r.2.2.2)
  | f + 1, 2, pl, op, _, sp, A => evB (ev R N F T f 1 pl op 0 sp A) (fun r => if r.1 = -1 then some r else ev R N F T f 4 r.2.1 op r.1 r.2.2.1 r.2.2.2)
  | f + 1, 3, pl, op, n, sp, A =>
    if hrC T F pl = 42 then evB (ev R N F T f 0 (pl + 1) op 0 sp A) (fun r => if r.1 = -1 then some r else ev R N F T f 3 r.2.1 op (1 + max n r.1) (r.2.2.1 ∨ ¬ fitsP R N A r.2.2.2) (mprod R N A r.2.2.2))
    else some (n, pl, sp, A)
  | f + 1, _ + 4, pl, op, n, sp, A =>
    if hrC T F pl = 43 ∨ hrC T F pl = 45 then evB (ev R N F T f 1 (pl + 1) op 0 sp A) (fun r => if r.1 = -1 then some r else ev R N F T f 4 r.2.1 op (1 + n + r.1) (r.2.2.1 ∨ ¬ addP A r.2.2.2 (if hrC T F pl = 43 then 1 else -1)) (fun p => A p + (if hrC T F pl = 43 then 1 else -1) * r.2.2.2 p))
    else some (n, pl, sp, A)
theorem ev_0 {R N F : Int} {T : Int → Int} {f : Nat} {pl op n : Int} {sp : Prop} {A : Int → Int} : ev R N F T (f + 1) 0 pl op n sp A = (if 48 ≤ hrC T F pl ∧ hrC T F pl ≤ 57 then some (1, pl + dgN T F 4 pl, sp, unV 0 (dgVl T (dgN T F 4 pl) pl 0))
    else if hrC T F pl = 40 ∧ op < 4 then evB (ev R N F T f 2 (pl + 1) (op + 1) 0 sp A) (fun r => if r.1 = -1 then some r else if hrC T F r.2.1 = 41 then some (r.1, r.2.1 + 1, r.2.2.1, r.2.2.2) else some (-1, r.2.1, r.2.2.1, r.2.2.2))
    else if hrC T F pl = 113 then some (1, pl + 1, sp, unV 35 1)
    else if hrC T F pl ≠ 91 then some (-1, pl, sp, A)
    else if rdS R N T (pl + 1) (dgN T F 4 (pl + 1)) = -1 then some (-1, pl, sp, A)
    else if hrC T F (pl + 1 + dgN T F 4 (pl + 1)) = 93 then some (1, pl + 1 + dgN T F 4 (pl + 1) + 1, sp, unV (rdS R N T (pl + 1) (dgN T F 4 (pl + 1))) 1)
    else some (-1, pl + 1 + dgN T F 4 (pl + 1), sp, A)) := rfl
theorem ev_1 {R N F : Int} {T : Int → Int} {f : Nat} {pl op n : Int} {sp : Prop} {A : Int → Int} : ev R N F T (f + 1) 1 pl op n sp A = evB (ev R N F T f 0 pl op 0 sp A) (fun r => if r.1 = -1 then some r else ev R N F T f 3 r.2.1 op r.1 r.2.2.1 r.2.2.2) := rfl
theorem ev_2 {R N F : Int} {T : Int → Int} {f : Nat} {pl op n : Int} {sp : Prop} {A : Int → Int} : ev R N F T (f + 1) 2 pl op n sp A = evB (ev R N F T f 1 pl op 0 sp A) (fun r => if r.1 = -1 then some r else ev R N F T f 4 r.2.1 op r.1 r.2.2.1 r.2.2.2) := rfl
theorem ev_3 {R N F : Int} {T : Int → Int} {f : Nat} {pl op n : Int} {sp : Prop} {A : Int → Int} : ev R N F T (f + 1) 3 pl op n sp A = (if hrC T F pl = 42 then evB (ev R N F T f 0 (pl + 1) op 0 sp A) (fun r => if r.1 = -1 then some r else ev R N F T f 3 r.2.1 op (1 + max n r.1) (r.2.2.1 ∨ ¬ fitsP R N A r.2.2.2) (mprod R N A r.2.2.2)) else some (n, pl, sp, A)) := rfl
theorem ev_4 {R N F : Int} {T : Int → Int} {f : Nat} {pl op n : Int} {sp : Prop} {A : Int → Int} : ev R N F T (f + 1) 4 pl op n sp A = (if hrC T F pl = 43 ∨ hrC T F pl = 45 then evB (ev R N F T f 1 (pl + 1) op 0 sp A) (fun r => if r.1 = -1 then some r else ev R N F T f 4 r.2.1 op (1 + n + r.1) (r.2.2.1 ∨ ¬ addP A r.2.2.2 (if hrC T F pl = 43 then 1 else -1)) (fun p => A p + (if hrC T F pl = 43 then 1 else -1) * r.2.2.2 p)) else some (n, pl, sp, A)) := rfl
theorem dgN_b {T : Int → Int} {F : Int} : ∀ (m : Nat) (p : Int), p ≤ F → p + dgN T F m p ≤ F ∧ dgN T F m p ≤ m := by
  intro m
  induction m with
  | zero => intro p hp; unfold dgN; omega
  | succ m ih =>
    intro p hp
    unfold dgN
    by_cases h : 48 ≤ hrC T F p ∧ hrC T F p ≤ 57
    · rw [if_pos h]
      have hF : p < F := by
        unfold hrC at h
        by_cases e : p < F
        · exact e
        · rw [if_neg e] at h; omega
      have := ih (p + 1) (by omega)
      omega
    · rw [if_neg h]; omega
theorem hrC_lt {T : Int → Int} {F p : Int} (h : hrC T F p ≠ -1) : p < F := by
  unfold hrC at h
  by_cases e : p < F
  · exact e
  · rw [if_neg e] at h; exact absurd rfl h
/-- what a reading keeps: the place goes on, the parts are few, what is spent stays so -/
theorem ev_bd {R N F : Int} {T : Int → Int} : ∀ (f md : Nat) (pl op n : Int) (sp : Prop) (A : Int → Int) (r : evT), md ≤ 4 → pl ≤ F → (3 ≤ md → 1 ≤ n) → ev R N F T f md pl op n sp A = some r → pl ≤ r.2.1 ∧ r.2.1 ≤ F ∧ (sp → r.2.2.1) ∧ (r.1 = -1 ∨ (1 ≤ r.1 ∧ r.1 ≤ (if 3 ≤ md then n else 0) + (r.2.1 - pl))) := by
  intro f
  induction f with
  | zero =>
    intro md pl op n sp A r _ _ _ h
    have h' : (none : Option evT) = some r := h
    cases h'
  | succ f ih =>
    intro md pl op n sp A r hm hp hn h
    have h5 : md = 0 ∨ md = 1 ∨ md = 2 ∨ md = 3 ∨ md = 4 := by omega
    rcases h5 with e | e | e | e | e
    · subst e
      rw [ev_0] at h
      rw [if_neg (by decide)]
      by_cases c1 : 48 ≤ hrC T F pl ∧ hrC T F pl ≤ 57
      · rw [if_pos c1] at h
        have h := (Option.some.inj h).symm
        subst h
        have hF := hrC_lt (T := T) (F := F) (p := pl) (by omega)
        have hd := dgN_b (T := T) 4 pl hp
        have hd1 : 1 ≤ dgN T F 4 pl := by unfold dgN; rw [if_pos c1]; omega
        exact ⟨by show pl ≤ pl + (dgN T F 4 pl : Int); omega, hd.1, id, Or.inr ⟨by show (1 : Int) ≤ 1; decide, by show (1 : Int) ≤ 0 + (pl + (dgN T F 4 pl : Int) - pl); omega⟩⟩
      · rw [if_neg c1] at h
        by_cases c2 : hrC T F pl = 40 ∧ op < 4
        · rw [if_pos c2] at h
          obtain ⟨r1, h1, h2⟩ := evB_s h
          have hF := hrC_lt (T := T) (F := F) (p := pl) (by omega)
          have i := ih 2 (pl + 1) (op + 1) 0 sp A r1 (by decide) (by omega) (fun h => absurd h (by decide)) h1
          rw [if_neg (by decide)] at i
          by_cases c3 : r1.1 = -1
          · rw [if_pos c3] at h2
            have h2 := (Option.some.inj h2).symm
            subst h2
            exact ⟨by omega, i.2.1, i.2.2.1, Or.inl c3⟩
          · rw [if_neg c3] at h2
            by_cases c4 : hrC T F r1.2.1 = 41
            · rw [if_pos c4] at h2
              have h2 := (Option.some.inj h2).symm
              subst h2
              have hF2 := hrC_lt (T := T) (F := F) (p := r1.2.1) (by omega)
              exact ⟨by show pl ≤ r1.2.1 + 1; omega, by show r1.2.1 + 1 ≤ F; omega, i.2.2.1, Or.inr ⟨by show 1 ≤ r1.1; omega, by show r1.1 ≤ 0 + (r1.2.1 + 1 - pl); omega⟩⟩
            · rw [if_neg c4] at h2
              have h2 := (Option.some.inj h2).symm
              subst h2
              exact ⟨by show pl ≤ r1.2.1; omega, i.2.1, i.2.2.1, Or.inl rfl⟩
        · rw [if_neg c2] at h
          by_cases c3 : hrC T F pl = 113
          · rw [if_pos c3] at h
            have h := (Option.some.inj h).symm
            subst h
            have hF := hrC_lt (T := T) (F := F) (p := pl) (by omega)
            exact ⟨by show pl ≤ pl + 1; omega, by show pl + 1 ≤ F; omega, id, Or.inr ⟨by show (1 : Int) ≤ 1; decide, by show (1 : Int) ≤ 0 + (pl + 1 - pl); omega⟩⟩
          · rw [if_neg c3] at h
            by_cases c4 : hrC T F pl ≠ 91
            · rw [if_pos c4] at h
              have h := (Option.some.inj h).symm
              subst h
              exact ⟨Int.le_refl _, hp, id, Or.inl rfl⟩
            · rw [if_neg c4] at h
              have hF := hrC_lt (T := T) (F := F) (p := pl) (by omega)
              have hd := dgN_b (T := T) (F := F) 4 (pl + 1) (by omega)
              by_cases c5 : rdS R N T (pl + 1) (dgN T F 4 (pl + 1)) = -1
              · rw [if_pos c5] at h
                have h := (Option.some.inj h).symm
                subst h
                exact ⟨Int.le_refl _, hp, id, Or.inl rfl⟩
              · rw [if_neg c5] at h
                by_cases c6 : hrC T F (pl + 1 + dgN T F 4 (pl + 1)) = 93
                · rw [if_pos c6] at h
                  have h := (Option.some.inj h).symm
                  subst h
                  have hF2 := hrC_lt (T := T) (F := F) (p := pl + 1 + dgN T F 4 (pl + 1)) (by omega)
                  exact ⟨by show pl ≤ pl + 1 + (dgN T F 4 (pl + 1) : Int) + 1; omega, by show pl + 1 + (dgN T F 4 (pl + 1) : Int) + 1 ≤ F; omega, id, Or.inr ⟨by show (1 : Int) ≤ 1; decide, by show (1 : Int) ≤ 0 + (pl + 1 + (dgN T F 4 (pl + 1) : Int) + 1 - pl); omega⟩⟩
                · rw [if_neg c6] at h
                  have h := (Option.some.inj h).symm
                  subst h
                  exact ⟨by show pl ≤ pl + 1 + (dgN T F 4 (pl + 1) : Int); omega, hd.1, id, Or.inl rfl⟩
    · subst e
      rw [ev_1] at h
      rw [if_neg (by decide)]
      obtain ⟨r1, h1, h2⟩ := evB_s h
      have i := ih 0 pl op 0 sp A r1 (by decide) hp (fun h => absurd h (by decide)) h1
      rw [if_neg (by decide)] at i
      by_cases c : r1.1 = -1
      · rw [if_pos c] at h2
        have h2 := (Option.some.inj h2).symm
        subst h2
        exact i
      · rw [if_neg c] at h2
        have j := ih 3 r1.2.1 op r1.1 r1.2.2.1 r1.2.2.2 r (by decide) i.2.1 (fun _ => by omega) h2
        rw [if_pos (by decide)] at j
        exact ⟨by omega, j.2.1, fun s => j.2.2.1 (i.2.2.1 s), by omega⟩
    · subst e
      rw [ev_2] at h
      rw [if_neg (by decide)]
      obtain ⟨r1, h1, h2⟩ := evB_s h
      have i := ih 1 pl op 0 sp A r1 (by decide) hp (fun h => absurd h (by decide)) h1
      rw [if_neg (by decide)] at i
      by_cases c : r1.1 = -1
      · rw [if_pos c] at h2
        have h2 := (Option.some.inj h2).symm
        subst h2
        exact i
      · rw [if_neg c] at h2
        have j := ih 4 r1.2.1 op r1.1 r1.2.2.1 r1.2.2.2 r (by decide) i.2.1 (fun _ => by omega) h2
        rw [if_pos (by decide)] at j
        exact ⟨by omega, j.2.1, fun s => j.2.2.1 (i.2.2.1 s), by omega⟩
    · subst e
      rw [ev_3] at h
      rw [if_pos (by decide)]
      have hn1 := hn (by decide)
      by_cases c0 : hrC T F pl = 42
      · rw [if_pos c0] at h
        obtain ⟨r1, h1, h2⟩ := evB_s h
        have hF := hrC_lt (T := T) (F := F) (p := pl) (by omega)
        have i := ih 0 (pl + 1) op 0 sp A r1 (by decide) (by omega) (fun h => absurd h (by decide)) h1
        rw [if_neg (by decide)] at i
        by_cases c : r1.1 = -1
        · rw [if_pos c] at h2
          have h2 := (Option.some.inj h2).symm
          subst h2
          exact ⟨by omega, i.2.1, i.2.2.1, Or.inl c⟩
        · rw [if_neg c] at h2
          have j := ih 3 r1.2.1 op (1 + max n r1.1) _ _ r (by decide) i.2.1 (fun _ => by omega) h2
          rw [if_pos (by decide)] at j
          exact ⟨by omega, j.2.1, fun s => j.2.2.1 (Or.inl (i.2.2.1 s)), by omega⟩
      · rw [if_neg c0] at h
        have h := (Option.some.inj h).symm
        subst h
        exact ⟨Int.le_refl _, hp, id, Or.inr ⟨hn1, by show n ≤ n + (pl - pl); omega⟩⟩
    · subst e
      rw [ev_4] at h
      rw [if_pos (by decide)]
      have hn1 := hn (by decide)
      by_cases c0 : hrC T F pl = 43 ∨ hrC T F pl = 45
      · rw [if_pos c0] at h
        obtain ⟨r1, h1, h2⟩ := evB_s h
        have hF := hrC_lt (T := T) (F := F) (p := pl) (by omega)
        have i := ih 1 (pl + 1) op 0 sp A r1 (by decide) (by omega) (fun h => absurd h (by decide)) h1
        rw [if_neg (by decide)] at i
        by_cases c : r1.1 = -1
        · rw [if_pos c] at h2
          have h2 := (Option.some.inj h2).symm
          subst h2
          exact ⟨by omega, i.2.1, i.2.2.1, Or.inl c⟩
        · rw [if_neg c] at h2
          have j := ih 4 r1.2.1 op (1 + n + r1.1) _ _ r (by decide) i.2.1 (fun _ => by omega) h2
          rw [if_pos (show 3 ≤ 4 by decide)] at j
          exact ⟨by omega, j.2.1, fun s => j.2.2.1 (Or.inl (i.2.2.1 s)), by omega⟩
      · rw [if_neg c0] at h
        have h := (Option.some.inj h).symm
        subst h
        exact ⟨Int.le_refl _, hp, id, Or.inr ⟨hn1, by show n ≤ n + (pl - pl); omega⟩⟩
def evW (md : Nat) : Int := if md = 1 then 2 else if md = 2 then 3 else 1
/-- enough fuel -/
theorem ev_ex {R N F : Int} {T : Int → Int} : ∀ (f md : Nat) (pl op n : Int) (sp : Prop) (A : Int → Int), md ≤ 4 → pl ≤ F → (3 ≤ md → 1 ≤ n) → 4 * (F - pl) + evW md ≤ f → ∃ r, ev R N F T f md pl op n sp A = some r := by
  intro f
  induction f with
  | zero => intro md pl op n sp A hm hp hn hf; unfold evW at hf; exfalso; by_cases e1 : md = 1; (rw [if_pos e1] at hf; omega); (rw [if_neg e1] at hf; by_cases e2 : md = 2; (rw [if_pos e2] at hf; omega); (rw [if_neg e2] at hf; omega))
  | succ f ih =>
    intro md pl op n sp A hm hp hn hf
    have h5 : md = 0 ∨ md = 1 ∨ md = 2 ∨ md = 3 ∨ md = 4 := by omega
    rcases h5 with e | e | e | e | e
    · subst e
      have w : evW 0 = 1 := rfl
      rw [w] at hf
      rw [ev_0]
      by_cases c1 : 48 ≤ hrC T F pl ∧ hrC T F pl ≤ 57
      · rw [if_pos c1]; exact ⟨_, rfl⟩
      · rw [if_neg c1]
        by_cases c2 : hrC T F pl = 40 ∧ op < 4
        · rw [if_pos c2]
          have hF := hrC_lt (T := T) (F := F) (p := pl) (by omega)
          obtain ⟨r1, h1⟩ := ih 2 (pl + 1) (op + 1) 0 sp A (by decide) (by omega) (fun h => absurd h (by decide)) (by have w : evW 2 = 3 := rfl; rw [w]; omega)
          rw [h1]
          unfold evB
          simp only []
          by_cases c3 : r1.1 = -1
          · rw [if_pos c3]; exact ⟨_, rfl⟩
          · rw [if_neg c3]
            by_cases c4 : hrC T F r1.2.1 = 41
            · rw [if_pos c4]; exact ⟨_, rfl⟩
            · rw [if_neg c4]; exact ⟨_, rfl⟩
        · rw [if_neg c2]
          by_cases c3 : hrC T F pl = 113
          · rw [if_pos c3]; exact ⟨_, rfl⟩
          · rw [if_neg c3]
            by_cases c4 : hrC T F pl ≠ 91
            · rw [if_pos c4]; exact ⟨_, rfl⟩
            · rw [if_neg c4]
              by_cases c5 : rdS R N T (pl + 1) (dgN T F 4 (pl + 1)) = -1
              · rw [if_pos c5]; exact ⟨_, rfl⟩
              · rw [if_neg c5]
                by_cases c6 : hrC T F (pl + 1 + dgN T F 4 (pl + 1)) = 93
                · rw [if_pos c6]; exact ⟨_, rfl⟩
                · rw [if_neg c6]; exact ⟨_, rfl⟩
    · subst e
      have w : evW 1 = 2 := rfl
      rw [w] at hf
      rw [ev_1]
      obtain ⟨r1, h1⟩ := ih 0 pl op 0 sp A (by decide) hp (fun h => absurd h (by decide)) (by have w : evW 0 = 1 := rfl; rw [w]; omega)
      have i := ev_bd f 0 pl op 0 sp A r1 (by decide) hp (fun h => absurd h (by decide)) h1
      rw [if_neg (by decide)] at i
      rw [h1]
      unfold evB
      simp only []
      by_cases c : r1.1 = -1
      · rw [if_pos c]; exact ⟨_, rfl⟩
      · rw [if_neg c]
        exact ih 3 r1.2.1 op r1.1 _ _ (by decide) i.2.1 (fun _ => by omega) (by have w : evW 3 = 1 := rfl; rw [w]; omega)
    · subst e
      have w : evW 2 = 3 := rfl
      rw [w] at hf
      rw [ev_2]
      obtain ⟨r1, h1⟩ := ih 1 pl op 0 sp A (by decide) hp (fun h => absurd h (by decide)) (by have w : evW 1 = 2 := rfl; rw [w]; omega)
      have i := ev_bd f 1 pl op 0 sp A r1 (by decide) hp (fun h => absurd h (by decide)) h1
      rw [if_neg (by decide)] at i
      rw [h1]
      unfold evB
      simp only []
      by_cases c : r1.1 = -1
      · rw [if_pos c]; exact ⟨_, rfl⟩
      · rw [if_neg c]
        exact ih 4 r1.2.1 op r1.1 _ _ (by decide) i.2.1 (fun _ => by omega) (by have w : evW 4 = 1 := rfl; rw [w]; omega)
    · subst e
      have w : evW 3 = 1 := rfl
      rw [w] at hf
      rw [ev_3]
      have hn1 := hn (by decide)
      by_cases c0 : hrC T F pl = 42
      · rw [if_pos c0]
        have hF := hrC_lt (T := T) (F := F) (p := pl) (by omega)
        obtain ⟨r1, h1⟩ := ih 0 (pl + 1) op 0 sp A (by decide) (by omega) (fun h => absurd h (by decide)) (by have w : evW 0 = 1 := rfl; rw [w]; omega)
        have i := ev_bd f 0 (pl + 1) op 0 sp A r1 (by decide) (by omega) (fun h => absurd h (by decide)) h1
        rw [if_neg (by decide)] at i
        rw [h1]
        unfold evB
        simp only []
        by_cases c : r1.1 = -1
        · rw [if_pos c]; exact ⟨_, rfl⟩
        · rw [if_neg c]
          exact ih 3 r1.2.1 op (1 + max n r1.1) _ _ (by decide) i.2.1 (fun _ => by omega) (by have w : evW 3 = 1 := rfl; rw [w]; omega)
      · rw [if_neg c0]; exact ⟨_, rfl⟩
    · subst e
      have w : evW 4 = 1 := rfl
      rw [w] at hf
      rw [ev_4]
      have hn1 := hn (by decide)
      by_cases c0 : hrC T F pl = 43 ∨ hrC T F pl = 45
      · rw [if_pos c0]
        have hF := hrC_lt (T := T) (F := F) (p := pl) (by omega)
        obtain ⟨r1, h1⟩ := ih 1 (pl + 1) op 0 sp A (by decide) (by omega) (fun h => absurd h (by decide)) (by have w : evW 1 = 2 := rfl; rw [w]; omega)
        have i := ev_bd f 1 (pl + 1) op 0 sp A r1 (by decide) (by omega) (fun h => absurd h (by decide)) h1
        rw [if_neg (by decide)] at i
        rw [h1]
        unfold evB
        simp only []
        by_cases c : r1.1 = -1
        · rw [if_pos c]; exact ⟨_, rfl⟩
        · rw [if_neg c]
          exact ih 4 r1.2.1 op (1 + n + r1.1) _ _ (by decide) i.2.1 (fun _ => by omega) (by have w : evW 4 = 1 := rfl; rw [w]; omega)
      · rw [if_neg c0]; exact ⟨_, rfl⟩
