/-! a run of the pure machine is a run of the machine (by program: wip/whole/gen_main.py) -/
theorem hkMX {l : List hkMT} {ixs : List Nat} (h : ixs.map (fun i => lw_tbl[i]?) = l.map (fun q => some (hkCW q))) : ∀ q ∈ l, hkCW q ∈ lw_tbl := by
  intro q hq
  have h2 : some (hkCW q) ∈ l.map (fun q => some (hkCW q)) := List.mem_map.mpr ⟨q, hq, rfl⟩
  rw [← h] at h2
  obtain ⟨i, _, hi⟩ := List.mem_map.mp h2
  exact List.mem_of_getElem? hi
theorem hkMs_get {y : Nat} (h : y < hkNM) : hkMs[y]? = some (hkM y) := by
  unfold hkM
  have hl : hkMs.length = hkNM := by decide +kernel
  rw [List.getD_eq_getElem?_getD, List.getElem?_eq_getElem (by omega)]
  rfl
set_option maxRecDepth 100000 in
theorem hkMs_split : hkMs.take 184 = hkMs0 ++ (hkMs1 ++ (hkMs2 ++ (hkMs3 ++ hkMs4.take 24))) := by rfl
theorem hkCode_w {y : Nat} (h : y < 184) : Cond.code (hkN y) (hkB y) (hkX y) (hkR y) ∈ lw_tbl := by
  have h1 : (hkMs.take 184)[y]? = some (hkM y) := by rw [List.getElem?_take_of_lt h]; exact hkMs_get (by show y < 185; omega)
  have h2 := List.mem_of_getElem? h1
  rw [hkMs_split] at h2
  simp only [List.mem_append] at h2
  show hkCW (hkM y) ∈ lw_tbl
  rcases h2 with h2 | h2 | h2 | h2 | h2
  · exact hkMX hkCWs0 _ h2
  · exact hkMX hkCWs1 _ h2
  · exact hkMX hkCWs2 _ h2
  · exact hkMX hkCWs3 _ h2
  · exact hkMX hkCWs4 _ h2
def hkWd (l : List Nat) : Nat := (l.map (fun v => if v = 1 then 2 else 1)).sum
def hkMOk (y : Nat) : Bool := plainFor (hkN y) && (decide ((hkN y).cls = hkOwnS (hkOwn y)) && (decide ((hkN y).cls ≠ "java/lang/invoke/MethodHandle") && (decide ((hkN y).cls ≠ "java/lang/invoke/VarHandle") && (decide (hkX y ≤ 40) && (decide (hkWd (hkTg y) ≤ hkX y) && (match hkRt y, hkR y with
  | 0, some .int => true
  | 3, some .boolean => true
  | 1, some .long => true
  | 9, none => true
  | _, _ => false))))))
set_option maxRecDepth 100000 in
theorem hkMAll : ∀ y, y < 183 → hkMOk y = true := by decide +kernel
theorem hkMFacts {y : Nat} (h : y < 183) : plainFor (hkN y) = true ∧ (hkN y).cls = hkOwnS (hkOwn y) ∧ (hkN y).cls ≠ "java/lang/invoke/MethodHandle" ∧ (hkN y).cls ≠ "java/lang/invoke/VarHandle" ∧ hkX y ≤ 40 ∧ hkWd (hkTg y) ≤ hkX y := by
  have h1 := hkMAll y h
  unfold hkMOk at h1
  simp only [Bool.and_eq_true, decide_eq_true_eq] at h1
  exact ⟨h1.1, h1.2.1, h1.2.2.1, h1.2.2.2.1, h1.2.2.2.2.1, h1.2.2.2.2.2.1⟩
theorem hkMRet {y : Nat} (h : y < 183) : (hkRt y = 0 → hkR y = some .int) ∧ (hkRt y = 3 → hkR y = some .boolean) ∧ (hkRt y = 1 → hkR y = some .long) ∧ (hkRt y = 9 → hkR y = none) := by
  have h1 := hkMAll y h
  unfold hkMOk at h1
  simp only [Bool.and_eq_true, decide_eq_true_eq] at h1
  have h2 := h1.2.2.2.2.2.2
  split at h2 <;> first | (rename_i e1 e2; refine ⟨fun h => ?_, fun h => ?_, fun h => ?_, fun h => ?_⟩ <;> first | exact e2 | (rw [e1] at h; exact absurd h (by decide))) | cases h2
/-- what the pure machine's instruction keeps -/
theorem hkPx_keep {y : Nat} {i : Instr} {n pc : Nat} {ls st : List hkV} {t : Nat} {g : hkG} {q : hkC} (hp : hkPx y i n (pc, ls, st, t, g) = some (.inl q)) : t ≤ q.2.2.2.1 ∧ ∀ r : Int, r < 0 → q.2.2.2.2 r = g r := by
  have KK : ∀ {pc' : Nat} {ls' st' : List hkV} {q : hkC}, hkGo pc' ls' st' t g = some (.inl q) → t ≤ q.2.2.2.1 ∧ ∀ r : Int, r < 0 → q.2.2.2.2 r = g r := by
    intro pc' ls' st' q h
    obtain rfl := hkGo_inv h
    exact ⟨Nat.le_refl _, fun _ _ => rfl⟩
  have KE : ∀ {pc' : Nat} {ls' st' : List hkV} {q : hkC}, hkGo pc' ls' st' (t + 1) g = some (.inl q) → t ≤ q.2.2.2.1 ∧ ∀ r : Int, r < 0 → q.2.2.2.2 r = g r := by
    intro pc' ls' st' q h
    obtain rfl := hkGo_inv h
    exact ⟨Nat.le_succ _, fun _ _ => rfl⟩
  have KT : ∀ {pc' : Nat} {off : Int} {ls' st' : List hkV} {q : hkC}, hkTgt pc' off ls' st' t g = some (.inl q) → t ≤ q.2.2.2.1 ∧ ∀ r : Int, r < 0 → q.2.2.2.2 r = g r := by
    intro pc' off ls' st' q h
    unfold hkTgt at h
    split at h
    · exact KK h
    · cases h
  have KN : ∀ {kd pc' : Nat} {x : Option Int} {ls' st' : List hkV} {q : hkC}, hkNew kd pc' x ls' st' t g = some (.inl q) → t ≤ q.2.2.2.1 ∧ ∀ r : Int, r < 0 → q.2.2.2.2 r = g r := by
    intro kd pc' x ls' st' q h
    obtain ⟨P, z, w, -, -, -, rfl⟩ := hkNew_inv h
    exact ⟨Nat.le_succ _, fun _ _ => rfl⟩
  have KS : ∀ {i k pc' : Nat} {v : hkV} {ls' st' : List hkV} {q : hkC}, hkSt i k pc' ls' v st' t g = some (.inl q) → t ≤ q.2.2.2.1 ∧ ∀ r : Int, r < 0 → q.2.2.2.2 r = g r := by
    intro i k pc' v ls' st' q h
    obtain ⟨-, -, rfl⟩ := hkSt_inv h
    exact ⟨Nat.le_refl _, fun _ _ => rfl⟩
  have KL : ∀ {tg k pc' : Nat} {ls' st' : List hkV} {q : hkC}, hkLd tg k pc' ls' st' t g = some (.inl q) → t ≤ q.2.2.2.1 ∧ ∀ r : Int, r < 0 → q.2.2.2.2 r = g r := by
    intro tg k pc' ls' st' q h
    obtain ⟨x, -, rfl⟩ := hkLd_inv h
    exact ⟨Nat.le_refl _, fun _ _ => rfl⟩
  have KA : ∀ {k pc' : Nat} {ls' st' : List hkV} {q : hkC}, hkLdA k pc' ls' st' t g = some (.inl q) → t ≤ q.2.2.2.1 ∧ ∀ r : Int, r < 0 → q.2.2.2.2 r = g r := by
    intro k pc' ls' st' q h
    obtain ⟨x, -, -, rfl⟩ := hkLdA_inv h
    exact ⟨Nat.le_refl _, fun _ _ => rfl⟩
  have KB : ∀ {f : Int → Int → Int} {pc' : Nat} {ls' st' : List hkV} {q : hkC}, hkBin f pc' ls' st' t g = some (.inl q) → t ≤ q.2.2.2.1 ∧ ∀ r : Int, r < 0 → q.2.2.2.2 r = g r := by
    intro f pc' ls' st' q h
    obtain ⟨x, z, st2, -, rfl⟩ := hkBin_inv h
    exact ⟨Nat.le_refl _, fun _ _ => rfl⟩
  have KBL : ∀ {f : Int → Int → Int} {pc' : Nat} {ls' st' : List hkV} {q : hkC}, hkBinL f pc' ls' st' t g = some (.inl q) → t ≤ q.2.2.2.1 ∧ ∀ r : Int, r < 0 → q.2.2.2.2 r = g r := by
    intro f pc' ls' st' q h
    obtain ⟨x, z, st2, -, rfl⟩ := hkBinL_inv h
    exact ⟨Nat.le_refl _, fun _ _ => rfl⟩
  have KU : ∀ {tg tg2 : Nat} {f : Int → Int} {pc' : Nat} {ls' st' : List hkV} {q : hkC}, hkUn tg tg2 f pc' ls' st' t g = some (.inl q) → t ≤ q.2.2.2.1 ∧ ∀ r : Int, r < 0 → q.2.2.2.2 r = g r := by
    intro tg tg2 f pc' ls' st' q h
    obtain ⟨x, st2, -, rfl⟩ := hkUn_inv h
    exact ⟨Nat.le_refl _, fun _ _ => rfl⟩
  have KD : ∀ {kd tg pc' : Nat} {ls' st' : List hkV} {q : hkC}, hkAld kd tg pc' ls' st' t g = some (.inl q) → t ≤ q.2.2.2.1 ∧ ∀ r : Int, r < 0 → q.2.2.2.2 r = g r := by
    intro kd tg pc' ls' st' q h
    rcases hkAld_inv h with ⟨k, P, st2, -, -, -, -, rfl⟩ | ⟨k, P, st2, -, -, -, -, rfl⟩ <;> exact ⟨Nat.le_refl _, fun _ _ => rfl⟩
  have KW : ∀ {kd tg pc' : Nat} {ls' st' : List hkV} {q : hkC}, kd < 999 → hkAst kd tg pc' ls' st' t g = some (.inl q) → t ≤ q.2.2.2.1 ∧ ∀ r : Int, r < 0 → q.2.2.2.2 r = g r := by
    intro kd tg pc' ls' st' q hkd h
    obtain ⟨x, k, P, st2, -, h1, -, -, -, rfl⟩ := hkAst_inv h
    have := (hkJK_inv h1 hkd).1
    exact ⟨Nat.le_refl _, fun r hr => hkSet_row (by omega)⟩
  cases i <;> simp only [hkPx] at hp <;> first
    | (cases hp; done)
    | exact KK hp
    | exact KT hp
    | exact KL hp
    | exact KA hp
    | exact KB hp
    | exact KBL hp
    | exact KU hp
    | exact KD hp
    | exact KW (by decide) hp
    | (split at hp <;> first | (cases hp; done) | exact KK hp | exact KS hp | exact (hkInvV_ni hp).elim | (obtain ⟨-, hp⟩ := hkChk_inv hp; exact KK hp) | (obtain ⟨-, hp⟩ := hkChk_inv hp; exact KE hp) | (split at hp <;> first | (cases hp; done) | exact KN hp | exact KT hp | (rcases hkBr_inv hp with ⟨-, hp⟩ | ⟨-, hp⟩ <;> exact KK hp)) | exact KN hp)
    | skip
  · unfold hkGetf at hp
    split at hp <;> first | (cases hp; done) | skip
    obtain ⟨-, hp⟩ := hkChk_inv hp
    split at hp
    · obtain ⟨-, hp⟩ := hkChk_inv hp
      exact KK hp
    · exact KK hp
  · split at hp
    · exact (hkInv_ni hp).elim
    · split at hp
      · exact (hkInv_ni hp).elim
      · split at hp <;> first | (cases hp; done) | skip
        split at hp <;> first | (cases hp; done) | exact KK hp
  · split at hp
    · exact (hkInv_ni hp).elim
    · split at hp <;> first | (cases hp; done) | skip
      obtain ⟨⟨h1, h2, -⟩, hp⟩ := hkChk_inv hp
      split at hp <;> first | (cases hp; done) | skip
      obtain rfl := hkGo_inv hp
      have := (hkJK_inv h2 (by decide)).1
      refine ⟨Nat.le_refl _, fun r hr => ?_⟩
      funext z
      show hkCpy g _ _ _ _ _ r z = g r z
      unfold hkCpy
      rw [if_neg (by rintro ⟨h, -⟩; rw [h] at hr; omega)]
  · split at hp <;> first | (cases hp; done) | skip
    split at hp <;> first | (cases hp; done) | skip
    split at hp <;> first | (cases hp; done) | skip
    obtain ⟨-, hp⟩ := hkChk_inv hp
    cases hp
  · unfold hkPutf at hp
    split at hp <;> first | (cases hp; done) | skip
    · rename_i z P st' ci k hfl
      obtain ⟨h1, hp⟩ := hkChk_inv hp
      have := (hkJK_inv h1 (by have := (hkFld_ok hfl).1; omega)).1
      split at hp
      · obtain rfl := hkGo_inv hp
        exact ⟨Nat.le_refl _, fun r hr => hkSet_row (by omega)⟩
      · split at hp <;> first | (cases hp; done) | skip
        obtain ⟨-, hp⟩ := hkChk_inv hp
        obtain rfl := hkGo_inv hp
        exact ⟨Nat.le_refl _, fun r hr => hkSet_row (by omega)⟩
    · split at hp <;> first | (cases hp; done) | skip
      obtain ⟨-, hp⟩ := hkChk_inv hp
      obtain rfl := hkGo_inv hp
      exact ⟨Nat.le_succ _, fun _ _ => rfl⟩
