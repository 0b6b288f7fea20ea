/-! the world of a pure state; what holds at a point of a frame -/
def hkVal (adr : Nat → Nat) (b : Nat) (v : hkV) : Value := match v.1 with
  | 0 => .int (Int32.ofInt v.2)
  | 1 => .long (Int64.ofInt v.2)
  | 2 => .ref (adr v.2.toNat)
  | _ => .ref b
def hkFv (adr : Nat → Nat) (t : Nat) (g : hkG) (p k : Nat) : Value := if hkFT (hkKd p) k = 2 then (if hkAT p k ≤ t then .ref (adr (hkRF p k)) else .null) else .int (Int32.ofInt (g p k))
def hkFs (adr : Nat → Nat) (t : Nat) (g : hkG) (p : Nat) : List Value := (List.range (hkLn p)).map (hkFv adr t g p)
def hkCell (adr : Nat → Nat) (cA : Nat → ClassId) (t : Nat) (g : hkG) (p : Nat) : va_E :=
  if hkKd p < 11 then .inr (hkKd p, hkFs adr t g p)
  else if hkKd p = 101 then .inl (cA p, hkLn p, .inr (.inl (fun j => Int64.ofInt (g p j))))
  else if hkKd p < 103 then .inl (cA p, hkLn p, .inl (fun j => Int32.ofInt (g p j)))
  else .inl (cA p, hkLn p, .inr (.inr (.inr (.inr (fun j => if hkAT p j ≤ t then some (adr (hkRF p j)) else none)))))
def hkWs (adr : Nat → Nat) (cA : Nat → ClassId) (t : Nat) (g : hkG) : va_W := (List.range (hkNX t)).map (fun p => (adr p, hkCell adr cA t g p))
def hkAty (kd : Nat) : FieldType := match kd with
  | 100 => .int
  | 101 => .long
  | 102 => .boolean
  | 103 => .object "HookBoxes$Sum"
  | _ => .object "HookBoxes$Sheet"
def hkOK (fl : Prop) (t : Nat) (v : hkV) : Prop := (v.1 = 0 ∧ hkRng v.2) ∨ (v.1 = 1 ∧ hkRngL v.2) ∨ (v.1 = 2 ∧ 0 ≤ v.2 ∧ v.2.toNat < hkNX t) ∨ (v.1 = 4 ∧ fl)
def hkGOK (t : Nat) (g : hkG) : Prop := (∀ p k : Nat, p < hkNX t → (if hkKd p = 101 then hkRngL (g p k) else hkRng (g p k))) ∧ ∀ p k : Nat, hkNX t ≤ p → g p k = 0
def hkLv (adr : Nat → Nat) (b : Nat) (ls : List hkV) : List (Nat × Value) := (ls.zipIdx).filterMap (fun q => if q.1.1 = 9 then none else some (q.2, hkVal adr b q.1))
def hkGt : List Cond := lw_tbl.filter goodWord
theorem hkGt_of {w : Cond} (h : w ∈ lw_tbl) (hg : goodWord w = true) : w ∈ hkGt := List.mem_filter.mpr ⟨h, hg⟩
theorem hkGt_i {w : Cond} {i : Nat} (h : lw_tbl[i]? = some w) (hg : goodWord w = true) : w ∈ hkGt := hkGt_of (List.mem_of_getElem? h) hg
def hkNst (s : State) : Prop := (∀ q ∈ hkCT3, va_Nw (.methodLinkNest (hkOwnS q.1) q.2.1 (hkN q.2.2.1) "HookBoxes") s) ∧ va_AO "HookBoxes$Sum" s ∧ va_AO "HookBoxes$Sheet" s
theorem hkWs_get {adr : Nat → Nat} {cA : Nat → ClassId} {t p : Nat} {g : hkG} (h : p < hkNX t) : (hkWs adr cA t g)[p]? = some (adr p, hkCell adr cA t g p) := by
  unfold hkWs; simp [h]
theorem hkWs_len {adr : Nat → Nat} {cA : Nat → ClassId} {t : Nat} {g : hkG} : (hkWs adr cA t g).length = hkNX t := by
  unfold hkWs; simp
theorem hkWs_set {adr : Nat → Nat} {cA : Nat → ClassId} {t t' p : Nat} {g g' : hkG} {x : va_E} (hp : p < hkNX t) (ht : hkNX t' = hkNX t) (h1 : hkCell adr cA t' g' p = x) (h2 : ∀ q, q < hkNX t → q ≠ p → hkCell adr cA t' g' q = hkCell adr cA t g q) : (hkWs adr cA t g).set p (adr p, x) = hkWs adr cA t' g' := by
  apply List.ext_getElem?
  intro i
  rw [List.getElem?_set]
  by_cases hi : i < hkNX t
  · by_cases e : p = i
    · subst e
      rw [if_pos rfl, if_pos (by rw [hkWs_len]; exact hp), hkWs_get (by omega), h1]
    · rw [if_neg e, hkWs_get hi, hkWs_get (by omega), h2 i hi (fun h => e h.symm)]
  · have a1 : (hkWs adr cA t' g')[i]? = none := List.getElem?_eq_none (by rw [hkWs_len]; omega)
    have a2 : (hkWs adr cA t g)[i]? = none := List.getElem?_eq_none (by rw [hkWs_len]; omega)
    rw [a1, a2]
    by_cases e : p = i
    · omega
    · rw [if_neg e]
theorem hkWs_push {adr adr' : Nat → Nat} {cA cA' : Nat → ClassId} {t t' : Nat} {g : hkG} {q : Nat} {x : va_E} (ht : hkNX t' = hkNX t + 1) (ha : ∀ p, p < hkNX t → adr' p = adr p) (hq : adr' (hkNX t) = q) (h1 : hkCell adr' cA' t' g (hkNX t) = x) (h2 : ∀ p, p < hkNX t → hkCell adr' cA' t' g p = hkCell adr cA t g p) : hkWs adr cA t g ++ [(q, x)] = hkWs adr' cA' t' g := by
  apply List.ext_getElem?
  intro i
  rcases Nat.lt_trichotomy i (hkNX t) with h | h | h
  · rw [List.getElem?_append_left (by rw [hkWs_len]; exact h), hkWs_get h, hkWs_get (by omega), ha i h, h2 i h]
  · rw [List.getElem?_append_right (by rw [hkWs_len]; omega), hkWs_len, hkWs_get (by omega), h, hq, h1]
    simp
  · rw [List.getElem?_eq_none (by rw [List.length_append, hkWs_len]; simp; omega), List.getElem?_eq_none (by rw [hkWs_len]; omega)]
theorem hkLv_mem {adr : Nat → Nat} {b : Nat} {ls : List hkV} {q : Nat × Value} : q ∈ hkLv adr b ls ↔ ∃ v, ls[q.1]? = some v ∧ v.1 ≠ 9 ∧ q.2 = hkVal adr b v := by
  unfold hkLv
  simp only [List.mem_filterMap]
  constructor
  · rintro ⟨⟨v, i⟩, hm, he⟩
    have hm' := List.mem_zipIdx_iff_getElem?.mp hm
    by_cases h9 : v.1 = 9
    · simp [h9] at he
    · simp only [h9, if_false, Option.some.injEq] at he
      subst he
      exact ⟨v, hm', h9, rfl⟩
  · rintro ⟨v, h1, h2, h3⟩
    refine ⟨(v, q.1), List.mem_zipIdx_iff_getElem?.mpr h1, ?_⟩
    simp only [h2, if_false, Option.some.injEq]
    rw [← h3]
theorem hkLv_get {adr : Nat → Nat} {b n : Nat} {ls : List hkV} {lsA : Array Slot} (h : lv_has lsA n (hkLv adr b ls)) {i : Nat} {v : hkV} (hi : ls[i]? = some v) (h9 : v.1 ≠ 9) : lsA[i]? = some (.val (hkVal adr b v)) := h.2.2 (i, hkVal adr b v) (hkLv_mem.mpr ⟨v, hi, h9, rfl⟩)
theorem hkCat_val (adr : Nat → Nat) (b : Nat) (v : hkV) : (hkVal adr b v).category = hkCat v := by
  unfold hkVal hkCat
  split <;> rename_i h <;> first | (rw [h]; rfl) | skip
  split
  · contradiction
  · rfl
/-- a store of one word -/
theorem hkLv_st {adr : Nat → Nat} {b n i : Nat} {ls : List hkV} {lsA : Array Slot} {v : hkV} (h : lv_has lsA n ((i, hkVal adr b v) :: (hkLv adr b ls).filter (fun q => !(q.1 == i) && !(q.1 + 1 == i && q.2.category == 2)))) (hp : hkPv ls i) (hi : i < ls.length) : lv_has lsA n (hkLv adr b (ls.set i v)) := by
  refine ⟨h.1, h.2.1, fun q hq => ?_⟩
  apply h.2.2 q
  obtain ⟨w, h1, h2, h3⟩ := hkLv_mem.mp hq
  rw [List.getElem?_set] at h1
  by_cases e : i = q.1
  · rw [if_pos e, if_pos (by omega)] at h1
    cases h1
    rw [show q = (i, hkVal adr b v) from by rw [e, ← h3]]
    exact List.mem_cons_self
  · rw [if_neg e] at h1
    refine List.mem_cons_of_mem _ (List.mem_filter.mpr ⟨hkLv_mem.mpr ⟨w, h1, h2, h3⟩, ?_⟩)
    have e1 : (q.1 == i) = false := by simp; exact fun h => e h.symm
    rw [e1]
    simp only [Bool.not_false, Bool.true_and, Bool.not_eq_true', Bool.and_eq_false_iff, beq_eq_false_iff_ne]
    by_cases e2 : q.1 + 1 = i
    · refine Or.inr ?_
      rw [h3, hkCat_val]
      subst e2
      unfold hkPv hkP1 at hp
      simp only [List.getD_eq_getElem?_getD, h1, Option.getD_some] at hp
      unfold hkCat
      rw [if_neg hp]
      decide
    · exact Or.inl e2
theorem hkLv_st2 {adr : Nat → Nat} {b n i : Nat} {ls : List hkV} {lsA : Array Slot} {v : hkV} (h : lv_has lsA n ((i, hkVal adr b v) :: (hkLv adr b ls).filter (fun q => !(q.1 == i) && (!(q.1 == i + 1) && !(q.1 + 1 == i && q.2.category == 2))))) (hp : hkPv ls i) (hi : i + 1 < ls.length) : lv_has lsA n (hkLv adr b ((ls.set i v).set (i + 1) hkU)) := by
  refine ⟨h.1, h.2.1, fun q hq => ?_⟩
  apply h.2.2 q
  obtain ⟨w, h1, h2, h3⟩ := hkLv_mem.mp hq
  rw [List.getElem?_set] at h1
  by_cases e' : i + 1 = q.1
  · rw [if_pos e', if_pos (by rw [List.length_set]; omega)] at h1
    cases h1
    exact absurd rfl h2
  rw [if_neg e', List.getElem?_set] at h1
  by_cases e : i = q.1
  · rw [if_pos e, if_pos (by omega)] at h1
    cases h1
    rw [show q = (i, hkVal adr b v) from by rw [e, ← h3]]
    exact List.mem_cons_self
  · rw [if_neg e] at h1
    refine List.mem_cons_of_mem _ (List.mem_filter.mpr ⟨hkLv_mem.mpr ⟨w, h1, h2, h3⟩, ?_⟩)
    have e1 : (q.1 == i) = false := by simp; exact fun h => e h.symm
    have e3 : (q.1 == i + 1) = false := by simp; exact fun h => e' h.symm
    rw [e1, e3]
    simp only [Bool.not_false, Bool.true_and, Bool.not_eq_true', Bool.and_eq_false_iff, beq_eq_false_iff_ne]
    by_cases e2 : q.1 + 1 = i
    · refine Or.inr ?_
      rw [h3, hkCat_val]
      subst e2
      unfold hkPv hkP1 at hp
      simp only [List.getD_eq_getElem?_getD, h1, Option.getD_some] at hp
      unfold hkCat
      rw [if_neg hp]
      decide
    · exact Or.inl e2
theorem hkVal_congr {adr adr' : Nat → Nat} {b t : Nat} {fl : Prop} {v : hkV} (h : hkOK fl t v ∨ v.1 = 9) (ha : ∀ p, p < hkNX t → adr' p = adr p) : hkVal adr' b v = hkVal adr b v := by
  unfold hkVal
  split <;> first | rfl | skip
  rename_i h2
  rw [ha]
  rcases h with (⟨h1, -⟩ | ⟨h1, -⟩ | ⟨-, -, h1⟩ | ⟨h1, -⟩) | h1 <;> first | exact h1 | (rw [h2] at h1; cases h1)
theorem hkLv_congr {adr adr' : Nat → Nat} {b t n : Nat} {fl : Prop} {ls : List hkV} {lsA : Array Slot} (hl : lv_has lsA n (hkLv adr b ls)) (h : ∀ v ∈ ls, hkOK fl t v ∨ v.1 = 9) (ha : ∀ p, p < hkNX t → adr' p = adr p) : lv_has lsA n (hkLv adr' b ls) := by
  refine ⟨hl.1, hl.2.1, fun q hq => hl.2.2 q ?_⟩
  obtain ⟨w, h1, h2, h3⟩ := hkLv_mem.mp hq
  exact hkLv_mem.mpr ⟨w, h1, h2, by rw [h3]; exact hkVal_congr (h w (List.mem_of_getElem? h1)) ha⟩
theorem hkOK_mono {fl : Prop} {t t' : Nat} {v : hkV} (h : hkOK fl t v) (ht : t ≤ t') : hkOK fl t' v := by
  rcases h with h | h | ⟨h1, h2, h3⟩ | h
  · exact Or.inl h
  · exact Or.inr (Or.inl h)
  · exact Or.inr (Or.inr (Or.inl ⟨h1, h2, Nat.lt_of_lt_of_le h3 (hkNX_mono ht)⟩))
  · exact Or.inr (Or.inr (Or.inr h))
/-- the fixed facts of a frame -/
def hkFr (p : Program) (R : Room) (s : State) (m : MethodId) (args : Array Value) (meth : Method) (c : Code) (y : Nat) (fl : Prop) (b : Nat) (A : Nat → Prop) : Prop :=
  p.tables.exec = Jvm.exec ∧ c.code = hkB y ∧ meth.sig.returnType = hkR y ∧ c.maxLocals = hkX y ∧ s.vm.findClass (hkOwnS (hkOwn y)) = some m.cls ∧ (∀ w ∈ hkGt, w.before args s = true) ∧ ((hkN y).name = "<init>" → meth.name = "<init>") ∧ meth.locks = false ∧ hkNst s ∧ (∀ q, s.heap.size ≤ q → A q) ∧ 1 ≤ R.frames ∧ 64 ≤ R.locals ∧
  (fl → ∃ (L : Nat) (xs : Nat → Int32), va_X b L xs s s.heap ∧ b < s.heap.size ∧ ¬ A b)
/-- what holds at a point -/
def hkCx (dC : Nat → ClassId) (dI : Nat → Nat → Nat) (s : State) (y : Nat) (fl : Prop) (b : Nat) (A : Nat → Prop) (adr0 : Nat → Nat) (t0 : Nat) (c : hkC) (H : Heap) (locs : List Loc) (adr : Nat → Nat) (cA : Nat → ClassId) (tys : List (ClassId × FieldType)) (lsA : Array Slot) : Prop :=
  va_P (dC, dI) hkCl (hkWs adr cA c.2.2.2.1 c.2.2.2.2) H ∧ va_K (dC, dI) hkCl tys s ∧ va_D A (hkWs adr cA c.2.2.2.1 c.2.2.2.2) ∧ va_S A s.heap H locs ∧
  (∀ p : Nat, p < hkNX c.2.2.2.1 → 100 ≤ hkKd p → ∃ k0 : Nat, tys[k0]? = some (cA p, hkAty (hkKd p))) ∧ hkGOK c.2.2.2.1 c.2.2.2.2 ∧ lv_has lsA (hkX y) (hkLv adr b c.2.1) ∧ c.2.1.length = hkX y ∧
  (∀ v ∈ c.2.1, hkOK fl c.2.2.2.1 v ∨ v.1 = 9) ∧ (∀ v ∈ c.2.2.1, hkOK fl c.2.2.2.1 v) ∧ t0 ≤ c.2.2.2.1 ∧ c.2.2.2.1 ≤ 190 ∧ (∀ q, q < hkNX t0 → adr q = adr0 q) ∧
  (fl → ∀ (L : Nat) (xs : Nat → Int32), va_X b L xs s s.heap → (c.2.2.2.2 (-2) 0 = (L : Int) ∧ (L : Int) < 2147483648 ∧ ∀ j : Nat, j < L → c.2.2.2.2 (-1) (j : Int) = (xs j).toInt))
