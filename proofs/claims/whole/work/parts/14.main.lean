/-! a run of the pure machine from a method's entry is a contract of that method -/
theorem hkMet_ofW {l : Launch} {y : MethodName} {ws ws' : List Cond} {rm : Room} {Pc : Array Value → State → Prop} {Qc : Array Value → State → Outcome → State → Prop} {mc ms : Nat} {free : Addr → Prop} {cc : ByteArray} {maxL : Nat} {ret : Option FieldType}
    (hy : plainFor y = true) (hw : ws = Cond.code y cc maxL ret :: ws')
    (body : ∀ p e s m args below meth c s₁, BodyLoose p l y (headSpec ws rm) cc maxL ret e s m args below meth c s₁ → c.maxLocals = maxL → Pc args s →
      W p l e (headSpec ws rm).room s m args below meth c s.heap [] 0 0 (MQ below Qc args s mc ms free) (entryFrame m args maxL)) : Met l y ws rm Pc Qc mc ms free := by
  refine MetFree.of_bodySF (code := cc) (maxLocals := maxL) (ret := ret) hy ?_ ?_
  · intro args s m h hn
    obtain ⟨meth, c, h1, h2, h3, h4, h5, h6, -, -⟩ := Cond.code_spec hn (atoms_spec (ws := ws) h _ (by rw [hw]; exact List.mem_cons_self))
    exact ⟨meth, c, h1, h2, h3, h4, h5, h6⟩
  · intro p e s m args below meth c s₁ B hml hP _
    have hh0 : s₁.heap = s.heap := by rw [B.state]; rfl
    obtain ⟨t, a1, o, b1, b2, b3⟩ := body p e s m args below meth c s₁ B hml hP s₁ hh0 (Stand.of_body B)
    exact ⟨t, o, a1, b1, b2, ⟨b3.1, b3.2⟩⟩
theorem hkRun_keep : ∀ (n d y : Nat) (c : hkC) (r : Option hkV) (t : Nat) (g : hkG), hkRun n d y c = some (r, t, g) → c.2.2.2.1 ≤ t ∧ ∀ z : Int, z < 0 → g z = c.2.2.2.2 z := by
  intro n
  induction n with
  | zero => intro d y c r t g h; simp [hkRun] at h
  | succ n ih =>
    intro d y c r t g h
    obtain ⟨pc, ls, st, t1, g1⟩ := c
    unfold hkRun at h
    split at h
    · cases h
    · rename_i i len hf
      split at h
      · cases h
      · rename_i q hq
        obtain ⟨a1, a2⟩ := hkPx_keep hq
        obtain ⟨b1, b2⟩ := ih d y q r t g h
        exact ⟨Nat.le_trans a1 b1, fun z hz => by rw [b2 z hz, a2 z hz]⟩
      · rename_i y' as pc' ls' st' hq
        split at h
        · cases h
        · rename_i d'
          split at h
          · cases h
          · rename_i r' t' g' hr
            obtain ⟨a1, a2⟩ := ih d' y' _ r' t' g' hr
            obtain ⟨b1, b2⟩ := ih (d' + 1) y _ r t g h
            simp only at a1 a2 b1 b2 ⊢
            exact ⟨Nat.le_trans a1 b1, fun z hz => by rw [b2 z hz, a2 z hz]⟩
      · cases h
        exact ⟨Nat.le_refl _, fun _ _ => rfl⟩
def hkRm (d t t' : Nat) : Room := { frames := d + 1, cells := hkNX t' - hkNX t, slots := hkNS t' - hkNS t, locals := 64 * (d + 1) }
/-- the state a method begins in -/
def hkPc (dC : Nat → ClassId) (dI : Nat → Nat → Nat) (adr : Nat → Nat) (cA : Nat → ClassId) (tys : List (ClassId × FieldType)) (t : Nat) (g : hkG) (as : List hkV) (sz : Nat) : Array Value → State → Prop :=
  va_Pc (as.map (hkVal adr 0)) (fun U => U.heap.size = sz ∧ va_P (dC, dI) hkCl (hkWs adr cA t g) U.heap ∧ va_K (dC, dI) hkCl tys U ∧ va_D (fun _ => True) (hkWs adr cA t g) ∧ hkNst U)
/-- the state it ends in -/
def hkQc (dC : Nat → ClassId) (dI : Nat → Nat → Nat) (adr : Nat → Nat) (t : Nat) (r : Option hkV) (t' : Nat) (g' : hkG) (A : Nat → Prop) : Array Value → State → Outcome → State → Prop := fun _ st oc u =>
  (∃ (adr' : Nat → Nat) (cA' : Nat → ClassId) (tys' : List (ClassId × FieldType)), oc = .returned (r.map (hkVal adr' 0)) ∧ (∀ z, z < hkNX t → adr' z = adr z) ∧ va_P (dC, dI) hkCl (hkWs adr' cA' t' g') u.heap ∧ va_K (dC, dI) hkCl tys' u ∧ va_D A (hkWs adr' cA' t' g') ∧
    (∀ z : Nat, z < hkNX t' → 100 ≤ hkKd z → ∃ k0 : Nat, tys'[k0]? = some (cA' z, hkAty (hkKd z))) ∧ hkGOK t' g' ∧ (∀ v, r = some v → hkOK False t' v) ∧ t' ≤ 190) ∧ va_F A st u
theorem hkVal_b {adr : Nat → Nat} {b b' t : Nat} {v : hkV} (h : hkOK False t v) : hkVal adr b v = hkVal adr b' v := by
  unfold hkVal
  rcases h with ⟨h, -⟩ | ⟨h, -⟩ | ⟨h, -⟩ | ⟨-, h⟩
  · simp only [h]
  · simp only [h]
  · simp only [h]
  · exact h.elim
theorem hkVals_b {adr : Nat → Nat} {b b' t : Nat} {as : List hkV} (h : ∀ v ∈ as, hkOK False t v) : as.map (hkVal adr b) = as.map (hkVal adr b') := List.map_congr_left fun v hv => hkVal_b (h v hv)
theorem hkPop_inv : ∀ (tg : List Nat) (st as rest : List hkV), hkPop tg st = some (as, rest) → st = as.reverse ++ rest ∧ as.map (fun v => v.1) = tg.reverse := by
  intro tg
  induction tg with
  | nil => intro st as rest h; simp [hkPop] at h; obtain ⟨rfl, rfl⟩ := h; simp
  | cons a tg ih =>
    intro st as rest h
    cases st with
    | nil => simp [hkPop] at h
    | cons v st =>
      unfold hkPop at h
      split at h
      · rename_i hv
        split at h
        · rename_i as' st' hp
          simp only [Option.some.injEq, Prod.mk.injEq] at h
          obtain ⟨rfl, rfl⟩ := h
          obtain ⟨h1, h2⟩ := ih _ _ _ hp
          refine ⟨by rw [h1]; simp, by rw [List.map_append, h2]; simp [hv]⟩
        · cases h
      · cases h
theorem hkSl_len (adr : Nat → Nat) (b : Nat) (as : List hkV) : (lg_sl (as.map (hkVal adr b))).length = (as.flatMap (fun v => if v.1 = 1 then [v, hkU] else [v])).length := by
  induction as with
  | nil => rfl
  | cons v as ih =>
    unfold lg_sl at ih ⊢
    simp only [List.map_cons, List.flatMap_cons, List.length_append, ih]
    rw [hkCat_val]
    unfold hkCat
    by_cases h : v.1 = 1 <;> simp [h]
theorem hkEnt_wd (as : List hkV) : (as.flatMap (fun v => if v.1 = 1 then [v, hkU] else [v])).length = hkWd (as.map (fun v => v.1)) := by
  induction as with
  | nil => rfl
  | cons v as ih =>
    unfold hkWd at ih ⊢
    simp only [List.flatMap_cons, List.length_append, ih, List.map_cons, List.sum_cons]
    by_cases h : v.1 = 1 <;> simp [h]
theorem hkArgs_mem (adr : Nat → Nat) (b : Nat) : ∀ (as : List hkV) (i j : Nat) (v : hkV), (as.flatMap (fun v => if v.1 = 1 then [v, hkU] else [v]))[j]? = some v → v.1 ≠ 9 → (i + j, hkVal adr b v) ∈ lv_args i (as.map (hkVal adr b)) := by
  intro as
  induction as with
  | nil => intro i j v h; simp at h
  | cons a as ih =>
    intro i j v h h9
    simp only [List.flatMap_cons] at h
    rw [List.map_cons]
    unfold lv_args
    rw [hkCat_val]
    by_cases ha : a.1 = 1
    · have hc : hkCat a = 2 := by unfold hkCat; rw [if_pos ha]
      rw [if_pos ha] at h
      rw [if_pos hc]
      match j, h with
      | 0, h =>
        simp at h; subst h
        exact List.mem_cons_self
      | 1, h =>
        simp at h; subst h
        exact absurd rfl h9
      | j + 2, h =>
        have h' : (as.flatMap (fun v => if v.1 = 1 then [v, hkU] else [v]))[j]? = some v := by simpa using h
        have := ih (i + 2) j v h' h9
        rw [show i + (j + 2) = i + 2 + j from by omega]
        exact List.mem_cons_of_mem _ this
    · have hc : ¬ hkCat a = 2 := by unfold hkCat; rw [if_neg ha]; decide
      rw [if_neg ha] at h
      rw [if_neg hc]
      match j, h with
      | 0, h =>
        simp at h; subst h
        exact List.mem_cons_self
      | j + 1, h =>
        have h' : (as.flatMap (fun v => if v.1 = 1 then [v, hkU] else [v]))[j]? = some v := by simpa using h
        have := ih (i + 1) j v h' h9
        rw [show i + (j + 1) = i + 1 + j from by omega]
        exact List.mem_cons_of_mem _ this
theorem hkEnt_lv {adr : Nat → Nat} {b n : Nat} {as : List hkV} (hw : hkWd (as.map (fun v => v.1)) ≤ n) : lv_has ((lg_sl (as.map (hkVal adr b)) ++ List.replicate (n - (lg_sl (as.map (hkVal adr b))).length) Slot.unset).toArray) n (hkLv adr b (hkEnt n as)) ∧ (hkEnt n as).length = n := by
  have hlen := hkSl_len adr b as
  have hwd := hkEnt_wd as
  have h0 := lv_entry (as.map (hkVal adr b)) (n := n) (by rw [hlen, hwd]; exact hw)
  refine ⟨⟨h0.1, h0.2.1, fun q hq => h0.2.2 q ?_⟩, ?_⟩
  · obtain ⟨v, h1, h2, h3⟩ := hkLv_mem.mp hq
    unfold hkEnt at h1
    by_cases hj : q.1 < (as.flatMap (fun v => if v.1 = 1 then [v, hkU] else [v])).length
    · rw [List.getElem?_append_left hj] at h1
      have := hkArgs_mem adr b as 0 q.1 v h1 h2
      rw [show q = (0 + q.1, hkVal adr b v) from by rw [Nat.zero_add, ← h3]]
      exact this
    · rw [List.getElem?_append_right (by omega), List.getElem?_replicate] at h1
      split at h1
      · cases h1; exact absurd rfl h2
      · cases h1
  · unfold hkEnt
    simp only [List.length_append, List.length_replicate]
    omega
theorem hkEnt_ok {n t : Nat} {fl : Prop} {as : List hkV} (h : ∀ v ∈ as, hkOK fl t v) : ∀ v ∈ hkEnt n as, hkOK fl t v ∨ v.1 = 9 := by
  intro v hv
  unfold hkEnt at hv
  rcases List.mem_append.mp hv with hv | hv
  · obtain ⟨w, hw, hv⟩ := List.mem_flatMap.mp hv
    split at hv
    · simp only [List.mem_cons, List.mem_nil_iff, or_false] at hv
      rcases hv with rfl | rfl
      · exact Or.inl (h _ hw)
      · exact Or.inr rfl
    · simp only [List.mem_cons, List.mem_nil_iff, or_false] at hv
      subst hv
      exact Or.inl (h _ hw)
  · exact Or.inr (by rw [(List.mem_replicate.mp hv).2]; rfl)
