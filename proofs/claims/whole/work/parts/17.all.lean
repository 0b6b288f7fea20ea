/-! THE RUN: what the pure machine answers, the machine answers -/
section HKN
variable {p : Program} {l : Launch} {e : Env} {R : Room} {s : State} {m : MethodId} {args : Array Value} {below : List Frame} {meth : Method} {c : Code} {Q : State → Prop}
variable {dC : Nat → ClassId} {dI : Nat → Nat → Nat} {y : Nat} {fl : Prop} {b : Nat} {A : Nat → Prop} {adr0 : Nat → Nat} {t0 : Nat}
variable {pc n : Nat} {ls st : List hkV} {t : Nat} {g : hkG} {H : Heap} {locs : List Loc} {adr : Nat → Nat} {cA : Nat → ClassId} {tys : List (ClassId × FieldType)} {lsA : Array Slot} {q : hkC} {i : Instr}
theorem hkRetMet {tF : Nat} {gF : hkG} {rF : Option hkV} (hy : y < 183) (hF : hkFr p R s m args meth c y False 0 A) : hkRet p l e R s m args below meth c (MQ below (hkQc dC dI adr0 t0 rF tF gF A) args s (hkNX tF - hkNX t0) (hkNS tF - hkNS t0) A) dC dI y False 0 A adr0 t0 rF tF gF := by
  obtain ⟨hx, hb, hr, hml, hown, hts, hnm, hlocks, -⟩ := hF
  intro i n pc ls st H locs adr cA tys lsA hd hp hC
  obtain ⟨a1, a2, a3, a4, a5, a6, a7, a8, a9, a10, a11, a12, a13, a14⟩ := hC
  simp only at a1 a3 a5 a6 a10 a12
  obtain ⟨r0, r3, r1, r9⟩ := hkMRet hy
  have hq : ∀ (ov : Option Value), ov = rF.map (hkVal adr 0) → (∀ v, rF = some v → v ∈ st) → ∀ u : State, u.heap = H → s.WarmedH u.vm → hkQc dC dI adr0 t0 rF tF gF A args s (.returned ov) u := by
    intro ov hov hin u hu hW
    exact ⟨⟨adr, cA, tys, by rw [hov], a13, by rw [hu]; exact a1, va_K.moved hW.alike a2, a3, a5, a6, fun v hv => a10 v (hin v hv), a12⟩, a4.F hu⟩
  rcases hkRet_inv hp with ⟨rfl, x, rfl, rfl, hrt⟩ | ⟨rfl, x, rfl, rfl, hrt⟩ | ⟨rfl, rfl, rfl, hrt⟩ <;> obtain ⟨rfl, hde⟩ := hkFetch_at hd rfl
  · rcases hrt with h0 | ⟨h3, hx01⟩
    · exact W.iret (v := Int32.ofInt x) hx hb (hr.trans (r0 h0)) (hq _ rfl (fun v hv => by cases hv; exact List.mem_cons_self)) a4.2.2 hde hlocks
    · exact W.zret (v := Int32.ofInt x) (ty := .boolean) hx hb (hr.trans (r3 h3)) (by rcases hx01 with rfl | rfl <;> rfl) (hq _ rfl (fun v hv => by cases hv; exact List.mem_cons_self)) a4.2.2 hde hlocks
  · exact W.lret (v := Int64.ofInt x) hx hb (hr.trans (r1 hrt)) (hq _ rfl (fun v hv => by cases hv; exact List.mem_cons_self)) a4.2.2 hde hlocks
  · exact W.vret hx hb (hr.trans (r9 hrt)) (hq _ rfl (fun v hv => by cases hv)) a4.2.2 hde hlocks
/-- the statement that goes by induction on the steps: of every frame -/
def hkAt (n : Nat) : Prop := ∀ (d y : Nat) (q : hkC) (rF : Option hkV) (tF : Nat) (gF : hkG), hkRun n d y q = some (rF, tF, gF) →
  ∀ (p : Program) (l : Launch) (e : Env) (R : Room) (s : State) (m : MethodId) (args : Array Value) (below : List Frame) (meth : Method) (c : Code) (Q : State → Prop) (dC : Nat → ClassId) (dI : Nat → Nat → Nat) (fl : Prop) (b : Nat) (A : Nat → Prop) (adr0 : Nat → Nat) (t0 : Nat),
    hkFr p R s m args meth c y fl b A → d + 1 ≤ R.frames → 64 * (d + 1) ≤ R.locals → hkNX tF - hkNX t0 ≤ R.cells → hkNS tF - hkNS t0 ≤ R.slots →
    hkRet p l e R s m args below meth c Q dC dI y fl b A adr0 t0 rF tF gF → hkNext p l e R s m args below meth c Q dC dI y fl b A adr0 t0 q
theorem hkMet (hn : hkAt n) {d y' : Nat} {as : List hkV} {r : Option hkV} {t' : Nat} {g' : hkG} (hrun : hkRun n d y' (0, hkEnt (hkX y') as, [], t, g) = some (r, t', g')) (hy : y' < 183) (has : ∀ v ∈ as, hkOK False t v) (htg : as.map (fun v => v.1) = hkTg y') (hg : hkGOK t g) (ht : t ≤ 190) (hty : ∀ z : Nat, z < hkNX t → 100 ≤ hkKd z → ∃ k0 : Nat, tys[k0]? = some (cA z, hkAty (hkKd z))) (l : Launch) (dC : Nat → ClassId) (dI : Nat → Nat → Nat) (adr : Nat → Nat) (sz : Nat) :
    Met l (hkN y') (hkW1 y') (hkRm d t t') (hkPc dC dI adr cA tys t g as sz) (hkQc dC dI adr t r t' g' (va_A (hkWs adr cA t g) sz)) (hkNX t' - hkNX t) (hkNS t' - hkNS t) (va_A (hkWs adr cA t g) sz) := by
  obtain ⟨m1, m2, m3, m4, m5, m6⟩ := hkMFacts hy
  refine hkMet_ofW (cc := hkB y') (maxL := hkX y') (ret := hkR y') m1 rfl ?_
  intro p e s m args below meth c s₁ B hml hv
  obtain ⟨rfl, hsz, hP, hK, hD0, hN⟩ := hv
  have hts := atoms_spec (ws := hkW1 y') B.pre
  have hown : s.vm.findClass (hkN y').cls = some m.cls := findClass_of_methodNamed B.named
  rw [m2] at hown
  subst hsz
  have hF : hkFr p (headSpec (hkW1 y') (hkRm d t t')).room s m (as.map (hkVal adr 0)).toArray meth c y' False 0 (va_A (hkWs adr cA t g) s.heap.size) :=
    ⟨B.exec, B.bytes, B.returns, hml, hown, fun w hw => hts w (List.mem_cons_of_mem _ hw), fun h => (name_of_methodNamed B.named B.method).1.trans h, B.notSynchronized, hN, fun z h => Or.inr h, by show 1 ≤ d + 1; omega, by show 64 ≤ 64 * (d + 1); omega, fun h => h.elim⟩
  obtain ⟨hl, hlen⟩ := hkEnt_lv (adr := adr) (b := 0) (n := hkX y') (as := as) (by rw [htg]; exact m6)
  rw [lg_entry_eq]
  generalize (lg_sl (as.map (hkVal adr 0)) ++ List.replicate (hkX y' - (lg_sl (as.map (hkVal adr 0))).length) Slot.unset).toArray = lsA at hl ⊢
  have K := hn d y' _ r t' g' hrun p l e (headSpec (hkW1 y') (hkRm d t t')).room s m (as.map (hkVal adr 0)).toArray below meth c (MQ below (hkQc dC dI adr t r t' g' (va_A (hkWs adr cA t g) s.heap.size)) (as.map (hkVal adr 0)).toArray s (hkNX t' - hkNX t) (hkNS t' - hkNS t) (va_A (hkWs adr cA t g) s.heap.size)) dC dI False 0 (va_A (hkWs adr cA t g) s.heap.size) adr t hF (Nat.le_refl _) (Nat.le_refl _) (Nat.le_refl _) (Nat.le_refl _) (hkRetMet hy hF)
    s.heap [] adr cA tys lsA ⟨hP, hK, hD0.self, va_S.rf, hty, hg, hl, hlen, hkEnt_ok has, fun v hv => (List.not_mem_nil hv).elim, Nat.le_refl _, ht, fun _ _ => rfl, fun h => h.elim⟩
  simp only [Nat.sub_self] at K
  exact K
theorem hkInv_inv {y' pc' : Nat} {z : hkK} (h : hkInv y' pc' ls st = some (.inr (.inl z))) : ∃ as rest, z = (y', as, pc', ls, rest) ∧ st = as.reverse ++ rest ∧ as.map (fun v => v.1) = hkTg y' ∧ (rest.map hkCat).sum ≤ 8 := by
  unfold hkInv at h
  split at h
  · rename_i as rest hpop
    split at h
    · rename_i hc
      simp only [Option.some.injEq, Sum.inr.injEq, Sum.inl.injEq] at h
      obtain ⟨h1, h2⟩ := hkPop_inv _ _ _ _ hpop
      exact ⟨as, rest, h.symm, h1, by rw [h2, List.reverse_reverse], hc⟩
    · cases h
  · cases h
theorem hkInvV_inv {y' pc' : Nat} {z : hkK} (h : hkInvV y' pc' ls st = some (.inr (.inl z))) : ∃ as rest, z = (y', as, pc', ls, rest) ∧ st = as.reverse ++ rest ∧ as.map (fun v => v.1) = hkTg y' ∧ (rest.map hkCat).sum ≤ 8 ∧ hkJK (hkFst as) = hkOwn y' := by
  unfold hkInvV at h
  split at h
  · rename_i as rest hpop
    obtain ⟨hj, h⟩ := hkChk_inv h
    split at h
    · rename_i hc
      simp only [Option.some.injEq, Sum.inr.injEq, Sum.inl.injEq] at h
      obtain ⟨h1, h2⟩ := hkPop_inv _ _ _ _ hpop
      exact ⟨as, rest, h.symm, h1, by rw [h2, List.reverse_reverse], hc, hj⟩
    · cases h
  · cases h
theorem hkOwn_lt {k : Nat} {v : Int} (h : hkJK v = k) (hk : k = hkOwn y) (h0 : v.toNat < hkNX t) (hko : hkOwn y < 17) : 0 ≤ v ∧ hkOwn y < 11 := by
  subst hk
  obtain ⟨h1, h2, h3⟩ := hkJK_inv h (by omega)
  have h91 : v.toNat < 91 := Nat.lt_of_lt_of_le h0 (hkNX_le t)
  have := hkKd_in _ h91
  rw [h2] at this
  unfold hkKinds at this
  simp only [List.mem_cons, List.mem_nil_iff, or_false] at this
  exact ⟨h1, by omega⟩
theorem hkOwn_all : ∀ y, y < 183 → hkOwn y < 17 := by decide +kernel
theorem hkHead {as : List hkV} {tg : List Nat} (h : as.map (fun v => v.1) = tg) (h2 : tg.head? = some 2) : ∃ (o : Int) (as' : List hkV), as = (2, o) :: as' ∧ as'.length = tg.length - 1 := by
  subst h
  cases as with
  | nil => simp at h2
  | cons v as' =>
    obtain ⟨k, o⟩ := v
    simp at h2
    subst h2
    exact ⟨o, as', rfl, by simp⟩
theorem hkAs_ok (hC : hkCx dC dI s y fl b A adr0 t0 (pc, ls, st, t, g) H locs adr cA tys lsA) {as rest : List hkV} (h : st = as.reverse ++ rest) {y' : Nat} (htg : as.map (fun v => v.1) = hkTg y') (hy : ∀ k ∈ hkTg y', k < 3) : ∀ v ∈ as, hkOK False t v := by
  intro v hv
  have h1 : hkOK fl t v := hkCx_k hC v (by rw [h]; exact List.mem_append_left _ (List.mem_reverse.mpr hv))
  have h2 : v.1 < 3 := hy _ (by rw [← htg]; exact List.mem_map.mpr ⟨v, hv, rfl⟩)
  rcases h1 with h1 | h1 | h1 | ⟨h1, -⟩
  · exact Or.inl h1
  · exact Or.inr (Or.inl h1)
  · exact Or.inr (Or.inr (Or.inl h1))
  · omega
theorem hkTg_all : ∀ y, y < 183 → ∀ k ∈ hkTg y, k < 3 := by decide +kernel
end HKN
