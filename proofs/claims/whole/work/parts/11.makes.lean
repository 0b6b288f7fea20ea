/-! what is made; copies; an object's own beginning -/
section HKT
variable {p : Program} {l : Launch} {e : Env} {R : Room} {s : State} {m : MethodId} {args : Array Value} {below : List Frame} {meth : Method} {c : Code} {Q : State → Prop}
variable {dC : Nat → ClassId} {dI : Nat → Nat → Nat} {y : Nat} {fl : Prop} {b : Nat} {A : Nat → Prop} {adr0 : Nat → Nat} {t0 : Nat}
variable {pc n : Nat} {ls st : List hkV} {t : Nat} {g : hkG} {H : Heap} {locs : List Loc} {adr : Nat → Nat} {cA : Nat → ClassId} {tys : List (ClassId × FieldType)} {lsA : Array Slot} {q : hkC} {i : Instr}
theorem hkAT_fresh {P k : Nat} (hP : hkNX t ≤ P) (ht : t ≤ 190) : ¬ hkAT P k ≤ t := fun h => by
  have := (hkRF_lt h ht).2.1
  omega
theorem hkEv_kd {P z w : Nat} (hE : hkEV[t]? = some (0, P, z, w)) : P < 91 := by
  obtain ⟨e1, e2, e3⟩ := hkEv0 hE
  have := hkNX_le (t + 1)
  omega
/-- the world with a new place, all of it at its first value -/
theorem hkCx_new {pc' : Nat} {st' : List hkV} {H1 : Heap} {P z w q0 : Nat} {x : va_E} {tys' : List (ClassId × FieldType)} {cN : ClassId} (hC : hkCx dC dI s y fl b A adr0 t0 (pc, ls, st, t, g) H locs adr cA tys lsA) (hE : hkEV[t]? = some (0, P, z, w))
    (hx : hkCell (fun r => if r = P then q0 else adr r) (fun r => if r = P then cN else cA r) (t + 1) g P = x)
    (hK : va_K (dC, dI) hkCl tys' s) (hty : (∃ l', tys' = tys ++ l') ∧ (100 ≤ hkKd P → ∃ k0 : Nat, tys'[k0]? = some (cN, hkAty (hkKd P))))
    (hP : va_P (dC, dI) hkCl (hkWs adr cA t g ++ [(q0, x)]) H1) (hD : va_D A (hkWs adr cA t g ++ [(q0, x)])) (hS : va_S A s.heap H1 locs) (h4 : ∀ v ∈ st', v ∈ st) :
    hkCx dC dI s y fl b A adr0 t0 (pc', ls, (2, (P : Int)) :: st', t + 1, g) H1 locs (fun r => if r = P then q0 else adr r) (fun r => if r = P then cN else cA r) tys' lsA ∧ hkVal (fun r => if r = P then q0 else adr r) b (2, (P : Int)) = .ref q0 ∧ st'.map (hkVal (fun r => if r = P then q0 else adr r) b) = st'.map (hkVal adr b) := by
  obtain ⟨e1, e2, e3⟩ := hkEv0 hE
  have hlt := hkEv_lt hE
  obtain ⟨a1, a2, a3, a4, a5, a6, a7, a8, a9, a10, a11, a12, a13, a14⟩ := hC
  simp only at a1 a3 a5 a6 a7 a8 a9 a10 a11 a12 a13 a14
  have hadr : ∀ r, r < hkNX t → (fun r => if r = P then q0 else adr r) r = adr r := fun r hr => by
    simp only; rw [if_neg (by omega)]
  have hcell : ∀ r, r < hkNX t → hkCell (fun r => if r = P then q0 else adr r) (fun r => if r = P then cN else cA r) (t + 1) g r = hkCell adr cA t g r := by
    intro r hr
    have h1 : ∀ j, (hkAT r j ≤ t + 1) = (hkAT r j ≤ t) := fun j => propext (hkAT_new hE)
    have h2 : ∀ j, hkAT r j ≤ t → (if hkRF r j = P then q0 else adr (hkRF r j)) = adr (hkRF r j) := fun j h => by
      rw [if_neg]
      have := (hkRF_lt h a12).1
      omega
    have h3 : hkFs (fun r => if r = P then q0 else adr r) (t + 1) g r = hkFs adr t g r := by
      unfold hkFs hkFv
      apply List.map_congr_left
      intro j _
      simp only [h1]
      by_cases hj : hkAT r j ≤ t
      · simp only [hj, if_true, h2 j hj]
      · simp only [hj, if_false]
    have h4 : (fun j => if hkAT r j ≤ t + 1 then some (if hkRF r j = P then q0 else adr (hkRF r j)) else none) = (fun j => if hkAT r j ≤ t then some (adr (hkRF r j)) else none) := by
      funext j
      simp only [h1]
      by_cases hj : hkAT r j ≤ t
      · simp only [hj, if_true, h2 j hj]
      · simp only [hj, if_false]
    have h5 : (if r = P then cN else cA r) = cA r := if_neg (by omega)
    unfold hkCell
    simp only [h3, h4, h5]
  have hws : hkWs adr cA t g ++ [(q0, x)] = hkWs (fun r => if r = P then q0 else adr r) (fun r => if r = P then cN else cA r) (t + 1) g :=
    hkWs_push e2 hadr (by show (if hkNX t = P then q0 else adr (hkNX t)) = q0; rw [if_pos e1.symm]) (by rw [← e1]; exact hx) hcell
  rw [hws] at hP hD
  have hmono : ∀ {v : hkV}, hkOK fl t v → hkOK fl (t + 1) v := fun h => hkOK_mono h (Nat.le_succ t)
  refine ⟨⟨hP, hK, hD, hS, ?_, ?_, ?_, a8, ?_, ?_, Nat.le_succ_of_le a11, ?_, ?_, a14⟩, ?_, ?_⟩
  · intro r hr h100
    simp only at hr ⊢
    rw [e2] at hr
    by_cases h : r = P
    · rw [if_pos h, h]
      exact hty.2 (h ▸ h100)
    · rw [if_neg h]
      obtain ⟨k0, hk0⟩ := a5 r (by omega) h100
      obtain ⟨l', hl'⟩ := hty.1
      refine ⟨k0, ?_⟩
      rw [hl', List.getElem?_append_left (List.getElem?_eq_some_iff.mp hk0).1]
      exact hk0
  · refine ⟨fun r k hr => ?_, fun r k hr => ?_⟩
    · rw [e2] at hr
      by_cases h : r < hkNX t
      · exact a6.1 r k h
      · show if hkKd r = 101 then hkRngL (g r k) else hkRng (g r k)
        rw [a6.2 r k (by omega)]
        split
        · unfold hkRngL; omega
        · exact hkRng0
    · rw [e2] at hr
      exact a6.2 r k (by omega)
  · exact hkLv_congr a7 a9 hadr
  · intro v hv
    rcases a9 v hv with h | h
    · exact Or.inl (hmono h)
    · exact Or.inr h
  · intro v hv
    rcases List.mem_cons.mp hv with rfl | hv
    · refine hkOKr ?_
      show P < hkNX (t + 1)
      omega
    · exact hmono (a10 v (h4 v hv))
  · simp only; omega
  · intro r hr
    have := hkNX_mono (t := t0) (u := t) a11
    rw [hadr r (by omega)]
    exact a13 r hr
  · show Value.ref ((fun r => if r = P then q0 else adr r) ((P : Int)).toNat) = _
    simp
  · apply List.map_congr_left
    intro v hv
    exact hkVal_congr (Or.inl (a10 v (h4 v hv))) hadr
theorem hkNew_inv {kd pc' : Nat} {x : Option Int} (h : hkNew kd pc' x ls st t g = some (.inl q)) : ∃ P z w, hkEV[t]? = some (0, P, z, w) ∧ hkKd P = kd ∧ (∀ v ∈ x, v = (hkLn P : Int)) ∧ q = (pc', ls, (2, (P : Int)) :: st, t + 1, g) := by
  unfold hkNew at h
  split at h
  · rename_i P z w hE
    obtain ⟨⟨h1, h2⟩, h3⟩ := hkChk_inv h
    exact ⟨P, z, w, hE, h1, h2, hkGo_inv h3⟩
  · cases h
theorem hkNext_new {P z w q0 : Nat} {x : va_E} {tys' : List (ClassId × FieldType)} {cN : ClassId} {pc' : Nat} {st' : List hkV} {H1 : Heap} (hC : hkCx dC dI s y fl b A adr0 t0 (pc, ls, st, t, g) H locs adr cA tys lsA) (hE : hkEV[t]? = some (0, P, z, w))
    (hx : hkCell (fun r => if r = P then q0 else adr r) (fun r => if r = P then cN else cA r) (t + 1) g P = x)
    (hK : va_K (dC, dI) hkCl tys' s) (hty : (∃ l', tys' = tys ++ l') ∧ (100 ≤ hkKd P → ∃ k0 : Nat, tys'[k0]? = some (cN, hkAty (hkKd P))))
    (hP : va_P (dC, dI) hkCl (hkWs adr cA t g ++ [(q0, x)]) H1) (hD : va_D A (hkWs adr cA t g ++ [(q0, x)])) (hS : va_S A s.heap H1 locs) (h4 : ∀ v ∈ st', v ∈ st)
    (hn : hkNext p l e R s m args below meth c Q dC dI y fl b A adr0 t0 (pc', ls, (2, (P : Int)) :: st', t + 1, g)) :
    W p l e R s m args below meth c H1 locs (hkNX t - hkNX t0 + 1) (hkNS t - hkNS t0 + hkLn P) Q (F0 m pc' lsA (.ref q0 :: st'.map (hkVal adr b))) := by
  obtain ⟨k1, k2, k3⟩ := hkCx_new (pc' := pc') hC hE hx hK hty hP hD hS h4
  have K := hn _ _ _ _ _ _ k1
  simp only [List.map_cons, k2, k3] at K
  obtain ⟨e1, e2, e3⟩ := hkEv0 hE
  have h1 := hkNX_mono (t := t0) (u := t) hC.2.2.2.2.2.2.2.2.2.2.1
  have h2 := hkNS_mono (t := t0) (u := t) hC.2.2.2.2.2.2.2.2.2.2.1
  rw [show hkNX t - hkNX t0 + 1 = hkNX (t + 1) - hkNX t0 from by omega, show hkNS t - hkNS t0 + hkLn P = hkNS (t + 1) - hkNS t0 from by omega]
  exact K
theorem hkRoom_new {P z w : Nat} (hC : hkCx dC dI s y fl b A adr0 t0 (pc, ls, st, t, g) H locs adr cA tys lsA) (hE : hkEV[t]? = some (0, P, z, w)) (hroom : hkNX (t + 1) - hkNX t0 ≤ R.cells ∧ hkNS (t + 1) - hkNS t0 ≤ R.slots) : hkNX t - hkNX t0 + 1 ≤ R.cells ∧ hkNS t - hkNS t0 + hkLn P ≤ R.slots := by
  obtain ⟨e1, e2, e3⟩ := hkEv0 hE
  have h1 := hkNX_mono (t := t0) (u := t) hC.2.2.2.2.2.2.2.2.2.2.1
  have h2 := hkNS_mono (t := t0) (u := t) hC.2.2.2.2.2.2.2.2.2.2.1
  omega
theorem hkS_new (hF : hkFr p R s m args meth c y fl b A) (hC : hkCx dC dI s y fl b A adr0 t0 (pc, ls, st, t, g) H locs adr cA tys lsA) (hd : hkFetch y pc = some (i, n)) (hp : hkPx y i n (pc, ls, st, t, g) = some (.inl q)) (hn : hkNext p l e R s m args below meth c Q dC dI y fl b A adr0 t0 q) (hroom : hkNX q.2.2.2.1 - hkNX t0 ≤ R.cells ∧ hkNS q.2.2.2.1 - hkNS t0 ≤ R.slots)
    (hi : (∃ x, i = .new x) ∨ (∃ x, i = .newarray x) ∨ (∃ x, i = .anewarray x)) : W p l e R s m args below meth c H locs (hkNX t - hkNX t0) (hkNS t - hkNS t0) Q (F0 m pc lsA (st.map (hkVal adr b))) := by
  obtain ⟨hx, hb, hr, hml, hown, hts, hnm, hlk, hnst, hA, -⟩ := hF
  have ht190 : t ≤ 190 := hC.2.2.2.2.2.2.2.2.2.2.2.1
  have hzero : ∀ P z w, hkEV[t]? = some (0, P, z, w) → ∀ k : Nat, g P k = 0 := fun P z w hE k => hC.2.2.2.2.2.1.2 P k (by have := (hkEv0 hE).1; simp only; omega)
  rcases hi with ⟨idx, rfl⟩ | ⟨ty, rfl⟩ | ⟨idx, rfl⟩ <;> obtain ⟨rfl, hde⟩ := hkFetch_at hd rfl <;> simp only [hkPx] at hp <;> split at hp <;> first | (cases hp; done) | skip
  · rename_i ci hcl
    split at hp <;> first | (cases hp; done) | skip
    rename_i hci
    obtain ⟨P, z, w, hE, h1, -, rfl⟩ := hkNew_inv hp
    have hg := hzero P z w hE
    have h91 := hkEv_kd hE
    obtain ⟨r1, r2⟩ := hkRoom_new hC hE hroom
    have hln : hkLn P = hkNF ci := by rw [hkNF_ln h91 (by omega), h1]
    rw [hln] at r2
    have hfs : hkFs adr (t + 1) g P = (List.range (hkLn P)).map (fun k => if hkFT ci k = 2 then Value.null else .int 0) := by
      unfold hkFs hkFv
      apply List.map_congr_left
      intro k _
      rw [h1, hg k]
      have hna : ¬ hkAT P k ≤ t + 1 := by
        rw [hkAT_new hE]; exact hkAT_fresh (by have := (hkEv0 hE).1; omega) ht190
      rw [if_neg hna]
      rfl
    have hfs' : ∀ adr' : Nat → Nat, hkFs adr' (t + 1) g P = hkFs adr (t + 1) g P := by
      intro adr'
      unfold hkFs hkFv
      apply List.map_congr_left
      intro k _
      have hna : ¬ hkAT P k ≤ t + 1 := by
        rw [hkAT_new hE]; exact hkAT_fresh (by have := (hkEv0 hE).1; omega) ht190
      rw [if_neg hna, if_neg hna]
    refine va_new (ci := ci) (fs := hkFs adr (t + 1) g P) hx hb hts (hkWs_gt hci) (hkYY ci) (hkYok_ok hci) hown (hts _ (hkCls_ok hcl)) (hts _ (hkIns_w ci hci).1) (hts _ (hkIns_w ci hci).2) hC.2.1 hC.1 hC.2.2.1 hC.2.2.2.1 hA (hkCl_ok hci) ?_ r1 r2 hde (fun q0 H1 hP hD hS => ?_)
    · intro j hj
      unfold vp_V
      rw [hfs, List.getD_eq_getElem?_getD, List.getElem?_map, List.getElem?_range (by omega)]
      show _ = if hkFT ci j = 2 then Value.null else .int 0
      have hty := hkTyAll ci hci j hj
      unfold hkTyOk at hty
      split at hty <;> first | (rename_i e1 e2 e3 e4; rw [e1, e2]; rfl) | cases hty
    · have K := hkNext_new (p := p) (l := l) (e := e) (R := R) (m := m) (args := args) (below := below) (meth := meth) (c := c) (Q := Q) (cN := 0) (q0 := q0) (st' := st) (x := .inr (ci, hkFs adr (t + 1) g P)) hC hE (by rw [hkCell_o (by omega), h1, hfs']) hC.2.1 ⟨⟨[], by simp⟩, fun h => by omega⟩ hP hD hS (fun _ h => h) hn
      rw [hln] at K
      exact K
  · rename_i x st'
    split at hp <;> first | (cases hp; done) | skip
    rename_i hty
    obtain ⟨P, z, w, hE, h1, h2, rfl⟩ := hkNew_inv hp
    have hg := hzero P z w hE
    have h91 := hkEv_kd hE
    have hle := hkLn_le _ h91
    obtain ⟨r1, r2⟩ := hkRoom_new hC hE hroom
    have hxr := hkOK_i (hkCx_k hC _ List.mem_cons_self)
    have hxv := h2 x rfl
    have hneg : ¬ Int32.ofInt x < 0 := by
      rw [show (0 : Int32) = Int32.ofInt 0 from rfl, hkI_lt hxr hkRng0]; omega
    have hcl : (Int32.ofInt x).toNatClampNeg = hkLn P := by rw [hkI_cl hxr]; omega
    cases ty <;> (first | (exfalso; revert hty; decide) | skip)
    all_goals first
      | (refine va_newa (atype := .boolean) (ty := .boolean) (a0 := (hkLn P, .inl (fun _ => 0))) hx hb (hts _ hkArr_bool) rfl hC.2.1 hC.1 hC.2.2.1 hC.2.2.2.1 hA (fun cN => rfl) hneg hcl (by simp only [componentBytes]; omega) r1 r2 hde (fun q0 cN H1 hK hP hD hS => ?_)
         refine hkNext_new (cN := cN) hC hE ?_ hK ⟨⟨_, rfl⟩, fun _ => ⟨tys.length, by rw [h1]; simp; rfl⟩⟩ hP hD hS hkCs1 hn
         rw [hkCell_i (Or.inr h1), if_pos rfl]
         congr 4
         funext j; rw [hg j]; rfl)
      | (refine va_newa (atype := .int) (ty := .int) (a0 := (hkLn P, .inl (fun _ => 0))) hx hb (hts _ hkArr_int) rfl hC.2.1 hC.1 hC.2.2.1 hC.2.2.2.1 hA (fun cN => rfl) hneg hcl (by simp only [componentBytes]; omega) r1 r2 hde (fun q0 cN H1 hK hP hD hS => ?_)
         refine hkNext_new (cN := cN) hC hE ?_ hK ⟨⟨_, rfl⟩, fun _ => ⟨tys.length, by rw [h1]; simp; rfl⟩⟩ hP hD hS hkCs1 hn
         rw [hkCell_i (Or.inl h1), if_pos rfl]
         congr 4
         funext j; rw [hg j]; rfl)
      | (refine va_newa (atype := .long) (ty := .long) (a0 := (hkLn P, .inr (.inl (fun _ => 0)))) hx hb (hts _ hkArr_long) rfl hC.2.1 hC.1 hC.2.2.1 hC.2.2.2.1 hA (fun cN => rfl) hneg hcl (by simp only [componentBytes]; omega) r1 r2 hde (fun q0 cN H1 hK hP hD hS => ?_)
         refine hkNext_new (cN := cN) hC hE ?_ hK ⟨⟨_, rfl⟩, fun _ => ⟨tys.length, by rw [h1]; simp; rfl⟩⟩ hP hD hS hkCs1 hn
         rw [hkCell_l h1, if_pos rfl]
         congr 5
         funext j; rw [hg j]; rfl)
  all_goals
    rename_i x st' hcls
    obtain ⟨P, z, w, hE, h1, h2, rfl⟩ := hkNew_inv hp
    have hg := hzero P z w hE
    have h91 := hkEv_kd hE
    have hle := hkLn_le _ h91
    obtain ⟨r1, r2⟩ := hkRoom_new hC hE hroom
    have hxr := hkOK_i (hkCx_k hC _ List.mem_cons_self)
    have hxv := h2 x rfl
    have hneg : ¬ Int32.ofInt x < 0 := by
      rw [show (0 : Int32) = Int32.ofInt 0 from rfl, hkI_lt hxr hkRng0]; omega
    have hcl : (Int32.ofInt x).toNatClampNeg = hkLn P := by rw [hkI_cl hxr]; omega
    have hna : ∀ k, ¬ hkAT P k ≤ t + 1 := fun k => by
      rw [hkAT_new hE]; exact hkAT_fresh (by have := (hkEv0 hE).1; omega) ht190
    refine va_newq hx hb hown (hts _ (hkCls_ok hcls)) (by first | exact hnst.2.1 | exact hnst.2.2) hC.2.1 hC.1 hC.2.2.1 hC.2.2.2.1 hA hneg hcl (by omega) r1 r2 hde (fun q0 cN H1 hK hP hD hS => ?_)
    refine hkNext_new (cN := cN) hC hE ?_ hK ⟨⟨_, rfl⟩, fun _ => ⟨tys.length, by rw [h1]; simp; rfl⟩⟩ hP hD hS hkCs1 hn
    rw [hkCell_q (by omega), if_pos rfl]
    congr 7
    funext j; rw [if_neg (hna j)]
end HKT
