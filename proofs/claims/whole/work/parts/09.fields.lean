/-! fields, arrays, what is made -/
section HKT
variable {p : Program} {l : Launch} {e : Env} {R : Room} {s : State} {m : MethodId} {args : Array Value} {below : List Frame} {meth : Method} {c : Code} {Q : State → Prop}
variable {dC : Nat → ClassId} {dI : Nat → Nat → Nat} {y : Nat} {fl : Prop} {b : Nat} {A : Nat → Prop} {adr0 : Nat → Nat} {t0 : Nat}
variable {pc n : Nat} {ls st : List hkV} {t : Nat} {g : hkG} {H : Heap} {locs : List Loc} {adr : Nat → Nat} {cA : Nat → ClassId} {tys : List (ClassId × FieldType)} {lsA : Array Slot} {q : hkC} {i : Instr}
theorem hkCell_o {P : Nat} (h : hkKd P < 11) : hkCell adr cA t g P = .inr (hkKd P, hkFs adr t g P) := by unfold hkCell; rw [if_pos h]
theorem hkCell_l {P : Nat} (h : hkKd P = 101) : hkCell adr cA t g P = .inl (cA P, hkLn P, .inr (.inl (fun j => Int64.ofInt (g P j)))) := by unfold hkCell; rw [if_neg (by omega), if_pos h]
theorem hkCell_i {P : Nat} (h : hkKd P = 100 ∨ hkKd P = 102) : hkCell adr cA t g P = .inl (cA P, hkLn P, .inl (fun j => Int32.ofInt (g P j))) := by unfold hkCell; rw [if_neg (by omega), if_neg (by omega), if_pos (by omega)]
theorem hkCell_q {P : Nat} (h : hkKd P = 103 ∨ hkKd P = 104) : hkCell adr cA t g P = .inl (cA P, hkLn P, .inr (.inr (.inr (.inr (fun j => if hkAT P j ≤ t then some (adr (hkRF P j)) else none))))) := by unfold hkCell; rw [if_neg (by omega), if_neg (by omega), if_neg (by omega)]
theorem hkJK_inv {x : Int} {k : Nat} (h : hkJK x = k) (hk : k < 999) : 0 ≤ x ∧ hkKd x.toNat = k ∧ ((x.toNat : Nat) : Int) = x := by
  unfold hkJK at h
  split at h
  · omega
  · exact ⟨by omega, h, by omega⟩
theorem hkSet_row {x k v : Int} {r : Int} (h : r ≠ x) : hkSet g x k v r = g r := by
  funext j; unfold hkSet; rw [if_neg (fun h2 => h h2.1)]
theorem hkSet_at {x k v : Int} : hkSet g x k v x k = v := by unfold hkSet; rw [if_pos ⟨rfl, rfl⟩]
theorem hkSet_ne {x k v r j : Int} (h : ¬ (r = x ∧ j = k)) : hkSet g x k v r j = g r j := by unfold hkSet; rw [if_neg h]
theorem hkFs_row {g' : hkG} {P : Nat} (h : g' (P : Int) = g (P : Int)) : hkFs adr t g' P = hkFs adr t g P := by
  unfold hkFs hkFv; rw [h]
theorem hkCell_row {g' : hkG} {P : Nat} (h : g' (P : Int) = g (P : Int)) : hkCell adr cA t g' P = hkCell adr cA t g P := by
  unfold hkCell; rw [hkFs_row h, h]
theorem hkGOK_set {x k v : Int} (h : hkGOK t g) (h0 : 0 ≤ x) (hx : x.toNat < hkNX t) (hv : if hkKd x.toNat = 101 then hkRngL v else hkRng v) : hkGOK t (hkSet g x k v) := by
  refine ⟨fun P j hP => ?_, fun P j hP => ?_⟩
  · unfold hkSet
    by_cases e : (P : Int) = x ∧ (j : Int) = k
    · rw [if_pos e]
      have : P = x.toNat := by omega
      rw [this]; exact hv
    · rw [if_neg e]; exact h.1 P j hP
  · rw [hkSet_row (by omega)]; exact h.2 P j hP
theorem hkCx_mem {pc' : Nat} {st' : List hkV} {g' : hkG} {H1 : Heap} {locs1 : List Loc} (hC : hkCx dC dI s y fl b A adr0 t0 (pc, ls, st, t, g) H locs adr cA tys lsA) (hP : va_P (dC, dI) hkCl (hkWs adr cA t g') H1) (hD : va_D A (hkWs adr cA t g')) (hS : va_S A s.heap H1 locs1) (hg : hkGOK t g') (hneg : ∀ r : Int, r < 0 → g' r = g r) (h4 : ∀ v ∈ st', v ∈ st) : hkCx dC dI s y fl b A adr0 t0 (pc', ls, st', t, g') H1 locs1 adr cA tys lsA := by
  obtain ⟨a1, a2, a3, a4, a5, a6, a7, a8, a9, a10, a11, a12, a13, a14⟩ := hC
  refine ⟨hP, a2, hD, hS, a5, hg, a7, a8, a9, fun v hv => a10 v (h4 v hv), a11, a12, a13, fun h L xs hX => ?_⟩
  obtain ⟨b1, b2, b3⟩ := a14 h L xs hX
  simp only at b1 b3 ⊢
  rw [hneg (-2) (by decide), hneg (-1) (by decide)]
  exact ⟨b1, b2, b3⟩
theorem hkLn_le : ∀ P, P < 91 → hkLn P ≤ 42875 := by decide +kernel
theorem hkFs_get {P k : Nat} (hk : k < hkLn P) : (hkFs adr t g P)[k]? = some (hkFv adr t g P k) := by
  unfold hkFs; simp [hk]
theorem hkFs_len {P : Nat} : (hkFs adr t g P).length = hkLn P := by unfold hkFs; simp
theorem hkFs_set {P k : Nat} {x v : Int} (hx : (P : Int) = x) (hf : hkFT (hkKd P) k ≠ 2) : (hkFs adr t g P).set k (.int (Int32.ofInt v)) = hkFs adr t (hkSet g x k v) P := by
  apply List.ext_getElem?
  intro j
  rw [List.getElem?_set, hkFs_len]
  by_cases hj : j < hkLn P
  · rw [hkFs_get hj, hkFs_get hj]
    by_cases e : k = j
    · subst e
      rw [if_pos rfl, if_pos hj]
      unfold hkFv
      rw [if_neg hf, hx, hkSet_at]
    · rw [if_neg e]
      unfold hkFv
      rw [hkSet_ne (fun h => e (by omega))]
  · have a1 : (hkFs adr t (hkSet g x k v) P)[j]? = none := List.getElem?_eq_none (by rw [hkFs_len]; omega)
    have a2 : (hkFs adr t g P)[j]? = none := List.getElem?_eq_none (by rw [hkFs_len]; omega)
    rw [a1, a2]
    by_cases e : k = j
    · rw [if_pos e, if_neg (by omega)]
    · rw [if_neg e]
theorem hkNF_ln {P : Nat} (hP : P < 91) (h : hkKd P < 11) : hkLn P = hkNF (hkKd P) := hkKd_ln P hP h
theorem hkFv_i {P k : Nat} (hf : hkFT (hkKd P) k ≠ 2) : hkFv adr t g P k = .int (Int32.ofInt (g P k)) := by unfold hkFv; rw [if_neg hf]
theorem hkFv_r {P k : Nat} (hf : hkFT (hkKd P) k = 2) (ha : hkAT P k ≤ t) : hkFv adr t g P k = .ref (adr (hkRF P k)) := by unfold hkFv; rw [if_pos hf, if_pos ha]
theorem hkS_getf (hF : hkFr p R s m args meth c y fl b A) (hC : hkCx dC dI s y fl b A adr0 t0 (pc, ls, st, t, g) H locs adr cA tys lsA) (hd : hkFetch y pc = some (i, n)) (hp : hkPx y i n (pc, ls, st, t, g) = some (.inl q)) (hn : hkNext p l e R s m args below meth c Q dC dI y fl b A adr0 t0 q)
    (hi : ∃ x, i = .getfield x) : W p l e R s m args below meth c H locs (hkNX t - hkNX t0) (hkNS t - hkNS t0) Q (F0 m pc lsA (st.map (hkVal adr b))) := by
  obtain ⟨hx, hb, hr, hml, hown, hts, -⟩ := hF
  obtain ⟨x, rfl⟩ := hi
  obtain ⟨rfl, hde⟩ := hkFetch_at hd rfl
  simp only [hkPx] at hp
  unfold hkGetf at hp
  split at hp
  · rename_i P st' ci k hfl
    obtain ⟨h1, h2⟩ := hkChk_inv hp
    obtain ⟨hci, hk, hw⟩ := hkFld_ok hfl
    obtain ⟨h3, h4, h5⟩ := hkJK_inv h1 (by omega)
    obtain ⟨-, h6⟩ := hkOK_r (hkCx_k hC _ List.mem_cons_self)
    have h91 : P.toNat < 91 := Nat.lt_of_lt_of_le h6 (hkNX_le t)
    have hln := hkNF_ln h91 (by omega)
    have hkl : k < hkLn P.toNat := by rw [hln, h4]; exact hk
    have hws := hkWs_get (adr := adr) (cA := cA) (g := g) h6
    rw [hkCell_o (by omega), h4] at hws
    have hget := hkFs_get (adr := adr) (t := t) (g := g) hkl
    split at h2
    · rename_i hft
      obtain ⟨h7, h8⟩ := hkChk_inv h2
      obtain rfl := hkGo_inv h8
      rw [hkFv_r (by rw [h4]; exact hft) h7] at hget
      refine va_get (q0 := P.toNat) (k := k) hx hb hts (hkWs_gt hci) hown hC.2.1 hC.1 hws (hkCl_ok hci) hk (hts _ hw) (fun _ h => h) hget hde (hkS_pushE hC (hkOKr (hkRF_lt h7 hC.2.2.2.2.2.2.2.2.2.2.2.1).1) hkCs1 ?_ hn)
      show Value.ref (adr (((hkRF P.toNat k : Nat) : Int)).toNat) = _
      rw [Int.toNat_natCast]
    · rename_i hft
      obtain rfl := hkGo_inv h2
      rw [hkFv_i (by rw [h4]; exact hft), h5] at hget
      refine va_get (q0 := P.toNat) (k := k) hx hb hts (hkWs_gt hci) hown hC.2.1 hC.1 hws (hkCl_ok hci) hk (hts _ hw) (fun _ h => h) hget hde (hkS_push hC (hkOKi ?_) hkCs1 hn)
      have := hC.2.2.2.2.2.1.1 P.toNat k h6
      rw [if_neg (by omega), h5] at this
      exact this
  · cases hp
theorem hkS_putI (hF : hkFr p R s m args meth c y fl b A) {P x : Int} {idx ci k : Nat} {st' : List hkV} (hC : hkCx dC dI s y fl b A adr0 t0 (pc, ls, (0, x) :: (2, P) :: st', t, g) H locs adr cA tys lsA) (hde : decode (hkB y) pc = .ok (.putfield idx, 3)) (hfl : hkFld (hkOwn y) idx = some (ci, k)) (h1 : hkJK P = ci) (hty : ∃ ty : FieldType, hkYY ci k = ty ∧ narrow ty (.int (Int32.ofInt x)) = .int (Int32.ofInt x) ∧ fits ty (.int (Int32.ofInt x)) = true) (hfin : (hkTT ci k).2.2.2 = false) (hf2 : hkFT ci k ≠ 2) (hn : hkNext p l e R s m args below meth c Q dC dI y fl b A adr0 t0 (pc + 3, ls, st', t, hkSet g P k x)) :
    W p l e R s m args below meth c H locs (hkNX t - hkNX t0) (hkNS t - hkNS t0) Q (F0 m pc lsA (((0, x) :: (2, P) :: st').map (hkVal adr b))) := by
  obtain ⟨hx, hb, hr, hml, hown, hts, -⟩ := hF
  obtain ⟨hci, hk, hw⟩ := hkFld_ok hfl
  obtain ⟨h3, h4, h5⟩ := hkJK_inv h1 (by omega)
  obtain ⟨-, h6⟩ := hkOK_r (hkCx_k hC _ (List.mem_cons_of_mem _ List.mem_cons_self))
  have hxr := hkOK_i (hkCx_k hC _ List.mem_cons_self)
  have h91 : P.toNat < 91 := Nat.lt_of_lt_of_le h6 (hkNX_le t)
  have hln := hkNF_ln h91 (by omega)
  have hkl : k < hkLn P.toNat := by rw [hln, h4]; exact hk
  have hws := hkWs_get (adr := adr) (cA := cA) (g := g) h6
  rw [hkCell_o (by omega), h4] at hws
  obtain ⟨ty, hty1, hty2, hty3⟩ := hty
  refine va_put (q0 := P.toNat) (k := k) (ty := ty) (v := .int (Int32.ofInt x)) hx hb hts (hkWs_gt hci) (hkYY ci) (hkYok_ok hci) (hkNm_ok hci) hown hC.2.1 hC.1 hC.2.2.1 hC.2.2.2.1 hws (hkCl_ok hci) hk (hts _ hw) (fun _ h => h) hfin (by rw [hkYok_ok hci k hk, hty1]) hty2 hty3 (by rw [hkFs_len]; exact hkl) hde (fun H1 locs1 hP hD hS => ?_)
  have hset : (hkWs adr cA t g).set P.toNat (adr P.toNat, .inr (ci, (hkFs adr t g P.toNat).set k (.int (Int32.ofInt x)))) = hkWs adr cA t (hkSet g P k x) := by
    refine hkWs_set h6 rfl ?_ (fun r hr hne => hkCell_row (hkSet_row (by omega)))
    rw [hkCell_o (by omega), h4, hkFs_set h5 (by rw [h4]; exact hf2)]
  dsimp only at hP hD
  rw [hset] at hP hD
  refine hn H1 locs1 adr cA tys lsA (hkCx_mem hC hP hD hS (hkGOK_set hC.2.2.2.2.2.1 h3 h6 ?_) (fun r hr => hkSet_row (by omega)) hkCs2)
  rw [if_neg (by omega)]; exact hxr
theorem hkFs_setR {P k v : Nat} (hE : hkEV[t]? = some (1, P, k, v)) (hf : hkFT (hkKd P) k = 2) : (hkFs adr t g P).set k (.ref (adr v)) = hkFs adr (t + 1) g P := by
  obtain ⟨e1, e2, e3, e4, e5, e6, e7⟩ := hkEv1 hE
  apply List.ext_getElem?
  intro j
  rw [List.getElem?_set, hkFs_len]
  by_cases hj : j < hkLn P
  · rw [hkFs_get hj, hkFs_get hj]
    by_cases e : k = j
    · subst e
      rw [if_pos rfl, if_pos hj, hkFv_r hf (by omega), e2]
    · rw [if_neg e]
      unfold hkFv
      by_cases hf2 : hkFT (hkKd P) j = 2
      · rw [if_pos hf2, if_pos hf2]
        have := hkAT_put (p := P) (k := j) hE
        by_cases ha : hkAT P j ≤ t
        · rw [if_pos ha, if_pos (by omega)]
        · rw [if_neg ha, if_neg (by rw [this]; omega)]
      · rw [if_neg hf2, if_neg hf2]
  · have a1 : (hkFs adr (t + 1) g P)[j]? = none := List.getElem?_eq_none (by rw [hkFs_len]; omega)
    have a2 : (hkFs adr t g P)[j]? = none := List.getElem?_eq_none (by rw [hkFs_len]; omega)
    rw [a1, a2]
    by_cases e : k = j
    · rw [if_pos e, if_neg (by omega)]
    · rw [if_neg e]
theorem hkCell_put {P k v r : Nat} (hE : hkEV[t]? = some (1, P, k, v)) (hr : r ≠ P) : hkCell adr cA (t + 1) g r = hkCell adr cA t g r := by
  have h : ∀ j, (hkAT r j ≤ t + 1) = (hkAT r j ≤ t) := fun j => propext (by have := hkAT_put (p := r) (k := j) hE; omega)
  unfold hkCell hkFs hkFv
  simp only [h]
/-- the world as it stands at the next event, nothing new made -/
theorem hkCx_ev {pc' : Nat} {st' : List hkV} {H1 : Heap} {locs1 : List Loc} {P k v : Nat} (hC : hkCx dC dI s y fl b A adr0 t0 (pc, ls, st, t, g) H locs adr cA tys lsA) (hE : hkEV[t]? = some (1, P, k, v)) (hP : va_P (dC, dI) hkCl (hkWs adr cA (t + 1) g) H1) (hD : va_D A (hkWs adr cA (t + 1) g)) (hS : va_S A s.heap H1 locs1) (h4 : ∀ v ∈ st', v ∈ st) : hkCx dC dI s y fl b A adr0 t0 (pc', ls, st', t + 1, g) H1 locs1 adr cA tys lsA := by
  obtain ⟨a1, a2, a3, a4, a5, a6, a7, a8, a9, a10, a11, a12, a13, a14⟩ := hC
  obtain ⟨e1, e2, e3, e4, e5, e6, e7⟩ := hkEv1 hE
  have hlt := hkEv_lt hE
  simp only at a5 a6 a9 a10 a11
  refine ⟨hP, a2, hD, hS, ?_, ?_, a7, a8, fun w hw => ?_, fun w hw => hkOK_mono (a10 w (h4 w hw)) (Nat.le_succ t), Nat.le_succ_of_le a11, by simp only; omega, a13, a14⟩
  · simp only [e6]; exact a5
  · unfold hkGOK; simp only [e6]; exact a6
  · rcases a9 w hw with h | h
    · exact Or.inl (hkOK_mono h (Nat.le_succ t))
    · exact Or.inr h
theorem hkS_putf (hF : hkFr p R s m args meth c y fl b A) (hC : hkCx dC dI s y fl b A adr0 t0 (pc, ls, st, t, g) H locs adr cA tys lsA) (hd : hkFetch y pc = some (i, n)) (hp : hkPx y i n (pc, ls, st, t, g) = some (.inl q)) (hn : hkNext p l e R s m args below meth c Q dC dI y fl b A adr0 t0 q)
    (hi : ∃ x, i = .putfield x) : W p l e R s m args below meth c H locs (hkNX t - hkNX t0) (hkNS t - hkNS t0) Q (F0 m pc lsA (st.map (hkVal adr b))) := by
  have hF' := hF
  obtain ⟨hx, hb, hr, hml, hown, hts, hnm, -⟩ := hF
  obtain ⟨x, rfl⟩ := hi
  obtain ⟨rfl, hde⟩ := hkFetch_at hd rfl
  simp only [hkPx] at hp
  unfold hkPutf at hp
  split at hp
  · rename_i z P st' ci k hfl
    obtain ⟨h1, h2⟩ := hkChk_inv hp
    obtain ⟨hci, hk, hw⟩ := hkFld_ok hfl
    split at h2
    · rename_i hft
      obtain rfl := hkGo_inv h2
      obtain ⟨f1, f2⟩ := hkFT0 hci hk hft
      exact hkS_putI hF' hC hde hfl h1 ⟨_, f1, rfl, rfl⟩ f2 (by omega) hn
    · split at h2
      · rename_i hft
        obtain ⟨h3, h4⟩ := hkChk_inv h2
        obtain rfl := hkGo_inv h4
        obtain ⟨f1, f2⟩ := hkFT3 hci hk hft
        exact hkS_putI hF' hC hde hfl h1 ⟨_, f1, by rcases h3 with rfl | rfl <;> rfl, by rcases h3 with rfl | rfl <;> rfl⟩ f2 (by omega) hn
      · cases h2
  · rename_i z P st' ci k hfl
    split at hp
    · rename_i hft
      obtain ⟨⟨h1, h1b, h1c, h1d⟩, h2⟩ := hkChk_inv hp
      obtain rfl := hkGo_inv h2
      obtain ⟨hci, hk, hw⟩ := hkFld_ok hfl
      obtain ⟨f1, f2, f3⟩ := hkFT2 hci hk hft
      obtain ⟨h3, h4, h5⟩ := hkJK_inv h1 (by omega)
      obtain ⟨-, h6⟩ := hkOK_r (hkCx_k hC _ (List.mem_cons_of_mem _ List.mem_cons_self))
      obtain ⟨h7, -⟩ := hkOK_r (hkCx_k hC _ List.mem_cons_self)
      obtain ⟨e1, e2, e3, e4, e5, e6, e7⟩ := hkEv1 h1d
      have hws := hkWs_get (adr := adr) (cA := cA) (g := g) h6
      rw [hkCell_o (by omega), h4] at hws
      refine va_putF (q0 := P.toNat) (k := k) (ty := hkYY ci k) (v := .ref (adr z.toNat)) hx hb hts (hkWs_gt hci) (hkYY ci) (hkYok_ok hci) (hkNm_ok hci) hown hC.2.1 hC.1 hC.2.2.1 hC.2.2.2.1 hws (hkCl_ok hci) hk (hts _ hw) (fun _ h => h) f2 (hnm h1c) (by rw [f3, h1b]) (hkYok_ok hci k hk) ?_ ?_ (by rw [hkFs_len]; exact e5) hde (fun H1 locs1 hP hD hS => ?_)
      · rcases f1 with ⟨nn, f1⟩ | ⟨nn, f1⟩ <;> rw [f1] <;> rfl
      · rcases f1 with ⟨nn, f1⟩ | ⟨nn, f1⟩ <;> rw [f1] <;> rfl
      · have hset : (hkWs adr cA t g).set P.toNat (adr P.toNat, .inr (ci, (hkFs adr t g P.toNat).set k (.ref (adr z.toNat)))) = hkWs adr cA (t + 1) g := by
          refine hkWs_set h6 e6 ?_ (fun r hr hne => hkCell_put h1d hne)
          rw [hkCell_o (by omega), h4, hkFs_setR h1d (by rw [h4]; exact hft)]
        dsimp only at hP hD
        rw [hset] at hP hD
        have K := hn H1 locs1 adr cA tys lsA (hkCx_ev hC h1d hP hD hS hkCs2)
        simp only [e6, e7] at K
        exact K
    · cases hp
  · cases hp
end HKT
