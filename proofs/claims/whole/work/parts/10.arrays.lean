/-! arrays, the script, copies -/
section HKT
variable {p : Program} {l : Launch} {e : Env} {R : Room} {s : State} {m : MethodId} {args : Array Value} {below : List Frame} {meth : Method} {c : Code} {Q : State → Prop}
variable {dC : Nat → ClassId} {dI : Nat → Nat → Nat} {y : Nat} {fl : Prop} {b : Nat} {A : Nat → Prop} {adr0 : Nat → Nat} {t0 : Nat}
variable {pc n : Nat} {ls st : List hkV} {t : Nat} {g : hkG} {H : Heap} {locs : List Loc} {adr : Nat → Nat} {cA : Nat → ClassId} {tys : List (ClassId × FieldType)} {lsA : Array Slot} {q : hkC} {i : Instr}
theorem hkCx_ty (hC : hkCx dC dI s y fl b A adr0 t0 (pc, ls, st, t, g) H locs adr cA tys lsA) {P : Nat} (hP : P < hkNX t) (h : 100 ≤ hkKd P) : ∃ k0 : Nat, tys[k0]? = some (cA P, hkAty (hkKd P)) := hC.2.2.2.2.1 P hP h
theorem hkCx_ri (hC : hkCx dC dI s y fl b A adr0 t0 (pc, ls, st, t, g) H locs adr cA tys lsA) {P : Nat} (hP : P < hkNX t) (k : Int) (h0 : 0 ≤ k) (h : hkKd P ≠ 101) : hkRng (g P k) := by
  have := hC.2.2.2.2.2.1.1 P k.toNat hP
  rw [if_neg h, show ((k.toNat : Nat) : Int) = k from by omega] at this
  exact this
theorem hkCx_rl (hC : hkCx dC dI s y fl b A adr0 t0 (pc, ls, st, t, g) H locs adr cA tys lsA) {P : Nat} (hP : P < hkNX t) (k : Int) (h0 : 0 ≤ k) (h : hkKd P = 101) : hkRngL (g P k) := by
  have := hC.2.2.2.2.2.1.1 P k.toNat hP
  rw [if_pos h, show ((k.toNat : Nat) : Int) = k from by omega] at this
  exact this
theorem hkAld_inv {kd tg pc' : Nat} (h : hkAld kd tg pc' ls st t g = some (.inl q)) : (∃ k P st', st = (0, k) :: (2, P) :: st' ∧ hkJK P = kd ∧ 0 ≤ k ∧ k < (hkLn P.toNat : Int) ∧ q = (pc', ls, (tg, g P k) :: st', t, g)) ∨ (∃ k P st', st = (0, k) :: (4, P) :: st' ∧ kd = 100 ∧ 0 ≤ k ∧ k < g (-2) 0 ∧ q = (pc', ls, (0, g (-1) k) :: st', t, g)) := by
  unfold hkAld at h
  split at h
  · obtain ⟨⟨h1, h2, h3⟩, h4⟩ := hkChk_inv h
    exact Or.inl ⟨_, _, _, rfl, h1, h2, h3, hkGo_inv h4⟩
  · split at h
    · rename_i hk
      obtain ⟨⟨h2, h3⟩, h4⟩ := hkChk_inv h
      exact Or.inr ⟨_, _, _, rfl, hk, h2, h3, hkGo_inv h4⟩
    · cases h
  · cases h
theorem hkS_ald (hF : hkFr p R s m args meth c y fl b A) (hC : hkCx dC dI s y fl b A adr0 t0 (pc, ls, st, t, g) H locs adr cA tys lsA) (hd : hkFetch y pc = some (i, n)) (hp : hkPx y i n (pc, ls, st, t, g) = some (.inl q)) (hn : hkNext p l e R s m args below meth c Q dC dI y fl b A adr0 t0 q)
    (hi : i = .iaload ∨ i = .laload ∨ i = .baload) : W p l e R s m args below meth c H locs (hkNX t - hkNX t0) (hkNS t - hkNS t0) Q (F0 m pc lsA (st.map (hkVal adr b))) := by
  obtain ⟨hx, hb, hr, hml, hown, hts, -, -, -, -, -, -, hscr⟩ := hF
  rcases hi with rfl | rfl | rfl <;> obtain ⟨rfl, hde⟩ := hkFetch_at hd rfl <;> simp only [hkPx] at hp <;> rcases hkAld_inv hp with ⟨k, P, st', rfl, h1, h2, h3, rfl⟩ | ⟨k, P, st', rfl, h1, h2, h3, rfl⟩
  · obtain ⟨h4, h5, h6⟩ := hkJK_inv h1 (by omega)
    obtain ⟨-, h7⟩ := hkOK_r (hkCx_k hC _ (List.mem_cons_of_mem _ List.mem_cons_self))
    have hk := hkOK_i (hkCx_k hC _ List.mem_cons_self)
    have hws := hkWs_get (adr := adr) (cA := cA) (g := g) h7
    rw [hkCell_i (by omega)] at hws
    obtain ⟨k0, hk0⟩ := hkCx_ty hC h7 (by omega)
    rw [h5] at hk0
    refine va_iald hx hb hC.2.1 hC.1 P.toNat k0 hws hk0 (hkI_in hk h2 h3) hde (hkS_pushE hC (hkOKi (by have := hkCx_ri hC h7 k h2 (by omega); rw [h6] at this; exact this)) hkCs2 ?_ hn)
    show Value.int (Int32.ofInt (g P k)) = _
    rw [hkI_cl hk, h6, show ((k.toNat : Nat) : Int) = k from by omega]
  · have hfl := hkOK_s (hkCx_k hC _ (List.mem_cons_of_mem _ List.mem_cons_self))
    have hk := hkOK_i (hkCx_k hC _ List.mem_cons_self)
    obtain ⟨L, xs, hX, hbl, hbA⟩ := hscr hfl
    obtain ⟨e1, e2, e3⟩ := hC.2.2.2.2.2.2.2.2.2.2.2.2.2 hfl L xs hX
    dsimp only at e1 e3
    have e4 := e3 k.toNat (by omega)
    rw [show ((k.toNat : Nat) : Int) = k from by omega] at e4
    refine va_sld (b := b) hx hb hX hbl hbA hC.2.2.2.1 (hkI_in hk h2 (by omega)) hde (hkS_pushE hC (hkOKi (by rw [e4]; exact hkRng_i _)) hkCs2 ?_ hn)
    show Value.int (Int32.ofInt (g (-1) k)) = _
    rw [hkI_cl hk, e4, hkI_of]
  · obtain ⟨h4, h5, h6⟩ := hkJK_inv h1 (by omega)
    obtain ⟨-, h7⟩ := hkOK_r (hkCx_k hC _ (List.mem_cons_of_mem _ List.mem_cons_self))
    have hk := hkOK_i (hkCx_k hC _ List.mem_cons_self)
    have hws := hkWs_get (adr := adr) (cA := cA) (g := g) h7
    rw [hkCell_l (by omega)] at hws
    obtain ⟨k0, hk0⟩ := hkCx_ty hC h7 (by omega)
    rw [h5] at hk0
    refine va_lald hx hb hC.2.1 hC.1 P.toNat k0 hws hk0 (hkI_in hk h2 h3) hde (hkS_pushE hC (hkOKl (by have := hkCx_rl hC h7 k h2 (by omega); rw [h6] at this; exact this)) hkCs2 ?_ hn)
    show Value.long (Int64.ofInt (g P k)) = _
    rw [hkI_cl hk, h6, show ((k.toNat : Nat) : Int) = k from by omega]
  · omega
  · obtain ⟨h4, h5, h6⟩ := hkJK_inv h1 (by omega)
    obtain ⟨-, h7⟩ := hkOK_r (hkCx_k hC _ (List.mem_cons_of_mem _ List.mem_cons_self))
    have hk := hkOK_i (hkCx_k hC _ List.mem_cons_self)
    have hws := hkWs_get (adr := adr) (cA := cA) (g := g) h7
    rw [hkCell_i (by omega)] at hws
    obtain ⟨k0, hk0⟩ := hkCx_ty hC h7 (by omega)
    rw [h5] at hk0
    refine va_zald hx hb hC.2.1 hC.1 P.toNat k0 hws hk0 (hkI_in hk h2 h3) hde (hkS_pushE hC (hkOKi (by have := hkCx_ri hC h7 k h2 (by omega); rw [h6] at this; exact this)) hkCs2 ?_ hn)
    show Value.int (Int32.ofInt (g P k)) = _
    rw [hkI_cl hk, h6, show ((k.toNat : Nat) : Int) = k from by omega]
  · omega
theorem hkAst_inv {kd tg pc' : Nat} (h : hkAst kd tg pc' ls st t g = some (.inl q)) : ∃ x k P st', st = (tg, x) :: (0, k) :: (2, P) :: st' ∧ hkJK P = kd ∧ (kd = 102 → x = 0 ∨ x = 1) ∧ 0 ≤ k ∧ k < (hkLn P.toNat : Int) ∧ q = (pc', ls, st', t, hkSet g P k x) := by
  unfold hkAst at h
  split at h
  · split at h
    · rename_i he
      subst he
      obtain ⟨⟨h1, h2, h3, h4⟩, h5⟩ := hkChk_inv h
      exact ⟨_, _, _, _, rfl, h1, h2, h3, h4, hkGo_inv h5⟩
    · cases h
  · cases h
theorem hkCs3 {v w u : hkV} {st' : List hkV} : ∀ z ∈ st', z ∈ v :: w :: u :: st' := fun _ h => List.mem_cons_of_mem _ (List.mem_cons_of_mem _ (List.mem_cons_of_mem _ h))
theorem hkUpdI {P : Nat} {P' k x : Int} (hP : (P : Int) = P') (h0 : 0 ≤ k) : upd (fun j => Int32.ofInt (g P j)) k.toNat (Int32.ofInt x) = fun j : Nat => Int32.ofInt (hkSet g P' k x P j) := by
  funext j
  unfold upd hkSet
  by_cases hj : j = k.toNat
  · rw [if_pos hj, if_pos ⟨hP, by omega⟩]
  · rw [if_neg hj, if_neg (by omega)]
theorem hkUpdL {P : Nat} {P' k x : Int} (hP : (P : Int) = P') (h0 : 0 ≤ k) : vp_updL (fun j => Int64.ofInt (g P j)) k.toNat (Int64.ofInt x) = fun j : Nat => Int64.ofInt (hkSet g P' k x P j) := by
  funext j
  unfold vp_updL hkSet
  by_cases hj : j = k.toNat
  · rw [if_pos hj, if_pos ⟨hP, by omega⟩]
  · rw [if_neg hj, if_neg (by omega)]
theorem hkS_ast (hF : hkFr p R s m args meth c y fl b A) (hC : hkCx dC dI s y fl b A adr0 t0 (pc, ls, st, t, g) H locs adr cA tys lsA) (hd : hkFetch y pc = some (i, n)) (hp : hkPx y i n (pc, ls, st, t, g) = some (.inl q)) (hn : hkNext p l e R s m args below meth c Q dC dI y fl b A adr0 t0 q)
    (hi : i = .iastore ∨ i = .lastore ∨ i = .bastore) : W p l e R s m args below meth c H locs (hkNX t - hkNX t0) (hkNS t - hkNS t0) Q (F0 m pc lsA (st.map (hkVal adr b))) := by
  obtain ⟨hx, hb, hr, hml, hown, hts, -⟩ := hF
  rcases hi with rfl | rfl | rfl <;> obtain ⟨rfl, hde⟩ := hkFetch_at hd rfl <;> simp only [hkPx] at hp <;> obtain ⟨x, k, P, st', rfl, h1, hbo, h2, h3, rfl⟩ := hkAst_inv hp <;> obtain ⟨h4, h5, h6⟩ := hkJK_inv h1 (by omega) <;> obtain ⟨-, h7⟩ := hkOK_r (hkCx_k hC _ (List.mem_cons_of_mem _ (List.mem_cons_of_mem _ List.mem_cons_self))) <;> have hk := hkOK_i (hkCx_k hC _ (List.mem_cons_of_mem _ List.mem_cons_self)) <;> have hws := hkWs_get (adr := adr) (cA := cA) (g := g) h7 <;> obtain ⟨k0, hk0⟩ := hkCx_ty hC h7 (by omega) <;> rw [h5] at hk0
  · have hxr := hkOK_i (hkCx_k hC _ List.mem_cons_self)
    rw [hkCell_i (by omega)] at hws
    refine va_iast (x := Int32.ofInt x) hx hb hC.2.1 hC.1 hC.2.2.1 hC.2.2.2.1 P.toNat k0 hws hk0 (hkI_in hk h2 h3) hde (fun H1 locs1 hP hD hS => ?_)
    have hset : (hkWs adr cA t g).set P.toNat (adr P.toNat, .inl (cA P.toNat, hkLn P.toNat, .inl (upd (fun j => Int32.ofInt (g P.toNat j)) (Int32.ofInt k).toNatClampNeg (Int32.ofInt x)))) = hkWs adr cA t (hkSet g P k x) := by
      refine hkWs_set h7 rfl ?_ (fun r hr hne => hkCell_row (hkSet_row (by omega)))
      rw [hkCell_i (by omega), hkI_cl hk, hkUpdI h6 h2]
    dsimp only at hP hD
    rw [hset] at hP hD
    refine hn H1 locs1 adr cA tys lsA (hkCx_mem hC hP hD hS (hkGOK_set hC.2.2.2.2.2.1 h4 h7 ?_) (fun r hr => hkSet_row (by omega)) hkCs3)
    rw [if_neg (by omega)]; exact hxr
  · have hxr := hkOK_l (hkCx_k hC _ List.mem_cons_self)
    rw [hkCell_l (by omega)] at hws
    refine va_last (x := Int64.ofInt x) hx hb hC.2.1 hC.1 hC.2.2.1 hC.2.2.2.1 P.toNat k0 hws hk0 (hkI_in hk h2 h3) hde (fun H1 locs1 hP hD hS => ?_)
    have hset : (hkWs adr cA t g).set P.toNat (adr P.toNat, .inl (cA P.toNat, hkLn P.toNat, .inr (.inl (vp_updL (fun j => Int64.ofInt (g P.toNat j)) (Int32.ofInt k).toNatClampNeg (Int64.ofInt x))))) = hkWs adr cA t (hkSet g P k x) := by
      refine hkWs_set h7 rfl ?_ (fun r hr hne => hkCell_row (hkSet_row (by omega)))
      rw [hkCell_l (by omega), hkI_cl hk, hkUpdL h6 h2]
    dsimp only at hP hD
    rw [hset] at hP hD
    refine hn H1 locs1 adr cA tys lsA (hkCx_mem hC hP hD hS (hkGOK_set hC.2.2.2.2.2.1 h4 h7 ?_) (fun r hr => hkSet_row (by omega)) hkCs3)
    rw [if_pos (by omega)]; exact hxr
  · have hxr := hkOK_i (hkCx_k hC _ List.mem_cons_self)
    have hnar : vp_nar .boolean (Int32.ofInt x) = Int32.ofInt x := by rcases hbo rfl with rfl | rfl <;> rfl
    rw [hkCell_i (by omega)] at hws
    refine va_zast (x := Int32.ofInt x) hx hb hC.2.1 hC.1 hC.2.2.1 hC.2.2.2.1 P.toNat k0 hws hk0 (hkI_in hk h2 h3) hde (fun H1 locs1 hP hD hS => ?_)
    have hset : (hkWs adr cA t g).set P.toNat (adr P.toNat, .inl (cA P.toNat, hkLn P.toNat, .inl (upd (fun j => Int32.ofInt (g P.toNat j)) (Int32.ofInt k).toNatClampNeg (vp_nar .boolean (Int32.ofInt x))))) = hkWs adr cA t (hkSet g P k x) := by
      refine hkWs_set h7 rfl ?_ (fun r hr hne => hkCell_row (hkSet_row (by omega)))
      rw [hkCell_i (by omega), hkI_cl hk, hnar, hkUpdI h6 h2]
    dsimp only at hP hD
    rw [hset] at hP hD
    refine hn H1 locs1 adr cA tys lsA (hkCx_mem hC hP hD hS (hkGOK_set hC.2.2.2.2.2.1 h4 h7 ?_) (fun r hr => hkSet_row (by omega)) hkCs3)
    rw [if_neg (by omega)]; exact hxr
theorem hkS_alen (hF : hkFr p R s m args meth c y fl b A) (hC : hkCx dC dI s y fl b A adr0 t0 (pc, ls, st, t, g) H locs adr cA tys lsA) (hd : hkFetch y pc = some (i, n)) (hp : hkPx y i n (pc, ls, st, t, g) = some (.inl q)) (hn : hkNext p l e R s m args below meth c Q dC dI y fl b A adr0 t0 q)
    (hi : i = .arraylength ∨ i = .aaload) : W p l e R s m args below meth c H locs (hkNX t - hkNX t0) (hkNS t - hkNS t0) Q (F0 m pc lsA (st.map (hkVal adr b))) := by
  obtain ⟨hx, hb, hr, hml, hown, hts, -, -, -, -, -, -, hscr⟩ := hF
  rcases hi with rfl | rfl <;> obtain ⟨rfl, hde⟩ := hkFetch_at hd rfl <;> simp only [hkPx] at hp <;> split at hp <;> first | (cases hp; done) | skip
  · rename_i P st'
    obtain ⟨⟨h1, h2⟩, h3⟩ := hkChk_inv hp
    obtain rfl := hkGo_inv h3
    obtain ⟨h4, h5, h6⟩ := hkJK_inv (k := hkJK P) rfl (by omega)
    obtain ⟨-, h7⟩ := hkOK_r (hkCx_k hC _ List.mem_cons_self)
    have h91 : P.toNat < 91 := Nat.lt_of_lt_of_le h7 (hkNX_le t)
    have hle := hkLn_le _ h91
    obtain ⟨k0, hk0⟩ := hkCx_ty hC h7 (by omega)
    have hws := hkWs_get (adr := adr) (cA := cA) (g := g) h7
    obtain ⟨w, hw⟩ : ∃ w : vp_A, hkCell adr cA t g P.toNat = .inl (cA P.toNat, w) ∧ w.1 = hkLn P.toNat := by
      rcases (show hkKd P.toNat = 101 ∨ (hkKd P.toNat = 100 ∨ hkKd P.toNat = 102) ∨ (hkKd P.toNat = 103 ∨ hkKd P.toNat = 104) by omega) with h | h | h
      · exact ⟨_, hkCell_l h, rfl⟩
      · exact ⟨_, hkCell_i h, rfl⟩
      · exact ⟨_, hkCell_q h, rfl⟩
    rw [hw.1] at hws
    refine va_alen (v := Int32.ofInt (hkLn P.toNat : Int)) hx hb hC.2.1 hC.1 P.toNat k0 hws hk0 ?_ hde (hkS_push hC (hkOKi ?_) hkCs1 hn)
    · rw [hw.2, Int32.ofInt_eq_ofNat]
    · unfold hkRng; omega
  · rename_i P st'
    obtain rfl := hkGo_inv hp
    have hfl := hkOK_s (hkCx_k hC _ List.mem_cons_self)
    obtain ⟨L, xs, hX, hbl, hbA⟩ := hscr hfl
    obtain ⟨e1, e2, e3⟩ := hC.2.2.2.2.2.2.2.2.2.2.2.2.2 hfl L xs hX
    dsimp only at e1 e3
    refine va_slen (b := b) hx hb hX hbl hbA hC.2.2.2.1 hde (hkS_pushE hC (hkOKi ?_) hkCs1 ?_ hn)
    · unfold hkRng; omega
    · show Value.int (Int32.ofInt (g (-2) 0)) = _
      rw [e1, Int32.ofInt_eq_ofNat]
  · rename_i k P st'
    obtain ⟨⟨h1, h2, h3, h4, h5⟩, h6⟩ := hkChk_inv hp
    obtain rfl := hkGo_inv h6
    obtain ⟨h7, h8, h9⟩ := hkJK_inv (k := hkJK P) rfl (by omega)
    obtain ⟨-, h10⟩ := hkOK_r (hkCx_k hC _ (List.mem_cons_of_mem _ List.mem_cons_self))
    have hk := hkOK_i (hkCx_k hC _ List.mem_cons_self)
    have hws := hkWs_get (adr := adr) (cA := cA) (g := g) h10
    rw [hkCell_q (by omega)] at hws
    obtain ⟨k0, hk0⟩ := hkCx_ty hC h10 (by omega)
    obtain ⟨C, hCn⟩ : ∃ C, hkAty (hkKd P.toNat) = .object C := by
      rcases (show hkKd P.toNat = 103 ∨ hkKd P.toNat = 104 by omega) with h | h <;> rw [h]
      · exact ⟨_, rfl⟩
      · exact ⟨_, rfl⟩
    rw [hCn] at hk0
    refine va_aldq hx hb hC.2.1 hC.1 P.toNat k0 hws hk0 (hkI_in hk h3 h4) hde (hkS_pushE hC (hkOKr (hkRF_lt h5 hC.2.2.2.2.2.2.2.2.2.2.2.1).1) hkCs2 ?_ hn)
    show Value.ref (adr (((hkRF P.toNat k.toNat : Nat) : Int)).toNat) = va_rf (if hkAT P.toNat (Int32.ofInt k).toNatClampNeg ≤ t then some (adr (hkRF P.toNat (Int32.ofInt k).toNatClampNeg)) else none)
    rw [hkI_cl hk, if_pos h5, Int.toNat_natCast]; rfl
theorem hkS_aast (hF : hkFr p R s m args meth c y fl b A) (hC : hkCx dC dI s y fl b A adr0 t0 (pc, ls, st, t, g) H locs adr cA tys lsA) (hd : hkFetch y pc = some (i, n)) (hp : hkPx y i n (pc, ls, st, t, g) = some (.inl q)) (hn : hkNext p l e R s m args below meth c Q dC dI y fl b A adr0 t0 q)
    (hi : i = .aastore) : W p l e R s m args below meth c H locs (hkNX t - hkNX t0) (hkNS t - hkNS t0) Q (F0 m pc lsA (st.map (hkVal adr b))) := by
  obtain ⟨hx, hb, hr, hml, hown, hts, -⟩ := hF
  subst hi
  obtain ⟨rfl, hde⟩ := hkFetch_at hd rfl
  simp only [hkPx] at hp
  split at hp <;> first | (cases hp; done) | skip
  rename_i z k P st'
  obtain ⟨⟨h1, h2, h3, h4⟩, h5⟩ := hkChk_inv hp
  obtain rfl := hkGo_inv h5
  obtain ⟨e1, e2, e3, e4, e5, e6, e7⟩ := hkEv1 h4
  have hk := hkOK_i (hkCx_k hC _ (List.mem_cons_of_mem _ List.mem_cons_self))
  obtain ⟨-, h10⟩ := hkOK_r (hkCx_k hC _ (List.mem_cons_of_mem _ (List.mem_cons_of_mem _ List.mem_cons_self)))
  obtain ⟨-, h11⟩ := hkOK_r (hkCx_k hC _ List.mem_cons_self)
  obtain ⟨kp, kz, hkp, hkz, hci, hobj⟩ : ∃ kp kz, hkJK P = kp ∧ hkJK z = kz ∧ ((kp = 103 ∧ kz = 7) ∨ (kp = 104 ∧ kz = 9)) ∧ hkAty kp = .object (hkOwnS kz) := by
    rcases h1 with ⟨a, b⟩ | ⟨a, b⟩
    · exact ⟨_, _, a, b, Or.inl ⟨rfl, rfl⟩, rfl⟩
    · exact ⟨_, _, a, b, Or.inr ⟨rfl, rfl⟩, rfl⟩
  obtain ⟨h7, h8, h9⟩ := hkJK_inv hkp (by omega)
  obtain ⟨z7, z8, z9⟩ := hkJK_inv hkz (by omega)
  have hws := hkWs_get (adr := adr) (cA := cA) (g := g) h10
  rw [hkCell_q (by omega)] at hws
  have hwz := hkWs_get (adr := adr) (cA := cA) (g := g) h11
  rw [hkCell_o (by omega), z8] at hwz
  obtain ⟨k0, hk0⟩ := hkCx_ty hC h10 (by omega)
  rw [h8, hobj] at hk0
  refine va_astq (v := adr z.toNat) hx hb hC.2.1 hC.1 hC.2.2.1 hC.2.2.2.1 P.toNat k0 z.toNat kz hws hk0 hwz (hkCl_ok (by omega)) (hkI_in hk h2 h3) hde (fun H1 locs1 hP hD hS => ?_)
  have hset : (hkWs adr cA t g).set P.toNat (adr P.toNat, .inl (cA P.toNat, hkLn P.toNat, .inr (.inr (.inr (.inr (va_up (fun j => if hkAT P.toNat j ≤ t then some (adr (hkRF P.toNat j)) else none) (Int32.ofInt k).toNatClampNeg (some (adr z.toNat)))))))) = hkWs adr cA (t + 1) g := by
    refine hkWs_set h10 e6 ?_ (fun r hr hne => hkCell_put h4 hne)
    rw [hkCell_q (by omega), hkI_cl hk]
    symm
    congr 7
    funext j
    have ha := hkAT_put (p := P.toNat) (k := j) h4
    unfold va_up
    by_cases hj : j = k.toNat
    · rw [if_pos hj, if_pos (by rw [ha]; exact Or.inr ⟨rfl, hj⟩), hj, e2]
    · rw [if_neg hj]
      dsimp only
      by_cases h : hkAT P.toNat j ≤ t
      · rw [if_pos h, if_pos (by omega)]
      · rw [if_neg h, if_neg (by rw [ha]; omega)]
  dsimp only at hP hD
  rw [hset] at hP hD
  have K := hn H1 locs1 adr cA tys lsA (hkCx_ev hC h4 hP hD hS hkCs3)
  simp only [e6, e7] at K
  exact K
end HKT
