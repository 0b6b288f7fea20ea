/-! copies, an object's own beginning; every instruction (by program: wip/whole/gen_calls.py) -/
set_option maxRecDepth 100000 in
theorem hkCT5_w : ∀ q ∈ hkCT5, Cond.methodLink (hkOwnS q.1) q.2.1 arraycopyName ∈ lw_tbl := hkMapI (ix := fun q => q.2.2.2.headD 0) (by rfl)
theorem hkAC_nat : Cond.native arraycopyName ∈ hkGt := hkGt_i (i := 112) rfl rfl
theorem hkAC_st : Cond.static arraycopyName ∈ hkGt := hkGt_i (i := 111) rfl rfl
theorem hkAC_ini : Cond.initialized "java/lang/System" ∈ hkGt := hkGt_i (i := 65) rfl rfl
set_option maxRecDepth 100000 in
theorem hkCT4_w : ∀ q ∈ hkCT4, Cond.methodLink (hkOwnS q.1) q.2.1 Lib.objectInit ∈ lw_tbl := hkMapI (ix := fun q => q.2.2.2.headD 0) (by rfl)
theorem hkOI_i : Cond.instanceMethod Lib.objectInit ∈ hkGt := hkGt_i (i := 83) rfl rfl
theorem hkOI_c : Cond.code Lib.objectInit ⟨#[0xb1]⟩ 1 none ∈ hkGt := hkGt_i (i := 84) rfl rfl
theorem hkFindM {l : List (Nat × Nat × Nat × List Nat)} {own idx r : Nat} (h : hkFind l own idx = some r) : ∃ w, (own, idx, r, w) ∈ l := by
  unfold hkFind at h
  obtain ⟨q, h1, h2, h3⟩ := hkFind_inv h
  simp only [Bool.and_eq_true, beq_iff_eq] at h2
  obtain ⟨e1, e2⟩ := h2
  exact ⟨q.2.2.2, by rw [← e1, ← e2, ← h3]; exact h1⟩
theorem hkInv_ni {y' pc : Nat} {ls st : List hkV} {q : hkC} (h : hkInv y' pc ls st = some (.inl q)) : False := by
  unfold hkInv at h
  split at h
  · split at h <;> simp at h
  · cases h
theorem hkInvV_ni {y' pc : Nat} {ls st : List hkV} {q : hkC} (h : hkInvV y' pc ls st = some (.inl q)) : False := by
  unfold hkInvV at h
  split at h
  · obtain ⟨-, h⟩ := hkChk_inv h
    split at h <;> simp at h
  · cases h
theorem hkCats (adr : Nat → Nat) (b : Nat) (st : List hkV) : ((st.map (hkVal adr b)).map fun v => v.category) = st.map hkCat := by
  rw [List.map_map]
  apply List.map_congr_left
  intro v _
  exact hkCat_val adr b v
section HKT
variable {p : Program} {l : Launch} {e : Env} {R : Room} {s : State} {m : MethodId} {args : Array Value} {below : List Frame} {meth : Method} {c : Code} {Q : State → Prop}
variable {dC : Nat → ClassId} {dI : Nat → Nat → Nat} {y : Nat} {fl : Prop} {b : Nat} {A : Nat → Prop} {adr0 : Nat → Nat} {t0 : Nat}
variable {pc n : Nat} {ls st : List hkV} {t : Nat} {g : hkG} {H : Heap} {locs : List Loc} {adr : Nat → Nat} {cA : Nat → ClassId} {tys : List (ClassId × FieldType)} {lsA : Array Slot} {q : hkC} {i : Instr}
theorem hkCpyI {P P' : Nat} {x x' : Int} {k j n : Int} (h1 : (P : Int) = x) (h2 : (P' : Int) = x') (hk : 0 ≤ k) (hj : 0 ≤ j) (hn : 0 ≤ n) : va_cpy (fun r : Nat => Int32.ofInt (g P r)) (fun r : Nat => Int32.ofInt (g P' r)) k.toNat j.toNat n.toNat = fun r : Nat => Int32.ofInt (hkCpy g x k x' j n P' r) := by
  funext r
  unfold va_cpy hkCpy
  by_cases h : j.toNat ≤ r ∧ r < j.toNat + n.toNat
  · rw [if_pos h, if_pos ⟨h2, by omega, by omega⟩, h1]
    dsimp only
    rw [show ((k.toNat + (r - j.toNat) : Nat) : Int) = k + ((r : Int) - j) from by omega]
  · rw [if_neg h, if_neg (by omega)]
theorem hkS_copy (hF : hkFr p R s m args meth c y fl b A) (hC : hkCx dC dI s y fl b A adr0 t0 (pc, ls, st, t, g) H locs adr cA tys lsA) (hd : hkFetch y pc = some (i, n)) (hp : hkPx y i n (pc, ls, st, t, g) = some (.inl q)) (hn : hkNext p l e R s m args below meth c Q dC dI y fl b A adr0 t0 q)
    (hi : ∃ x, i = .invokestatic x) : W p l e R s m args below meth c H locs (hkNX t - hkNX t0) (hkNS t - hkNS t0) Q (F0 m pc lsA (st.map (hkVal adr b))) := by
  obtain ⟨hx, hb, hr, hml, hown, hts, -, -, -, -, hfr, hlo, -⟩ := hF
  obtain ⟨idx, rfl⟩ := hi
  obtain ⟨rfl, hde⟩ := hkFetch_at hd rfl
  simp only [hkPx] at hp
  split at hp
  · exact (hkInv_ni hp).elim
  · split at hp <;> first | (cases hp; done) | skip
    rename_i r k j Q' i' P st' hfi
    obtain ⟨⟨h1, h2, h3, h4, h5, h6, h7⟩, h8⟩ := hkChk_inv hp
    split at h8 <;> first | (cases h8; done) | skip
    rename_i hcat
    obtain rfl := hkGo_inv h8
    obtain ⟨w, hw⟩ := hkFindM hfi
    obtain ⟨p1, p2, p3⟩ := hkJK_inv h1 (by omega)
    obtain ⟨q1, q2, q3⟩ := hkJK_inv h2 (by omega)
    have mem0 : ∀ v ∈ ((0, k) :: (0, j) :: (2, Q') :: (0, i') :: (2, P) :: st' : List hkV), hkOK fl t v := hkCx_k hC
    have hk := hkOK_i (mem0 (0, k) (by simp))
    have hj := hkOK_i (mem0 (0, j) (by simp))
    have hi' := hkOK_i (mem0 (0, i') (by simp))
    obtain ⟨-, hP⟩ := hkOK_r (mem0 (2, P) (by simp))
    obtain ⟨-, hQ⟩ := hkOK_r (mem0 (2, Q') (by simp))
    have hwP := hkWs_get (adr := adr) (cA := cA) (g := g) hP
    rw [hkCell_i (by omega)] at hwP
    have hwQ := hkWs_get (adr := adr) (cA := cA) (g := g) hQ
    rw [hkCell_i (by omega)] at hwQ
    obtain ⟨k0, hk0⟩ := hkCx_ty hC hP (by omega)
    rw [p2] at hk0
    obtain ⟨k1, hk1⟩ := hkCx_ty hC hQ (by omega)
    rw [q2] at hk1
    have hlv := hC.2.2.2.2.2.2.1
    have neg : ∀ {z : Int}, hkRng z → 0 ≤ z → ¬ Int32.ofInt z < 0 := fun hz h0 h => by
      rw [show (0 : Int32) = Int32.ofInt 0 from rfl, hkI_lt hz hkRng0] at h; omega
    refine va_copyi (ty := .int) (sp := Int32.ofInt i') (dp := Int32.ofInt j) (n := Int32.ofInt k) hx hb (by rw [hml]; exact hlv.1.symm) hown (hts _ (hkGt_of (hkCT5_w _ hw) rfl)) (hts _ hkAC_nat) (hts _ hkAC_st) (hts _ hkAC_ini) hC.2.1 hC.1 hC.2.2.1 hC.2.2.2.1 P.toNat Q'.toNat k0 k1 hwP hwQ hk0 hk1 rfl (neg hi' h3) (neg hj h4) (neg hk h5) ?_ ?_ (fun _ _ => rfl) hfr ?_ hde (fun H1 locs1 hP' hD' hS' => ?_)
    · rw [hkI_cl hi', hkI_cl hk]; omega
    · rw [hkI_cl hj, hkI_cl hk]; omega
    · rw [hkCats]
      have : nativeFrameWords "java/lang/System" "arraycopy" 5 = 7 := rfl
      omega
    · have hset : (hkWs adr cA t g).set Q'.toNat (adr Q'.toNat, .inl (cA Q'.toNat, hkLn Q'.toNat, .inl (va_cpy (fun j => Int32.ofInt (g P.toNat j)) (fun j => Int32.ofInt (g Q'.toNat j)) (Int32.ofInt i').toNatClampNeg (Int32.ofInt j).toNatClampNeg (Int32.ofInt k).toNatClampNeg))) = hkWs adr cA t (hkCpy g P i' Q' j k) := by
        refine hkWs_set hQ rfl ?_ (fun r hr hne => hkCell_row ?_)
        · rw [hkCell_i (by omega), hkI_cl hi', hkI_cl hj, hkI_cl hk, hkCpyI p3 q3 h3 h4 h5]
        · funext z
          unfold hkCpy
          rw [if_neg (by omega)]
      dsimp only at hP' hD'
      rw [hset] at hP' hD'
      have hg := hC.2.2.2.2.2.1
      refine hn H1 locs1 adr cA tys lsA (hkCx_mem hC hP' hD' hS' ⟨fun r z hr => ?_, fun r z hr => ?_⟩ (fun r hr => ?_) (fun v hv => by simp only [List.mem_cons]; exact Or.inr (Or.inr (Or.inr (Or.inr (Or.inr hv))))))
      · unfold hkCpy
        by_cases h : (r : Int) = Q' ∧ j ≤ (z : Int) ∧ (z : Int) < j + k
        · rw [if_pos h, if_neg (by rw [show r = Q'.toNat from by omega]; omega)]
          have := hkCx_ri hC hP (i' + ((z : Int) - j)) (by omega) (by omega)
          rw [p3] at this
          exact this
        · rw [if_neg h]; exact hg.1 r z hr
      · unfold hkCpy
        rw [if_neg (by omega)]
        exact hg.2 r z hr
      · funext z
        unfold hkCpy
        rw [if_neg (by omega)]
theorem hkS_obj (hF : hkFr p R s m args meth c y fl b A) (hC : hkCx dC dI s y fl b A adr0 t0 (pc, ls, st, t, g) H locs adr cA tys lsA) (hd : hkFetch y pc = some (i, n)) (hp : hkPx y i n (pc, ls, st, t, g) = some (.inl q)) (hn : hkNext p l e R s m args below meth c Q dC dI y fl b A adr0 t0 q)
    (hi : ∃ x, i = .invokespecial x) : W p l e R s m args below meth c H locs (hkNX t - hkNX t0) (hkNS t - hkNS t0) Q (F0 m pc lsA (st.map (hkVal adr b))) := by
  obtain ⟨hx, hb, hr, hml, hown, hts, -, -, -, -, hfr, hlo, -⟩ := hF
  obtain ⟨idx, rfl⟩ := hi
  obtain ⟨rfl, hde⟩ := hkFetch_at hd rfl
  simp only [hkPx] at hp
  split at hp
  · exact (hkInv_ni hp).elim
  · split at hp
    · exact (hkInv_ni hp).elim
    · split at hp <;> first | (cases hp; done) | skip
      rename_i r P st' hfi
      split at hp <;> first | (cases hp; done) | skip
      rename_i hcat
      obtain rfl := hkGo_inv hp
      obtain ⟨w, hw⟩ := hkFindM hfi
      have hlv := hC.2.2.2.2.2.2.1
      have hroom := lv_room (m := m) (pc := pc) (ls := lsA) (rest := (st'.map (hkVal adr b))) (st := st'.map (hkVal adr b)) (by rw [hkCats]; exact hcat)
      refine W.objInit (a := adr P.toNat) (rest := st'.map (hkVal adr b)) hx hb hown (hts _ (hkGt_of (hkCT4_w _ hw) rfl)) (hts _ hkOI_i) (hts _ hkOI_c) rfl (by rw [hml]; exact hlv.1) rfl hde hfr ?_ ?_
      · show 2 * (F0 m pc lsA (st'.map (hkVal adr b))).monitorRoom + _ + 12 ≤ R.locals
        omega
      · exact hkS_on hC hkCs1 hn
theorem hkStep (hF : hkFr p R s m args meth c y fl b A) (hC : hkCx dC dI s y fl b A adr0 t0 (pc, ls, st, t, g) H locs adr cA tys lsA) (hd : hkFetch y pc = some (i, n)) (hp : hkPx y i n (pc, ls, st, t, g) = some (.inl q)) (hn : hkNext p l e R s m args below meth c Q dC dI y fl b A adr0 t0 q) (hroom : hkNX q.2.2.2.1 - hkNX t0 ≤ R.cells ∧ hkNS q.2.2.2.1 - hkNS t0 ≤ R.slots) : W p l e R s m args below meth c H locs (hkNX t - hkNX t0) (hkNS t - hkNS t0) Q (F0 m pc lsA (st.map (hkVal adr b))) := by
  cases i <;> first
    | (simp only [hkPx] at hp; cases hp; done)
    | (refine hkS_const hF hC hd hp hn ?_; simp; done)
    | (refine hkS_load hF hC hd hp hn ?_; simp; done)
    | (refine hkS_store hF hC hd hp hn ?_; simp; done)
    | (refine hkS_bin hF hC hd hp hn ?_; simp; done)
    | (refine hkS_un hF hC hd hp hn ?_; simp; done)
    | (refine hkS_binL hF hC hd hp hn ?_; simp; done)
    | (refine hkS_div hF hC hd hp hn ?_; simp; done)
    | (refine hkS_if hF hC hd hp hn ?_; exact ⟨_, _, rfl⟩)
    | (refine hkS_icmp hF hC hd hp hn ?_; exact ⟨_, _, rfl⟩)
    | (refine hkS_goto hF hC hd hp hn ?_; simp; done)
    | (refine hkS_getf hF hC hd hp hn ?_; exact ⟨_, rfl⟩)
    | (refine hkS_putf hF hC hd hp hn ?_; exact ⟨_, rfl⟩)
    | (refine hkS_ald hF hC hd hp hn ?_; simp; done)
    | (refine hkS_ast hF hC hd hp hn ?_; simp; done)
    | (refine hkS_alen hF hC hd hp hn ?_; simp; done)
    | (refine hkS_aast hF hC hd hp hn ?_; exact rfl)
    | (refine hkS_new hF hC hd hp hn hroom ?_; simp; done)
    | (refine hkS_copy hF hC hd hp hn ?_; exact ⟨_, rfl⟩)
    | (refine hkS_obj hF hC hd hp hn ?_; exact ⟨_, rfl⟩)
    | (simp only [hkPx] at hp; split at hp <;> first | (cases hp; done) | (exact (hkInvV_ni hp).elim))
    | (simp only [hkPx] at hp; split at hp <;> first | (cases hp; done) | (split at hp <;> first | (cases hp; done) | (split at hp <;> first | (cases hp; done) | (obtain ⟨-, hp⟩ := hkChk_inv hp; cases hp))))
end HKT
