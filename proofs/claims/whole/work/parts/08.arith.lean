/-! arithmetic, branches, the stack -/
section HKT
variable {p : Program} {l : Launch} {e : Env} {R : Room} {s : State} {m : MethodId} {args : Array Value} {below : List Frame} {meth : Method} {c : Code} {Q : State → Prop}
variable {dC : Nat → ClassId} {dI : Nat → Nat → Nat} {y : Nat} {fl : Prop} {b : Nat} {A : Nat → Prop} {adr0 : Nat → Nat} {t0 : Nat}
variable {pc n : Nat} {ls st : List hkV} {t : Nat} {g : hkG} {H : Heap} {locs : List Loc} {adr : Nat → Nat} {cA : Nat → ClassId} {tys : List (ClassId × FieldType)} {lsA : Array Slot} {q : hkC} {i : Instr}
theorem hkS_pushE {pc' : Nat} {v : hkV} {st' : List hkV} {v' : Value} (h : hkCx dC dI s y fl b A adr0 t0 (pc, ls, st, t, g) H locs adr cA tys lsA) (hv : hkOK fl t v) (hst : ∀ w ∈ st', w ∈ st) (he : hkVal adr b v = v') (hn : hkNext p l e R s m args below meth c Q dC dI y fl b A adr0 t0 (pc', ls, v :: st', t, g)) :
    W p l e R s m args below meth c H locs (hkNX t - hkNX t0) (hkNS t - hkNS t0) Q (F0 m pc' lsA (v' :: st'.map (hkVal adr b))) := by
  have := hkS_push (p := p) (l := l) (e := e) (R := R) (m := m) (args := args) (below := below) (meth := meth) (c := c) (Q := Q) h hv hst hn
  rwa [he] at this
theorem hkS_on {pc' : Nat} {st' : List hkV} (h : hkCx dC dI s y fl b A adr0 t0 (pc, ls, st, t, g) H locs adr cA tys lsA) (hst : ∀ w ∈ st', w ∈ st) (hn : hkNext p l e R s m args below meth c Q dC dI y fl b A adr0 t0 (pc', ls, st', t, g)) :
    W p l e R s m args below meth c H locs (hkNX t - hkNX t0) (hkNS t - hkNS t0) Q (F0 m pc' lsA (st'.map (hkVal adr b))) := hn H locs adr cA tys lsA (hkCx_s h (fun w hw => h.2.2.2.2.2.2.2.2.2.1 w (hst w hw)))
theorem hkBin_inv {f : Int → Int → Int} {pc' : Nat} (h : hkBin f pc' ls st t g = some (.inl q)) : ∃ x z st', st = (0, z) :: (0, x) :: st' ∧ q = (pc', ls, (0, f x z) :: st', t, g) := by
  unfold hkBin at h
  split at h
  · exact ⟨_, _, _, rfl, hkGo_inv h⟩
  · cases h
theorem hkBinL_inv {f : Int → Int → Int} {pc' : Nat} (h : hkBinL f pc' ls st t g = some (.inl q)) : ∃ x z st', st = (1, z) :: (1, x) :: st' ∧ q = (pc', ls, (1, f x z) :: st', t, g) := by
  unfold hkBinL at h
  split at h
  · exact ⟨_, _, _, rfl, hkGo_inv h⟩
  · cases h
theorem hkUn_inv {tg tg2 : Nat} {f : Int → Int} {pc' : Nat} (h : hkUn tg tg2 f pc' ls st t g = some (.inl q)) : ∃ x st', st = (tg, x) :: st' ∧ q = (pc', ls, (tg2, f x) :: st', t, g) := by
  unfold hkUn at h
  split at h
  · rename_i tg1 a st'
    split at h
    · rename_i e
      subst e
      exact ⟨_, _, rfl, hkGo_inv h⟩
    · cases h
  · cases h
theorem hkCs2 {v w : hkV} {st' : List hkV} : ∀ u ∈ st', u ∈ v :: w :: st' := fun _ h => List.mem_cons_of_mem _ (List.mem_cons_of_mem _ h)
theorem hkCs1 {v : hkV} {st' : List hkV} : ∀ u ∈ st', u ∈ v :: st' := fun _ h => List.mem_cons_of_mem _ h
theorem hkCx_k (hC : hkCx dC dI s y fl b A adr0 t0 (pc, ls, st, t, g) H locs adr cA tys lsA) : ∀ v ∈ st, hkOK fl t v := hC.2.2.2.2.2.2.2.2.2.1
theorem hkS_bin (hF : hkFr p R s m args meth c y fl b A) (hC : hkCx dC dI s y fl b A adr0 t0 (pc, ls, st, t, g) H locs adr cA tys lsA) (hd : hkFetch y pc = some (i, n)) (hp : hkPx y i n (pc, ls, st, t, g) = some (.inl q)) (hn : hkNext p l e R s m args below meth c Q dC dI y fl b A adr0 t0 q)
    (hi : i = .iadd ∨ i = .isub ∨ i = .imul ∨ i = .iand ∨ i = .ior ∨ i = .ixor ∨ i = .ishl ∨ i = .ishr ∨ i = .iushr) : W p l e R s m args below meth c H locs (hkNX t - hkNX t0) (hkNS t - hkNS t0) Q (F0 m pc lsA (st.map (hkVal adr b))) := by
  obtain ⟨hx, hb, hr, hml, hown, hts, -⟩ := hF
  rcases hi with rfl | rfl | rfl | rfl | rfl | rfl | rfl | rfl | rfl <;> obtain ⟨rfl, hde⟩ := hkFetch_at hd rfl <;> simp only [hkPx] at hp <;> obtain ⟨x, z, st', rfl, rfl⟩ := hkBin_inv hp
  · exact lv_iadd hx hb hde (hkS_pushE hC (hkOKi (hkW_rng _)) hkCs2 (by show Value.int (Int32.ofInt (hkW (x + z))) = _; rw [hkI_w, Int32.ofInt_add]) hn)
  · exact lv_isub hx hb hde (hkS_pushE hC (hkOKi (hkW_rng _)) hkCs2 (by show Value.int (Int32.ofInt (hkW (x - z))) = _; rw [hkI_w, Int32.ofInt_sub]) hn)
  · exact lv_imul hx hb hde (hkS_pushE hC (hkOKi (hkW_rng _)) hkCs2 (by show Value.int (Int32.ofInt (hkW (x * z))) = _; rw [hkI_w, Int32.ofInt_mul]) hn)
  · exact lv_iand hx hb hde (hkS_pushE hC (hkOKi (hkRng_i _)) hkCs2 (by show Value.int (Int32.ofInt (hkAnd x z)) = _; unfold hkAnd; rw [hkI_of]) hn)
  · exact lv_ior hx hb hde (hkS_pushE hC (hkOKi (hkRng_i _)) hkCs2 (by show Value.int (Int32.ofInt (hkOr x z)) = _; unfold hkOr; rw [hkI_of]) hn)
  · exact lv_ixor hx hb hde (hkS_pushE hC (hkOKi (hkRng_i _)) hkCs2 (by show Value.int (Int32.ofInt (hkXor x z)) = _; unfold hkXor; rw [hkI_of]) hn)
  · exact lv_ishl hx hb hde (hkS_pushE hC (hkOKi (hkRng_i _)) hkCs2 (by show Value.int (Int32.ofInt (hkShl x z)) = _; unfold hkShl; rw [hkI_of]) hn)
  · exact lv_ishr hx hb hde (hkS_pushE hC (hkOKi (hkRng_i _)) hkCs2 (by show Value.int (Int32.ofInt (hkShr x z)) = _; unfold hkShr; rw [hkI_of]) hn)
  · exact lv_iushr hx hb hde rfl (hkS_pushE hC (hkOKi (hkRng_i _)) hkCs2 (by show Value.int (Int32.ofInt (hkUsh x z)) = _; unfold hkUsh; rw [hkI_of]) hn)
theorem hkS_un (hF : hkFr p R s m args meth c y fl b A) (hC : hkCx dC dI s y fl b A adr0 t0 (pc, ls, st, t, g) H locs adr cA tys lsA) (hd : hkFetch y pc = some (i, n)) (hp : hkPx y i n (pc, ls, st, t, g) = some (.inl q)) (hn : hkNext p l e R s m args below meth c Q dC dI y fl b A adr0 t0 q)
    (hi : i = .ineg ∨ i = .lneg ∨ i = .i2l ∨ i = .l2i ∨ i = .i2s) : W p l e R s m args below meth c H locs (hkNX t - hkNX t0) (hkNS t - hkNS t0) Q (F0 m pc lsA (st.map (hkVal adr b))) := by
  obtain ⟨hx, hb, hr, hml, hown, hts, -⟩ := hF
  rcases hi with rfl | rfl | rfl | rfl | rfl <;> obtain ⟨rfl, hde⟩ := hkFetch_at hd rfl <;> simp only [hkPx] at hp <;> obtain ⟨x, st', rfl, rfl⟩ := hkUn_inv hp
  · exact lv_ineg hx hb hde (hkS_pushE hC (hkOKi (hkW_rng _)) hkCs1 (by show Value.int (Int32.ofInt (hkW (-x))) = _; rw [hkI_w, Int32.ofInt_neg]) hn)
  · exact lv_lneg hx hb hde (hkS_pushE hC (hkOKl (hkL_rng _)) hkCs1 (by show Value.long (Int64.ofInt (hkL (-x))) = _; rw [hkJ_l, Int64.ofInt_neg]) hn)
  · exact lv_i2l hx hb hde (hkI_i2l (hkOK_i (hkCx_k hC _ List.mem_cons_self))) (hkS_pushE hC (hkOKl (by have := hkOK_i (hkCx_k hC _ List.mem_cons_self); unfold hkRng at this; unfold hkRngL; omega)) hkCs1 (rfl) hn)
  · exact lv_l2i hx hb hde (hkI_l2i x) (hkS_pushE hC (hkOKi (hkW_rng _)) hkCs1 (rfl) hn)
  · exact lv_i2s hx hb hde (hkI_i2s (hkOK_i (hkCx_k hC _ List.mem_cons_self))) (hkS_pushE hC (hkOKi (hkBm16_rng _)) hkCs1 (rfl) hn)
theorem hkS_binL (hF : hkFr p R s m args meth c y fl b A) (hC : hkCx dC dI s y fl b A adr0 t0 (pc, ls, st, t, g) H locs adr cA tys lsA) (hd : hkFetch y pc = some (i, n)) (hp : hkPx y i n (pc, ls, st, t, g) = some (.inl q)) (hn : hkNext p l e R s m args below meth c Q dC dI y fl b A adr0 t0 q)
    (hi : i = .ladd ∨ i = .lmul) : W p l e R s m args below meth c H locs (hkNX t - hkNX t0) (hkNS t - hkNS t0) Q (F0 m pc lsA (st.map (hkVal adr b))) := by
  obtain ⟨hx, hb, hr, hml, hown, hts, -⟩ := hF
  rcases hi with rfl | rfl <;> obtain ⟨rfl, hde⟩ := hkFetch_at hd rfl <;> simp only [hkPx] at hp <;> obtain ⟨x, z, st', rfl, rfl⟩ := hkBinL_inv hp
  · exact lv_ladd hx hb hde (hkS_pushE hC (hkOKl (hkL_rng _)) hkCs2 (by show Value.long (Int64.ofInt (hkL (x + z))) = _; rw [hkJ_l, Int64.ofInt_add]) hn)
  · exact lv_lmul hx hb hde (hkS_pushE hC (hkOKl (hkL_rng _)) hkCs2 (by show Value.long (Int64.ofInt (hkL (x * z))) = _; rw [hkJ_l, Int64.ofInt_mul]) hn)
theorem hkS_div (hF : hkFr p R s m args meth c y fl b A) (hC : hkCx dC dI s y fl b A adr0 t0 (pc, ls, st, t, g) H locs adr cA tys lsA) (hd : hkFetch y pc = some (i, n)) (hp : hkPx y i n (pc, ls, st, t, g) = some (.inl q)) (hn : hkNext p l e R s m args below meth c Q dC dI y fl b A adr0 t0 q)
    (hi : i = .idiv ∨ i = .irem ∨ i = .lrem ∨ i = .lcmp) : W p l e R s m args below meth c H locs (hkNX t - hkNX t0) (hkNS t - hkNS t0) Q (F0 m pc lsA (st.map (hkVal adr b))) := by
  obtain ⟨hx, hb, hr, hml, hown, hts, -⟩ := hF
  rcases hi with rfl | rfl | rfl | rfl <;> obtain ⟨rfl, hde⟩ := hkFetch_at hd rfl <;> simp only [hkPx] at hp <;> split at hp <;> first | (cases hp; done) | skip
  · rename_i z x st'
    obtain ⟨h1, h2⟩ := hkChk_inv hp
    obtain rfl := hkGo_inv h2
    have hz := hkOK_i (hkCx_k hC _ List.mem_cons_self)
    have hxx := hkOK_i (hkCx_k hC _ (List.mem_cons_of_mem _ List.mem_cons_self))
    exact lv_idiv hx hb hde (fun h => h1 ((hkI_inj hz hkRng0).mp h)) (hkS_pushE hC (hkOKi (hkW_rng _)) hkCs2 (by show Value.int (Int32.ofInt (hkW (x.tdiv z))) = _; rw [hkI_div hxx hz]) hn)
  · rename_i z x st'
    obtain ⟨h1, h2⟩ := hkChk_inv hp
    obtain rfl := hkGo_inv h2
    have hz := hkOK_i (hkCx_k hC _ List.mem_cons_self)
    have hxx := hkOK_i (hkCx_k hC _ (List.mem_cons_of_mem _ List.mem_cons_self))
    exact lv_irem hx hb hde (fun h => h1 ((hkI_inj hz hkRng0).mp h)) (hkS_pushE hC (hkOKi (hkRem_rng hxx)) hkCs2 (by show Value.int (Int32.ofInt (x.tmod z)) = _; rw [hkI_rem hxx hz]) hn)
  · rename_i z x st'
    obtain ⟨h1, h2⟩ := hkChk_inv hp
    obtain rfl := hkGo_inv h2
    have hz := hkOK_l (hkCx_k hC _ List.mem_cons_self)
    have hxx := hkOK_l (hkCx_k hC _ (List.mem_cons_of_mem _ List.mem_cons_self))
    exact lv_lrem hx hb hde (fun h => h1 ((hkJ_inj hz (by unfold hkRngL; omega)).mp h)) (hkS_pushE hC (hkOKl (hkRemL_rng hxx)) hkCs2 (by show Value.long (Int64.ofInt (x.tmod z)) = _; rw [hkJ_rem hxx hz]) hn)
  · rename_i z x st'
    obtain rfl := hkGo_inv hp
    have hz := hkOK_l (hkCx_k hC _ List.mem_cons_self)
    have hxx := hkOK_l (hkCx_k hC _ (List.mem_cons_of_mem _ List.mem_cons_self))
    refine W.lcmp hx hb hde (hkS_pushE hC (hkOKi ?_) hkCs2 ?_ hn)
    · unfold hkCmp hkRng; split
      · omega
      · split <;> omega
    · show Value.int (Int32.ofInt (hkCmp x z)) = .int (lg_cmp (Int64.ofInt x) (Int64.ofInt z))
      unfold hkCmp lg_cmp
      simp only [hkJ_lt hxx hz, hkJ_lt hz hxx, hkJ_inj hxx hz]
      (repeat' split) <;> first | rfl | (exfalso; omega)
theorem hkBr_inv {cd : Prop} {r1 r2 : hkO} {z} (h : hkBr cd r1 r2 = some z) : (cd ∧ r1 = some z) ∨ (¬ cd ∧ r2 = some z) := by
  unfold hkBr at h
  split at h
  · rename_i hc; exact Or.inl ⟨hc, h⟩
  · rename_i hc; exact Or.inr ⟨hc, h⟩
theorem hkTgt_inv {off : Int} (h : hkTgt pc off ls st t g = some (.inl q)) : ∃ tgt : Nat, (pc : Int) + off = (tgt : Int) ∧ q = (tgt, ls, st, t, g) := by
  unfold hkTgt at h
  split at h
  · exact ⟨((pc : Int) + off).toNat, by omega, hkGo_inv h⟩
  · cases h
theorem hkS_if (hF : hkFr p R s m args meth c y fl b A) (hC : hkCx dC dI s y fl b A adr0 t0 (pc, ls, st, t, g) H locs adr cA tys lsA) (hd : hkFetch y pc = some (i, n)) (hp : hkPx y i n (pc, ls, st, t, g) = some (.inl q)) (hn : hkNext p l e R s m args below meth c Q dC dI y fl b A adr0 t0 q)
    (hi : ∃ cd off, i = .ifCond cd off) : W p l e R s m args below meth c H locs (hkNX t - hkNX t0) (hkNS t - hkNS t0) Q (F0 m pc lsA (st.map (hkVal adr b))) := by
  obtain ⟨hx, hb, hr, hml, hown, hts, -⟩ := hF
  obtain ⟨cd, off, rfl⟩ := hi
  obtain ⟨rfl, hde⟩ := hkFetch_at hd rfl
  simp only [hkPx] at hp
  split at hp
  · rename_i x st'
    split at hp
    · rename_i hof
      have hxx := hkOK_i (hkCx_k hC _ List.mem_cons_self)
      have hz := hkRng0
      have ht : (pc : Int) + off = ((((pc : Int) + off).toNat : Nat) : Int) := by omega
      rcases hkBr_inv hp with ⟨h1, h2⟩ | ⟨h1, h2⟩ <;> obtain rfl := hkGo_inv h2
      · have K := hkS_on (p := p) (l := l) (e := e) (R := R) (m := m) (args := args) (below := below) (meth := meth) (c := c) (Q := Q) hC hkCs1 hn
        cases cd <;> simp only [hkHolds] at h1
        · exact lv_if_eq hx hb hde ht (fun _ => K) (fun h => absurd ((hkI_inj hxx hz).mpr h1) h)
        · exact lv_if_ne hx hb hde ht (fun _ => K) (fun h => absurd ((hkI_inj hxx hz).mp h) h1)
        · exact lv_if_lt hx hb hde ht (fun _ => K) (fun h => absurd ((hkI_lt hxx hz).mpr h1) h)
        · exact lv_if_ge hx hb hde ht (fun _ => K) (fun h => absurd ((hkI_le hz hxx).mpr h1) h)
        · exact lv_if_gt hx hb hde ht (fun _ => K) (fun h => absurd ((hkI_lt hz hxx).mpr h1) h)
        · exact lv_if_le hx hb hde ht (fun _ => K) (fun h => absurd ((hkI_le hxx hz).mpr h1) h)
      · have K := hkS_on (p := p) (l := l) (e := e) (R := R) (m := m) (args := args) (below := below) (meth := meth) (c := c) (Q := Q) hC hkCs1 hn
        cases cd <;> simp only [hkHolds] at h1
        · exact lv_if_eq hx hb hde ht (fun h => absurd ((hkI_inj hxx hz).mp h) h1) (fun _ => K)
        · exact lv_if_ne hx hb hde ht (fun h => absurd (fun h3 => h ((hkI_inj hxx hz).mpr h3)) h1) (fun _ => K)
        · exact lv_if_lt hx hb hde ht (fun h => absurd ((hkI_lt hxx hz).mp h) h1) (fun _ => K)
        · exact lv_if_ge hx hb hde ht (fun h => absurd ((hkI_le hz hxx).mp h) h1) (fun _ => K)
        · exact lv_if_gt hx hb hde ht (fun h => absurd ((hkI_lt hz hxx).mp h) h1) (fun _ => K)
        · exact lv_if_le hx hb hde ht (fun h => absurd ((hkI_le hxx hz).mp h) h1) (fun _ => K)
    · cases hp
  · cases hp
theorem hkS_icmp (hF : hkFr p R s m args meth c y fl b A) (hC : hkCx dC dI s y fl b A adr0 t0 (pc, ls, st, t, g) H locs adr cA tys lsA) (hd : hkFetch y pc = some (i, n)) (hp : hkPx y i n (pc, ls, st, t, g) = some (.inl q)) (hn : hkNext p l e R s m args below meth c Q dC dI y fl b A adr0 t0 q)
    (hi : ∃ cd off, i = .if_icmp cd off) : W p l e R s m args below meth c H locs (hkNX t - hkNX t0) (hkNS t - hkNS t0) Q (F0 m pc lsA (st.map (hkVal adr b))) := by
  obtain ⟨hx, hb, hr, hml, hown, hts, -⟩ := hF
  obtain ⟨cd, off, rfl⟩ := hi
  obtain ⟨rfl, hde⟩ := hkFetch_at hd rfl
  simp only [hkPx] at hp
  split at hp
  · rename_i z x st'
    split at hp
    · rename_i hof
      have hz := hkOK_i (hkCx_k hC _ List.mem_cons_self)
      have hxx := hkOK_i (hkCx_k hC _ (List.mem_cons_of_mem _ List.mem_cons_self))
      have ht : (pc : Int) + off = ((((pc : Int) + off).toNat : Nat) : Int) := by omega
      rcases hkBr_inv hp with ⟨h1, h2⟩ | ⟨h1, h2⟩ <;> obtain rfl := hkGo_inv h2
      · have K := hkS_on (p := p) (l := l) (e := e) (R := R) (m := m) (args := args) (below := below) (meth := meth) (c := c) (Q := Q) hC hkCs2 hn
        cases cd <;> simp only [hkHolds] at h1
        · exact lv_icmp_eq hx hb hde ht (fun _ => K) (fun h => absurd ((hkI_inj hxx hz).mpr h1) h)
        · exact lv_icmp_ne hx hb hde ht (fun _ => K) (fun h => absurd ((hkI_inj hxx hz).mp h) h1)
        · exact lv_icmp_lt hx hb hde ht (fun _ => K) (fun h => absurd ((hkI_lt hxx hz).mpr h1) h)
        · exact lv_icmp_ge hx hb hde ht (fun _ => K) (fun h => absurd ((hkI_le hz hxx).mpr h1) h)
        · exact lv_icmp_gt hx hb hde ht (fun _ => K) (fun h => absurd ((hkI_lt hz hxx).mpr h1) h)
        · exact lv_icmp_le hx hb hde ht (fun _ => K) (fun h => absurd ((hkI_le hxx hz).mpr h1) h)
      · have K := hkS_on (p := p) (l := l) (e := e) (R := R) (m := m) (args := args) (below := below) (meth := meth) (c := c) (Q := Q) hC hkCs2 hn
        cases cd <;> simp only [hkHolds] at h1
        · exact lv_icmp_eq hx hb hde ht (fun h => absurd ((hkI_inj hxx hz).mp h) h1) (fun _ => K)
        · exact lv_icmp_ne hx hb hde ht (fun h => absurd (fun h3 => h ((hkI_inj hxx hz).mpr h3)) h1) (fun _ => K)
        · exact lv_icmp_lt hx hb hde ht (fun h => absurd ((hkI_lt hxx hz).mp h) h1) (fun _ => K)
        · exact lv_icmp_ge hx hb hde ht (fun h => absurd ((hkI_le hz hxx).mp h) h1) (fun _ => K)
        · exact lv_icmp_gt hx hb hde ht (fun h => absurd ((hkI_lt hz hxx).mp h) h1) (fun _ => K)
        · exact lv_icmp_le hx hb hde ht (fun h => absurd ((hkI_le hxx hz).mp h) h1) (fun _ => K)
    · cases hp
  · cases hp
theorem hkS_goto (hF : hkFr p R s m args meth c y fl b A) (hC : hkCx dC dI s y fl b A adr0 t0 (pc, ls, st, t, g) H locs adr cA tys lsA) (hd : hkFetch y pc = some (i, n)) (hp : hkPx y i n (pc, ls, st, t, g) = some (.inl q)) (hn : hkNext p l e R s m args below meth c Q dC dI y fl b A adr0 t0 q)
    (hi : (∃ off, i = .goto off) ∨ (∃ a1 a2 a3 a4, i = .tableswitch a1 a2 a3 a4) ∨ i = .dup ∨ i = .dup2) : W p l e R s m args below meth c H locs (hkNX t - hkNX t0) (hkNS t - hkNS t0) Q (F0 m pc lsA (st.map (hkVal adr b))) := by
  obtain ⟨hx, hb, hr, hml, hown, hts, -⟩ := hF
  rcases hi with ⟨off, rfl⟩ | ⟨a1, a2, a3, a4, rfl⟩ | rfl | rfl
  · obtain ⟨rfl, hde⟩ := hkFetch_at hd rfl
    simp only [hkPx] at hp
    obtain ⟨tgt, ht, rfl⟩ := hkTgt_inv hp
    exact lv_goto hx hb hde ht (hkS_on hC (fun _ h => h) hn)
  · obtain ⟨hde, -⟩ := hkFetch_spec hd
    simp only [hkPx] at hp
    split at hp
    · rename_i x st'
      have hxx := hkOK_i (hkCx_k hC _ List.mem_cons_self)
      split at hp
      · rename_i off ho
        obtain ⟨tgt, ht, rfl⟩ := hkTgt_inv hp
        unfold hkSw at ho
        split at ho
        · rename_i hlo
          cases ho
          exact lv_tableOut hx hb hde (by rw [hkI_toInt hxx]; exact hlo) ht (hkS_on hC hkCs1 hn)
        · rename_i hlo
          exact lv_tableIn hx hb hde (by rw [hkI_toInt hxx]; omega) (by rw [hkI_toInt hxx]; omega) (by rw [hkI_toInt hxx]; exact ho) ht (hkS_on hC hkCs1 hn)
      · cases hp
    · cases hp
  · obtain ⟨rfl, hde⟩ := hkFetch_at hd rfl
    simp only [hkPx] at hp
    split at hp
    · rename_i v st'
      obtain ⟨h1, h2⟩ := hkChk_inv hp
      obtain rfl := hkGo_inv h2
      refine lv_dup hx hb hde ?_ (hkS_push (st' := v :: st') hC (hkCx_k hC _ List.mem_cons_self) (fun _ h => h) hn)
      rw [hkCat_val]; unfold hkCat; unfold hkP1 at h1; rw [if_neg h1]
    · cases hp
  · obtain ⟨rfl, hde⟩ := hkFetch_at hd rfl
    simp only [hkPx] at hp
    split at hp
    · rename_i v w st'
      obtain ⟨h1, h2⟩ := hkChk_inv hp
      obtain rfl := hkGo_inv h2
      refine lv_dup2_11 hx hb hde ?_ ?_ (hn H locs adr cA tys lsA (hkCx_s hC ?_))
      · rw [hkCat_val]; unfold hkCat; have := h1.1; unfold hkP1 at this; rw [if_neg this]
      · rw [hkCat_val]; unfold hkCat; have := h1.2; unfold hkP1 at this; rw [if_neg this]
      · intro u hu
        simp only [List.mem_cons] at hu
        rcases hu with rfl | rfl | hu
        · exact hkCx_k hC _ List.mem_cons_self
        · exact hkCx_k hC _ (List.mem_cons_of_mem _ List.mem_cons_self)
        · exact hkCx_k hC _ (by simp only [List.mem_cons]; exact hu)
    · cases hp
end HKT
