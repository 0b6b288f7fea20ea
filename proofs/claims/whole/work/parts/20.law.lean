/-! the law's entry: from a run of the pure machine to the walk that the skeleton wants (by program: wip/whole/gen_law.py) -/
/-! THE CLAIM OUT OF ONE WALK OF THE LAW'S BODY. Your part is whole_start (and what it stands on); all else here is the same for every law, but numbers. -/
def R_law : String := "HookBoxesLaw"
def lw_P (b : Addr) (xs : List Int32) (args : Array Value) (s : State) : Prop := args = #[.ref b] ∧ s.IntsAt b xs ∧ xs.length ≤ 3584 ∧ (Jvm.Cond.and given_1 narrow_1).before args s = true
def lw_Q (_ : Array Value) (s : State) (o : Outcome) (t : State) : Prop := o = .returned (some (.int 1)) ∧ Framed s o t [] 600000 7302250
def lw_Z (below : List Frame) (a : Array Value) (s : State) : State → Prop := fun t => ∃ o, t.status = .running ∧ Ended t below o ∧ lw_Q a s o t
/-- the law's own end, with 1 on the stack, nothing written that was there before, its room as the claim has it -/
theorem lw_ret {p : Program} {l : Launch} {e : Env} {s : State} {m : MethodId} {below : List Frame} {meth : Method} {c : Code} {b : Nat} (hx : p.tables.exec = Jvm.exec) (hb : c.code = code) (hr : meth.sig.returnType = ret) (hlocks : meth.locks = false) {pc : Nat} {H : Heap} {ls : Array Slot} (hdg : decode code pc = .ok (.ireturn, 1)) : W p l e room_1 s m #[Value.ref b] below meth c H [] 600000 7302250 (lw_Z below #[Value.ref b] s) (F0 m pc ls [.int 1]) := by
  intro T hT X
  obtain ⟨fs, hret, hrun, hended, hW, hframe⟩ := X.leave (v := some (.int 1)) (hlocks := hlocks) (fun h => by rw [hr] at h; cases h)
  have hmeth' : T.vm.method? m = some meth := X.method'
  refine ⟨T.setFrames fs, ?_, .returned (some (.int 1)), hrun, hended, rfl, ⟨_, rfl⟩, hW, hframe⟩
  jvm_step X.here [X.here.top, hx, hb, hdg, hmeth', hr, ret, narrow_b1]
  (try refine ⟨rfl, ?_⟩); (try refine ⟨rfl, ?_⟩)
  first | (intro acts; rw [hret _ acts rfl rfl rfl]) | rw [hret _ _ rfl rfl rfl]
  exact Steps.refl _
/-- what holds at the law's entry: the machine, the code, the tables' words (any of lw_tbl by 'hts w (by decide +kernel)'), the script of L ints xs at the cell b, what the Statement gives of the start (any of its parts by flat_of_before) -/
def lw_At (p : Program) (s : State) (m : MethodId) (meth : Method) (c : Code) (b L : Nat) (xs : Nat → Int32) : Prop :=
  p.tables.exec = Jvm.exec ∧ c.code = code ∧ meth.sig.returnType = ret ∧ c.maxLocals = 4 ∧ s.vm.findClass R_law = some m.cls ∧ (∀ w ∈ lw_tbl, w.before #[Value.ref b] s = true) ∧ va_X b L xs s s.heap ∧ b < s.heap.size ∧ meth.locks = false ∧ (Jvm.Cond.and given_1 narrow_1).before #[Value.ref b] s = true
def hkG0 (L : Nat) (xs : Nat → Int32) : hkG := fun p i => if p = -2 then (L : Int) else if p = -1 then (xs i.toNat).toInt else 0
set_option maxRecDepth 100000 in
theorem hkCT3_l : ∀ q ∈ hkCT3, Cond.methodLinkNest (hkOwnS q.1) q.2.1 (hkN q.2.2.1) "HookBoxes" ∈ lw_tbl := hkMapI (ix := fun q => q.2.2.2.getD 0 0) (by rfl)
theorem hkAO_sum : Cond.arrayOver (.object "HookBoxes$Sum") ∈ lw_tbl := List.mem_of_getElem? (i := 303) rfl
theorem hkAO_sheet : Cond.arrayOver (.object "HookBoxes$Sheet") ∈ lw_tbl := List.mem_of_getElem? (i := 376) rfl
theorem hkLaw_code : hkB 184 = code := by rfl
theorem hkLaw_x : hkX 184 = 4 := by rfl
theorem hkLaw_w {p : Program} {e : Env} {s : State} {m : MethodId} {below : List Frame} {meth : Method} {c : Code} (l : Launch) {b L : Nat} {xs : Nat → Int32} (hL : L ≤ 3584) (C0 : lw_At p s m meth c b L xs) {n d t' : Nat} {g' : hkG} (hd : d ≤ 1000) (hrun : hkRun n d 184 (0, hkEnt 4 [(4, 0)], [], 0, hkG0 L xs) = some (some (0, 1), t', g')) :
    W p l e room_1 s m #[Value.ref b] below meth c s.heap [] 0 0 (lw_Z below #[Value.ref b] s) (entryFrame m ([Value.ref b] : List Value).toArray 4) := by
  obtain ⟨hx, hb, hr, hml, hown, hts, hX, hbl, hlocks, hgv⟩ := id C0
  have htsG : ∀ w ∈ hkGt, w.before #[Value.ref b] s = true := fun w hw => hts w (List.mem_filter.mp hw).1
  have hKn : ∀ ci : Nat, ∃ q : ClassId × (Nat → Nat), ci < 11 → u_Kn s (hkOwnS ci) (hkTT ci) (hkNF ci) q.1 q.2 := by
    intro ci
    by_cases h : ci < 11
    · obtain ⟨c0, iS0, hK0⟩ := u_known (C := hkOwnS ci) (T := hkTT ci) (N := hkNF ci) (n := hkNF ci) htsG (hkWs_gt h) (htsG _ (hkIns_w ci h).1)
      exact ⟨(c0, iS0), fun _ => hK0⟩
    · exact ⟨(0, fun _ => 0), fun h' => absurd h' h⟩
  obtain ⟨f, hf⟩ := Classical.axiomOfChoice hKn
  have hK : va_K (fun k => (f k).1, fun k => (f k).2) hkCl [] s := by
    refine ⟨fun k q hq => ?_, fun k q h => by simp at h⟩
    have hk : k < 11 := (List.getElem?_eq_some_iff.mp hq).1
    rw [hkCl_ok hk] at hq
    cases hq
    exact hf k hk
  have hNst : hkNst s := ⟨fun q hq => va_Nw.of rfl (hts _ (hkCT3_l q hq)), va_AO.of (hts _ hkAO_sum), va_AO.of (hts _ hkAO_sheet)⟩
  have hF : hkFr p room_1 s m #[Value.ref b] meth c 184 True b (fun q => s.heap.size ≤ q) :=
    ⟨hx, hb.trans hkLaw_code.symm, hr, hml, hown, htsG, fun h => absurd h (by decide +kernel), hlocks, hNst, fun _ h => h, by decide, by decide, fun _ => ⟨L, xs, hX, hbl, Nat.not_le.mpr hbl⟩⟩
  have hnx : hkNX 0 = 0 := by rfl
  have hns : hkNS 0 = 0 := by rfl
  have hret : hkRet p l e room_1 s m #[Value.ref b] below meth c (lw_Z below #[Value.ref b] s) (fun k => (f k).1) (fun k => (f k).2) 184 True b (fun q => s.heap.size ≤ q) (fun _ => 0) 0 (some (0, 1)) t' g' := by
    intro i n pc ls st H locs adr cA tys lsA hde hp hC
    rcases hkRet_inv hp with ⟨rfl, x, rfl, hxe, -⟩ | ⟨rfl, x, rfl, hxe, hrt⟩ | ⟨rfl, rfl, hxe, hrt⟩
    · simp only [Option.some.injEq, Prod.mk.injEq, true_and] at hxe
      subst hxe
      obtain ⟨rfl, hde2⟩ := hkFetch_at hde rfl
      rw [hkLaw_code] at hde2
      refine va_forget (fun q hq => hC.2.2.2.1.2.2 q hq) ?_
      have h1 := hkNX_le t'
      have h2 : hkNS t' ≤ 7302250 := by
        have h3 := hkNS_mono (t := t') (u := t' + 190) (by omega)
        have h4 : hkNS (t' + 190) ≤ (hkPl.map (fun q => q.2)).sum := by
          unfold hkNS
          have h5 := List.take_append_drop (hkNX (t' + 190)) hkPl
          have h6 : (hkPl.map (fun q => q.2)).sum = ((hkPl.take (hkNX (t' + 190))).map (fun q => q.2)).sum + ((hkPl.drop (hkNX (t' + 190))).map (fun q => q.2)).sum := by
            rw [← List.sum_append, ← List.map_append, h5]
          omega
        have h7 : (hkPl.map (fun q => q.2)).sum ≤ 7302250 := by decide +kernel
        omega
      refine W.widen (k := 600000) (n := 7302250) (by omega) (by omega) ?_
      exact lw_ret hx hb hr hlocks hde2
    · simp at hxe
    · cases hxe
  obtain ⟨hl, hlen⟩ := hkEnt_lv (adr := fun _ => 0) (b := b) (n := 4) (as := [(4, 0)]) (by decide)
  have hl : lv_has ((lg_sl [Value.ref b] ++ List.replicate (4 - (lg_sl [Value.ref b]).length) Slot.unset).toArray) 4 (hkLv (fun _ => 0) b (hkEnt 4 [(4, 0)])) := hl
  rw [lg_entry_eq]
  generalize (lg_sl [Value.ref b] ++ List.replicate (4 - (lg_sl [Value.ref b]).length) Slot.unset).toArray = lsA at hl ⊢
  have h1 := hkNX_le t'
  have h2 : hkNS t' - hkNS 0 ≤ room_1.slots := by
    have h4 : hkNS t' ≤ (hkPl.map (fun q => q.2)).sum := by
      unfold hkNS
      have h5 := List.take_append_drop (hkNX t') hkPl
      have h6 : (hkPl.map (fun q => q.2)).sum = ((hkPl.take (hkNX t')).map (fun q => q.2)).sum + ((hkPl.drop (hkNX t')).map (fun q => q.2)).sum := by
        rw [← List.sum_append, ← List.map_append, h5]
      omega
    have h7 : (hkPl.map (fun q => q.2)).sum ≤ room_1.slots := by decide +kernel
    omega
  have hempty : hkWs (fun _ => 0) (fun _ => 0) 0 (hkG0 L xs) = [] := by
    unfold hkWs; rw [hnx]; rfl
  have K := hkAll n d 184 _ _ _ _ hrun p l e room_1 s m #[Value.ref b] below meth c (lw_Z below #[Value.ref b] s) (fun k => (f k).1) (fun k => (f k).2) True b (fun q => s.heap.size ≤ q) (fun _ => 0) 0 hF (by show d + 1 ≤ 2048; omega) (by show 64 * (d + 1) ≤ 84000; omega) (by show hkNX t' - hkNX 0 ≤ 600000; omega) h2 hret
    s.heap [] (fun _ => 0) (fun _ => 0) [] lsA ⟨by simp only; rw [hempty]; exact fun k q h => by simp at h, hK, by simp only; rw [hempty]; exact ⟨fun i j p q h => by simp at h, fun k q h => by simp at h⟩, va_S.rf, fun z hz => absurd hz (by show ¬ z < hkNX 0; omega), ⟨fun z k hz => absurd hz (by show ¬ z < hkNX 0; omega), fun z k _ => ?_⟩, hl, hlen, hkEnt_ok (fun v hv => ?_), fun v hv => (List.not_mem_nil hv).elim, Nat.le_refl _, Nat.zero_le _, fun _ _ => rfl, fun _ L' xs' hX' => ?_⟩
  · simp only [hnx, hns, Nat.sub_self] at K
    exact K
  · show (if (z : Int) = -2 then (L : Int) else if (z : Int) = -1 then (xs ((k : Int)).toNat).toInt else 0) = 0
    rw [if_neg (by omega), if_neg (by omega)]
  · simp only [List.mem_cons, List.mem_nil_iff, or_false] at hv
    subst hv
    exact Or.inr (Or.inr (Or.inr ⟨rfl, trivial⟩))
  · obtain ⟨scr, k1, k2, k3, k4, k5⟩ := hX
    obtain ⟨scr', k1', k2', k3', k4', k5'⟩ := hX'
    rw [k1] at k1'
    cases k1'
    have hLL : L = L' := by rw [← k4, ← k4']
    subst hLL
    refine ⟨rfl, by omega, fun j hj => ?_⟩
    have e1 := k5 j hj
    rw [k5' j hj] at e1
    have e2 : xs' j = xs j := by simpa using e1
    show (if (-1 : Int) = -2 then (L : Int) else if (-1 : Int) = -1 then (xs ((j : Int)).toNat).toInt else 0) = _
    rw [if_neg (by decide), if_pos rfl, e2, Int.toNat_natCast]
