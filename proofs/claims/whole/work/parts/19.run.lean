/-! a call is a call; and the run, whole -/
section HKN
variable {p : Program} {l : Launch} {e : Env} {R : Room} {s : State} {m : MethodId} {args : Array Value} {below : List Frame} {meth : Method} {c : Code} {Q : State → Prop}
variable {dC : Nat → ClassId} {dI : Nat → Nat → Nat} {y : Nat} {fl : Prop} {b : Nat} {A : Nat → Prop} {adr0 : Nat → Nat} {t0 : Nat}
variable {pc n : Nat} {ls st : List hkV} {t : Nat} {g : hkG} {H : Heap} {locs : List Loc} {adr : Nat → Nat} {cA : Nat → ClassId} {tys : List (ClassId × FieldType)} {lsA : Array Slot} {q : hkC} {i : Instr}
theorem hkS_call {nn d y' pc' : Nat} {as ls' rest : List hkV} {r : Option hkV} {t' : Nat} {g' : hkG} (hF : hkFr p R s m args meth c y fl b A) (hC : hkCx dC dI s y fl b A adr0 t0 (pc, ls, st, t, g) H locs adr cA tys lsA) (hd : hkFetch y pc = some (i, n)) (hp : hkPx y i n (pc, ls, st, t, g) = some (.inr (.inl (y', as, pc', ls', rest)))) (hAt : hkAt nn) (hrun : hkRun nn d y' (0, hkEnt (hkX y') as, [], t, g) = some (r, t', g')) (hfr : d + 2 ≤ R.frames) (hlo : 64 * (d + 2) ≤ R.locals) (hcell : hkNX t' - hkNX t0 ≤ R.cells ∧ hkNS t' - hkNS t0 ≤ R.slots)
    (hn : hkNext p l e R s m args below meth c Q dC dI y fl b A adr0 t0 (pc', ls', hkPush r rest, t', g')) : W p l e R s m args below meth c H locs (hkNX t - hkNX t0) (hkNS t - hkNS t0) Q (F0 m pc lsA (st.map (hkVal adr b))) := by
  have hF' := hF
  obtain ⟨hx, hb, hr, hml, hown, hts, -⟩ := hF
  obtain ⟨htt, hneg⟩ := hkRun_keep _ _ _ _ _ _ _ hrun
  simp only at htt hneg
  have ht190 : t ≤ 190 := hC.2.2.2.2.2.2.2.2.2.2.2.1
  have ht0 : t0 ≤ t := hC.2.2.2.2.2.2.2.2.2.2.1
  have hsz := hC.2.2.2.2.2.2.1.1
  have hm0 := hkNX_mono ht0
  have hs0 := hkNS_mono ht0
  have hmx := hkNX_mono htt
  have hms := hkNS_mono htt
  have hfit : hkNX t - hkNX t0 + (hkNX t' - hkNX t) ≤ R.cells ∧ hkNS t - hkNS t0 + (hkNS t' - hkNS t) ≤ R.slots := by omega
  have hS : CallFix p m c (hkB y) (hkX y) s args hkGt (hkOwnS (hkOwn y)) := ⟨hx, hb, hml, hown, hts⟩
  have hMet : ∀ (y' : Nat) (as : List hkV), y' < 183 → (∀ v ∈ as, hkOK False t v) → as.map (fun v => v.1) = hkTg y' → hkRun nn d y' (0, hkEnt (hkX y') as, [], t, g) = some (r, t', g') → _ := fun y' as hy has htg hrun => hkMet (tys := tys) (cA := cA) hAt hrun hy has htg hC.2.2.2.2.2.1 ht190 hC.2.2.2.2.1 l dC dI adr H.size
  have hroom : ∀ y', y' < 183 → (hkRm d t t').frames + 1 ≤ R.frames ∧ 8 + (hkX y' + 11) + (hkRm d t t').locals ≤ R.locals := by
    intro y' hy
    obtain ⟨m1, m2, m3, m4, m5, m6⟩ := hkMFacts hy
    refine ⟨by show d + 1 + 1 ≤ R.frames; omega, ?_⟩
    show 8 + (hkX y' + 11) + 64 * (d + 1) ≤ R.locals
    omega
  rcases hkCall_inv hp with ⟨idx, y2, rfl, hfi, hk⟩ | ⟨idx, y2, rfl, hfi, hk⟩ | ⟨idx, y2, rfl, hfi, hk⟩ | ⟨idx, y2, rfl, hfi, hk⟩ <;> obtain ⟨rfl, hde⟩ := hkFetch_at hd rfl <;> obtain ⟨w, hw⟩ := hkFindM hfi
  · obtain ⟨as2, rest2, hz, hst, htg, hcat, hjk⟩ := hkInvV_inv hk
    simp only [Prod.mk.injEq] at hz
    obtain ⟨rfl, rfl, rfl, rfl, rfl⟩ := hz
    obtain ⟨hy, hpar, hhd⟩ := hkCT0_n _ hw
    obtain ⟨m1, m2, m3, m4, m5, m6⟩ := hkMFacts hy
    have has := hkAs_ok hC hst htg (hkTg_all _ hy)
    obtain ⟨o, as', rfl, hlen⟩ := hkHead htg hhd
    have ho := hkOK_r (has _ List.mem_cons_self)
    have hjk : hkJK o = hkOwn y' := hjk
    obtain ⟨hj0, hj1⟩ := hkOwn_lt (y := y') hjk rfl ho.2 (hkOwn_all _ hy)
    obtain ⟨j1, j2, j3⟩ := hkJK_inv hjk (by omega)
    have hwo := hkWs_get (adr := adr) (cA := cA) (g := g) ho.2
    rw [hkCell_o (by omega), j2] at hwo
    have hrec := va_recv hC.2.1 hC.1 (hkCl_ok hj1) hwo
    refine hkCallW hF' hC (va_runV (b := adr o.toNat) (As := as'.map (hkVal adr 0)) (rest := rest.map (hkVal adr b)) (C := (hkN y').cls) hS (hMet y' _ hy has htg hrun) (cwV ((hkTg y').length - 1) hts (hkGood hy [_, _, _, _] ?_) rfl rfl rfl ⟨rfl, m3, m4, hkPar_ok hpar⟩ (hroom y' hy)) ⟨hkPc_blind, by rw [m2]; exact hrec, ?_⟩ rfl (by rw [List.length_map]; exact hlen) hsz ?_ (lv_room (by rw [hkCats]; exact hcat)) hde hfit) htt hneg (fun v hv => by rw [hst]; exact List.mem_append_right _ hv) hn
    · intro w hw'
      simp only [List.mem_cons, List.mem_nil_iff, or_false] at hw'
      rcases hw' with rfl | rfl | rfl | rfl
      · exact hkGt_of (hkCT0_a _ hw) rfl
      · exact hkGt_of (hkCT0_b _ hw) rfl
      · exact hkGt_of (hkCT0_c _ hw) rfl
      · exact hkGt_of (hkCT0_d _ hw) rfl
    · intro U hU hW
      exact hkPc_at hF' hC ((2, o) :: as') U hU hW
    · show st.map (hkVal adr b) = _
      have has' : ∀ v ∈ as', hkOK False t v := fun v hv => has v (List.mem_cons_of_mem _ hv)
      rw [hst, hkVals_b (b := 0) (b' := b) has']
      simp; rfl
  · obtain ⟨as2, rest2, hz, hst, htg, hcat⟩ := hkInv_inv hk
    simp only [Prod.mk.injEq] at hz
    obtain ⟨rfl, rfl, rfl, rfl, rfl⟩ := hz
    obtain ⟨hy, hpar, hhd, hnm, hrt⟩ := hkCT1_n _ hw
    obtain ⟨m1, m2, m3, m4, m5, m6⟩ := hkMFacts hy
    have has := hkAs_ok hC hst htg (hkTg_all _ hy)
    obtain ⟨o, as', rfl, hlen⟩ := hkHead htg hhd
    have hret := (hkMRet hy).2.2.2 hrt
    refine hkCallW hF' hC (va_runI (b := adr o.toNat) (As := as'.map (hkVal adr 0)) (rest := rest.map (hkVal adr b)) hS (hMet y' _ hy has htg hrun) (cwI (ws' := hkGt) (bytes := hkB y') (maxL := hkX y') ((hkTg y').length - 1) hts (hkGood hy [] (fun _ h => by cases h)) (by show hkW1 y' = _; unfold hkW1; rw [hret]) rfl rfl (hts _ (hkGt_of (hkCT1_d _ hw) rfl)) (hts _ (hkGt_of (hkCT1_a _ hw) rfl)) (hts _ (hkGt_of (hkCT1_b _ hw) rfl)) hnm ⟨m3, m4, hkPar_ok hpar⟩ (hroom y' hy)) ⟨hkPc_blind, ?_⟩ rfl (by rw [List.length_map]; exact hlen) hsz ?_ (lv_room (by rw [hkCats]; exact hcat)) hde hfit) htt hneg (fun v hv => by rw [hst]; exact List.mem_append_right _ hv) hn
    · intro U hU hW
      exact hkPc_at hF' hC ((2, o) :: as') U hU hW
    · show st.map (hkVal adr b) = _
      have has' : ∀ v ∈ as', hkOK False t v := fun v hv => has v (List.mem_cons_of_mem _ hv)
      rw [hst, hkVals_b (b := 0) (b' := b) has']
      simp; rfl
  · obtain ⟨as2, rest2, hz, hst, htg, hcat⟩ := hkInv_inv hk
    simp only [Prod.mk.injEq] at hz
    obtain ⟨rfl, rfl, rfl, rfl, rfl⟩ := hz
    obtain ⟨hy, hpar, hhd, hnm, hrt⟩ := hkCT3_n _ hw
    obtain ⟨m1, m2, m3, m4, m5, m6⟩ := hkMFacts hy
    have has := hkAs_ok hC hst htg (hkTg_all _ hy)
    obtain ⟨o, as', rfl, hlen⟩ := hkHead htg hhd
    have hret := (hkMRet hy).2.2.2 hrt
    have hnest := hF'.2.2.2.2.2.2.2.2.1.1 _ hw
    refine hkCallW hF' hC (va_runIN (b := adr o.toNat) (As := as'.map (hkVal adr 0)) (rest := rest.map (hkVal adr b)) hS (hMet y' _ hy has htg hrun) ⟨va_cnB (ws' := hkGt) (bytes := hkB y') (maxL := hkX y') ((hkTg y').length - 1) hts (hkGood hy [] (fun _ h => by cases h)) (by show hkW1 y' = _; unfold hkW1; rw [hret]) rfl rfl hnest (hts _ (hkGt_of (hkCT3_d _ hw) rfl)) ⟨m3, m4, hkPar_ok hpar⟩ (hroom y' hy), hnm, hts _ (hkGt_of (hkCT3_b _ hw) rfl)⟩ ⟨hkPc_blind, ?_⟩ rfl (by rw [List.length_map]; exact hlen) hsz ?_ (lv_room (by rw [hkCats]; exact hcat)) hde hfit) htt hneg (fun v hv => by rw [hst]; exact List.mem_append_right _ hv) hn
    · intro U hU hW
      exact hkPc_at hF' hC ((2, o) :: as') U hU hW
    · show st.map (hkVal adr b) = _
      have has' : ∀ v ∈ as', hkOK False t v := fun v hv => has v (List.mem_cons_of_mem _ hv)
      rw [hst, hkVals_b (b := 0) (b' := b) has']
      simp; rfl
  · obtain ⟨as2, rest2, hz, hst, htg, hcat⟩ := hkInv_inv hk
    simp only [Prod.mk.injEq] at hz
    obtain ⟨rfl, rfl, rfl, rfl, rfl⟩ := hz
    obtain ⟨hy, hpar⟩ := hkCT2_n _ hw
    obtain ⟨m1, m2, m3, m4, m5, m6⟩ := hkMFacts hy
    have has := hkAs_ok hC hst htg (hkTg_all _ hy)
    have hlen : as.length = (hkTg y').length - 0 := by rw [← htg, List.length_map]; omega
    refine hkCallW hF' hC (va_runS (As := as.map (hkVal adr 0)) (rest := rest.map (hkVal adr b)) hS (hMet y' _ hy has htg hrun) (va_cwS (ws' := hkGt) ((hkTg y').length - 0) hts (hkGood hy [_, _, _] ?_) rfl rfl rfl ⟨m3, m4, hkPar_ok hpar⟩ (hroom y' hy)) ⟨hkPc_blind, ?_⟩ rfl (by rw [List.length_map]; exact hlen) hsz ?_ (lv_room (by rw [hkCats]; exact hcat)) hde hfit) htt hneg (fun v hv => by rw [hst]; exact List.mem_append_right _ hv) hn
    · intro w hw'
      simp only [List.mem_cons, List.mem_nil_iff, or_false] at hw'
      rcases hw' with rfl | rfl | rfl
      · exact hkGt_of (hkCT2_a _ hw) rfl
      · exact hkGt_of (hkCT2_b _ hw) rfl
      · exact hkGt_of (hkCT2_d _ hw) rfl
    · intro U hU hW
      exact hkPc_at hF' hC as U hU hW
    · show st.map (hkVal adr b) = _
      rw [hst, hkVals_b (b := 0) (b' := b) has]
      simp
theorem hkAll : ∀ n, hkAt n := by
  intro n
  induction n with
  | zero => intro d y q rF tF gF h; simp [hkRun] at h
  | succ n ih =>
    intro d y q rF tF gF h p l e R s m args below meth c Q dC dI fl b A adr0 t0 hF hfr hlo hcell hslot hret
    obtain ⟨pc, ls, st, t, g⟩ := q
    intro H locs adr cA tys lsA hC
    unfold hkRun at h
    split at h
    · cases h
    · rename_i i len hf
      split at h
      · cases h
      · rename_i q' hq
        obtain ⟨k1, k2⟩ := hkRun_keep _ _ _ _ _ _ _ h
        have hmx := hkNX_mono k1
        have hms := hkNS_mono k1
        exact hkStep hF hC hf hq (ih d y q' rF tF gF h p l e R s m args below meth c Q dC dI fl b A adr0 t0 hF hfr hlo hcell hslot hret) ⟨by omega, by omega⟩
      · rename_i y' as pc' ls' st' hq
        split at h
        · cases h
        · rename_i d'
          split at h
          · cases h
          · rename_i r' t' g' hr
            obtain ⟨k1, k2⟩ := hkRun_keep _ _ _ _ _ _ _ h
            simp only at k1
            have hmx := hkNX_mono k1
            have hms := hkNS_mono k1
            exact hkS_call hF hC hf hq ih hr (by omega) (by omega) ⟨by omega, by omega⟩ (ih (d' + 1) y _ rF tF gF h p l e R s m args below meth c Q dC dI fl b A adr0 t0 hF hfr hlo hcell hslot hret)
      · rename_i r hq
        cases h
        exact hret _ _ _ _ _ _ _ _ _ _ _ hf hq hC
end HKN
