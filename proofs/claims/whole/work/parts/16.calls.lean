/-! calls: their words; what comes behind one -/
set_option maxRecDepth 100000 in
theorem hkCT0_a : ∀ q ∈ hkCT0, Cond.methodLink (hkOwnS q.1) q.2.1 (hkN q.2.2.1) ∈ lw_tbl := hkMapI (ix := fun q => q.2.2.2.getD 0 0) (by rfl)
set_option maxRecDepth 100000 in
theorem hkCT0_b : ∀ q ∈ hkCT0, Cond.instanceMethod (hkN q.2.2.1) ∈ lw_tbl := hkMapI (ix := fun q => q.2.2.2.getD 1 0) (by rfl)
set_option maxRecDepth 100000 in
theorem hkCT0_c : ∀ q ∈ hkCT0, Cond.selects (hkN q.2.2.1).cls (hkN q.2.2.1) (hkN q.2.2.1) ∈ lw_tbl := hkMapI (ix := fun q => q.2.2.2.getD 2 0) (by rfl)
set_option maxRecDepth 100000 in
theorem hkCT0_d : ∀ q ∈ hkCT0, Cond.initialized (hkN q.2.2.1).cls ∈ lw_tbl := hkMapI (ix := fun q => q.2.2.2.getD 3 0) (by rfl)
def hkPar (y k : Nat) : Bool := match parseMethodDescriptor (hkN y).desc with
  | some d => d.parameters.length + k == (hkTg y).length
  | none => false
theorem hkPar_ok {y k : Nat} (h : hkPar y k = true) : (parseMethodDescriptor (hkN y).desc).map (fun d => d.parameters.length) = some ((hkTg y).length - k) := by
  unfold hkPar at h
  split at h
  · rename_i d hd
    rw [hd]
    have : d.parameters.length + k = (hkTg y).length := by simpa using h
    simp only [Option.map_some, Option.some.injEq]
    omega
  · cases h
theorem hkCT0_n : ∀ q ∈ hkCT0, q.2.2.1 < 183 ∧ hkPar q.2.2.1 1 = true ∧ (hkTg q.2.2.1).head? = some 2 := by decide +kernel
set_option maxRecDepth 100000 in
theorem hkCT1_a : ∀ q ∈ hkCT1, Cond.methodLink (hkOwnS q.1) q.2.1 (hkN q.2.2.1) ∈ lw_tbl := hkMapI (ix := fun q => q.2.2.2.getD 0 0) (by rfl)
set_option maxRecDepth 100000 in
theorem hkCT1_b : ∀ q ∈ hkCT1, Cond.instanceMethod (hkN q.2.2.1) ∈ lw_tbl := hkMapI (ix := fun q => q.2.2.2.getD 1 0) (by rfl)
set_option maxRecDepth 100000 in
theorem hkCT1_d : ∀ q ∈ hkCT1, Cond.initialized (hkN q.2.2.1).cls ∈ lw_tbl := hkMapI (ix := fun q => q.2.2.2.getD 2 0) (by rfl)
theorem hkCT1_n : ∀ q ∈ hkCT1, q.2.2.1 < 183 ∧ hkPar q.2.2.1 1 = true ∧ (hkTg q.2.2.1).head? = some 2 ∧ (hkN q.2.2.1).name = "<init>" ∧ hkRt q.2.2.1 = 9 := by decide +kernel
set_option maxRecDepth 100000 in
theorem hkCT3_b : ∀ q ∈ hkCT3, Cond.instanceMethod (hkN q.2.2.1) ∈ lw_tbl := hkMapI (ix := fun q => q.2.2.2.getD 1 0) (by rfl)
set_option maxRecDepth 100000 in
theorem hkCT3_d : ∀ q ∈ hkCT3, Cond.initialized (hkN q.2.2.1).cls ∈ lw_tbl := hkMapI (ix := fun q => q.2.2.2.getD 2 0) (by rfl)
theorem hkCT3_n : ∀ q ∈ hkCT3, q.2.2.1 < 183 ∧ hkPar q.2.2.1 1 = true ∧ (hkTg q.2.2.1).head? = some 2 ∧ (hkN q.2.2.1).name = "<init>" ∧ hkRt q.2.2.1 = 9 := by decide +kernel
set_option maxRecDepth 100000 in
theorem hkCT2_a : ∀ q ∈ hkCT2, Cond.methodLink (hkOwnS q.1) q.2.1 (hkN q.2.2.1) ∈ lw_tbl := hkMapI (ix := fun q => q.2.2.2.getD 0 0) (by rfl)
set_option maxRecDepth 100000 in
theorem hkCT2_b : ∀ q ∈ hkCT2, Cond.static (hkN q.2.2.1) ∈ lw_tbl := hkMapI (ix := fun q => q.2.2.2.getD 1 0) (by rfl)
set_option maxRecDepth 100000 in
theorem hkCT2_d : ∀ q ∈ hkCT2, Cond.initialized (hkN q.2.2.1).cls ∈ lw_tbl := hkMapI (ix := fun q => q.2.2.2.getD 2 0) (by rfl)
theorem hkCT2_n : ∀ q ∈ hkCT2, q.2.2.1 < 183 ∧ hkPar q.2.2.1 0 = true := by decide +kernel
abbrev hkW1 (y : Nat) : List Cond := Cond.code (hkN y) (hkB y) (hkX y) (hkR y) :: hkGt
theorem hkGt_good {w : Cond} (h : w ∈ hkGt) : w ∈ hkGt ∧ ((w.onTables && w.keeps) = true ∨ ∃ ty, w = .arrayClass ty) := ⟨h, good_of_word (List.mem_filter.mp h).2⟩
theorem hkGood {y : Nat} (h : y < 183) (l : List Cond) (hl : ∀ w ∈ l, w ∈ hkGt) : GoodIn hkGt (l ++ hkW1 y) := by
  intro w hw
  rcases List.mem_append.mp hw with hw | hw
  · exact hkGt_good (hl w hw)
  · rcases List.mem_cons.mp hw with rfl | hw
    · exact hkGt_good (hkGt_of (hkCode_w (by omega)) rfl)
    · exact hkGt_good hw
theorem hkNst_w {s U : State} (hW : s.WarmedH U.vm) (h : hkNst s) : hkNst U := ⟨fun q hq => va_Nw.warmM hW (h.1 q hq), va_AO.moved hW.alike h.2.1, va_AO.moved hW.alike h.2.2⟩
theorem hkNst_c {U : State} {g : JFrame} {mk : MethodId} {a : Array Value} (h : hkNst U) : hkNst (U.calling g mk a) := ⟨fun q hq => va_tabs rfl (rfl : U.vm = (U.calling g mk a).vm) (h.1 q hq), va_AO.moved (Vm.Alike.refl U.vm) h.2.1, va_AO.moved (Vm.Alike.refl U.vm) h.2.2⟩
theorem hkPc_blind {dC : Nat → ClassId} {dI : Nat → Nat → Nat} {adr : Nat → Nat} {cA : Nat → ClassId} {tys : List (ClassId × FieldType)} {t : Nat} {g : hkG} {as : List hkV} {sz : Nat} : FrameBlind (hkPc dC dI adr cA tys t g as sz) := by
  intro a U f mk q
  obtain ⟨q0, q1, qP, qK, qD, qN⟩ := q
  exact ⟨q0, q1, qP, va_K.moved (u := U) (U := U.calling f mk a) (Vm.Alike.refl U.vm) qK, qD, hkNst_c qN⟩
section HKN
variable {p : Program} {l : Launch} {e : Env} {R : Room} {s : State} {m : MethodId} {args : Array Value} {below : List Frame} {meth : Method} {c : Code} {Q : State → Prop}
variable {dC : Nat → ClassId} {dI : Nat → Nat → Nat} {y : Nat} {fl : Prop} {b : Nat} {A : Nat → Prop} {adr0 : Nat → Nat} {t0 : Nat}
variable {pc n : Nat} {ls st : List hkV} {t : Nat} {g : hkG} {H : Heap} {locs : List Loc} {adr : Nat → Nat} {cA : Nat → ClassId} {tys : List (ClassId × FieldType)} {lsA : Array Slot} {q : hkC} {i : Instr}
theorem hkPc_at (hF : hkFr p R s m args meth c y fl b A) (hC : hkCx dC dI s y fl b A adr0 t0 (pc, ls, st, t, g) H locs adr cA tys lsA) (as : List hkV) : ∀ U : State, U.heap = H → s.WarmedH U.vm → hkPc dC dI adr cA tys t g as H.size (as.map (hkVal adr 0)).toArray U := by
  intro U hU hW
  exact ⟨rfl, by rw [hU], by rw [hU]; exact hC.1, va_K.moved hW.alike hC.2.1, hC.2.2.1.weaken (fun _ _ _ _ => trivial), hkNst_w hW hF.2.2.2.2.2.2.2.2.1⟩
/-- behind a call -/
theorem hkCallW {r : Option hkV} {t' : Nat} {g' : hkG} {rest : List hkV} {a : Array Value} {stA : List Value} (hF : hkFr p R s m args meth c y fl b A) (hC : hkCx dC dI s y fl b A adr0 t0 (pc, ls, st, t, g) H locs adr cA tys lsA)
    (hr : va_Run p l e R s m args below meth c H locs (hkNX t - hkNX t0) (hkNS t - hkNS t0) (hkNX t' - hkNX t) (hkNS t' - hkNS t) (F0 m pc lsA stA) (rest.map (hkVal adr b)) (hkQc dC dI adr t r t' g' (va_A (hkWs adr cA t g) H.size) a) (va_A (hkWs adr cA t g) H.size))
    (htt : t ≤ t') (hneg : ∀ z : Int, z < 0 → g' z = g z) (hrest : ∀ v ∈ rest, v ∈ st) (hn : hkNext p l e R s m args below meth c Q dC dI y fl b A adr0 t0 (pc + 3, ls, hkPush r rest, t', g')) :
    W p l e R s m args below meth c H locs (hkNX t - hkNX t0) (hkNS t - hkNS t0) Q (F0 m pc lsA stA) := by
  have hA := hF.2.2.2.2.2.2.2.2.2.1
  obtain ⟨a1, a2, a3, a4, a5, a6, a7, a8, a9, a10, a11, a12, a13, a14⟩ := hC
  simp only at a1 a3 a5 a6 a7 a8 a9 a10 a11 a12 a14
  have hsub : ∀ z, va_A (hkWs adr cA t g) H.size z → A z := by
    rintro z (⟨k, x, hk⟩ | hz)
    · exact a3.2 k _ hk
    · exact hA z (Nat.le_trans a4.1 hz)
  intro T hT X
  obtain ⟨v, st₀, u, T', L, h0, X', hL, e1, e2, ⟨⟨adr', cA', tys', hv, ha, hP, hK, hD, hty, hg, hro, ht⟩, hz, hk⟩, stp⟩ := hr T hT X
  rw [h0] at hz hk
  have hv' : v = r.map (hkVal adr' 0) := by simpa using hv
  have hmx := hkNX_mono htt
  have hms := hkNS_mono htt
  have hm0 := hkNX_mono a11
  have hs0 := hkNS_mono a11
  have hvals : rest.map (hkVal adr b) = rest.map (hkVal adr' b) := List.map_congr_left fun w hw => (hkVal_congr (Or.inl (a10 w (hrest w hw))) ha).symm
  have hstack : v.toList ++ rest.map (hkVal adr b) = (hkPush r rest).map (hkVal adr' b) := by
    rw [hv', hvals]
    cases r with
    | none => rfl
    | some w =>
      show [hkVal adr' 0 w] ++ _ = hkVal adr' b w :: _
      rw [hkVal_b (b' := b) (hro w rfl)]; rfl
  have K := hn T'.heap (locs ++ L) adr' cA' tys' lsA ⟨by rw [e1]; exact hP, va_K.moved (by rw [← e2]; exact X'.warmed.alike.symm) hK, hD.weaken (fun _ _ _ h => hsub _ h),
    ⟨Nat.le_trans a4.1 (by rw [e1]; exact hz), fun z h1 h2 => by rw [e1, hk z (Nat.lt_of_lt_of_le h1 a4.1) (fun h => h2 (hsub z h))]; exact a4.2.1 z h1 h2, fun z hz => by
      rcases List.mem_append.mp hz with h | h
      · exact a4.2.2 z h
      · exact hsub _ (hL z h)⟩,
    hty, hg, hkLv_congr a7 a9 ha, a8, fun w hw => (a9 w hw).imp (fun h => hkOK_mono h htt) (fun h => h), ?_, Nat.le_trans a11 htt, ht, fun z hz => by rw [ha z (Nat.lt_of_lt_of_le hz hm0)]; exact a13 z hz, fun h L xs hX => by
      obtain ⟨b1, b2, b3⟩ := a14 h L xs hX
      simp only at b1 b3 ⊢
      rw [hneg (-2) (by decide), hneg (-1) (by decide)]
      exact ⟨b1, b2, b3⟩⟩
  · simp only at K
    rw [show hkNX t' - hkNX t0 = hkNX t - hkNX t0 + (hkNX t' - hkNX t) from by omega, show hkNS t' - hkNS t0 = hkNS t - hkNS t0 + (hkNS t' - hkNS t) from by omega, ← hstack] at K
    obtain ⟨t2, b1, b2⟩ := K T' rfl X'
    exact ⟨t2, stp t2 b1, b2⟩
  · intro w hw
    cases r with
    | none => exact hkOK_mono (a10 w (hrest w hw)) htt
    | some w' =>
      rcases List.mem_cons.mp hw with rfl | hw
      · rcases hro _ rfl with h | h | h | ⟨-, h⟩
        · exact Or.inl h
        · exact Or.inr (Or.inl h)
        · exact Or.inr (Or.inr (Or.inl h))
        · exact h.elim
      · exact hkOK_mono (a10 w (hrest w hw)) htt
end HKN
