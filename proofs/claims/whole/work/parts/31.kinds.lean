/-! rules of the kinds of instruction that look into the tables -/
def jA (p : Int) (k : Nat) : Nat := hkAT p.toNat k
def jR (p : Int) (k : Nat) : Int := ((hkRF p.toNat k : Nat) : Int)
def jL (p : Int) : Int := ((hkLn p.toNat : Nat) : Int)
def jAi (p i : Int) : Nat := hkAT p.toNat i.toNat
def jRi (p i : Int) : Int := ((hkRF p.toNat i.toNat : Nat) : Int)
def hkC8 (st : List hkV) : Prop := (st.map hkCat).sum ≤ 8
section XR
variable {y d pc len : Nat} {ls st : List hkV} {t : Nat} {g : hkG} {Q : Option hkV → Nat → hkG → Prop} {i : Instr} {p x v z w a b : Int} {ci k idx f : Nat}
theorem xr_getI (hf : hkFetch y pc = some (.getfield idx, 3)) (hk : hkFld (hkOwn y) idx = some (ci, k)) (h2 : hkFT ci k ≠ 2) : Xp y d pc ls ((2, p) :: st) t g Q = (hkJK p = ci ∧ Xp y d (pc + 3) ls ((0, g p k) :: st) t g Q) :=
  Xp_chk hf (by simp only [hkPx, hkGetf, hk]; rw [if_neg h2])
theorem xr_getR (hf : hkFetch y pc = some (.getfield idx, 3)) (hk : hkFld (hkOwn y) idx = some (ci, k)) (h2 : hkFT ci k = 2) : Xp y d pc ls ((2, p) :: st) t g Q = (hkJK p = ci ∧ jA p k ≤ t ∧ Xp y d (pc + 3) ls ((2, jR p k) :: st) t g Q) := by
  have hp : hkPx y (.getfield idx) 3 (pc, ls, (2, p) :: st, t, g) = hkChk (hkJK p = ci) (hkChk (hkAT p.toNat k ≤ t) (hkGo (pc + 3) ls ((2, (hkRF p.toNat k : Int)) :: st) t g)) := by
    simp only [hkPx, hkGetf, hk]; rw [if_pos h2]
  by_cases hc : hkJK p = ci
  · rw [Xp_chk hf (hp.trans (by unfold hkChk; rw [if_pos hc]))]
    simp only [hc, true_and]; rfl
  · rw [Xp_none hf (hp.trans (by unfold hkChk; rw [if_neg hc]))]
    simp [hc]
theorem xr_putI (hf : hkFetch y pc = some (.putfield idx, 3)) (hk : hkFld (hkOwn y) idx = some (ci, k)) (h2 : hkFT ci k = 0) : Xp y d pc ls ((0, x) :: (2, p) :: st) t g Q = (hkJK p = ci ∧ Xp y d (pc + 3) ls st t (hkSet g p k x) Q) :=
  Xp_chk hf (by simp only [hkPx, hkPutf, hk]; rw [if_pos h2])
theorem xr_putB (hf : hkFetch y pc = some (.putfield idx, 3)) (hk : hkFld (hkOwn y) idx = some (ci, k)) (h2 : hkFT ci k = 3) : Xp y d pc ls ((0, x) :: (2, p) :: st) t g Q = (hkJK p = ci ∧ (x = 0 ∨ x = 1) ∧ Xp y d (pc + 3) ls st t (hkSet g p k x) Q) := by
  have hp : hkPx y (.putfield idx) 3 (pc, ls, (0, x) :: (2, p) :: st, t, g) = hkChk (hkJK p = ci) (hkChk (x = 0 ∨ x = 1) (hkGo (pc + 3) ls st t (hkSet g p k x))) := by
    simp only [hkPx, hkPutf, hk]; rw [if_neg (by omega), if_pos h2]
  by_cases hc : hkJK p = ci
  · rw [Xp_chk hf (hp.trans (by unfold hkChk; rw [if_pos hc]))]
    simp only [hc, true_and]
  · rw [Xp_none hf (hp.trans (by unfold hkChk; rw [if_neg hc]))]
    simp [hc]
theorem xr_putR (hf : hkFetch y pc = some (.putfield idx, 3)) (hk : hkFld (hkOwn y) idx = some (ci, k)) (h2 : hkFT ci k = 2) (ho : hkOwn y = ci) (hn : (hkN y).name = "<init>") : Xp y d pc ls ((2, v) :: (2, p) :: st) t g Q = (hkJK p = ci ∧ hkEV[t]? = some (1, p.toNat, k, v.toNat) ∧ Xp y d (pc + 3) ls st (t + 1) g Q) := by
  rw [Xp_chk hf (by simp only [hkPx, hkPutf, hk]; rw [if_pos h2])]
  simp only [ho, hn, true_and, and_assoc]
theorem xr_new (hf : hkFetch y pc = some (.new idx, 3)) (hk : hkCls (hkOwn y) idx = some ci) (h2 : ci < 11) : Xp y d pc ls st t g Q = (∃ P z w, hkEV[t]? = some (0, P, z, w) ∧ hkKd P = ci ∧ Xp y d (pc + 3) ls ((2, (P : Int)) :: st) (t + 1) g Q) := by
  have hp : hkPx y (.new idx) 3 (pc, ls, st, t, g) = hkNew ci (pc + 3) none ls st t g := by
    simp only [hkPx, hk]; rw [if_pos h2]
  unfold hkNew at hp
  split at hp
  · rename_i P z w hE
    rw [Xp_chk hf hp]
    simp [hE]
  · rename_i hE
    rw [Xp_none hf hp]
    apply propext
    refine ⟨fun h => h.elim, ?_⟩
    rintro ⟨P, z, w, h, -⟩
    exact (hE P z w h).elim
theorem xr_newa {ty : ArrayType} (hf : hkFetch y pc = some (.newarray ty, 2)) (h2 : hkAtC ty = ci) (h3 : ci < 200) : Xp y d pc ls ((0, x) :: st) t g Q = (∃ P z w, hkEV[t]? = some (0, P, z, w) ∧ hkKd P = ci ∧ x = jL (P : Int) ∧ Xp y d (pc + 2) ls ((2, (P : Int)) :: st) (t + 1) g Q) := by
  have hp : hkPx y (.newarray ty) 2 (pc, ls, (0, x) :: st, t, g) = hkNew ci (pc + 2) (some x) ls st t g := by
    simp only [hkPx]; rw [if_pos (by omega), h2]
  unfold hkNew at hp
  split at hp
  · rename_i P z w hE
    rw [Xp_chk hf hp]
    simp [hE, jL, and_assoc]
  · rename_i hE
    rw [Xp_none hf hp]
    apply propext
    refine ⟨fun h => h.elim, ?_⟩
    rintro ⟨P, z, w, h, -⟩
    exact (hE P z w h).elim
theorem xr_newq (hf : hkFetch y pc = some (.anewarray idx, 3)) (hk : hkCls (hkOwn y) idx = some f) (h2 : (f = 7 ∧ ci = 103) ∨ (f = 9 ∧ ci = 104)) : Xp y d pc ls ((0, x) :: st) t g Q = (∃ P z w, hkEV[t]? = some (0, P, z, w) ∧ hkKd P = ci ∧ x = jL (P : Int) ∧ Xp y d (pc + 3) ls ((2, (P : Int)) :: st) (t + 1) g Q) := by
  have hp : hkPx y (.anewarray idx) 3 (pc, ls, (0, x) :: st, t, g) = hkNew ci (pc + 3) (some x) ls st t g := by
    rcases h2 with ⟨rfl, rfl⟩ | ⟨rfl, rfl⟩ <;> simp only [hkPx, hk]
  unfold hkNew at hp
  split at hp
  · rename_i P z w hE
    rw [Xp_chk hf hp]
    simp [hE, jL, and_assoc]
  · rename_i hE
    rw [Xp_none hf hp]
    apply propext
    refine ⟨fun h => h.elim, ?_⟩
    rintro ⟨P, z, w, h, -⟩
    exact (hE P z w h).elim
theorem xr_ldc (hf : hkFetch y pc = some (.ldc idx, 2)) (hk : hkCst (hkOwn y) idx = some v) : Xp y d pc ls st t g Q = Xp y d (pc + 2) ls ((0, v) :: st) t g Q := Xp_go hf (by simp only [hkPx, hk])
theorem xr_ldcw (hf : hkFetch y pc = some (.ldc_w idx, 3)) (hk : hkCst (hkOwn y) idx = some v) : Xp y d pc ls st t g Q = Xp y d (pc + 3) ls ((0, v) :: st) t g Q := Xp_go hf (by simp only [hkPx, hk])
theorem xr_ldc2 (hf : hkFetch y pc = some (.ldc2_w idx, 3)) (hk : hkCsl (hkOwn y) idx = some v) : Xp y d pc ls st t g Q = Xp y d (pc + 3) ls ((1, v) :: st) t g Q := Xp_go hf (by simp only [hkPx, hk])
theorem xr_const {c v : Int} (hf : hkFetch y pc = some (.iconst c, 1)) (hv : hkW c = v) : Xp y d pc ls st t g Q = Xp y d (pc + 1) ls ((0, v) :: st) t g Q := Xp_go hf (by rw [← hv]; rfl)
theorem xr_bi {c v : Int} (hf : hkFetch y pc = some (.bipush c, 2)) (hv : Int.bmod c 256 = v) : Xp y d pc ls st t g Q = Xp y d (pc + 2) ls ((0, v) :: st) t g Q := Xp_go hf (by rw [← hv]; rfl)
theorem xr_si {c v : Int} (hf : hkFetch y pc = some (.sipush c, 3)) (hv : Int.bmod c 65536 = v) : Xp y d pc ls st t g Q = Xp y d (pc + 3) ls ((0, v) :: st) t g Q := Xp_go hf (by rw [← hv]; rfl)
theorem xr_if1 {cd : ClassFile.Cond} {off : Int} {tgt : Nat} (hf : hkFetch y pc = some (.ifCond cd off, 3)) (ht : (pc : Int) + off = tgt) : Xp y d pc ls ((0, a) :: st) t g Q = ((hkHolds cd a 0 → Xp y d tgt ls st t g Q) ∧ (¬ hkHolds cd a 0 → Xp y d (pc + 3) ls st t g Q)) :=
  Xp_br hf (by simp only [hkPx]; rw [if_pos (by omega), show ((pc : Int) + off).toNat = tgt from by omega])
theorem xr_if2 {cd : ClassFile.Cond} {off : Int} {tgt : Nat} (hf : hkFetch y pc = some (.if_icmp cd off, 3)) (ht : (pc : Int) + off = tgt) : Xp y d pc ls ((0, b) :: (0, a) :: st) t g Q = ((hkHolds cd a b → Xp y d tgt ls st t g Q) ∧ (¬ hkHolds cd a b → Xp y d (pc + 3) ls st t g Q)) :=
  Xp_br hf (by simp only [hkPx]; rw [if_pos (by omega), show ((pc : Int) + off).toNat = tgt from by omega])
theorem xh_eq : hkHolds .eq a b = (a = b) := rfl
theorem xh_ne : hkHolds .ne a b = ¬ (a = b) := rfl
theorem xh_lt : hkHolds .lt a b = (a < b) := rfl
theorem xh_ge : hkHolds .ge a b = (b ≤ a) := rfl
theorem xh_gt : hkHolds .gt a b = (b < a) := rfl
theorem xh_le : hkHolds .le a b = (a ≤ b) := rfl
theorem xr_goto {off : Int} {tgt : Nat} (hf : hkFetch y pc = some (.goto off, 3)) (ht : (pc : Int) + off = tgt) : Xp y d pc ls st t g Q = Xp y d tgt ls st t g Q :=
  Xp_go hf (by simp only [hkPx, hkTgt]; rw [if_pos (by omega), show ((pc : Int) + off).toNat = tgt from by omega])
theorem xr_sw {dflt lo hi : Int} {offs : Array Int} {tgt : Nat} {off : Int} (hf : hkFetch y pc = some (.tableswitch dflt lo hi offs, len)) (hs : hkSw a dflt lo hi offs = some off) (ht : (pc : Int) + off = tgt) : Xp y d pc ls ((0, a) :: st) t g Q = Xp y d tgt ls st t g Q :=
  Xp_go hf (by simp only [hkPx, hs, hkTgt]; rw [if_pos (by omega), show ((pc : Int) + off).toNat = tgt from by omega])
theorem xr_swd {dflt lo hi : Int} {offs : Array Int} {tgt : Nat} (hf : hkFetch y pc = some (.tableswitch dflt lo hi offs, len)) (hs : a < lo ∨ hi < a) (ht : (pc : Int) + dflt = tgt) : Xp y d pc ls ((0, a) :: st) t g Q = Xp y d tgt ls st t g Q :=
  xr_sw hf (off := dflt) (by unfold hkSw; rw [if_pos hs]) ht
theorem xr_inv2 {cd : Prop} {y' pc' : Nat} {as rest : List hkV} {n : Nat} {en : List hkV} (hf : hkFetch y pc = some (i, len)) (hp : hkPx y i len (pc, ls, st, t, g) = hkChk cd (if (rest.map hkCat).sum ≤ 8 then some (.inr (.inl (y', as, pc', ls, rest))) else none)) (he : hkEnt (hkX y') as = en) : Xp y (d + 1) pc ls st t g Q = (cd ∧ hkC8 rest ∧ Xp y' d 0 en [] t g (fun r t' g' => Xp y (d + 1) pc' ls (hkPush r rest) t' g' Q)) := by
  subst he
  by_cases hc : cd
  · by_cases h8 : (rest.map hkCat).sum ≤ 8
    · rw [Xp_call hf (hp.trans (by unfold hkChk; rw [if_pos hc, if_pos h8]))]
      simp [hc, hkC8, h8]
    · rw [Xp_none hf (hp.trans (by unfold hkChk; rw [if_pos hc, if_neg h8]))]
      simp [hkC8, h8]
  · rw [Xp_none hf (hp.trans (by unfold hkChk; rw [if_neg hc]))]
    simp [hc]
theorem xr_invV {y' : Nat} {as rest en : List hkV} {o : Int} {tg : List Nat} (hf : hkFetch y pc = some (.invokevirtual idx, 3)) (hfi : hkFind hkCT0 (hkOwn y) idx = some y') (ho : hkOwn y' = ci) (htg : hkTg y' = tg) (hpop : hkPop tg.reverse st = some (as, rest)) (hh : hkFst as = o) (he : hkEnt (hkX y') as = en) : Xp y (d + 1) pc ls st t g Q = (hkJK o = ci ∧ hkC8 rest ∧ Xp y' d 0 en [] t g (fun r t' g' => Xp y (d + 1) (pc + 3) ls (hkPush r rest) t' g' Q)) := by
  subst htg
  exact xr_inv2 (n := 0) hf (by simp only [hkPx, hfi, hkInvV, hpop, ho, hh]) he
theorem xr_invP {y' : Nat} {as rest en : List hkV} {tg : List Nat} (hf : hkFetch y pc = some (.invokespecial idx, 3)) (hfi : hkFind hkCT1 (hkOwn y) idx = some y' ∨ (hkFind hkCT1 (hkOwn y) idx = none ∧ hkFind hkCT3 (hkOwn y) idx = some y')) (htg : hkTg y' = tg) (hpop : hkPop tg.reverse st = some (as, rest)) (he : hkEnt (hkX y') as = en) : Xp y (d + 1) pc ls st t g Q = (hkC8 rest ∧ Xp y' d 0 en [] t g (fun r t' g' => Xp y (d + 1) (pc + 3) ls (hkPush r rest) t' g' Q)) := by
  subst htg
  rw [xr_inv2 (n := 0) (cd := True) (rest := rest) (pc' := pc + 3) (y' := y') (as := as) hf (by rcases hfi with h | ⟨h1, h2⟩ <;> simp [hkPx, *, hkInv, hpop, hkChk]) he]
  simp
theorem xr_invS {y' : Nat} {as rest en : List hkV} {tg : List Nat} (hf : hkFetch y pc = some (.invokestatic idx, 3)) (hfi : hkFind hkCT2 (hkOwn y) idx = some y') (htg : hkTg y' = tg) (hpop : hkPop tg.reverse st = some (as, rest)) (he : hkEnt (hkX y') as = en) : Xp y (d + 1) pc ls st t g Q = (hkC8 rest ∧ Xp y' d 0 en [] t g (fun r t' g' => Xp y (d + 1) (pc + 3) ls (hkPush r rest) t' g' Q)) := by
  subst htg
  rw [xr_inv2 (n := 0) (cd := True) (rest := rest) (pc' := pc + 3) (y' := y') (as := as) hf (by simp [hkPx, hfi, hkInv, hpop, hkChk]) he]
  simp
theorem xr_obj (hf : hkFetch y pc = some (.invokespecial idx, 3)) (h1 : hkFind hkCT1 (hkOwn y) idx = none) (h3 : hkFind hkCT3 (hkOwn y) idx = none) (h4 : hkFind hkCT4 (hkOwn y) idx = some f) : Xp y d pc ls ((2, p) :: st) t g Q = (hkC8 st ∧ Xp y d (pc + 3) ls st t g Q) := by
  by_cases h8 : (st.map hkCat).sum ≤ 8
  · rw [Xp_go hf (by simp only [hkPx, h1, h3, h4]; rw [if_pos h8])]
    simp [hkC8, h8]
  · rw [Xp_none hf (by simp only [hkPx, h1, h3, h4]; rw [if_neg h8])]
    simp [hkC8, h8]
theorem xr_copy {q' i' j k' : Int} (hf : hkFetch y pc = some (.invokestatic idx, 3)) (h2 : hkFind hkCT2 (hkOwn y) idx = none) (h5 : hkFind hkCT5 (hkOwn y) idx = some f) : Xp y d pc ls ((0, k') :: (0, j) :: (2, q') :: (0, i') :: (2, p) :: st) t g Q = ((hkJK p = 100 ∧ hkJK q' = 100 ∧ 0 ≤ i' ∧ 0 ≤ j ∧ 0 ≤ k' ∧ i' + k' ≤ jL p ∧ j + k' ≤ jL q') ∧ hkC8 st ∧ Xp y d (pc + 3) ls st t (hkCpy g p i' q' j k') Q) := by
  have hp : hkPx y (.invokestatic idx) 3 (pc, ls, (0, k') :: (0, j) :: (2, q') :: (0, i') :: (2, p) :: st, t, g) = hkChk (hkJK p = 100 ∧ hkJK q' = 100 ∧ 0 ≤ i' ∧ 0 ≤ j ∧ 0 ≤ k' ∧ i' + k' ≤ jL p ∧ j + k' ≤ jL q') (if (st.map hkCat).sum ≤ 8 then hkGo (pc + 3) ls st t (hkCpy g p i' q' j k') else none) := by
    simp only [hkPx, h2, h5]; rfl
  by_cases h8 : (st.map hkCat).sum ≤ 8
  · rw [if_pos h8] at hp
    rw [Xp_chk hf hp]
    simp [hkC8, h8]
  · rw [if_neg h8] at hp
    rw [Xp_none hf (hp.trans (by unfold hkChk; split <;> rfl))]
    simp [hkC8, h8]
theorem xr_retI (hf : hkFetch y pc = some (.ireturn, 1)) (h : hkRt y = 0) : Xp y d pc ls [(0, x)] t g Q = Q (some (0, x)) t g := Xp_ret hf (by simp only [hkPx]; rw [if_pos h])
theorem xr_retZ (hf : hkFetch y pc = some (.ireturn, 1)) (h : hkRt y = 3) : Xp y d pc ls [(0, x)] t g Q = ((x = 0 ∨ x = 1) ∧ Q (some (0, x)) t g) := by
  by_cases hx : x = 0 ∨ x = 1
  · rw [Xp_ret hf (by simp only [hkPx]; rw [if_neg (by omega), if_pos h]; unfold hkChk; rw [if_pos hx])]
    simp [hx]
  · rw [Xp_none hf (by simp only [hkPx]; rw [if_neg (by omega), if_pos h]; unfold hkChk; rw [if_neg hx])]
    simp [hx]
theorem xr_retL (hf : hkFetch y pc = some (.lreturn, 1)) (h : hkRt y = 1) : Xp y d pc ls [(1, x)] t g Q = Q (some (1, x)) t g := Xp_ret hf (by simp only [hkPx]; rw [if_pos h])
theorem xr_retV (hf : hkFetch y pc = some (.return_, 1)) (h : hkRt y = 9) : Xp y d pc ls [] t g Q = Q none t g := Xp_ret hf (by simp only [hkPx]; rw [if_pos h])
end XR
