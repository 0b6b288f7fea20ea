/-! the run, frame by frame -/
section HKN
variable {p : Program} {l : Launch} {e : Env} {R : Room} {s : State} {m : MethodId} {args : Array Value} {below : List Frame} {meth : Method} {c : Code} {Q : State → Prop}
variable {dC : Nat → ClassId} {dI : Nat → Nat → Nat} {y : Nat} {fl : Prop} {b : Nat} {A : Nat → Prop} {adr0 : Nat → Nat} {t0 : Nat}
variable {pc n : Nat} {ls st : List hkV} {t : Nat} {g : hkG} {H : Heap} {locs : List Loc} {adr : Nat → Nat} {cA : Nat → ClassId} {tys : List (ClassId × FieldType)} {lsA : Array Slot} {q : hkC} {i : Instr}
/-- what is done at the method's end -/
def hkRet (p : Program) (l : Launch) (e : Env) (R : Room) (s : State) (m : MethodId) (args : Array Value) (below : List Frame) (meth : Method) (c : Code) (Q : State → Prop) (dC : Nat → ClassId) (dI : Nat → Nat → Nat) (y : Nat) (fl : Prop) (b : Nat) (A : Nat → Prop) (adr0 : Nat → Nat) (t0 : Nat) (rF : Option hkV) (tF : Nat) (gF : hkG) : Prop :=
  ∀ (i : Instr) (n pc : Nat) (ls st : List hkV) (H : Heap) (locs : List Loc) (adr : Nat → Nat) (cA : Nat → ClassId) (tys : List (ClassId × FieldType)) (lsA : Array Slot), hkFetch y pc = some (i, n) → hkPx y i n (pc, ls, st, tF, gF) = some (.inr (.inr rF)) → hkCx dC dI s y fl b A adr0 t0 (pc, ls, st, tF, gF) H locs adr cA tys lsA →
    W p l e R s m args below meth c H locs (hkNX tF - hkNX t0) (hkNS tF - hkNS t0) Q (F0 m pc lsA (st.map (hkVal adr b)))
theorem hkRet_inv {r : Option hkV} (h : hkPx y i n (pc, ls, st, t, g) = some (.inr (.inr r))) : (i = .ireturn ∧ ∃ x, st = [(0, x)] ∧ r = some (0, x) ∧ (hkRt y = 0 ∨ (hkRt y = 3 ∧ (x = 0 ∨ x = 1)))) ∨ (i = .lreturn ∧ ∃ x, st = [(1, x)] ∧ r = some (1, x) ∧ hkRt y = 1) ∨ (i = .return_ ∧ st = [] ∧ r = none ∧ hkRt y = 9) := by
  have KG : ∀ {pc' : Nat} {ls' st' : List hkV} {t' : Nat} {g' : hkG} {r : Option hkV}, hkGo pc' ls' st' t' g' = some (.inr (.inr r)) → False := by
    intro pc' ls' st' t' g' r h
    unfold hkGo at h; simp at h
  have KC : ∀ {cd : Prop} {z : hkO} {r : Option hkV}, hkChk cd z = some (.inr (.inr r)) → z = some (.inr (.inr r)) := fun h => (hkChk_inv h).2
  have KI : ∀ {y' pc' : Nat} {ls' st' : List hkV} {r : Option hkV}, hkInv y' pc' ls' st' = some (.inr (.inr r)) → False := by
    intro y' pc' ls' st' r h
    unfold hkInv at h
    split at h
    · split at h <;> simp at h
    · cases h
  have KV : ∀ {y' pc' : Nat} {ls' st' : List hkV} {r : Option hkV}, hkInvV y' pc' ls' st' = some (.inr (.inr r)) → False := by
    intro y' pc' ls' st' r h
    unfold hkInvV at h
    split at h
    · have h := KC h
      split at h <;> simp at h
    · cases h
  have KT : ∀ {pc' : Nat} {off : Int} {ls' st' : List hkV} {t' : Nat} {g' : hkG} {r : Option hkV}, hkTgt pc' off ls' st' t' g' = some (.inr (.inr r)) → False := by
    intro pc' off ls' st' t' g' r h
    unfold hkTgt at h
    split at h
    · exact KG h
    · cases h
  have KN : ∀ {kd pc' : Nat} {x : Option Int} {ls' st' : List hkV} {t' : Nat} {g' : hkG} {r : Option hkV}, hkNew kd pc' x ls' st' t' g' = some (.inr (.inr r)) → False := by
    intro kd pc' x ls' st' t' g' r h
    unfold hkNew at h
    split at h
    · exact KG (KC h)
    · cases h
  have KS : ∀ {i k pc' : Nat} {v : hkV} {ls' st' : List hkV} {t' : Nat} {g' : hkG} {r : Option hkV}, hkSt i k pc' ls' v st' t' g' = some (.inr (.inr r)) → False := by
    intro i k pc' v ls' st' t' g' r h
    unfold hkSt at h
    split at h
    · exact KG (KC h)
    · cases h
  cases i <;> simp only [hkPx] at h <;> first
    | (cases h; done)
    | exact (KG h).elim
    | exact (KT h).elim
    | exact (KV h).elim
    | (exfalso; unfold hkLd at h; split at h <;> first | (cases h; done) | (split at h <;> first | (cases h; done) | exact KG h))
    | (exfalso; unfold hkLdA at h; split at h <;> first | (cases h; done) | (split at h <;> first | (cases h; done) | exact KG h))
    | (exfalso; unfold hkBin at h; split at h <;> first | (cases h; done) | exact KG h)
    | (exfalso; unfold hkBinL at h; split at h <;> first | (cases h; done) | exact KG h)
    | (exfalso; unfold hkUn at h; split at h <;> first | (cases h; done) | (split at h <;> first | (cases h; done) | exact KG h))
    | (exfalso; unfold hkAld at h; split at h <;> first | (cases h; done) | exact KG (KC h) | (split at h <;> first | (cases h; done) | exact KG (KC h)))
    | (exfalso; unfold hkAst at h; split at h <;> first | (cases h; done) | (split at h <;> first | (cases h; done) | exact KG (KC h)))
    | (exfalso; unfold hkGetf at h; split at h <;> first | (cases h; done) | (have h := KC h; split at h <;> first | exact KG h | exact KG (KC h)))
    | (exfalso; unfold hkPutf at h; split at h <;> first | (cases h; done) | (have h := KC h; split at h <;> first | exact KG h | (split at h <;> first | (cases h; done) | exact KG (KC h))) | (split at h <;> first | (cases h; done) | exact KG (KC h)))
    | (exfalso; split at h <;> first | (cases h; done) | exact KG h | exact KS h | exact KV h | exact KI h | exact KN h | exact KG (KC h) | (split at h <;> first | (cases h; done) | exact KT h | exact KN h | exact KI h | (rcases hkBr_inv h with ⟨-, h⟩ | ⟨-, h⟩ <;> exact KG h) | (split at h <;> first | (cases h; done) | exact KG h | (split at h <;> first | (cases h; done) | exact KG h))))
    | skip
  · exfalso
    split at h
    · exact KI h
    · split at h <;> first | (cases h; done) | skip
      have h := KC h
      split at h
      · exact KG h
      · cases h
  · split at h
    · rename_i x
      split at h
      · rename_i hr
        simp only [Option.some.injEq, Sum.inr.injEq] at h
        exact Or.inl ⟨rfl, x, rfl, h.symm, Or.inl hr⟩
      · split at h
        · rename_i hr
          obtain ⟨h1, h2⟩ := hkChk_inv h
          simp only [Option.some.injEq, Sum.inr.injEq] at h2
          exact Or.inl ⟨rfl, x, rfl, h2.symm, Or.inr ⟨hr, h1⟩⟩
        · cases h
    · cases h
  · split at h
    · rename_i x
      split at h
      · rename_i hr
        simp only [Option.some.injEq, Sum.inr.injEq] at h
        exact Or.inr (Or.inl ⟨rfl, x, rfl, h.symm, hr⟩)
      · cases h
    · cases h
  · split at h
    · split at h
      · rename_i hr
        simp only [Option.some.injEq, Sum.inr.injEq] at h
        exact Or.inr (Or.inr ⟨rfl, rfl, h.symm, hr⟩)
      · cases h
    · cases h
end HKN
