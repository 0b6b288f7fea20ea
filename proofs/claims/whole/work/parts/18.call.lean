/-! a call, by its kind -/
section HKN
variable {p : Program} {l : Launch} {e : Env} {R : Room} {s : State} {m : MethodId} {args : Array Value} {below : List Frame} {meth : Method} {c : Code} {Q : State → Prop}
variable {dC : Nat → ClassId} {dI : Nat → Nat → Nat} {y : Nat} {fl : Prop} {b : Nat} {A : Nat → Prop} {adr0 : Nat → Nat} {t0 : Nat}
variable {pc n : Nat} {ls st : List hkV} {t : Nat} {g : hkG} {H : Heap} {locs : List Loc} {adr : Nat → Nat} {cA : Nat → ClassId} {tys : List (ClassId × FieldType)} {lsA : Array Slot} {q : hkC} {i : Instr}
theorem hkCall_inv {z : hkK} (h : hkPx y i n (pc, ls, st, t, g) = some (.inr (.inl z))) : (∃ idx y', i = .invokevirtual idx ∧ hkFind hkCT0 (hkOwn y) idx = some y' ∧ hkInvV y' (pc + n) ls st = some (.inr (.inl z))) ∨ (∃ idx y', i = .invokespecial idx ∧ hkFind hkCT1 (hkOwn y) idx = some y' ∧ hkInv y' (pc + n) ls st = some (.inr (.inl z))) ∨ (∃ idx y', i = .invokespecial idx ∧ hkFind hkCT3 (hkOwn y) idx = some y' ∧ hkInv y' (pc + n) ls st = some (.inr (.inl z))) ∨ (∃ idx y', i = .invokestatic idx ∧ hkFind hkCT2 (hkOwn y) idx = some y' ∧ hkInv y' (pc + n) ls st = some (.inr (.inl z))) := by
  have KG : ∀ {pc' : Nat} {ls' st' : List hkV} {t' : Nat} {g' : hkG} {r : hkK}, hkGo pc' ls' st' t' g' = some (.inr (.inl r)) → False := by
    intro pc' ls' st' t' g' r h
    unfold hkGo at h; simp at h
  have KC : ∀ {cd : Prop} {z : hkO} {r : hkK}, hkChk cd z = some (.inr (.inl r)) → z = some (.inr (.inl r)) := fun h => (hkChk_inv h).2
  have KT : ∀ {pc' : Nat} {off : Int} {ls' st' : List hkV} {t' : Nat} {g' : hkG} {r : hkK}, hkTgt pc' off ls' st' t' g' = some (.inr (.inl r)) → False := by
    intro pc' off ls' st' t' g' r h
    unfold hkTgt at h
    split at h
    · exact KG h
    · cases h
  have KN : ∀ {kd pc' : Nat} {x : Option Int} {ls' st' : List hkV} {t' : Nat} {g' : hkG} {r : hkK}, hkNew kd pc' x ls' st' t' g' = some (.inr (.inl r)) → False := by
    intro kd pc' x ls' st' t' g' r h
    unfold hkNew at h
    split at h
    · exact KG (KC h)
    · cases h
  have KS : ∀ {i k pc' : Nat} {v : hkV} {ls' st' : List hkV} {t' : Nat} {g' : hkG} {r : hkK}, hkSt i k pc' ls' v st' t' g' = some (.inr (.inl r)) → False := by
    intro i k pc' v ls' st' t' g' r h
    unfold hkSt at h
    split at h
    · exact KG (KC h)
    · cases h
  cases i <;> simp only [hkPx] at h <;> first
    | (cases h; done)
    | exact (KG h).elim
    | exact (KT h).elim
    | (exfalso; unfold hkLd at h; split at h <;> first | (cases h; done) | (split at h <;> first | (cases h; done) | exact KG h))
    | (exfalso; unfold hkLdA at h; split at h <;> first | (cases h; done) | (split at h <;> first | (cases h; done) | exact KG h))
    | (exfalso; unfold hkBin at h; split at h <;> first | (cases h; done) | exact KG h)
    | (exfalso; unfold hkBinL at h; split at h <;> first | (cases h; done) | exact KG h)
    | (exfalso; unfold hkUn at h; split at h <;> first | (cases h; done) | (split at h <;> first | (cases h; done) | exact KG h))
    | (exfalso; unfold hkAld at h; split at h <;> first | (cases h; done) | exact KG (KC h) | (split at h <;> first | (cases h; done) | exact KG (KC h)))
    | (exfalso; unfold hkAst at h; split at h <;> first | (cases h; done) | (split at h <;> first | (cases h; done) | exact KG (KC h)))
    | (exfalso; unfold hkGetf at h; split at h <;> first | (cases h; done) | (have h := KC h; split at h <;> first | exact KG h | exact KG (KC h)))
    | (exfalso; unfold hkPutf at h; split at h <;> first | (cases h; done) | (have h := KC h; split at h <;> first | exact KG h | (split at h <;> first | (cases h; done) | exact KG (KC h))) | (split at h <;> first | (cases h; done) | exact KG (KC h)))
    | (exfalso; split at h <;> first | (cases h; done) | exact KG h | exact KS h | exact KN h | exact KG (KC h) | (split at h <;> first | (cases h; done) | exact KT h | exact KN h | (rcases hkBr_inv h with ⟨-, h⟩ | ⟨-, h⟩ <;> exact KG h) | (split at h <;> first | (cases h; done) | exact KG h | (split at h <;> first | (cases h; done) | exact KG h))))
    | skip
  all_goals first
    | (exfalso; split at h <;> first | (cases h; done) | (simp at h; done) | (split at h <;> first | (cases h; done) | (simp at h; done) | (split at h <;> first | (cases h; done) | (have h := KC h; simp at h; done))))
    | skip
  · split at h
    · rename_i y' hy
      exact Or.inr (Or.inl ⟨_, y', rfl, hy, h⟩)
    · split at h
      · rename_i y' hy
        exact Or.inr (Or.inr (Or.inl ⟨_, y', rfl, hy, h⟩))
      · exfalso
        split at h <;> first | (cases h; done) | skip
        split at h <;> first | (cases h; done) | exact KG h
  · split at h
    · rename_i y' hy
      exact Or.inr (Or.inr (Or.inr ⟨_, y', rfl, hy, h⟩))
    · exfalso
      split at h <;> first | (cases h; done) | skip
      have h := KC h
      split at h
      · exact KG h
      · cases h
  · split at h
    · rename_i y' hy
      exact Or.inl ⟨_, y', rfl, hy, h⟩
    · cases h
end HKN
