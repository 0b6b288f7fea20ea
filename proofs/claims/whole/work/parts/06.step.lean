/-! one instruction of the pure machine is one of the machine -/
section HKS
variable {p : Program} {l : Launch} {e : Env} {R : Room} {s : State} {m : MethodId} {args : Array Value} {below : List Frame} {meth : Method} {c : Code} {Q : State → Prop}
variable {dC : Nat → ClassId} {dI : Nat → Nat → Nat} {y : Nat} {fl : Prop} {b : Nat} {A : Nat → Prop} {adr0 : Nat → Nat} {t0 : Nat}
/-- from a point on, whatever stands for it, the machine comes to Q -/
def hkNext (p : Program) (l : Launch) (e : Env) (R : Room) (s : State) (m : MethodId) (args : Array Value) (below : List Frame) (meth : Method) (c : Code) (Q : State → Prop) (dC : Nat → ClassId) (dI : Nat → Nat → Nat) (y : Nat) (fl : Prop) (b : Nat) (A : Nat → Prop) (adr0 : Nat → Nat) (t0 : Nat) (q : hkC) : Prop :=
  ∀ (H : Heap) (locs : List Loc) (adr : Nat → Nat) (cA : Nat → ClassId) (tys : List (ClassId × FieldType)) (lsA : Array Slot), hkCx dC dI s y fl b A adr0 t0 q H locs adr cA tys lsA →
    W p l e R s m args below meth c H locs (hkNX q.2.2.2.1 - hkNX t0) (hkNS q.2.2.2.1 - hkNS t0) Q (F0 m q.1 lsA (q.2.2.1.map (hkVal adr b)))
/-- the same world, other locals or stack -/
theorem hkCx_st {pc pc' : Nat} {ls st ls' st' : List hkV} {t : Nat} {g : hkG} {H : Heap} {locs : List Loc} {adr : Nat → Nat} {cA : Nat → ClassId} {tys : List (ClassId × FieldType)} {lsA lsA' : Array Slot}
    (h : hkCx dC dI s y fl b A adr0 t0 (pc, ls, st, t, g) H locs adr cA tys lsA) (h1 : lv_has lsA' (hkX y) (hkLv adr b ls')) (h2 : ls'.length = hkX y) (h3 : ∀ v ∈ ls', hkOK fl t v ∨ v.1 = 9) (h4 : ∀ v ∈ st', hkOK fl t v) : hkCx dC dI s y fl b A adr0 t0 (pc', ls', st', t, g) H locs adr cA tys lsA' := by
  obtain ⟨a1, a2, a3, a4, a5, a6, -, -, -, -, a11, a12, a13, a14⟩ := h
  exact ⟨a1, a2, a3, a4, a5, a6, h1, h2, h3, h4, a11, a12, a13, a14⟩
theorem hkCx_s {pc pc' : Nat} {ls st st' : List hkV} {t : Nat} {g : hkG} {H : Heap} {locs : List Loc} {adr : Nat → Nat} {cA : Nat → ClassId} {tys : List (ClassId × FieldType)} {lsA : Array Slot}
    (h : hkCx dC dI s y fl b A adr0 t0 (pc, ls, st, t, g) H locs adr cA tys lsA) (h4 : ∀ v ∈ st', hkOK fl t v) : hkCx dC dI s y fl b A adr0 t0 (pc', ls, st', t, g) H locs adr cA tys lsA := by
  obtain ⟨a1, a2, a3, a4, a5, a6, a7, a8, a9, -, a11, a12, a13, a14⟩ := h
  exact ⟨a1, a2, a3, a4, a5, a6, a7, a8, a9, h4, a11, a12, a13, a14⟩
theorem hkFetch_spec {pc : Nat} {i : Instr} {n : Nat} (h : hkFetch y pc = some (i, n)) : decode (hkB y) pc = .ok (i, n) ∧ (hkLen i = n ∨ hkLen i = 0) := by
  unfold hkFetch at h
  split at h
  · rename_i i' n' hd
    split at h
    · rename_i hl
      cases h
      exact ⟨hd, hl⟩
    · cases h
  · cases h
theorem hkFetch_at {pc : Nat} {i : Instr} {n k : Nat} (h : hkFetch y pc = some (i, n)) (hl : hkLen i = k + 1) : n = k + 1 ∧ decode (hkB y) pc = .ok (i, k + 1) := by
  obtain ⟨h1, h2⟩ := hkFetch_spec h
  have e : n = k + 1 := by omega
  subst e
  exact ⟨rfl, h1⟩
theorem hkGo_inv {pc : Nat} {ls st : List hkV} {t : Nat} {g : hkG} {q : hkC} (h : hkGo pc ls st t g = some (.inl q)) : q = (pc, ls, st, t, g) := by
  unfold hkGo at h; simp at h; exact h.symm
theorem hkChk_inv {cd : Prop} {r : hkO} {z} (h : hkChk cd r = some z) : cd ∧ r = some z := by
  unfold hkChk at h
  split at h
  · rename_i hc; exact ⟨hc, h⟩
  · cases h
theorem hkOK_i {t : Nat} {x : Int} (h : hkOK fl t (0, x)) : hkRng x := by
  rcases h with ⟨-, h⟩ | ⟨h, -⟩ | ⟨h, -⟩ | ⟨h, -⟩ <;> first | exact h | (exact absurd h (by simp))
theorem hkOK_l {t : Nat} {x : Int} (h : hkOK fl t (1, x)) : hkRngL x := by
  rcases h with ⟨h, -⟩ | ⟨-, h⟩ | ⟨h, -⟩ | ⟨h, -⟩ <;> first | exact h | (exact absurd h (by simp))
theorem hkOK_r {t : Nat} {x : Int} (h : hkOK fl t (2, x)) : 0 ≤ x ∧ x.toNat < hkNX t := by
  rcases h with ⟨h, -⟩ | ⟨h, -⟩ | ⟨-, h⟩ | ⟨h, -⟩ <;> first | exact h | (exact absurd h (by simp))
theorem hkOK_s {t : Nat} {x : Int} (h : hkOK fl t (4, x)) : fl := by
  rcases h with ⟨h, -⟩ | ⟨h, -⟩ | ⟨h, -⟩ | ⟨-, h⟩ <;> first | exact h | (exact absurd h (by simp))
theorem hkOKi {t : Nat} {x : Int} (h : hkRng x) : hkOK fl t (0, x) := Or.inl ⟨rfl, h⟩
theorem hkOKl {t : Nat} {x : Int} (h : hkRngL x) : hkOK fl t (1, x) := Or.inr (Or.inl ⟨rfl, h⟩)
theorem hkOKr {t x : Nat} (h : x < hkNX t) : hkOK fl t (2, (x : Int)) := Or.inr (Or.inr (Or.inl ⟨rfl, by simp, by simpa using h⟩))
theorem hkOKu {t : Nat} {v : hkV} {P : Prop} (h : P) (_ : hkOK fl t v) : P := h
/-- a value is pushed -/
theorem hkS_push {pc pc' : Nat} {ls st : List hkV} {t : Nat} {g : hkG} {H : Heap} {locs : List Loc} {adr : Nat → Nat} {cA : Nat → ClassId} {tys : List (ClassId × FieldType)} {lsA : Array Slot} {v : hkV} {st' : List hkV}
    (h : hkCx dC dI s y fl b A adr0 t0 (pc, ls, st, t, g) H locs adr cA tys lsA) (hv : hkOK fl t v) (hst : ∀ w ∈ st', w ∈ st) (hn : hkNext p l e R s m args below meth c Q dC dI y fl b A adr0 t0 (pc', ls, v :: st', t, g)) :
    W p l e R s m args below meth c H locs (hkNX t - hkNX t0) (hkNS t - hkNS t0) Q (F0 m pc' lsA (hkVal adr b v :: st'.map (hkVal adr b))) := by
  refine hn H locs adr cA tys lsA (hkCx_s h ?_)
  intro w hw
  rcases List.mem_cons.mp hw with rfl | hw
  · exact hv
  · exact h.2.2.2.2.2.2.2.2.2.1 w (hst w hw)
end HKS
