/-! the instructions, group by group -/
section HKT
variable {p : Program} {l : Launch} {e : Env} {R : Room} {s : State} {m : MethodId} {args : Array Value} {below : List Frame} {meth : Method} {c : Code} {Q : State → Prop}
variable {dC : Nat → ClassId} {dI : Nat → Nat → Nat} {y : Nat} {fl : Prop} {b : Nat} {A : Nat → Prop} {adr0 : Nat → Nat} {t0 : Nat}
variable {pc n : Nat} {ls st : List hkV} {t : Nat} {g : hkG} {H : Heap} {locs : List Loc} {adr : Nat → Nat} {cA : Nat → ClassId} {tys : List (ClassId × FieldType)} {lsA : Array Slot} {q : hkC} {i : Instr}
theorem hkS_const (hF : hkFr p R s m args meth c y fl b A) (hC : hkCx dC dI s y fl b A adr0 t0 (pc, ls, st, t, g) H locs adr cA tys lsA) (hd : hkFetch y pc = some (i, n)) (hp : hkPx y i n (pc, ls, st, t, g) = some (.inl q)) (hn : hkNext p l e R s m args below meth c Q dC dI y fl b A adr0 t0 q)
    (hi : (∃ x, i = .iconst x) ∨ (∃ x, i = .bipush x) ∨ (∃ x, i = .sipush x) ∨ (∃ x, i = .lconst x) ∨ (∃ x, i = .ldc x) ∨ (∃ x, i = .ldc_w x) ∨ (∃ x, i = .ldc2_w x)) : W p l e R s m args below meth c H locs (hkNX t - hkNX t0) (hkNS t - hkNS t0) Q (F0 m pc lsA (st.map (hkVal adr b))) := by
  obtain ⟨hx, hb, hr, hml, hown, hts, -⟩ := hF
  rcases hi with ⟨x, rfl⟩ | ⟨x, rfl⟩ | ⟨x, rfl⟩ | ⟨x, rfl⟩ | ⟨x, rfl⟩ | ⟨x, rfl⟩ | ⟨x, rfl⟩ <;> obtain ⟨rfl, hde⟩ := hkFetch_at hd rfl <;> simp only [hkPx] at hp
  · obtain rfl := hkGo_inv hp
    exact lv_iconst (v := Int32.ofInt (hkW x)) hx hb hde (hkI_w x).symm (hkS_push hC (hkOKi (hkW_rng x)) (fun _ h => h) hn)
  · obtain rfl := hkGo_inv hp
    exact lv_bipush hx hb hde (hkI_bi x) (hkS_push hC (hkOKi (hkBm8_rng x)) (fun _ h => h) hn)
  · obtain rfl := hkGo_inv hp
    exact lv_sipush hx hb hde (hkI_si x) (hkS_push hC (hkOKi (hkBm16_rng x)) (fun _ h => h) hn)
  · obtain rfl := hkGo_inv hp
    refine lv_lconst (v := Int64.ofInt ((x : Nat) : Int)) hx hb hde ?_ (hkS_push hC (hkOKl ?_) (fun _ h => h) hn)
    · rw [Int64.ofInt_eq_ofNat]
    · have := x.isLt; unfold hkRngL; omega
  · split at hp
    · rename_i v hv
      obtain rfl := hkGo_inv hp
      obtain ⟨h1, h2⟩ := hkCst_ok hv
      exact lv_ldc hx hb hown (hts _ h2) hde (hkS_push hC (hkOKi h1) (fun _ h => h) hn)
    · cases hp
  · split at hp
    · rename_i v hv
      obtain rfl := hkGo_inv hp
      obtain ⟨h1, h2⟩ := hkCst_ok hv
      exact lv_ldcw hx hb hown (hts _ h2) hde (hkS_push hC (hkOKi h1) (fun _ h => h) hn)
    · cases hp
  · split at hp
    · rename_i v hv
      obtain rfl := hkGo_inv hp
      obtain ⟨h1, h2⟩ := hkCsl_ok hv
      exact lv_ldc2 hx hb hown (hts _ h2) hde (hkS_push hC (hkOKl h1) (fun _ h => h) hn)
    · cases hp
theorem hkLd_inv {tg k pc' : Nat} (h : hkLd tg k pc' ls st t g = some (.inl q)) : ∃ x, ls[k]? = some (tg, x) ∧ q = (pc', ls, (tg, x) :: st, t, g) := by
  unfold hkLd at h
  split at h
  · rename_i v hv
    split at h
    · rename_i e
      exact ⟨v.2, by rw [hv, ← e], by rw [hkGo_inv h, ← e]⟩
    · cases h
  · cases h
theorem hkLdA_inv {k pc' : Nat} (h : hkLdA k pc' ls st t g = some (.inl q)) : ∃ v, ls[k]? = some v ∧ (v.1 = 2 ∨ v.1 = 4) ∧ q = (pc', ls, v :: st, t, g) := by
  unfold hkLdA at h
  split at h
  · rename_i v hv
    split at h
    · rename_i e
      exact ⟨v, hv, e, hkGo_inv h⟩
    · cases h
  · cases h
theorem hkCx_l (hC : hkCx dC dI s y fl b A adr0 t0 (pc, ls, st, t, g) H locs adr cA tys lsA) {k : Nat} {v : hkV} (h : ls[k]? = some v) (h9 : v.1 ≠ 9) : lsA[k]? = some (.val (hkVal adr b v)) ∧ hkOK fl t v := by
  refine ⟨hkLv_get hC.2.2.2.2.2.2.1 h h9, ?_⟩
  rcases hC.2.2.2.2.2.2.2.2.1 v (List.mem_of_getElem? h) with h1 | h1
  · exact h1
  · exact absurd h1 h9
theorem hkS_load (hF : hkFr p R s m args meth c y fl b A) (hC : hkCx dC dI s y fl b A adr0 t0 (pc, ls, st, t, g) H locs adr cA tys lsA) (hd : hkFetch y pc = some (i, n)) (hp : hkPx y i n (pc, ls, st, t, g) = some (.inl q)) (hn : hkNext p l e R s m args below meth c Q dC dI y fl b A adr0 t0 q)
    (hi : (∃ x, i = .iload x) ∨ (∃ x, i = .iload_n x) ∨ (∃ x, i = .lload x) ∨ (∃ x, i = .lload_n x) ∨ (∃ x, i = .aload x) ∨ (∃ x, i = .aload_n x)) : W p l e R s m args below meth c H locs (hkNX t - hkNX t0) (hkNS t - hkNS t0) Q (F0 m pc lsA (st.map (hkVal adr b))) := by
  obtain ⟨hx, hb, hr, hml, hown, hts, -⟩ := hF
  rcases hi with ⟨x, rfl⟩ | ⟨x, rfl⟩ | ⟨x, rfl⟩ | ⟨x, rfl⟩ | ⟨x, rfl⟩ | ⟨x, rfl⟩ <;> obtain ⟨rfl, hde⟩ := hkFetch_at hd rfl <;> simp only [hkPx] at hp
  · obtain ⟨v, h1, rfl⟩ := hkLd_inv hp
    obtain ⟨h2, h3⟩ := hkCx_l hC h1 (by simp)
    exact lv_iload hx hb hde h2 (hkS_push hC h3 (fun _ h => h) hn)
  · obtain ⟨v, h1, rfl⟩ := hkLd_inv hp
    obtain ⟨h2, h3⟩ := hkCx_l hC h1 (by simp)
    exact lv_iload_n hx hb hde rfl h2 (hkS_push hC h3 (fun _ h => h) hn)
  · obtain ⟨v, h1, rfl⟩ := hkLd_inv hp
    obtain ⟨h2, h3⟩ := hkCx_l hC h1 (by simp)
    exact lv_lload hx hb hde h2 (hkS_push hC h3 (fun _ h => h) hn)
  · obtain ⟨v, h1, rfl⟩ := hkLd_inv hp
    obtain ⟨h2, h3⟩ := hkCx_l hC h1 (by simp)
    exact lv_lload_n hx hb hde rfl h2 (hkS_push hC h3 (fun _ h => h) hn)
  · obtain ⟨⟨tg, v⟩, h1, h2, rfl⟩ := hkLdA_inv hp
    rcases h2 with h2 | h2 <;> (simp only at h2; subst h2)
    · obtain ⟨h2, h3⟩ := hkCx_l hC h1 (by simp)
      exact lv_aload hx hb hde h2 (hkS_push hC h3 (fun _ h => h) hn)
    · obtain ⟨h2, h3⟩ := hkCx_l hC h1 (by simp)
      exact lv_aload hx hb hde h2 (hkS_push hC h3 (fun _ h => h) hn)
  · obtain ⟨⟨tg, v⟩, h1, h2, rfl⟩ := hkLdA_inv hp
    rcases h2 with h2 | h2 <;> (simp only at h2; subst h2)
    · obtain ⟨h2, h3⟩ := hkCx_l hC h1 (by simp)
      exact lv_aload_n hx hb hde rfl h2 (hkS_push hC h3 (fun _ h => h) hn)
    · obtain ⟨h2, h3⟩ := hkCx_l hC h1 (by simp)
      exact lv_aload_n hx hb hde rfl h2 (hkS_push hC h3 (fun _ h => h) hn)
theorem hkSt_inv {i k pc' : Nat} {v : hkV} (h : hkSt i k pc' ls v st t g = some (.inl q)) : i + k < ls.length ∧ hkPv ls i ∧ q = (pc', (if k = 0 then ls.set i v else (ls.set i v).set (i + 1) hkU), st, t, g) := by
  unfold hkSt at h
  split at h
  · rename_i hi
    obtain ⟨h1, h2⟩ := hkChk_inv h
    exact ⟨hi, h1, hkGo_inv h2⟩
  · cases h
theorem hkS_st1 (hC : hkCx dC dI s y fl b A adr0 t0 (pc, ls, st, t, g) H locs adr cA tys lsA) {k pc' : Nat} {v : hkV} {st' : List hkV} (hv : hkOK fl t v) (hst : ∀ w ∈ st', w ∈ st) (hi : k < ls.length) (hp : hkPv ls k) (hn : hkNext p l e R s m args below meth c Q dC dI y fl b A adr0 t0 (pc', ls.set k v, st', t, g)) :
    ∀ ls' : Array Slot, lv_has ls' (hkX y) ((k, hkVal adr b v) :: (hkLv adr b ls).filter (fun q => !(q.1 == k) && !(q.1 + 1 == k && q.2.category == 2))) → W p l e R s m args below meth c H locs (hkNX t - hkNX t0) (hkNS t - hkNS t0) Q (F0 m pc' ls' (st'.map (hkVal adr b))) := by
  intro ls' h
  refine hn H locs adr cA tys ls' (hkCx_st hC (hkLv_st h hp hi) ?_ ?_ (fun w hw => hC.2.2.2.2.2.2.2.2.2.1 w (hst w hw)))
  · rw [List.length_set]; exact hC.2.2.2.2.2.2.2.1
  · intro w hw
    rcases List.mem_or_eq_of_mem_set hw with h1 | h1
    · exact hC.2.2.2.2.2.2.2.2.1 w h1
    · exact Or.inl (h1 ▸ hv)
theorem hkS_st2 (hC : hkCx dC dI s y fl b A adr0 t0 (pc, ls, st, t, g) H locs adr cA tys lsA) {k pc' : Nat} {v : hkV} {st' : List hkV} (hv : hkOK fl t v) (hst : ∀ w ∈ st', w ∈ st) (hi : k + 1 < ls.length) (hp : hkPv ls k) (hn : hkNext p l e R s m args below meth c Q dC dI y fl b A adr0 t0 (pc', (ls.set k v).set (k + 1) hkU, st', t, g)) :
    ∀ ls' : Array Slot, lv_has ls' (hkX y) ((k, hkVal adr b v) :: (hkLv adr b ls).filter (fun q => !(q.1 == k) && (!(q.1 == k + 1) && !(q.1 + 1 == k && q.2.category == 2)))) → W p l e R s m args below meth c H locs (hkNX t - hkNX t0) (hkNS t - hkNS t0) Q (F0 m pc' ls' (st'.map (hkVal adr b))) := by
  intro ls' h
  refine hn H locs adr cA tys ls' (hkCx_st hC (hkLv_st2 h hp hi) ?_ ?_ (fun w hw => hC.2.2.2.2.2.2.2.2.2.1 w (hst w hw)))
  · rw [List.length_set, List.length_set]; exact hC.2.2.2.2.2.2.2.1
  · intro w hw
    rcases List.mem_or_eq_of_mem_set hw with h1 | h1
    · rcases List.mem_or_eq_of_mem_set h1 with h2 | h2
      · exact hC.2.2.2.2.2.2.2.2.1 w h2
      · exact Or.inl (h2 ▸ hv)
    · exact Or.inr (by rw [h1]; rfl)
theorem hkS_store (hF : hkFr p R s m args meth c y fl b A) (hC : hkCx dC dI s y fl b A adr0 t0 (pc, ls, st, t, g) H locs adr cA tys lsA) (hd : hkFetch y pc = some (i, n)) (hp : hkPx y i n (pc, ls, st, t, g) = some (.inl q)) (hn : hkNext p l e R s m args below meth c Q dC dI y fl b A adr0 t0 q)
    (hi : (∃ x, i = .istore x) ∨ (∃ x, i = .istore_n x) ∨ (∃ x, i = .lstore x) ∨ (∃ x, i = .lstore_n x) ∨ (∃ x, i = .astore x) ∨ (∃ x, i = .astore_n x) ∨ (∃ x z, i = .iinc x z)) : W p l e R s m args below meth c H locs (hkNX t - hkNX t0) (hkNS t - hkNS t0) Q (F0 m pc lsA (st.map (hkVal adr b))) := by
  obtain ⟨hx, hb, hr, hml, hown, hts, -⟩ := hF
  have hlen := hC.2.2.2.2.2.2.2.1
  have hlv := hC.2.2.2.2.2.2.1
  have hstk := hC.2.2.2.2.2.2.2.2.2.1
  simp only at hlen hlv hstk
  rcases hi with ⟨x, rfl⟩ | ⟨x, rfl⟩ | ⟨x, rfl⟩ | ⟨x, rfl⟩ | ⟨x, rfl⟩ | ⟨x, rfl⟩ | ⟨x, z, rfl⟩ <;> obtain ⟨rfl, hde⟩ := hkFetch_at hd rfl <;> simp only [hkPx] at hp <;> split at hp <;> first | (cases hp; done) | skip
  · obtain ⟨h1, h2, rfl⟩ := hkSt_inv hp
    exact lv_istore hx hb hde hlv (by omega) rfl (hkS_st1 hC (hstk _ List.mem_cons_self) (fun _ h => List.mem_cons_of_mem _ h) h1 h2 hn)
  · obtain ⟨h1, h2, rfl⟩ := hkSt_inv hp
    exact lv_istore_n hx hb hde rfl hlv (by omega) rfl (hkS_st1 hC (hstk _ List.mem_cons_self) (fun _ h => List.mem_cons_of_mem _ h) h1 h2 hn)
  · obtain ⟨h1, h2, rfl⟩ := hkSt_inv hp
    exact lv_lstore hx hb hde hlv (by omega) rfl (hkS_st2 hC (hstk _ List.mem_cons_self) (fun _ h => List.mem_cons_of_mem _ h) h1 h2 hn)
  · obtain ⟨h1, h2, rfl⟩ := hkSt_inv hp
    exact lv_lstore_n hx hb hde rfl hlv (by omega) rfl (hkS_st2 hC (hstk _ List.mem_cons_self) (fun _ h => List.mem_cons_of_mem _ h) h1 h2 hn)
  · obtain ⟨h1, h2, rfl⟩ := hkSt_inv hp
    exact lv_astore hx hb hde hlv (by omega) rfl (hkS_st1 hC (hstk _ List.mem_cons_self) (fun _ h => List.mem_cons_of_mem _ h) h1 h2 hn)
  · obtain ⟨h1, h2, rfl⟩ := hkSt_inv hp
    exact lv_astore_n hx hb hde rfl hlv (by omega) rfl (hkS_st1 hC (hstk _ List.mem_cons_self) (fun _ h => List.mem_cons_of_mem _ h) h1 h2 hn)
  · rename_i a ha
    obtain ⟨h1, h2, rfl⟩ := hkSt_inv hp
    obtain ⟨h3, h4⟩ := hkCx_l hC ha (by simp)
    have hm : (x, hkVal adr b (0, a)) ∈ hkLv adr b ls := hkLv_mem.mpr ⟨_, ha, by simp, rfl⟩
    obtain ⟨k, hk⟩ := List.getElem?_of_mem hm
    refine lv_iinc (v := Int32.ofInt (hkW (a + z))) hx hb hde hlv hk ?_ (by omega) rfl (hkS_st1 hC (hkOKi (hkW_rng _)) (fun _ h => h) h1 h2 hn)
    rw [hkI_w, Int32.ofInt_add]
end HKT
