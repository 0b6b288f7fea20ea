/-! the tables of classes, links and constants: what they bring (by program: wip/whole/gen_cls.py) -/
def hkTT : Nat → u_T := fun ci => match ci with
  | 0 => hkT0
  | 1 => hkT1
  | 2 => hkT2
  | 3 => hkT3
  | 4 => hkT4
  | 5 => hkT5
  | 6 => hkT6
  | 7 => hkT7
  | 8 => hkT8
  | 9 => hkT9
  | _ => hkT10
def hkYY : Nat → (Nat → FieldType) := fun ci => match ci with
  | 0 => hkY0
  | 1 => hkY1
  | 2 => hkY2
  | 3 => hkY3
  | 4 => hkY4
  | 5 => hkY5
  | 6 => hkY6
  | 7 => hkY7
  | 8 => hkY8
  | 9 => hkY9
  | _ => hkY10
def hkNF (ci : Nat) : Nat := (hkFTs.getD ci []).length
theorem hkCl_ok {ci : Nat} (h : ci < 11) : hkCl[ci]? = some (hkOwnS ci, hkTT ci, hkNF ci) := by
  match ci, h with
  | 0, _ => rfl
  | 1, _ => rfl
  | 2, _ => rfl
  | 3, _ => rfl
  | 4, _ => rfl
  | 5, _ => rfl
  | 6, _ => rfl
  | 7, _ => rfl
  | 8, _ => rfl
  | 9, _ => rfl
  | 10, _ => rfl
theorem hkYok_ok {ci : Nat} (h : ci < 11) : ∀ k, k < hkNF ci → parseFieldDescriptor (hkTT ci k).2.2.1 = some (hkYY ci k) := by
  match ci, h with
  | 0, _ => exact hkYok0
  | 1, _ => exact hkYok1
  | 2, _ => exact hkYok2
  | 3, _ => exact hkYok3
  | 4, _ => exact hkYok4
  | 5, _ => exact hkYok5
  | 6, _ => exact hkYok6
  | 7, _ => exact hkYok7
  | 8, _ => exact hkYok8
  | 9, _ => exact hkYok9
  | 10, _ => exact hkYok10
theorem hkNm_ok {ci : Nat} (h : ci < 11) : ∀ a, a < hkNF ci → ∀ b, b < hkNF ci → a ≠ b → (hkTT ci a).2.1 ≠ (hkTT ci b).2.1 := by
  match ci, h with
  | 0, _ => exact hkNm0
  | 1, _ => exact hkNm1
  | 2, _ => exact hkNm2
  | 3, _ => exact hkNm3
  | 4, _ => exact hkNm4
  | 5, _ => exact hkNm5
  | 6, _ => exact hkNm6
  | 7, _ => exact hkNm7
  | 8, _ => exact hkNm8
  | 9, _ => exact hkNm9
  | 10, _ => exact hkNm10
theorem hkWs_ok {ci : Nat} (h : ci < 11) : ∀ w ∈ u_ws (hkOwnS ci) (hkTT ci) (hkNF ci), w ∈ lw_tbl := by
  match ci, h with
  | 0, _ => exact hkWs0
  | 1, _ => exact hkWs1
  | 2, _ => exact hkWs2
  | 3, _ => exact hkWs3
  | 4, _ => exact hkWs4
  | 5, _ => exact hkWs5
  | 6, _ => exact hkWs6
  | 7, _ => exact hkWs7
  | 8, _ => exact hkWs8
  | 9, _ => exact hkWs9
  | 10, _ => exact hkWs10
theorem hkU_good {C : String} {T : u_T} {N : Nat} : ∀ w ∈ u_ws C T N, goodWord w = true := by
  intro w hw
  unfold u_ws at hw
  obtain ⟨k, -, rfl⟩ := List.mem_map.mp hw
  unfold u_lay
  split <;> rfl
theorem hkWs_gt {ci : Nat} (h : ci < 11) : ∀ w ∈ u_ws (hkOwnS ci) (hkTT ci) (hkNF ci), w ∈ hkGt := fun w hw => hkGt_of (hkWs_ok h w hw) (hkU_good w hw)
def hkTyOk (ci k : Nat) : Bool := match hkFT ci k, hkYY ci k, (hkTT ci k).2.2.2, decide ((hkTT ci k).1 = hkOwnS ci) with
  | 0, .int, false, true => true
  | 3, .boolean, false, true => true
  | 2, .object _, true, true => true
  | 2, .array _, true, true => true
  | _, _, _, _ => false
theorem hkTyAll : ∀ ci, ci < 11 → ∀ k, k < hkNF ci → hkTyOk ci k = true := by decide +kernel
theorem hkFT0 {ci k : Nat} (h : ci < 11) (hk : k < hkNF ci) (hf : hkFT ci k = 0) : hkYY ci k = .int ∧ (hkTT ci k).2.2.2 = false := by
  have h1 := hkTyAll ci h k hk
  unfold hkTyOk at h1
  split at h1 <;> first | (rename_i e1 e2 e3 e4; exact ⟨e2, e3⟩) | (rename_i e1 e2 e3 e4; rw [hf] at e1; cases e1) | cases h1
theorem hkFT3 {ci k : Nat} (h : ci < 11) (hk : k < hkNF ci) (hf : hkFT ci k = 3) : hkYY ci k = .boolean ∧ (hkTT ci k).2.2.2 = false := by
  have h1 := hkTyAll ci h k hk
  unfold hkTyOk at h1
  split at h1 <;> first | (rename_i e1 e2 e3 e4; rw [hf] at e1; cases e1; done) | (rename_i e1 e2 e3 e4; exact ⟨e2, e3⟩) | cases h1
theorem hkFT2 {ci k : Nat} (h : ci < 11) (hk : k < hkNF ci) (hf : hkFT ci k = 2) : ((∃ n, hkYY ci k = .object n) ∨ (∃ n, hkYY ci k = .array n)) ∧ (hkTT ci k).2.2.2 = true ∧ (hkTT ci k).1 = hkOwnS ci := by
  have h1 := hkTyAll ci h k hk
  unfold hkTyOk at h1
  split at h1 <;> first | (rename_i e1 e2 e3 e4; rw [hf] at e1; cases e1; done) | (rename_i e1 e2 e3 e4; exact ⟨Or.inl ⟨_, e2⟩, e3, of_decide_eq_true e4⟩) | (rename_i e1 e2 e3 e4; exact ⟨Or.inr ⟨_, e2⟩, e3, of_decide_eq_true e4⟩) | cases h1
theorem hkFT_lt {ci k : Nat} (hk : ¬ k < hkNF ci) : hkFT ci k = 9 := by
  unfold hkFT; unfold hkNF at hk
  rw [List.getD_eq_getElem?_getD, List.getElem?_eq_none (by omega)]; rfl
theorem hkMapI {α : Type} {l : List α} {ix : α → Nat} {w : α → Cond} (h : l.map (fun q => lw_tbl[ix q]?) = l.map (fun q => some (w q))) : ∀ q ∈ l, w q ∈ lw_tbl := by
  intro q hq
  have h2 := List.map_inj_left.mp h q hq
  exact List.mem_of_getElem? h2
set_option maxRecDepth 100000 in
set_option maxHeartbeats 4000000 in
theorem hkFL_w : ∀ q ∈ hkFL, Cond.fieldLink (hkOwnS q.1) q.2.1 (hkTT q.2.2.1 q.2.2.2.1).1 (hkTT q.2.2.1 q.2.2.2.1).2.1 (hkTT q.2.2.1 q.2.2.2.1).2.2.1 ∈ lw_tbl := hkMapI (ix := fun q => q.2.2.2.2) (by rfl)
theorem hkFL_n : ∀ q ∈ hkFL, q.2.2.1 < 11 ∧ q.2.2.2.1 < hkNF q.2.2.1 := by decide +kernel
theorem hkFind_inv {α β : Type} {l : List α} {f : α → Bool} {h : α → β} {r : β} (e : (l.find? f).map h = some r) : ∃ q ∈ l, f q = true ∧ h q = r := by
  cases hf : l.find? f with
  | none => rw [hf] at e; cases e
  | some q =>
    rw [hf] at e
    exact ⟨q, List.mem_of_find?_eq_some hf, List.find?_some hf, by simpa using e⟩
theorem hkFld_ok {own idx ci k : Nat} (h : hkFld own idx = some (ci, k)) : ci < 11 ∧ k < hkNF ci ∧ Cond.fieldLink (hkOwnS own) idx (hkTT ci k).1 (hkTT ci k).2.1 (hkTT ci k).2.2.1 ∈ hkGt := by
  unfold hkFld at h
  obtain ⟨q, h1, h2, h3⟩ := hkFind_inv h
  simp only [Bool.and_eq_true, beq_iff_eq] at h2
  simp only [Prod.mk.injEq] at h3
  obtain ⟨e1, e2⟩ := h2
  obtain ⟨e3, e4⟩ := h3
  have a := hkFL_n q h1
  have b := hkGt_of (hkFL_w q h1) rfl
  rw [e1, e2, e3, e4] at b
  rw [e3, e4] at a
  exact ⟨a.1, a.2, b⟩
set_option maxRecDepth 100000 in
theorem hkKI_w : ∀ q ∈ hkKI, Cond.constant (hkOwnS q.1) q.2.1 (Int32.ofInt q.2.2.1) ∈ lw_tbl := hkMapI (ix := fun q => q.2.2.2) (by rfl)
theorem hkKI_n : ∀ q ∈ hkKI, -2147483648 ≤ q.2.2.1 ∧ q.2.2.1 ≤ 2147483647 := by decide +kernel
theorem hkCst_ok {own idx : Nat} {v : Int} (h : hkCst own idx = some v) : hkRng v ∧ Cond.constant (hkOwnS own) idx (Int32.ofInt v) ∈ hkGt := by
  unfold hkCst at h
  obtain ⟨q, h1, h2, h3⟩ := hkFind_inv h
  simp only [Bool.and_eq_true, beq_iff_eq] at h2
  obtain ⟨e1, e2⟩ := h2
  have a := hkKI_n q h1
  have b := hkGt_of (hkKI_w q h1) rfl
  rw [e1, e2, h3] at b
  rw [h3] at a
  exact ⟨a, b⟩
set_option maxRecDepth 100000 in
theorem hkKJ_w : ∀ q ∈ hkKJ, Cond.constantLong (hkOwnS q.1) q.2.1 (Int64.ofInt q.2.2.1) ∈ lw_tbl := hkMapI (ix := fun q => q.2.2.2) (by rfl)
theorem hkKJ_n : ∀ q ∈ hkKJ, -9223372036854775808 ≤ q.2.2.1 ∧ q.2.2.1 ≤ 9223372036854775807 := by decide +kernel
theorem hkCsl_ok {own idx : Nat} {v : Int} (h : hkCsl own idx = some v) : hkRngL v ∧ Cond.constantLong (hkOwnS own) idx (Int64.ofInt v) ∈ hkGt := by
  unfold hkCsl at h
  obtain ⟨q, h1, h2, h3⟩ := hkFind_inv h
  simp only [Bool.and_eq_true, beq_iff_eq] at h2
  obtain ⟨e1, e2⟩ := h2
  have a := hkKJ_n q h1
  have b := hkGt_of (hkKJ_w q h1) rfl
  rw [e1, e2, h3] at b
  rw [h3] at a
  exact ⟨a, b⟩
set_option maxRecDepth 100000 in
theorem hkCN_w : ∀ q ∈ hkCN, Cond.classLink (hkOwnS q.1) q.2.1 (hkOwnS q.2.2.1) ∈ lw_tbl := hkMapI (ix := fun q => q.2.2.2) (by rfl)
theorem hkCls_ok {own idx ci : Nat} (h : hkCls own idx = some ci) : Cond.classLink (hkOwnS own) idx (hkOwnS ci) ∈ hkGt := by
  unfold hkCls at h
  obtain ⟨q, h1, h2, h3⟩ := hkFind_inv h
  simp only [Bool.and_eq_true, beq_iff_eq] at h2
  obtain ⟨e1, e2⟩ := h2
  have b := hkGt_of (hkCN_w q h1) rfl
  rw [e1, e2, h3] at b
  exact b
set_option maxRecDepth 100000 in
theorem hkIns_w : ∀ ci, ci < 11 → Cond.instantiable (hkOwnS ci) (hkNF ci) ∈ hkGt ∧ Cond.initialized (hkOwnS ci) ∈ hkGt := by
  intro ci h
  match ci, h with
  | 0, _ => exact ⟨hkGt_i (i := 78) rfl rfl, hkGt_i (i := 62) rfl rfl⟩
  | 1, _ => exact ⟨hkGt_i (i := 86) rfl rfl, hkGt_i (i := 63) rfl rfl⟩
  | 2, _ => exact ⟨hkGt_i (i := 178) rfl rfl, hkGt_i (i := 67) rfl rfl⟩
  | 3, _ => exact ⟨hkGt_i (i := 205) rfl rfl, hkGt_i (i := 68) rfl rfl⟩
  | 4, _ => exact ⟨hkGt_i (i := 254) rfl rfl, hkGt_i (i := 70) rfl rfl⟩
  | 5, _ => exact ⟨hkGt_i (i := 280) rfl rfl, hkGt_i (i := 71) rfl rfl⟩
  | 6, _ => exact ⟨hkGt_i (i := 297) rfl rfl, hkGt_i (i := 72) rfl rfl⟩
  | 7, _ => exact ⟨hkGt_i (i := 304) rfl rfl, hkGt_i (i := 73) rfl rfl⟩
  | 8, _ => exact ⟨hkGt_i (i := 353) rfl rfl, hkGt_i (i := 74) rfl rfl⟩
  | 9, _ => exact ⟨hkGt_i (i := 377) rfl rfl, hkGt_i (i := 75) rfl rfl⟩
  | 10, _ => exact ⟨hkGt_i (i := 818) rfl rfl, hkGt_i (i := 76) rfl rfl⟩
theorem hkArr_int : Cond.arrayClass .int ∈ hkGt := hkGt_i (i := 176) rfl rfl
theorem hkArr_long : Cond.arrayClass .long ∈ hkGt := hkGt_i (i := 295) rfl rfl
set_option maxRecDepth 100000 in
theorem hkArr_bool : Cond.arrayClass .boolean ∈ hkGt := hkGt_i (i := 960) rfl rfl
