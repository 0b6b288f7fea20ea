/-! OFTEN of all boxes: no product is all 0, all are small, no turns are below 0 -/
theorem addL_len : ∀ (a b : List Int), a.length = b.length → (addL a b).length = b.length := by
  intro a
  induction a with
  | nil => intro b h; cases b with
    | nil => rfl
    | cons c b => simp at h
  | cons x a ih => intro b h; cases b with
    | nil => simp at h
    | cons c b =>
      rw [List.length_cons, List.length_cons] at h
      unfold addL
      rw [List.length_cons, List.length_cons, ih b (by omega)]
theorem addL_at : ∀ (a b : List Int) (k : Nat), a.length = b.length → (addL a b).getD k 0 = a.getD k 0 + b.getD k 0 := by
  intro a
  induction a with
  | nil => intro b k h; cases b with
    | nil => unfold addL; simp
    | cons c b => simp at h
  | cons x a ih => intro b k h; cases b with
    | nil => simp at h
    | cons c b =>
      rw [List.length_cons, List.length_cons] at h
      unfold addL
      cases k with
      | zero => rfl
      | succ k =>
        rw [List.getD_cons_succ, List.getD_cons_succ, List.getD_cons_succ]
        exact ih b k (by omega)
theorem smulL_len {c : Int} : ∀ a : List Int, (smulL c a).length = a.length := by
  intro a
  induction a with
  | nil => rfl
  | cons x a ih => unfold smulL; rw [List.length_cons, List.length_cons, ih]
theorem smulL_at {c : Int} : ∀ (a : List Int) (k : Nat), (smulL c a).getD k 0 = c * a.getD k 0 := by
  intro a
  induction a with
  | nil => intro k; unfold smulL; simp
  | cons x a ih =>
    intro k
    unfold smulL
    cases k with
    | zero => rfl
    | succ k => rw [List.getD_cons_succ, List.getD_cons_succ]; exact ih k
theorem ordV_cong {R N j F : Int} (hb : bxOk R N) : ∀ (m : Nat) (a used q : Int) (v v' : Int → Int) (sg s : Int), 0 ≤ q → q < N → (∀ x : Int, 0 ≤ x → x < 5 → v x = v' x) → 0 ≤ s → s < 5 → ordV R N j F m a used q v sg s = ordV R N j F m a used q v' sg s := by
  obtain ⟨b1, b2, b3, b4⟩ := id hb
  intro m
  induction m with
  | zero => intro a used q v v' sg s _ _ h h0 h5; unfold ordV; rw [h s h0 h5]
  | succ m ih =>
    intro a used q v v' sg s hq0 hq h h0 h5
    rw [ordV_s, ordV_s]
    refine congrArg List.sum (List.map_congr_left (fun x _ => ?_))
    unfold ordT
    split
    · exact ih _ _ _ _ _ _ _ (Int.emod_nonneg _ (by omega)) (Int.emod_lt_of_pos _ (by omega)) (fun y y0 y5 => mpV_congr hb hq0 hq h) h0 h5
    · rfl
theorem fold_L {f : Nat → Int} {c : Nat → Bool} {c2 : Nat → Prop} [∀ o, Decidable (c2 o)] {X : Nat → List Int} {s : Int} : ∀ l : List Nat, (∀ o ∈ l, (X o).length = 5 ∧ (f o = if c o = false ∧ c2 o then vF (X o) s else 0)) →
    (l.foldr (fun o acc => if c o = false then (if c2 o then addL (X o) acc else acc) else acc) [0, 0, 0, 0, 0]).length = 5 ∧ (l.map f).sum = vF (l.foldr (fun o acc => if c o = false then (if c2 o then addL (X o) acc else acc) else acc) [0, 0, 0, 0, 0]) s := by
  intro l
  induction l with
  | nil =>
    intro _
    refine ⟨rfl, ?_⟩
    show (0 : Int) = vF [0, 0, 0, 0, 0] s
    unfold vF
    match s.toNat with
    | 0 => rfl
    | 1 => rfl
    | 2 => rfl
    | 3 => rfl
    | 4 => rfl
    | k + 5 => rfl
  | cons o l ih =>
    intro h
    obtain ⟨i1, i2⟩ := ih (fun x hx => h x (List.mem_cons_of_mem _ hx))
    obtain ⟨h1, h2⟩ := h o List.mem_cons_self
    rw [List.foldr_cons, List.map_cons, List.sum_cons, h2, i2]
    by_cases e1 : c o = false
    · by_cases e2 : c2 o
      · have e12 : c o = false ∧ c2 o := ⟨e1, e2⟩
        rw [if_pos e12, if_pos e1, if_pos e2]
        refine ⟨by rw [addL_len _ _ (by rw [h1, i1]), i1], ?_⟩
        unfold vF
        rw [addL_at _ _ _ (by rw [h1, i1])]
      · have n12 : ¬ (c o = false ∧ c2 o) := fun h => e2 h.2
        rw [if_neg n12, if_pos e1, if_neg e2]
        exact ⟨i1, by omega⟩
    · have n12 : ¬ (c o = false ∧ c2 o) := fun h => e1 h.1
      rw [if_neg n12, if_neg e1]
      exact ⟨i1, by omega⟩
theorem ordE_V {R N : Nat} (hb : bxOk R N) {j : Int} (hj0 : 0 ≤ j) (hj : j < bxC R N) {F : Nat} (hF : F ≤ 4) {L : List Int} (hL : ∀ a : Nat, a < F → L.getD a 0 = bxL R N j a) : ∀ (m a u q : Nat) (v : List Int) (sg s : Int), a + m = F → u < 16 → q < N → v.length = 5 → 0 ≤ s → s < 5 →
    (ordE (ofT R N) L ((N : Int) - R) N F m a u q v sg).length = 5 ∧ ordV R N j F m a u q (vF v) sg s = vF (ordE (ofT R N) L ((N : Int) - R) N F m a u q v sg) s := by
  obtain ⟨b1, b2, b3, b4⟩ := id hb
  intro m
  induction m with
  | zero =>
    intro a u q v sg s ha hu hq hv hs0 hs5
    unfold ordE ordV
    refine ⟨by rw [smulL_len, hv], ?_⟩
    unfold vF
    rw [smulL_at]
  | succ m ih =>
    intro a u q v sg s ha hu hq hv hs0 hs5
    rw [ordV_s]
    unfold ordE
    have hLa := hL a (by omega)
    refine fold_L (c := fun o => Nat.testBit u o) (c2 := fun o => 0 ≤ L.getD a 0 + o - a ∧ L.getD a 0 + o - a ≤ (N : Int) - R) (X := fun o => ordE (ofT R N) L ((N : Int) - R) N F m (a + 1) (orE u o) ((q + (L.getD a 0 + o - a).toNat) % N) (mpE ((ofT R N).getD q []) (L.getD a 0 + o - a).toNat v) (sg * sgE u o)) (List.range F) (fun o ho => ?_)
    rw [List.mem_range] at ho
    obtain ⟨r1, r2, r3, r4⟩ := orAll u hu o (by omega)
    have I := ih (a + 1) (orE u o) ((q + (L.getD a 0 + o - a).toNat) % N) (mpE ((ofT R N).getD q []) (L.getD a 0 + o - a).toNat v) (sg * sgE u o) s (by omega) r3 (Nat.mod_lt _ (by omega)) rfl hs0 hs5
    refine ⟨I.1, ?_⟩
    unfold ordT
    by_cases e1 : Nat.testBit u o = false
    · by_cases e2 : 0 ≤ L.getD a 0 + o - a ∧ L.getD a 0 + o - a ≤ (N : Int) - R
      · have e3 : hkAnd (hkShr (u : Int) (o : Int)) 1 = 0 ∧ 0 ≤ bxL R N j a + o - a ∧ bxL R N j a + o - a ≤ (N : Int) - R := ⟨r1.2 e1, by omega, by omega⟩
        rw [if_pos e3, if_pos ⟨e1, e2⟩, ← I.2, r2, r4, ← hLa]
        have hn : (((L.getD a 0 + o - a).toNat : Nat) : Int) = L.getD a 0 + o - a := by omega
        have hqq : (((q + (L.getD a 0 + o - a).toNat) % N : Nat) : Int) = ((q : Int) + (L.getD a 0 + o - a)) % N := by
          rw [Int.natCast_emod, Int.natCast_add, hn]
        rw [hqq, show ((a + 1 : Nat) : Int) = (a : Int) + 1 from by omega]
        refine ordV_cong hb _ _ _ _ _ _ _ _ (Int.emod_nonneg _ (by omega)) (Int.emod_lt_of_pos _ (by omega)) (fun x x0 x5 => ?_) hs0 hs5
        have := mpE_V hb hq (n := (L.getD a 0 + o - a).toNat) (by omega) hv x0 x5
        rw [hn] at this
        exact this
      · rw [if_neg (fun h => by omega), if_neg (fun h => e2 h.2)]
    · rw [if_neg (fun h => e1 (r1.1 h.1)), if_neg (fun h => e1 h.1)]
def ofW (R N i j : Nat) : List Int := ordE (ofT R N) [bxL R N j 0, bxL R N j 1, bxL R N j 2, bxL R N j 3] ((N : Int) - R) N (bxF R N j).toNat (bxF R N j).toNat 0 0 (bxQ R N i).toNat [if 0 = bxSl R N i then 1 else 0, if 1 = bxSl R N i then 1 else 0, if 2 = bxSl R N i then 1 else 0, if 3 = bxSl R N i then 1 else 0, if 4 = bxSl R N i then 1 else 0] 1
def ofWB (z : List Int) (Z : Int) (w : List Int) : Bool := w.all (fun x => decide (-10 ≤ x) && decide (x ≤ 10)) && ((List.range z.length).all (fun s => decide (w.getD s 0 = 0) || decide (z.getD s 0 ≤ Z)) && (List.range z.length).any (fun s => !decide (w.getD s 0 = 0)))
def ofB (R N i j : Nat) : Bool := ofWB ((ofZ R N).getD ((bxZ R N i + bxZ R N j) % N).toNat []) (bxZ R N i + bxZ R N j) (ofW R N i j)
def ofZB (R N q : Nat) : Bool := Nat.beq ((ofZ R N).getD q []).length (bxK R N q) && decide (∀ s : Nat, s < bxK R N q → ((ofZ R N).getD q []).getD s 0 = bxZ R N (bxA R N q s))
theorem ofZAll : ∀ R, R < 5 → ∀ N, N < 8 → bxOkB R N = true → ∀ q, q < N → ofZB R N q = true := by decide +kernel
