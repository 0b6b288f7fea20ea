/-! rows of the other nested classes (by program: wip/whole/gen_rows.py) -/
section XROWS
variable {d t : Nat} {ls st : List hkV} {g : hkG} {Q : Option hkV → Nat → hkG → Prop} {v w v0 v1 v2 v3 v4 v5 v6 v7 v8 v9 v10 v11 v12 v13 v14 v15 : hkV} {a b x z p q a0 a1 a2 a3 a4 a5 a6 : Int}
-- 50: HookBoxes$Products.<init>(LHookBoxes$Box;LHookBoxes$Rounder;)V
theorem x_50_0 : Xp 50 d 0 [(2, x), v1, v2] st t g Q = Xp 50 d 1 [(2, x), v1, v2] ((2, x) :: st) t g Q := Xp_go (i := .aload_n 0) (len := 1) (by decide +kernel) rfl
theorem x_50_1 : Xp 50 d 1 ls ((2, p) :: st) t g Q = (hkC8 st ∧ Xp 50 d 4 ls st t g Q) := xr_obj (idx := 5) (f := 183) (by decide +kernel) (by decide +kernel) (by decide +kernel) (by decide +kernel)
theorem x_50_4 : Xp 50 d 4 [(2, x), v1, v2] st t g Q = Xp 50 d 5 [(2, x), v1, v2] ((2, x) :: st) t g Q := Xp_go (i := .aload_n 0) (len := 1) (by decide +kernel) rfl
theorem x_50_5 : Xp 50 d 5 ls st t g Q = Xp 50 d 8 ls ((0, 1225) :: st) t g Q := xr_si (c := 1225) (by decide +kernel) (by decide)
theorem x_50_8 : Xp 50 d 8 ls ((0, x) :: st) t g Q = (∃ P z w, hkEV[t]? = some (0, P, z, w) ∧ hkKd P = 100 ∧ x = jL (P : Int) ∧ Xp 50 d 10 ls ((2, (P : Int)) :: st) (t + 1) g Q) := xr_newa (ty := .int) (ci := 100) (by decide +kernel) (by decide) (by decide)
theorem x_50_10 : Xp 50 d 10 ls ((2, z) :: (2, p) :: st) t g Q = (hkJK p = 3 ∧ hkEV[t]? = some (1, p.toNat, 2, z.toNat) ∧ Xp 50 d 13 ls st (t + 1) g Q) := xr_putR (idx := 11) (ci := 3) (k := 2) (by decide +kernel) (by decide +kernel) (by decide +kernel) (by decide +kernel) (by decide +kernel)
theorem x_50_13 : Xp 50 d 13 [(2, x), v1, v2] st t g Q = Xp 50 d 14 [(2, x), v1, v2] ((2, x) :: st) t g Q := Xp_go (i := .aload_n 0) (len := 1) (by decide +kernel) rfl
theorem x_50_14 : Xp 50 d 14 ls st t g Q = Xp 50 d 17 ls ((0, 6125) :: st) t g Q := xr_si (c := 6125) (by decide +kernel) (by decide)
theorem x_50_17 : Xp 50 d 17 ls ((0, x) :: st) t g Q = (∃ P z w, hkEV[t]? = some (0, P, z, w) ∧ hkKd P = 100 ∧ x = jL (P : Int) ∧ Xp 50 d 19 ls ((2, (P : Int)) :: st) (t + 1) g Q) := xr_newa (ty := .int) (ci := 100) (by decide +kernel) (by decide) (by decide)
theorem x_50_19 : Xp 50 d 19 ls ((2, z) :: (2, p) :: st) t g Q = (hkJK p = 3 ∧ hkEV[t]? = some (1, p.toNat, 3, z.toNat) ∧ Xp 50 d 22 ls st (t + 1) g Q) := xr_putR (idx := 17) (ci := 3) (k := 3) (by decide +kernel) (by decide +kernel) (by decide +kernel) (by decide +kernel) (by decide +kernel)
theorem x_50_22 : Xp 50 d 22 [(2, x), v1, v2] st t g Q = Xp 50 d 23 [(2, x), v1, v2] ((2, x) :: st) t g Q := Xp_go (i := .aload_n 0) (len := 1) (by decide +kernel) rfl
theorem x_50_23 : Xp 50 d 23 ls st t g Q = Xp 50 d 25 ls ((0, 25) :: st) t g Q := xr_bi (c := 25) (by decide +kernel) (by decide)
theorem x_50_25 : Xp 50 d 25 ls ((0, x) :: st) t g Q = (∃ P z w, hkEV[t]? = some (0, P, z, w) ∧ hkKd P = 100 ∧ x = jL (P : Int) ∧ Xp 50 d 27 ls ((2, (P : Int)) :: st) (t + 1) g Q) := xr_newa (ty := .int) (ci := 100) (by decide +kernel) (by decide) (by decide)
theorem x_50_27 : Xp 50 d 27 ls ((2, z) :: (2, p) :: st) t g Q = (hkJK p = 3 ∧ hkEV[t]? = some (1, p.toNat, 4, z.toNat) ∧ Xp 50 d 30 ls st (t + 1) g Q) := xr_putR (idx := 20) (ci := 3) (k := 4) (by decide +kernel) (by decide +kernel) (by decide +kernel) (by decide +kernel) (by decide +kernel)
theorem x_50_30 : Xp 50 d 30 [(2, x), v1, v2] st t g Q = Xp 50 d 31 [(2, x), v1, v2] ((2, x) :: st) t g Q := Xp_go (i := .aload_n 0) (len := 1) (by decide +kernel) rfl
theorem x_50_31 : Xp 50 d 31 ls st t g Q = Xp 50 d 32 ls ((0, 4) :: st) t g Q := xr_const (c := 4) (by decide +kernel) (by decide)
theorem x_50_32 : Xp 50 d 32 ls ((0, x) :: st) t g Q = (∃ P z w, hkEV[t]? = some (0, P, z, w) ∧ hkKd P = 100 ∧ x = jL (P : Int) ∧ Xp 50 d 34 ls ((2, (P : Int)) :: st) (t + 1) g Q) := xr_newa (ty := .int) (ci := 100) (by decide +kernel) (by decide) (by decide)
theorem x_50_34 : Xp 50 d 34 ls ((2, z) :: (2, p) :: st) t g Q = (hkJK p = 3 ∧ hkEV[t]? = some (1, p.toNat, 5, z.toNat) ∧ Xp 50 d 37 ls st (t + 1) g Q) := xr_putR (idx := 23) (ci := 3) (k := 5) (by decide +kernel) (by decide +kernel) (by decide +kernel) (by decide +kernel) (by decide +kernel)
theorem x_50_37 : Xp 50 d 37 [(2, x), v1, v2] st t g Q = Xp 50 d 38 [(2, x), v1, v2] ((2, x) :: st) t g Q := Xp_go (i := .aload_n 0) (len := 1) (by decide +kernel) rfl
theorem x_50_38 : Xp 50 d 38 [v0, (2, x), v2] st t g Q = Xp 50 d 39 [v0, (2, x), v2] ((2, x) :: st) t g Q := Xp_go (i := .aload_n 1) (len := 1) (by decide +kernel) rfl
theorem x_50_39 : Xp 50 d 39 ls ((2, z) :: (2, p) :: st) t g Q = (hkJK p = 3 ∧ hkEV[t]? = some (1, p.toNat, 0, z.toNat) ∧ Xp 50 d 42 ls st (t + 1) g Q) := xr_putR (idx := 26) (ci := 3) (k := 0) (by decide +kernel) (by decide +kernel) (by decide +kernel) (by decide +kernel) (by decide +kernel)
theorem x_50_42 : Xp 50 d 42 [(2, x), v1, v2] st t g Q = Xp 50 d 43 [(2, x), v1, v2] ((2, x) :: st) t g Q := Xp_go (i := .aload_n 0) (len := 1) (by decide +kernel) rfl
theorem x_50_43 : Xp 50 d 43 [v0, v1, (2, x)] st t g Q = Xp 50 d 44 [v0, v1, (2, x)] ((2, x) :: st) t g Q := Xp_go (i := .aload_n 2) (len := 1) (by decide +kernel) rfl
theorem x_50_44 : Xp 50 d 44 ls ((2, z) :: (2, p) :: st) t g Q = (hkJK p = 3 ∧ hkEV[t]? = some (1, p.toNat, 1, z.toNat) ∧ Xp 50 d 47 ls st (t + 1) g Q) := xr_putR (idx := 30) (ci := 3) (k := 1) (by decide +kernel) (by decide +kernel) (by decide +kernel) (by decide +kernel) (by decide +kernel)
theorem x_50_47 : Xp 50 d 47 [(2, x), v1, v2] st t g Q = Xp 50 d 48 [(2, x), v1, v2] ((2, x) :: st) t g Q := Xp_go (i := .aload_n 0) (len := 1) (by decide +kernel) rfl
theorem x_50_48 : Xp 50 (d + 1) 48 ls ((2, a0) :: st) t g Q = (hkJK a0 = 3 ∧ hkC8 st ∧ Xp 51 d 0 [(2, a0), hkU, hkU] [] t g (fun r t g => Xp 50 (d + 1) 51 ls (hkPush r st) t g Q)) := xr_invV (idx := 34) (y' := 51) (ci := 3) (tg := [2]) (by decide +kernel) (by decide +kernel) (by decide +kernel) (by decide +kernel) rfl rfl rfl
theorem x_50_51 : Xp 50 d 51 ls [] t g Q = Q none t g := xr_retV (by decide +kernel) (by decide +kernel)
-- 51: HookBoxes$Products.renew()V
theorem x_51_0 : Xp 51 d 0 [(2, x), v1, v2] st t g Q = Xp 51 d 1 [(2, x), v1, v2] ((2, x) :: st) t g Q := Xp_go (i := .aload_n 0) (len := 1) (by decide +kernel) rfl
theorem x_51_1 : Xp 51 d 1 ls ((2, p) :: st) t g Q = (hkJK p = 3 ∧ jA p 2 ≤ t ∧ Xp 51 d 4 ls ((2, jR p 2) :: st) t g Q) := xr_getR (idx := 11) (ci := 3) (k := 2) (by decide +kernel) (by decide +kernel) (by decide +kernel)
theorem x_51_4 : Xp 51 d 4 ls st t g Q = Xp 51 d 5 ls ((0, 0) :: st) t g Q := xr_const (c := 0) (by decide +kernel) (by decide)
theorem x_51_5 : Xp 51 (d + 1) 5 ls ((0, a1) :: (2, a0) :: st) t g Q = (hkC8 st ∧ Xp 179 d 0 [(2, a0), (0, a1), hkU, hkU] [] t g (fun r t g => Xp 51 (d + 1) 8 ls (hkPush r st) t g Q)) := xr_invS (idx := 37) (y' := 179) (tg := [2, 0]) (by decide +kernel) (by decide +kernel) (by decide +kernel) rfl rfl
theorem x_51_8 : Xp 51 d 8 [(2, x), v1, v2] st t g Q = Xp 51 d 9 [(2, x), v1, v2] ((2, x) :: st) t g Q := Xp_go (i := .aload_n 0) (len := 1) (by decide +kernel) rfl
theorem x_51_9 : Xp 51 d 9 ls ((2, p) :: st) t g Q = (hkJK p = 3 ∧ jA p 3 ≤ t ∧ Xp 51 d 12 ls ((2, jR p 3) :: st) t g Q) := xr_getR (idx := 17) (ci := 3) (k := 3) (by decide +kernel) (by decide +kernel) (by decide +kernel)
theorem x_51_12 : Xp 51 d 12 ls st t g Q = Xp 51 d 14 ls ((0, -2147483648) :: st) t g Q := xr_ldc (idx := 43) (by decide +kernel) (by decide +kernel)
theorem x_51_14 : Xp 51 (d + 1) 14 ls ((0, a1) :: (2, a0) :: st) t g Q = (hkC8 st ∧ Xp 179 d 0 [(2, a0), (0, a1), hkU, hkU] [] t g (fun r t g => Xp 51 (d + 1) 17 ls (hkPush r st) t g Q)) := xr_invS (idx := 37) (y' := 179) (tg := [2, 0]) (by decide +kernel) (by decide +kernel) (by decide +kernel) rfl rfl
theorem x_51_17 : Xp 51 d 17 ls st t g Q = Xp 51 d 18 ls ((0, 0) :: st) t g Q := xr_const (c := 0) (by decide +kernel) (by decide)
theorem x_51_18 : Xp 51 d 18 [v0, v1, v2] ((0, x) :: st) t g Q = (hkP1 v0 ∧ Xp 51 d 19 [v0, (0, x), v2] st t g Q) := Xp_chk (i := .istore_n 1) (len := 1) (by decide +kernel) rfl
theorem x_51_19 : Xp 51 d 19 [v0, (0, x), v2] st t g Q = Xp 51 d 20 [v0, (0, x), v2] ((0, x) :: st) t g Q := Xp_go (i := .iload_n 1) (len := 1) (by decide +kernel) rfl
theorem x_51_20 : Xp 51 d 20 [(2, x), v1, v2] st t g Q = Xp 51 d 21 [(2, x), v1, v2] ((2, x) :: st) t g Q := Xp_go (i := .aload_n 0) (len := 1) (by decide +kernel) rfl
theorem x_51_21 : Xp 51 d 21 ls ((2, p) :: st) t g Q = (hkJK p = 3 ∧ jA p 0 ≤ t ∧ Xp 51 d 24 ls ((2, jR p 0) :: st) t g Q) := xr_getR (idx := 26) (ci := 3) (k := 0) (by decide +kernel) (by decide +kernel) (by decide +kernel)
theorem x_51_24 : Xp 51 d 24 ls ((2, p) :: st) t g Q = (hkJK p = 1 ∧ Xp 51 d 27 ls ((0, g p 3) :: st) t g Q) := xr_getI (idx := 44) (ci := 1) (k := 3) (by decide +kernel) (by decide +kernel) (by decide +kernel)
theorem x_51_27 : Xp 51 d 27 ls ((0, b) :: (0, a) :: st) t g Q = ((b ≤ a → Xp 51 d 71 ls st t g Q) ∧ (¬ (b ≤ a) → Xp 51 d 30 ls st t g Q)) := xr_if2 (cd := .ge) (off := 44) (by decide +kernel) (by decide)
theorem x_51_30 : Xp 51 d 30 ls st t g Q = Xp 51 d 31 ls ((0, 0) :: st) t g Q := xr_const (c := 0) (by decide +kernel) (by decide)
theorem x_51_31 : Xp 51 d 31 [v0, v1, v2] ((0, x) :: st) t g Q = (hkP1 v1 ∧ Xp 51 d 32 [v0, v1, (0, x)] st t g Q) := Xp_chk (i := .istore_n 2) (len := 1) (by decide +kernel) rfl
theorem x_51_32 : Xp 51 d 32 [v0, v1, (0, x)] st t g Q = Xp 51 d 33 [v0, v1, (0, x)] ((0, x) :: st) t g Q := Xp_go (i := .iload_n 2) (len := 1) (by decide +kernel) rfl
theorem x_51_33 : Xp 51 d 33 [(2, x), v1, v2] st t g Q = Xp 51 d 34 [(2, x), v1, v2] ((2, x) :: st) t g Q := Xp_go (i := .aload_n 0) (len := 1) (by decide +kernel) rfl
theorem x_51_34 : Xp 51 d 34 ls ((2, p) :: st) t g Q = (hkJK p = 3 ∧ jA p 0 ≤ t ∧ Xp 51 d 37 ls ((2, jR p 0) :: st) t g Q) := xr_getR (idx := 26) (ci := 3) (k := 0) (by decide +kernel) (by decide +kernel) (by decide +kernel)
theorem x_51_37 : Xp 51 d 37 ls ((2, p) :: st) t g Q = (hkJK p = 1 ∧ Xp 51 d 40 ls ((0, g p 2) :: st) t g Q) := xr_getI (idx := 50) (ci := 1) (k := 2) (by decide +kernel) (by decide +kernel) (by decide +kernel)
theorem x_51_40 : Xp 51 d 40 ls ((0, b) :: (0, a) :: st) t g Q = ((b < a → Xp 51 d 65 ls st t g Q) ∧ (¬ (b < a) → Xp 51 d 43 ls st t g Q)) := xr_if2 (cd := .gt) (off := 25) (by decide +kernel) (by decide)
theorem x_51_43 : Xp 51 d 43 [(2, x), v1, v2] st t g Q = Xp 51 d 44 [(2, x), v1, v2] ((2, x) :: st) t g Q := Xp_go (i := .aload_n 0) (len := 1) (by decide +kernel) rfl
theorem x_51_44 : Xp 51 d 44 [v0, (0, x), v2] st t g Q = Xp 51 d 45 [v0, (0, x), v2] ((0, x) :: st) t g Q := Xp_go (i := .iload_n 1) (len := 1) (by decide +kernel) rfl
theorem x_51_45 : Xp 51 d 45 [v0, v1, (0, x)] st t g Q = Xp 51 d 46 [v0, v1, (0, x)] ((0, x) :: st) t g Q := Xp_go (i := .iload_n 2) (len := 1) (by decide +kernel) rfl
theorem x_51_46 : Xp 51 d 46 [(2, x), v1, v2] st t g Q = Xp 51 d 47 [(2, x), v1, v2] ((2, x) :: st) t g Q := Xp_go (i := .aload_n 0) (len := 1) (by decide +kernel) rfl
theorem x_51_47 : Xp 51 d 47 ls ((2, p) :: st) t g Q = (hkJK p = 3 ∧ jA p 0 ≤ t ∧ Xp 51 d 50 ls ((2, jR p 0) :: st) t g Q) := xr_getR (idx := 26) (ci := 3) (k := 0) (by decide +kernel) (by decide +kernel) (by decide +kernel)
theorem x_51_50 : Xp 51 d 50 ls ((2, p) :: st) t g Q = (hkJK p = 1 ∧ Xp 51 d 53 ls ((0, g p 0) :: st) t g Q) := xr_getI (idx := 53) (ci := 1) (k := 0) (by decide +kernel) (by decide +kernel) (by decide +kernel)
theorem x_51_53 : Xp 51 d 53 ls st t g Q = Xp 51 d 54 ls ((0, 1) :: st) t g Q := xr_const (c := 1) (by decide +kernel) (by decide)
theorem x_51_54 : Xp 51 d 54 ls ((0, b) :: (0, a) :: st) t g Q = Xp 51 d 55 ls ((0, hkW (a - b)) :: st) t g Q := Xp_go (i := .isub) (len := 1) (by decide +kernel) rfl
theorem x_51_55 : Xp 51 d 55 [v0, v1, (0, x)] st t g Q = Xp 51 d 56 [v0, v1, (0, x)] ((0, x) :: st) t g Q := Xp_go (i := .iload_n 2) (len := 1) (by decide +kernel) rfl
theorem x_51_56 : Xp 51 (d + 1) 56 ls ((0, a4) :: (0, a3) :: (0, a2) :: (0, a1) :: (2, a0) :: st) t g Q = (hkJK a0 = 3 ∧ hkC8 st ∧ Xp 52 d 0 [(2, a0), (0, a1), (0, a2), (0, a3), (0, a4), hkU, hkU, hkU] [] t g (fun r t g => Xp 51 (d + 1) 59 ls (hkPush r st) t g Q)) := xr_invV (idx := 56) (y' := 52) (ci := 3) (tg := [2, 0, 0, 0, 0]) (by decide +kernel) (by decide +kernel) (by decide +kernel) (by decide +kernel) rfl rfl rfl
theorem x_51_59 : Xp 51 d 59 [v0, v1, (0, x)] st t g Q = (hkP1 v1 ∧ Xp 51 d 62 [v0, v1, (0, hkW (x + 1))] st t g Q) := Xp_chk (i := .iinc 2 (1)) (len := 3) (by decide +kernel) rfl
theorem x_51_62 : Xp 51 d 62 ls st t g Q = Xp 51 d 32 ls st t g Q := xr_goto (off := -30) (by decide +kernel) (by decide)
theorem x_51_65 : Xp 51 d 65 [v0, (0, x), v2] st t g Q = (hkP1 v0 ∧ Xp 51 d 68 [v0, (0, hkW (x + 1)), v2] st t g Q) := Xp_chk (i := .iinc 1 (1)) (len := 3) (by decide +kernel) rfl
theorem x_51_68 : Xp 51 d 68 ls st t g Q = Xp 51 d 19 ls st t g Q := xr_goto (off := -49) (by decide +kernel) (by decide)
theorem x_51_71 : Xp 51 d 71 ls [] t g Q = Q none t g := xr_retV (by decide +kernel) (by decide +kernel)
-- 52: HookBoxes$Products.addStrips(IIII)V
theorem x_52_0 : Xp 52 d 0 [v0, (0, x), v2, v3, v4, v5, v6, v7] st t g Q = Xp 52 d 1 [v0, (0, x), v2, v3, v4, v5, v6, v7] ((0, x) :: st) t g Q := Xp_go (i := .iload_n 1) (len := 1) (by decide +kernel) rfl
theorem x_52_1 : Xp 52 d 1 ls st t g Q = Xp 52 d 2 ls ((0, 4) :: st) t g Q := xr_const (c := 4) (by decide +kernel) (by decide)
theorem x_52_2 : Xp 52 d 2 ls ((0, b) :: (0, a) :: st) t g Q = Xp 52 d 3 ls ((0, hkW (a * b)) :: st) t g Q := Xp_go (i := .imul) (len := 1) (by decide +kernel) rfl
theorem x_52_3 : Xp 52 d 3 [v0, v1, v2, (0, x), v4, v5, v6, v7] st t g Q = Xp 52 d 4 [v0, v1, v2, (0, x), v4, v5, v6, v7] ((0, x) :: st) t g Q := Xp_go (i := .iload_n 3) (len := 1) (by decide +kernel) rfl
theorem x_52_4 : Xp 52 d 4 ls ((0, b) :: (0, a) :: st) t g Q = Xp 52 d 5 ls ((0, hkW (a + b)) :: st) t g Q := Xp_go (i := .iadd) (len := 1) (by decide +kernel) rfl
theorem x_52_5 : Xp 52 d 5 [v0, v1, v2, v3, v4, v5, v6, v7] ((0, x) :: st) t g Q = (hkP1 v4 ∧ Xp 52 d 7 [v0, v1, v2, v3, v4, (0, x), v6, v7] st t g Q) := Xp_chk (i := .istore 5) (len := 2) (by decide +kernel) rfl
theorem x_52_7 : Xp 52 d 7 [v0, v1, v2, (0, x), v4, v5, v6, v7] st t g Q = Xp 52 d 8 [v0, v1, v2, (0, x), v4, v5, v6, v7] ((0, x) :: st) t g Q := Xp_go (i := .iload_n 3) (len := 1) (by decide +kernel) rfl
theorem x_52_8 : Xp 52 d 8 ls ((0, a) :: st) t g Q = ((0 < a → Xp 52 d 93 ls st t g Q) ∧ (¬ (0 < a) → Xp 52 d 11 ls st t g Q)) := xr_if1 (cd := .gt) (off := 85) (by decide +kernel) (by decide)
theorem x_52_11 : Xp 52 d 11 [(2, x), v1, v2, v3, v4, v5, v6, v7] st t g Q = Xp 52 d 12 [(2, x), v1, v2, v3, v4, v5, v6, v7] ((2, x) :: st) t g Q := Xp_go (i := .aload_n 0) (len := 1) (by decide +kernel) rfl
theorem x_52_12 : Xp 52 d 12 ls ((2, p) :: st) t g Q = (hkJK p = 3 ∧ jA p 5 ≤ t ∧ Xp 52 d 15 ls ((2, jR p 5) :: st) t g Q) := xr_getR (idx := 23) (ci := 3) (k := 5) (by decide +kernel) (by decide +kernel) (by decide +kernel)
theorem x_52_15 : Xp 52 d 15 ls st t g Q = Xp 52 d 16 ls ((0, 0) :: st) t g Q := xr_const (c := 0) (by decide +kernel) (by decide)
theorem x_52_16 : Xp 52 d 16 [(2, x), v1, v2, v3, v4, v5, v6, v7] st t g Q = Xp 52 d 17 [(2, x), v1, v2, v3, v4, v5, v6, v7] ((2, x) :: st) t g Q := Xp_go (i := .aload_n 0) (len := 1) (by decide +kernel) rfl
theorem x_52_17 : Xp 52 d 17 ls ((2, p) :: st) t g Q = (hkJK p = 3 ∧ jA p 0 ≤ t ∧ Xp 52 d 20 ls ((2, jR p 0) :: st) t g Q) := xr_getR (idx := 26) (ci := 3) (k := 0) (by decide +kernel) (by decide +kernel) (by decide +kernel)
theorem x_52_20 : Xp 52 d 20 ls ((2, p) :: st) t g Q = (hkJK p = 1 ∧ jA p 4 ≤ t ∧ Xp 52 d 23 ls ((2, jR p 4) :: st) t g Q) := xr_getR (idx := 60) (ci := 1) (k := 4) (by decide +kernel) (by decide +kernel) (by decide +kernel)
theorem x_52_23 : Xp 52 d 23 [v0, (0, x), v2, v3, v4, v5, v6, v7] st t g Q = Xp 52 d 24 [v0, (0, x), v2, v3, v4, v5, v6, v7] ((0, x) :: st) t g Q := Xp_go (i := .iload_n 1) (len := 1) (by decide +kernel) rfl
theorem x_52_24 : Xp 52 d 24 ls st t g Q = Xp 52 d 25 ls ((0, 4) :: st) t g Q := xr_const (c := 4) (by decide +kernel) (by decide)
theorem x_52_25 : Xp 52 d 25 ls ((0, b) :: (0, a) :: st) t g Q = Xp 52 d 26 ls ((0, hkW (a * b)) :: st) t g Q := Xp_go (i := .imul) (len := 1) (by decide +kernel) rfl
theorem x_52_26 : Xp 52 d 26 ls ((0, a) :: (2, p) :: st) t g Q = ((hkJK p = 100 ∧ 0 ≤ a ∧ a < jL p) ∧ Xp 52 d 27 ls ((0, g p a) :: st) t g Q) := Xp_chk (i := .iaload) (len := 1) (by decide +kernel) rfl
theorem x_52_27 : Xp 52 d 27 [v0, v1, v2, v3, (0, x), v5, v6, v7] st t g Q = Xp 52 d 29 [v0, v1, v2, v3, (0, x), v5, v6, v7] ((0, x) :: st) t g Q := Xp_go (i := .iload 4) (len := 2) (by decide +kernel) rfl
theorem x_52_29 : Xp 52 d 29 ls ((0, b) :: (0, a) :: st) t g Q = Xp 52 d 30 ls ((0, hkW (a + b)) :: st) t g Q := Xp_go (i := .iadd) (len := 1) (by decide +kernel) rfl
theorem x_52_30 : Xp 52 d 30 ls ((0, x) :: (0, a) :: (2, p) :: st) t g Q = ((hkJK p = 100 ∧ (100 = 102 → x = 0 ∨ x = 1) ∧ 0 ≤ a ∧ a < jL p) ∧ Xp 52 d 31 ls st t (hkSet g p a x) Q) := Xp_chk (i := .iastore) (len := 1) (by decide +kernel) rfl
theorem x_52_31 : Xp 52 d 31 [(2, x), v1, v2, v3, v4, v5, v6, v7] st t g Q = Xp 52 d 32 [(2, x), v1, v2, v3, v4, v5, v6, v7] ((2, x) :: st) t g Q := Xp_go (i := .aload_n 0) (len := 1) (by decide +kernel) rfl
theorem x_52_32 : Xp 52 d 32 ls ((2, p) :: st) t g Q = (hkJK p = 3 ∧ jA p 1 ≤ t ∧ Xp 52 d 35 ls ((2, jR p 1) :: st) t g Q) := xr_getR (idx := 30) (ci := 3) (k := 1) (by decide +kernel) (by decide +kernel) (by decide +kernel)
theorem x_52_35 : Xp 52 d 35 [(2, x), v1, v2, v3, v4, v5, v6, v7] st t g Q = Xp 52 d 36 [(2, x), v1, v2, v3, v4, v5, v6, v7] ((2, x) :: st) t g Q := Xp_go (i := .aload_n 0) (len := 1) (by decide +kernel) rfl
theorem x_52_36 : Xp 52 d 36 ls ((2, p) :: st) t g Q = (hkJK p = 3 ∧ jA p 5 ≤ t ∧ Xp 52 d 39 ls ((2, jR p 5) :: st) t g Q) := xr_getR (idx := 23) (ci := 3) (k := 5) (by decide +kernel) (by decide +kernel) (by decide +kernel)
theorem x_52_39 : Xp 52 (d + 1) 39 ls ((2, a1) :: (2, a0) :: st) t g Q = (hkJK a0 = 2 ∧ hkC8 st ∧ Xp 49 d 0 [(2, a0), (2, a1), hkU, hkU, hkU, hkU, hkU] [] t g (fun r t g => Xp 52 (d + 1) 42 ls (hkPush r st) t g Q)) := xr_invV (idx := 63) (y' := 49) (ci := 2) (tg := [2, 2]) (by decide +kernel) (by decide +kernel) (by decide +kernel) (by decide +kernel) rfl rfl rfl
theorem x_52_42 : Xp 52 d 42 [(2, x), v1, v2, v3, v4, v5, v6, v7] st t g Q = Xp 52 d 43 [(2, x), v1, v2, v3, v4, v5, v6, v7] ((2, x) :: st) t g Q := Xp_go (i := .aload_n 0) (len := 1) (by decide +kernel) rfl
theorem x_52_43 : Xp 52 d 43 ls ((2, p) :: st) t g Q = (hkJK p = 3 ∧ jA p 1 ≤ t ∧ Xp 52 d 46 ls ((2, jR p 1) :: st) t g Q) := xr_getR (idx := 30) (ci := 3) (k := 1) (by decide +kernel) (by decide +kernel) (by decide +kernel)
theorem x_52_46 : Xp 52 d 46 ls ((2, p) :: st) t g Q = (hkJK p = 2 ∧ Xp 52 d 49 ls ((0, g p 2) :: st) t g Q) := xr_getI (idx := 69) (ci := 2) (k := 2) (by decide +kernel) (by decide +kernel) (by decide +kernel)
theorem x_52_49 : Xp 52 d 49 ls st t g Q = Xp 52 d 50 ls ((0, -1) :: st) t g Q := xr_const (c := -1) (by decide +kernel) (by decide)
theorem x_52_50 : Xp 52 d 50 ls ((0, b) :: (0, a) :: st) t g Q = ((a = b → Xp 52 d 92 ls st t g Q) ∧ (¬ (a = b) → Xp 52 d 53 ls st t g Q)) := xr_if2 (cd := .eq) (off := 42) (by decide +kernel) (by decide)
theorem x_52_53 : Xp 52 d 53 [(2, x), v1, v2, v3, v4, v5, v6, v7] st t g Q = Xp 52 d 54 [(2, x), v1, v2, v3, v4, v5, v6, v7] ((2, x) :: st) t g Q := Xp_go (i := .aload_n 0) (len := 1) (by decide +kernel) rfl
theorem x_52_54 : Xp 52 d 54 ls ((2, p) :: st) t g Q = (hkJK p = 3 ∧ jA p 2 ≤ t ∧ Xp 52 d 57 ls ((2, jR p 2) :: st) t g Q) := xr_getR (idx := 11) (ci := 3) (k := 2) (by decide +kernel) (by decide +kernel) (by decide +kernel)
theorem x_52_57 : Xp 52 d 57 [v0, (0, x), v2, v3, v4, v5, v6, v7] st t g Q = Xp 52 d 58 [v0, (0, x), v2, v3, v4, v5, v6, v7] ((0, x) :: st) t g Q := Xp_go (i := .iload_n 1) (len := 1) (by decide +kernel) rfl
theorem x_52_58 : Xp 52 d 58 ls st t g Q = Xp 52 d 60 ls ((0, 7) :: st) t g Q := xr_bi (c := 7) (by decide +kernel) (by decide)
theorem x_52_60 : Xp 52 d 60 ls ((0, b) :: (0, a) :: st) t g Q = Xp 52 d 61 ls ((0, hkW (a * b)) :: st) t g Q := Xp_go (i := .imul) (len := 1) (by decide +kernel) rfl
theorem x_52_61 : Xp 52 d 61 [v0, v1, (0, x), v3, v4, v5, v6, v7] st t g Q = Xp 52 d 62 [v0, v1, (0, x), v3, v4, v5, v6, v7] ((0, x) :: st) t g Q := Xp_go (i := .iload_n 2) (len := 1) (by decide +kernel) rfl
theorem x_52_62 : Xp 52 d 62 ls ((0, b) :: (0, a) :: st) t g Q = Xp 52 d 63 ls ((0, hkW (a + b)) :: st) t g Q := Xp_go (i := .iadd) (len := 1) (by decide +kernel) rfl
theorem x_52_63 : Xp 52 d 63 ls st t g Q = Xp 52 d 64 ls ((0, 5) :: st) t g Q := xr_const (c := 5) (by decide +kernel) (by decide)
theorem x_52_64 : Xp 52 d 64 ls ((0, b) :: (0, a) :: st) t g Q = Xp 52 d 65 ls ((0, hkW (a * b)) :: st) t g Q := Xp_go (i := .imul) (len := 1) (by decide +kernel) rfl
theorem x_52_65 : Xp 52 d 65 [(2, x), v1, v2, v3, v4, v5, v6, v7] st t g Q = Xp 52 d 66 [(2, x), v1, v2, v3, v4, v5, v6, v7] ((2, x) :: st) t g Q := Xp_go (i := .aload_n 0) (len := 1) (by decide +kernel) rfl
theorem x_52_66 : Xp 52 d 66 ls ((2, p) :: st) t g Q = (hkJK p = 3 ∧ jA p 0 ≤ t ∧ Xp 52 d 69 ls ((2, jR p 0) :: st) t g Q) := xr_getR (idx := 26) (ci := 3) (k := 0) (by decide +kernel) (by decide +kernel) (by decide +kernel)
theorem x_52_69 : Xp 52 d 69 ls ((2, p) :: st) t g Q = (hkJK p = 1 ∧ jA p 9 ≤ t ∧ Xp 52 d 72 ls ((2, jR p 9) :: st) t g Q) := xr_getR (idx := 72) (ci := 1) (k := 9) (by decide +kernel) (by decide +kernel) (by decide +kernel)
theorem x_52_72 : Xp 52 d 72 [(2, x), v1, v2, v3, v4, v5, v6, v7] st t g Q = Xp 52 d 73 [(2, x), v1, v2, v3, v4, v5, v6, v7] ((2, x) :: st) t g Q := Xp_go (i := .aload_n 0) (len := 1) (by decide +kernel) rfl
theorem x_52_73 : Xp 52 d 73 ls ((2, p) :: st) t g Q = (hkJK p = 3 ∧ jA p 1 ≤ t ∧ Xp 52 d 76 ls ((2, jR p 1) :: st) t g Q) := xr_getR (idx := 30) (ci := 3) (k := 1) (by decide +kernel) (by decide +kernel) (by decide +kernel)
theorem x_52_76 : Xp 52 d 76 ls ((2, p) :: st) t g Q = (hkJK p = 2 ∧ Xp 52 d 79 ls ((0, g p 2) :: st) t g Q) := xr_getI (idx := 69) (ci := 2) (k := 2) (by decide +kernel) (by decide +kernel) (by decide +kernel)
theorem x_52_79 : Xp 52 d 79 ls ((0, a) :: (2, p) :: st) t g Q = ((hkJK p = 100 ∧ 0 ≤ a ∧ a < jL p) ∧ Xp 52 d 80 ls ((0, g p a) :: st) t g Q) := Xp_chk (i := .iaload) (len := 1) (by decide +kernel) rfl
theorem x_52_80 : Xp 52 d 80 ls ((0, b) :: (0, a) :: st) t g Q = Xp 52 d 81 ls ((0, hkW (a + b)) :: st) t g Q := Xp_go (i := .iadd) (len := 1) (by decide +kernel) rfl
theorem x_52_81 : Xp 52 d 81 ls (v :: w :: st) t g Q = ((hkP1 v ∧ hkP1 w) ∧ Xp 52 d 82 ls (v :: w :: v :: w :: st) t g Q) := Xp_chk (i := .dup2) (len := 1) (by decide +kernel) rfl
theorem x_52_82 : Xp 52 d 82 ls ((0, a) :: (2, p) :: st) t g Q = ((hkJK p = 100 ∧ 0 ≤ a ∧ a < jL p) ∧ Xp 52 d 83 ls ((0, g p a) :: st) t g Q) := Xp_chk (i := .iaload) (len := 1) (by decide +kernel) rfl
theorem x_52_83 : Xp 52 d 83 [(2, x), v1, v2, v3, v4, v5, v6, v7] st t g Q = Xp 52 d 84 [(2, x), v1, v2, v3, v4, v5, v6, v7] ((2, x) :: st) t g Q := Xp_go (i := .aload_n 0) (len := 1) (by decide +kernel) rfl
theorem x_52_84 : Xp 52 d 84 ls ((2, p) :: st) t g Q = (hkJK p = 3 ∧ jA p 1 ≤ t ∧ Xp 52 d 87 ls ((2, jR p 1) :: st) t g Q) := xr_getR (idx := 30) (ci := 3) (k := 1) (by decide +kernel) (by decide +kernel) (by decide +kernel)
theorem x_52_87 : Xp 52 d 87 ls ((2, p) :: st) t g Q = (hkJK p = 2 ∧ Xp 52 d 90 ls ((0, g p 0) :: st) t g Q) := xr_getI (idx := 75) (ci := 2) (k := 0) (by decide +kernel) (by decide +kernel) (by decide +kernel)
theorem x_52_90 : Xp 52 d 90 ls ((0, b) :: (0, a) :: st) t g Q = Xp 52 d 91 ls ((0, hkW (a + b)) :: st) t g Q := Xp_go (i := .iadd) (len := 1) (by decide +kernel) rfl
theorem x_52_91 : Xp 52 d 91 ls ((0, x) :: (0, a) :: (2, p) :: st) t g Q = ((hkJK p = 100 ∧ (100 = 102 → x = 0 ∨ x = 1) ∧ 0 ≤ a ∧ a < jL p) ∧ Xp 52 d 92 ls st t (hkSet g p a x) Q) := Xp_chk (i := .iastore) (len := 1) (by decide +kernel) rfl
theorem x_52_92 : Xp 52 d 92 ls [] t g Q = Q none t g := xr_retV (by decide +kernel) (by decide +kernel)
theorem x_52_93 : Xp 52 d 93 [v0, v1, v2, v3, (0, x), v5, v6, v7] st t g Q = Xp 52 d 95 [v0, v1, v2, v3, (0, x), v5, v6, v7] ((0, x) :: st) t g Q := Xp_go (i := .iload 4) (len := 2) (by decide +kernel) rfl
theorem x_52_95 : Xp 52 d 95 [(2, x), v1, v2, v3, v4, v5, v6, v7] st t g Q = Xp 52 d 96 [(2, x), v1, v2, v3, v4, v5, v6, v7] ((2, x) :: st) t g Q := Xp_go (i := .aload_n 0) (len := 1) (by decide +kernel) rfl
theorem x_52_96 : Xp 52 d 96 ls ((2, p) :: st) t g Q = (hkJK p = 3 ∧ jA p 0 ≤ t ∧ Xp 52 d 99 ls ((2, jR p 0) :: st) t g Q) := xr_getR (idx := 26) (ci := 3) (k := 0) (by decide +kernel) (by decide +kernel) (by decide +kernel)
theorem x_52_99 : Xp 52 d 99 ls ((2, p) :: st) t g Q = (hkJK p = 1 ∧ jA p 4 ≤ t ∧ Xp 52 d 102 ls ((2, jR p 4) :: st) t g Q) := xr_getR (idx := 60) (ci := 1) (k := 4) (by decide +kernel) (by decide +kernel) (by decide +kernel)
theorem x_52_102 : Xp 52 d 102 [v0, v1, v2, v3, v4, (0, x), v6, v7] st t g Q = Xp 52 d 104 [v0, v1, v2, v3, v4, (0, x), v6, v7] ((0, x) :: st) t g Q := Xp_go (i := .iload 5) (len := 2) (by decide +kernel) rfl
theorem x_52_104 : Xp 52 d 104 ls st t g Q = Xp 52 d 105 ls ((0, 1) :: st) t g Q := xr_const (c := 1) (by decide +kernel) (by decide)
theorem x_52_105 : Xp 52 d 105 ls ((0, b) :: (0, a) :: st) t g Q = Xp 52 d 106 ls ((0, hkW (a - b)) :: st) t g Q := Xp_go (i := .isub) (len := 1) (by decide +kernel) rfl
theorem x_52_106 : Xp 52 d 106 ls ((0, a) :: (2, p) :: st) t g Q = ((hkJK p = 100 ∧ 0 ≤ a ∧ a < jL p) ∧ Xp 52 d 107 ls ((0, g p a) :: st) t g Q) := Xp_chk (i := .iaload) (len := 1) (by decide +kernel) rfl
theorem x_52_107 : Xp 52 d 107 [(2, x), v1, v2, v3, v4, v5, v6, v7] st t g Q = Xp 52 d 108 [(2, x), v1, v2, v3, v4, v5, v6, v7] ((2, x) :: st) t g Q := Xp_go (i := .aload_n 0) (len := 1) (by decide +kernel) rfl
theorem x_52_108 : Xp 52 d 108 ls ((2, p) :: st) t g Q = (hkJK p = 3 ∧ jA p 0 ≤ t ∧ Xp 52 d 111 ls ((2, jR p 0) :: st) t g Q) := xr_getR (idx := 26) (ci := 3) (k := 0) (by decide +kernel) (by decide +kernel) (by decide +kernel)
theorem x_52_111 : Xp 52 d 111 ls ((2, p) :: st) t g Q = (hkJK p = 1 ∧ jA p 4 ≤ t ∧ Xp 52 d 114 ls ((2, jR p 4) :: st) t g Q) := xr_getR (idx := 60) (ci := 1) (k := 4) (by decide +kernel) (by decide +kernel) (by decide +kernel)
theorem x_52_114 : Xp 52 d 114 [v0, v1, v2, v3, v4, (0, x), v6, v7] st t g Q = Xp 52 d 116 [v0, v1, v2, v3, v4, (0, x), v6, v7] ((0, x) :: st) t g Q := Xp_go (i := .iload 5) (len := 2) (by decide +kernel) rfl
theorem x_52_116 : Xp 52 d 116 ls ((0, a) :: (2, p) :: st) t g Q = ((hkJK p = 100 ∧ 0 ≤ a ∧ a < jL p) ∧ Xp 52 d 117 ls ((0, g p a) :: st) t g Q) := Xp_chk (i := .iaload) (len := 1) (by decide +kernel) rfl
theorem x_52_117 : Xp 52 d 117 ls ((0, b) :: (0, a) :: st) t g Q = Xp 52 d 118 ls ((0, hkW (a - b)) :: st) t g Q := Xp_go (i := .isub) (len := 1) (by decide +kernel) rfl
theorem x_52_118 : Xp 52 (d + 1) 118 ls ((0, a1) :: (0, a0) :: st) t g Q = (hkC8 st ∧ Xp 174 d 0 [(0, a0), (0, a1)] [] t g (fun r t g => Xp 52 (d + 1) 121 ls (hkPush r st) t g Q)) := xr_invS (idx := 78) (y' := 174) (tg := [0, 0]) (by decide +kernel) (by decide +kernel) (by decide +kernel) rfl rfl
theorem x_52_121 : Xp 52 d 121 [v0, v1, v2, v3, v4, v5, v6, v7] ((0, x) :: st) t g Q = (hkP1 v5 ∧ Xp 52 d 123 [v0, v1, v2, v3, v4, v5, (0, x), v7] st t g Q) := Xp_chk (i := .istore 6) (len := 2) (by decide +kernel) rfl
theorem x_52_123 : Xp 52 d 123 ls st t g Q = Xp 52 d 124 ls ((0, 0) :: st) t g Q := xr_const (c := 0) (by decide +kernel) (by decide)
theorem x_52_124 : Xp 52 d 124 [v0, v1, v2, v3, v4, v5, v6, v7] ((0, x) :: st) t g Q = (hkP1 v6 ∧ Xp 52 d 126 [v0, v1, v2, v3, v4, v5, v6, (0, x)] st t g Q) := Xp_chk (i := .istore 7) (len := 2) (by decide +kernel) rfl
theorem x_52_126 : Xp 52 d 126 [v0, v1, v2, v3, v4, v5, v6, (0, x)] st t g Q = Xp 52 d 128 [v0, v1, v2, v3, v4, v5, v6, (0, x)] ((0, x) :: st) t g Q := Xp_go (i := .iload 7) (len := 2) (by decide +kernel) rfl
theorem x_52_128 : Xp 52 d 128 [v0, v1, v2, v3, v4, v5, (0, x), v7] st t g Q = Xp 52 d 130 [v0, v1, v2, v3, v4, v5, (0, x), v7] ((0, x) :: st) t g Q := Xp_go (i := .iload 6) (len := 2) (by decide +kernel) rfl
theorem x_52_130 : Xp 52 d 130 ls ((0, b) :: (0, a) :: st) t g Q = ((b < a → Xp 52 d 172 ls st t g Q) ∧ (¬ (b < a) → Xp 52 d 133 ls st t g Q)) := xr_if2 (cd := .gt) (off := 42) (by decide +kernel) (by decide)
theorem x_52_133 : Xp 52 d 133 [(2, x), v1, v2, v3, v4, v5, v6, v7] st t g Q = Xp 52 d 134 [(2, x), v1, v2, v3, v4, v5, v6, v7] ((2, x) :: st) t g Q := Xp_go (i := .aload_n 0) (len := 1) (by decide +kernel) rfl
theorem x_52_134 : Xp 52 d 134 ls ((2, p) :: st) t g Q = (hkJK p = 3 ∧ jA p 5 ≤ t ∧ Xp 52 d 137 ls ((2, jR p 5) :: st) t g Q) := xr_getR (idx := 23) (ci := 3) (k := 5) (by decide +kernel) (by decide +kernel) (by decide +kernel)
theorem x_52_137 : Xp 52 d 137 [v0, v1, v2, (0, x), v4, v5, v6, v7] st t g Q = Xp 52 d 138 [v0, v1, v2, (0, x), v4, v5, v6, v7] ((0, x) :: st) t g Q := Xp_go (i := .iload_n 3) (len := 1) (by decide +kernel) rfl
theorem x_52_138 : Xp 52 d 138 [(2, x), v1, v2, v3, v4, v5, v6, v7] st t g Q = Xp 52 d 139 [(2, x), v1, v2, v3, v4, v5, v6, v7] ((2, x) :: st) t g Q := Xp_go (i := .aload_n 0) (len := 1) (by decide +kernel) rfl
theorem x_52_139 : Xp 52 d 139 ls ((2, p) :: st) t g Q = (hkJK p = 3 ∧ jA p 0 ≤ t ∧ Xp 52 d 142 ls ((2, jR p 0) :: st) t g Q) := xr_getR (idx := 26) (ci := 3) (k := 0) (by decide +kernel) (by decide +kernel) (by decide +kernel)
theorem x_52_142 : Xp 52 d 142 ls ((2, p) :: st) t g Q = (hkJK p = 1 ∧ jA p 4 ≤ t ∧ Xp 52 d 145 ls ((2, jR p 4) :: st) t g Q) := xr_getR (idx := 60) (ci := 1) (k := 4) (by decide +kernel) (by decide +kernel) (by decide +kernel)
theorem x_52_145 : Xp 52 d 145 [v0, v1, v2, v3, v4, (0, x), v6, v7] st t g Q = Xp 52 d 147 [v0, v1, v2, v3, v4, (0, x), v6, v7] ((0, x) :: st) t g Q := Xp_go (i := .iload 5) (len := 2) (by decide +kernel) rfl
theorem x_52_147 : Xp 52 d 147 ls ((0, a) :: (2, p) :: st) t g Q = ((hkJK p = 100 ∧ 0 ≤ a ∧ a < jL p) ∧ Xp 52 d 148 ls ((0, g p a) :: st) t g Q) := Xp_chk (i := .iaload) (len := 1) (by decide +kernel) rfl
theorem x_52_148 : Xp 52 d 148 [v0, v1, v2, v3, v4, v5, v6, (0, x)] st t g Q = Xp 52 d 150 [v0, v1, v2, v3, v4, v5, v6, (0, x)] ((0, x) :: st) t g Q := Xp_go (i := .iload 7) (len := 2) (by decide +kernel) rfl
theorem x_52_150 : Xp 52 d 150 ls ((0, b) :: (0, a) :: st) t g Q = Xp 52 d 151 ls ((0, hkW (a + b)) :: st) t g Q := Xp_go (i := .iadd) (len := 1) (by decide +kernel) rfl
theorem x_52_151 : Xp 52 d 151 ls ((0, x) :: (0, a) :: (2, p) :: st) t g Q = ((hkJK p = 100 ∧ (100 = 102 → x = 0 ∨ x = 1) ∧ 0 ≤ a ∧ a < jL p) ∧ Xp 52 d 152 ls st t (hkSet g p a x) Q) := Xp_chk (i := .iastore) (len := 1) (by decide +kernel) rfl
theorem x_52_152 : Xp 52 d 152 [(2, x), v1, v2, v3, v4, v5, v6, v7] st t g Q = Xp 52 d 153 [(2, x), v1, v2, v3, v4, v5, v6, v7] ((2, x) :: st) t g Q := Xp_go (i := .aload_n 0) (len := 1) (by decide +kernel) rfl
theorem x_52_153 : Xp 52 d 153 [v0, (0, x), v2, v3, v4, v5, v6, v7] st t g Q = Xp 52 d 154 [v0, (0, x), v2, v3, v4, v5, v6, v7] ((0, x) :: st) t g Q := Xp_go (i := .iload_n 1) (len := 1) (by decide +kernel) rfl
theorem x_52_154 : Xp 52 d 154 [v0, v1, (0, x), v3, v4, v5, v6, v7] st t g Q = Xp 52 d 155 [v0, v1, (0, x), v3, v4, v5, v6, v7] ((0, x) :: st) t g Q := Xp_go (i := .iload_n 2) (len := 1) (by decide +kernel) rfl
theorem x_52_155 : Xp 52 d 155 [v0, v1, v2, (0, x), v4, v5, v6, v7] st t g Q = Xp 52 d 156 [v0, v1, v2, (0, x), v4, v5, v6, v7] ((0, x) :: st) t g Q := Xp_go (i := .iload_n 3) (len := 1) (by decide +kernel) rfl
theorem x_52_156 : Xp 52 d 156 ls st t g Q = Xp 52 d 157 ls ((0, 1) :: st) t g Q := xr_const (c := 1) (by decide +kernel) (by decide)
theorem x_52_157 : Xp 52 d 157 ls ((0, b) :: (0, a) :: st) t g Q = Xp 52 d 158 ls ((0, hkW (a - b)) :: st) t g Q := Xp_go (i := .isub) (len := 1) (by decide +kernel) rfl
theorem x_52_158 : Xp 52 d 158 [v0, v1, v2, v3, (0, x), v5, v6, v7] st t g Q = Xp 52 d 160 [v0, v1, v2, v3, (0, x), v5, v6, v7] ((0, x) :: st) t g Q := Xp_go (i := .iload 4) (len := 2) (by decide +kernel) rfl
theorem x_52_160 : Xp 52 d 160 [v0, v1, v2, v3, v4, v5, v6, (0, x)] st t g Q = Xp 52 d 162 [v0, v1, v2, v3, v4, v5, v6, (0, x)] ((0, x) :: st) t g Q := Xp_go (i := .iload 7) (len := 2) (by decide +kernel) rfl
theorem x_52_162 : Xp 52 d 162 ls ((0, b) :: (0, a) :: st) t g Q = Xp 52 d 163 ls ((0, hkW (a - b)) :: st) t g Q := Xp_go (i := .isub) (len := 1) (by decide +kernel) rfl
theorem x_52_163 : Xp 52 (d + 1) 163 ls ((0, a4) :: (0, a3) :: (0, a2) :: (0, a1) :: (2, a0) :: st) t g Q = (hkJK a0 = 3 ∧ hkC8 st ∧ Xp 52 d 0 [(2, a0), (0, a1), (0, a2), (0, a3), (0, a4), hkU, hkU, hkU] [] t g (fun r t g => Xp 52 (d + 1) 166 ls (hkPush r st) t g Q)) := xr_invV (idx := 56) (y' := 52) (ci := 3) (tg := [2, 0, 0, 0, 0]) (by decide +kernel) (by decide +kernel) (by decide +kernel) (by decide +kernel) rfl rfl rfl
theorem x_52_166 : Xp 52 d 166 [v0, v1, v2, v3, v4, v5, v6, (0, x)] st t g Q = (hkP1 v6 ∧ Xp 52 d 169 [v0, v1, v2, v3, v4, v5, v6, (0, hkW (x + 1))] st t g Q) := Xp_chk (i := .iinc 7 (1)) (len := 3) (by decide +kernel) rfl
theorem x_52_169 : Xp 52 d 169 ls st t g Q = Xp 52 d 126 ls st t g Q := xr_goto (off := -43) (by decide +kernel) (by decide)
theorem x_52_172 : Xp 52 d 172 ls [] t g Q = Q none t g := xr_retV (by decide +kernel) (by decide +kernel)
-- 53: HookBoxes$Products.often(III)I
theorem x_53_0 : Xp 53 d 0 [(2, x), v1, v2, v3] st t g Q = Xp 53 d 1 [(2, x), v1, v2, v3] ((2, x) :: st) t g Q := Xp_go (i := .aload_n 0) (len := 1) (by decide +kernel) rfl
theorem x_53_1 : Xp 53 d 1 ls ((2, p) :: st) t g Q = (hkJK p = 3 ∧ jA p 0 ≤ t ∧ Xp 53 d 4 ls ((2, jR p 0) :: st) t g Q) := xr_getR (idx := 26) (ci := 3) (k := 0) (by decide +kernel) (by decide +kernel) (by decide +kernel)
theorem x_53_4 : Xp 53 d 4 ls ((2, p) :: st) t g Q = (hkJK p = 1 ∧ jA p 5 ≤ t ∧ Xp 53 d 7 ls ((2, jR p 5) :: st) t g Q) := xr_getR (idx := 84) (ci := 1) (k := 5) (by decide +kernel) (by decide +kernel) (by decide +kernel)
theorem x_53_7 : Xp 53 d 7 [v0, (0, x), v2, v3] st t g Q = Xp 53 d 8 [v0, (0, x), v2, v3] ((0, x) :: st) t g Q := Xp_go (i := .iload_n 1) (len := 1) (by decide +kernel) rfl
theorem x_53_8 : Xp 53 d 8 ls ((0, a) :: (2, p) :: st) t g Q = ((hkJK p = 100 ∧ 0 ≤ a ∧ a < jL p) ∧ Xp 53 d 9 ls ((0, g p a) :: st) t g Q) := Xp_chk (i := .iaload) (len := 1) (by decide +kernel) rfl
theorem x_53_9 : Xp 53 d 9 [(2, x), v1, v2, v3] st t g Q = Xp 53 d 10 [(2, x), v1, v2, v3] ((2, x) :: st) t g Q := Xp_go (i := .aload_n 0) (len := 1) (by decide +kernel) rfl
theorem x_53_10 : Xp 53 d 10 ls ((2, p) :: st) t g Q = (hkJK p = 3 ∧ jA p 0 ≤ t ∧ Xp 53 d 13 ls ((2, jR p 0) :: st) t g Q) := xr_getR (idx := 26) (ci := 3) (k := 0) (by decide +kernel) (by decide +kernel) (by decide +kernel)
theorem x_53_13 : Xp 53 d 13 ls ((2, p) :: st) t g Q = (hkJK p = 1 ∧ jA p 5 ≤ t ∧ Xp 53 d 16 ls ((2, jR p 5) :: st) t g Q) := xr_getR (idx := 84) (ci := 1) (k := 5) (by decide +kernel) (by decide +kernel) (by decide +kernel)
theorem x_53_16 : Xp 53 d 16 [v0, v1, (0, x), v3] st t g Q = Xp 53 d 17 [v0, v1, (0, x), v3] ((0, x) :: st) t g Q := Xp_go (i := .iload_n 2) (len := 1) (by decide +kernel) rfl
theorem x_53_17 : Xp 53 d 17 ls ((0, a) :: (2, p) :: st) t g Q = ((hkJK p = 100 ∧ 0 ≤ a ∧ a < jL p) ∧ Xp 53 d 18 ls ((0, g p a) :: st) t g Q) := Xp_chk (i := .iaload) (len := 1) (by decide +kernel) rfl
theorem x_53_18 : Xp 53 d 18 ls ((0, b) :: (0, a) :: st) t g Q = Xp 53 d 19 ls ((0, hkW (a + b)) :: st) t g Q := Xp_go (i := .iadd) (len := 1) (by decide +kernel) rfl
theorem x_53_19 : Xp 53 d 19 [(2, x), v1, v2, v3] st t g Q = Xp 53 d 20 [(2, x), v1, v2, v3] ((2, x) :: st) t g Q := Xp_go (i := .aload_n 0) (len := 1) (by decide +kernel) rfl
theorem x_53_20 : Xp 53 d 20 ls ((2, p) :: st) t g Q = (hkJK p = 3 ∧ jA p 0 ≤ t ∧ Xp 53 d 23 ls ((2, jR p 0) :: st) t g Q) := xr_getR (idx := 26) (ci := 3) (k := 0) (by decide +kernel) (by decide +kernel) (by decide +kernel)
theorem x_53_23 : Xp 53 d 23 ls ((2, p) :: st) t g Q = (hkJK p = 1 ∧ jA p 5 ≤ t ∧ Xp 53 d 26 ls ((2, jR p 5) :: st) t g Q) := xr_getR (idx := 84) (ci := 1) (k := 5) (by decide +kernel) (by decide +kernel) (by decide +kernel)
theorem x_53_26 : Xp 53 d 26 [v0, v1, v2, (0, x)] st t g Q = Xp 53 d 27 [v0, v1, v2, (0, x)] ((0, x) :: st) t g Q := Xp_go (i := .iload_n 3) (len := 1) (by decide +kernel) rfl
theorem x_53_27 : Xp 53 d 27 ls ((0, a) :: (2, p) :: st) t g Q = ((hkJK p = 100 ∧ 0 ≤ a ∧ a < jL p) ∧ Xp 53 d 28 ls ((0, g p a) :: st) t g Q) := Xp_chk (i := .iaload) (len := 1) (by decide +kernel) rfl
theorem x_53_28 : Xp 53 d 28 ls ((0, b) :: (0, a) :: st) t g Q = Xp 53 d 29 ls ((0, hkW (a - b)) :: st) t g Q := Xp_go (i := .isub) (len := 1) (by decide +kernel) rfl
theorem x_53_29 : Xp 53 d 29 [(2, x), v1, v2, v3] st t g Q = Xp 53 d 30 [(2, x), v1, v2, v3] ((2, x) :: st) t g Q := Xp_go (i := .aload_n 0) (len := 1) (by decide +kernel) rfl
theorem x_53_30 : Xp 53 d 30 ls ((2, p) :: st) t g Q = (hkJK p = 3 ∧ jA p 0 ≤ t ∧ Xp 53 d 33 ls ((2, jR p 0) :: st) t g Q) := xr_getR (idx := 26) (ci := 3) (k := 0) (by decide +kernel) (by decide +kernel) (by decide +kernel)
theorem x_53_33 : Xp 53 d 33 ls ((2, p) :: st) t g Q = (hkJK p = 1 ∧ Xp 53 d 36 ls ((0, g p 1) :: st) t g Q) := xr_getI (idx := 87) (ci := 1) (k := 1) (by decide +kernel) (by decide +kernel) (by decide +kernel)
theorem x_53_36 : Xp 53 d 36 ls ((0, b) :: (0, a) :: st) t g Q = (b ≠ 0 ∧ Xp 53 d 37 ls ((0, a.tmod b) :: st) t g Q) := Xp_chk (i := .irem) (len := 1) (by decide +kernel) rfl
theorem x_53_37 : Xp 53 d 37 ls ((0, a) :: st) t g Q = ((a = 0 → Xp 53 d 42 ls st t g Q) ∧ (¬ (a = 0) → Xp 53 d 40 ls st t g Q)) := xr_if1 (cd := .eq) (off := 5) (by decide +kernel) (by decide)
theorem x_53_40 : Xp 53 d 40 ls st t g Q = Xp 53 d 41 ls ((0, 0) :: st) t g Q := xr_const (c := 0) (by decide +kernel) (by decide)
theorem x_53_41 : Xp 53 d 41 ls [(0, x)] t g Q = Q (some (0, x)) t g := xr_retI (by decide +kernel) (by decide +kernel)
theorem x_53_42 : Xp 53 d 42 [(2, x), v1, v2, v3] st t g Q = Xp 53 d 43 [(2, x), v1, v2, v3] ((2, x) :: st) t g Q := Xp_go (i := .aload_n 0) (len := 1) (by decide +kernel) rfl
theorem x_53_43 : Xp 53 d 43 ls ((2, p) :: st) t g Q = (hkJK p = 3 ∧ jA p 3 ≤ t ∧ Xp 53 d 46 ls ((2, jR p 3) :: st) t g Q) := xr_getR (idx := 17) (ci := 3) (k := 3) (by decide +kernel) (by decide +kernel) (by decide +kernel)
theorem x_53_46 : Xp 53 d 46 [(2, x), v1, v2, v3] st t g Q = Xp 53 d 47 [(2, x), v1, v2, v3] ((2, x) :: st) t g Q := Xp_go (i := .aload_n 0) (len := 1) (by decide +kernel) rfl
theorem x_53_47 : Xp 53 d 47 [v0, (0, x), v2, v3] st t g Q = Xp 53 d 48 [v0, (0, x), v2, v3] ((0, x) :: st) t g Q := Xp_go (i := .iload_n 1) (len := 1) (by decide +kernel) rfl
theorem x_53_48 : Xp 53 d 48 [v0, v1, (0, x), v3] st t g Q = Xp 53 d 49 [v0, v1, (0, x), v3] ((0, x) :: st) t g Q := Xp_go (i := .iload_n 2) (len := 1) (by decide +kernel) rfl
theorem x_53_49 : Xp 53 (d + 1) 49 ls ((0, a2) :: (0, a1) :: (2, a0) :: st) t g Q = (hkJK a0 = 3 ∧ hkC8 st ∧ Xp 54 d 0 [(2, a0), (0, a1), (0, a2), hkU] [] t g (fun r t g => Xp 53 (d + 1) 52 ls (hkPush r st) t g Q)) := xr_invV (idx := 90) (y' := 54) (ci := 3) (tg := [2, 0, 0]) (by decide +kernel) (by decide +kernel) (by decide +kernel) (by decide +kernel) rfl rfl rfl
theorem x_53_52 : Xp 53 d 52 [(2, x), v1, v2, v3] st t g Q = Xp 53 d 53 [(2, x), v1, v2, v3] ((2, x) :: st) t g Q := Xp_go (i := .aload_n 0) (len := 1) (by decide +kernel) rfl
theorem x_53_53 : Xp 53 d 53 ls ((2, p) :: st) t g Q = (hkJK p = 3 ∧ jA p 0 ≤ t ∧ Xp 53 d 56 ls ((2, jR p 0) :: st) t g Q) := xr_getR (idx := 26) (ci := 3) (k := 0) (by decide +kernel) (by decide +kernel) (by decide +kernel)
theorem x_53_56 : Xp 53 d 56 ls ((2, p) :: st) t g Q = (hkJK p = 1 ∧ jA p 9 ≤ t ∧ Xp 53 d 59 ls ((2, jR p 9) :: st) t g Q) := xr_getR (idx := 72) (ci := 1) (k := 9) (by decide +kernel) (by decide +kernel) (by decide +kernel)
theorem x_53_59 : Xp 53 d 59 [v0, v1, v2, (0, x)] st t g Q = Xp 53 d 60 [v0, v1, v2, (0, x)] ((0, x) :: st) t g Q := Xp_go (i := .iload_n 3) (len := 1) (by decide +kernel) rfl
theorem x_53_60 : Xp 53 d 60 ls ((0, a) :: (2, p) :: st) t g Q = ((hkJK p = 100 ∧ 0 ≤ a ∧ a < jL p) ∧ Xp 53 d 61 ls ((0, g p a) :: st) t g Q) := Xp_chk (i := .iaload) (len := 1) (by decide +kernel) rfl
theorem x_53_61 : Xp 53 d 61 ls ((0, b) :: (0, a) :: st) t g Q = Xp 53 d 62 ls ((0, hkW (a + b)) :: st) t g Q := Xp_go (i := .iadd) (len := 1) (by decide +kernel) rfl
theorem x_53_62 : Xp 53 d 62 ls ((0, a) :: (2, p) :: st) t g Q = ((hkJK p = 100 ∧ 0 ≤ a ∧ a < jL p) ∧ Xp 53 d 63 ls ((0, g p a) :: st) t g Q) := Xp_chk (i := .iaload) (len := 1) (by decide +kernel) rfl
theorem x_53_63 : Xp 53 d 63 ls [(0, x)] t g Q = Q (some (0, x)) t g := xr_retI (by decide +kernel) (by decide +kernel)
-- 54: HookBoxes$Products.placeOf(II)I
theorem x_54_0 : Xp 54 d 0 [v0, (0, x), v2, v3] st t g Q = Xp 54 d 1 [v0, (0, x), v2, v3] ((0, x) :: st) t g Q := Xp_go (i := .iload_n 1) (len := 1) (by decide +kernel) rfl
theorem x_54_1 : Xp 54 d 1 ls st t g Q = Xp 54 d 3 ls ((0, 35) :: st) t g Q := xr_bi (c := 35) (by decide +kernel) (by decide)
theorem x_54_3 : Xp 54 d 3 ls ((0, b) :: (0, a) :: st) t g Q = Xp 54 d 4 ls ((0, hkW (a * b)) :: st) t g Q := Xp_go (i := .imul) (len := 1) (by decide +kernel) rfl
theorem x_54_4 : Xp 54 d 4 [v0, v1, (0, x), v3] st t g Q = Xp 54 d 5 [v0, v1, (0, x), v3] ((0, x) :: st) t g Q := Xp_go (i := .iload_n 2) (len := 1) (by decide +kernel) rfl
theorem x_54_5 : Xp 54 d 5 ls ((0, b) :: (0, a) :: st) t g Q = Xp 54 d 6 ls ((0, hkW (a + b)) :: st) t g Q := Xp_go (i := .iadd) (len := 1) (by decide +kernel) rfl
theorem x_54_6 : Xp 54 d 6 ls st t g Q = Xp 54 d 7 ls ((0, 5) :: st) t g Q := xr_const (c := 5) (by decide +kernel) (by decide)
theorem x_54_7 : Xp 54 d 7 ls ((0, b) :: (0, a) :: st) t g Q = Xp 54 d 8 ls ((0, hkW (a * b)) :: st) t g Q := Xp_go (i := .imul) (len := 1) (by decide +kernel) rfl
theorem x_54_8 : Xp 54 d 8 [v0, v1, v2, v3] ((0, x) :: st) t g Q = (hkP1 v2 ∧ Xp 54 d 9 [v0, v1, v2, (0, x)] st t g Q) := Xp_chk (i := .istore_n 3) (len := 1) (by decide +kernel) rfl
theorem x_54_9 : Xp 54 d 9 [(2, x), v1, v2, v3] st t g Q = Xp 54 d 10 [(2, x), v1, v2, v3] ((2, x) :: st) t g Q := Xp_go (i := .aload_n 0) (len := 1) (by decide +kernel) rfl
theorem x_54_10 : Xp 54 d 10 ls ((2, p) :: st) t g Q = (hkJK p = 3 ∧ jA p 3 ≤ t ∧ Xp 54 d 13 ls ((2, jR p 3) :: st) t g Q) := xr_getR (idx := 17) (ci := 3) (k := 3) (by decide +kernel) (by decide +kernel) (by decide +kernel)
theorem x_54_13 : Xp 54 d 13 [v0, v1, v2, (0, x)] st t g Q = Xp 54 d 14 [v0, v1, v2, (0, x)] ((0, x) :: st) t g Q := Xp_go (i := .iload_n 3) (len := 1) (by decide +kernel) rfl
theorem x_54_14 : Xp 54 d 14 ls ((0, a) :: (2, p) :: st) t g Q = ((hkJK p = 100 ∧ 0 ≤ a ∧ a < jL p) ∧ Xp 54 d 15 ls ((0, g p a) :: st) t g Q) := Xp_chk (i := .iaload) (len := 1) (by decide +kernel) rfl
theorem x_54_15 : Xp 54 d 15 ls st t g Q = Xp 54 d 17 ls ((0, -2147483648) :: st) t g Q := xr_ldc (idx := 43) (by decide +kernel) (by decide +kernel)
theorem x_54_17 : Xp 54 d 17 ls ((0, b) :: (0, a) :: st) t g Q = ((¬ (a = b) → Xp 54 d 83 ls st t g Q) ∧ (¬ (¬ (a = b)) → Xp 54 d 20 ls st t g Q)) := xr_if2 (cd := .ne) (off := 66) (by decide +kernel) (by decide)
theorem x_54_20 : Xp 54 d 20 [(2, x), v1, v2, v3] st t g Q = Xp 54 d 21 [(2, x), v1, v2, v3] ((2, x) :: st) t g Q := Xp_go (i := .aload_n 0) (len := 1) (by decide +kernel) rfl
theorem x_54_21 : Xp 54 d 21 ls ((2, p) :: st) t g Q = (hkJK p = 3 ∧ jA p 3 ≤ t ∧ Xp 54 d 24 ls ((2, jR p 3) :: st) t g Q) := xr_getR (idx := 17) (ci := 3) (k := 3) (by decide +kernel) (by decide +kernel) (by decide +kernel)
theorem x_54_24 : Xp 54 d 24 [v0, v1, v2, (0, x)] st t g Q = Xp 54 d 25 [v0, v1, v2, (0, x)] ((0, x) :: st) t g Q := Xp_go (i := .iload_n 3) (len := 1) (by decide +kernel) rfl
theorem x_54_25 : Xp 54 d 25 [v0, v1, v2, (0, x)] st t g Q = Xp 54 d 26 [v0, v1, v2, (0, x)] ((0, x) :: st) t g Q := Xp_go (i := .iload_n 3) (len := 1) (by decide +kernel) rfl
theorem x_54_26 : Xp 54 d 26 ls st t g Q = Xp 54 d 27 ls ((0, 5) :: st) t g Q := xr_const (c := 5) (by decide +kernel) (by decide)
theorem x_54_27 : Xp 54 d 27 ls ((0, b) :: (0, a) :: st) t g Q = Xp 54 d 28 ls ((0, hkW (a + b)) :: st) t g Q := Xp_go (i := .iadd) (len := 1) (by decide +kernel) rfl
theorem x_54_28 : Xp 54 d 28 ls st t g Q = Xp 54 d 29 ls ((0, 0) :: st) t g Q := xr_const (c := 0) (by decide +kernel) (by decide)
theorem x_54_29 : Xp 54 (d + 1) 29 ls ((0, a3) :: (0, a2) :: (0, a1) :: (2, a0) :: st) t g Q = (hkC8 st ∧ Xp 180 d 0 [(2, a0), (0, a1), (0, a2), (0, a3), hkU] [] t g (fun r t g => Xp 54 (d + 1) 32 ls (hkPush r st) t g Q)) := xr_invS (idx := 102) (y' := 180) (tg := [2, 0, 0, 0]) (by decide +kernel) (by decide +kernel) (by decide +kernel) rfl rfl
theorem x_54_32 : Xp 54 d 32 [(2, x), v1, v2, v3] st t g Q = Xp 54 d 33 [(2, x), v1, v2, v3] ((2, x) :: st) t g Q := Xp_go (i := .aload_n 0) (len := 1) (by decide +kernel) rfl
theorem x_54_33 : Xp 54 d 33 ls ((2, p) :: st) t g Q = (hkJK p = 3 ∧ jA p 4 ≤ t ∧ Xp 54 d 36 ls ((2, jR p 4) :: st) t g Q) := xr_getR (idx := 20) (ci := 3) (k := 4) (by decide +kernel) (by decide +kernel) (by decide +kernel)
theorem x_54_36 : Xp 54 d 36 ls st t g Q = Xp 54 d 37 ls ((0, 0) :: st) t g Q := xr_const (c := 0) (by decide +kernel) (by decide)
theorem x_54_37 : Xp 54 d 37 ls st t g Q = Xp 54 d 38 ls ((0, 5) :: st) t g Q := xr_const (c := 5) (by decide +kernel) (by decide)
theorem x_54_38 : Xp 54 d 38 ls st t g Q = Xp 54 d 39 ls ((0, 0) :: st) t g Q := xr_const (c := 0) (by decide +kernel) (by decide)
theorem x_54_39 : Xp 54 (d + 1) 39 ls ((0, a3) :: (0, a2) :: (0, a1) :: (2, a0) :: st) t g Q = (hkC8 st ∧ Xp 180 d 0 [(2, a0), (0, a1), (0, a2), (0, a3), hkU] [] t g (fun r t g => Xp 54 (d + 1) 42 ls (hkPush r st) t g Q)) := xr_invS (idx := 102) (y' := 180) (tg := [2, 0, 0, 0]) (by decide +kernel) (by decide +kernel) (by decide +kernel) rfl rfl
theorem x_54_42 : Xp 54 d 42 [(2, x), v1, v2, v3] st t g Q = Xp 54 d 43 [(2, x), v1, v2, v3] ((2, x) :: st) t g Q := Xp_go (i := .aload_n 0) (len := 1) (by decide +kernel) rfl
theorem x_54_43 : Xp 54 d 43 ls ((2, p) :: st) t g Q = (hkJK p = 3 ∧ jA p 4 ≤ t ∧ Xp 54 d 46 ls ((2, jR p 4) :: st) t g Q) := xr_getR (idx := 20) (ci := 3) (k := 4) (by decide +kernel) (by decide +kernel) (by decide +kernel)
theorem x_54_46 : Xp 54 d 46 [(2, x), v1, v2, v3] st t g Q = Xp 54 d 47 [(2, x), v1, v2, v3] ((2, x) :: st) t g Q := Xp_go (i := .aload_n 0) (len := 1) (by decide +kernel) rfl
theorem x_54_47 : Xp 54 d 47 ls ((2, p) :: st) t g Q = (hkJK p = 3 ∧ jA p 0 ≤ t ∧ Xp 54 d 50 ls ((2, jR p 0) :: st) t g Q) := xr_getR (idx := 26) (ci := 3) (k := 0) (by decide +kernel) (by decide +kernel) (by decide +kernel)
theorem x_54_50 : Xp 54 d 50 ls ((2, p) :: st) t g Q = (hkJK p = 1 ∧ jA p 9 ≤ t ∧ Xp 54 d 53 ls ((2, jR p 9) :: st) t g Q) := xr_getR (idx := 72) (ci := 1) (k := 9) (by decide +kernel) (by decide +kernel) (by decide +kernel)
theorem x_54_53 : Xp 54 d 53 [v0, (0, x), v2, v3] st t g Q = Xp 54 d 54 [v0, (0, x), v2, v3] ((0, x) :: st) t g Q := Xp_go (i := .iload_n 1) (len := 1) (by decide +kernel) rfl
theorem x_54_54 : Xp 54 d 54 ls ((0, a) :: (2, p) :: st) t g Q = ((hkJK p = 100 ∧ 0 ≤ a ∧ a < jL p) ∧ Xp 54 d 55 ls ((0, g p a) :: st) t g Q) := Xp_chk (i := .iaload) (len := 1) (by decide +kernel) rfl
theorem x_54_55 : Xp 54 d 55 ls st t g Q = Xp 54 d 56 ls ((0, 1) :: st) t g Q := xr_const (c := 1) (by decide +kernel) (by decide)
theorem x_54_56 : Xp 54 d 56 ls ((0, x) :: (0, a) :: (2, p) :: st) t g Q = ((hkJK p = 100 ∧ (100 = 102 → x = 0 ∨ x = 1) ∧ 0 ≤ a ∧ a < jL p) ∧ Xp 54 d 57 ls st t (hkSet g p a x) Q) := Xp_chk (i := .iastore) (len := 1) (by decide +kernel) rfl
theorem x_54_57 : Xp 54 d 57 [(2, x), v1, v2, v3] st t g Q = Xp 54 d 58 [(2, x), v1, v2, v3] ((2, x) :: st) t g Q := Xp_go (i := .aload_n 0) (len := 1) (by decide +kernel) rfl
theorem x_54_58 : Xp 54 d 58 [v0, v1, v2, (0, x)] st t g Q = Xp 54 d 59 [v0, v1, v2, (0, x)] ((0, x) :: st) t g Q := Xp_go (i := .iload_n 3) (len := 1) (by decide +kernel) rfl
theorem x_54_59 : Xp 54 d 59 [v0, v1, (0, x), v3] st t g Q = Xp 54 d 60 [v0, v1, (0, x), v3] ((0, x) :: st) t g Q := Xp_go (i := .iload_n 2) (len := 1) (by decide +kernel) rfl
theorem x_54_60 : Xp 54 d 60 ls st t g Q = Xp 54 d 61 ls ((0, 0) :: st) t g Q := xr_const (c := 0) (by decide +kernel) (by decide)
theorem x_54_61 : Xp 54 d 61 ls st t g Q = Xp 54 d 62 ls ((0, 0) :: st) t g Q := xr_const (c := 0) (by decide +kernel) (by decide)
theorem x_54_62 : Xp 54 d 62 [(2, x), v1, v2, v3] st t g Q = Xp 54 d 63 [(2, x), v1, v2, v3] ((2, x) :: st) t g Q := Xp_go (i := .aload_n 0) (len := 1) (by decide +kernel) rfl
theorem x_54_63 : Xp 54 d 63 ls ((2, p) :: st) t g Q = (hkJK p = 3 ∧ jA p 0 ≤ t ∧ Xp 54 d 66 ls ((2, jR p 0) :: st) t g Q) := xr_getR (idx := 26) (ci := 3) (k := 0) (by decide +kernel) (by decide +kernel) (by decide +kernel)
theorem x_54_66 : Xp 54 d 66 ls ((2, p) :: st) t g Q = (hkJK p = 1 ∧ jA p 5 ≤ t ∧ Xp 54 d 69 ls ((2, jR p 5) :: st) t g Q) := xr_getR (idx := 84) (ci := 1) (k := 5) (by decide +kernel) (by decide +kernel) (by decide +kernel)
theorem x_54_69 : Xp 54 d 69 [v0, (0, x), v2, v3] st t g Q = Xp 54 d 70 [v0, (0, x), v2, v3] ((0, x) :: st) t g Q := Xp_go (i := .iload_n 1) (len := 1) (by decide +kernel) rfl
theorem x_54_70 : Xp 54 d 70 ls ((0, a) :: (2, p) :: st) t g Q = ((hkJK p = 100 ∧ 0 ≤ a ∧ a < jL p) ∧ Xp 54 d 71 ls ((0, g p a) :: st) t g Q) := Xp_chk (i := .iaload) (len := 1) (by decide +kernel) rfl
theorem x_54_71 : Xp 54 d 71 [(2, x), v1, v2, v3] st t g Q = Xp 54 d 72 [(2, x), v1, v2, v3] ((2, x) :: st) t g Q := Xp_go (i := .aload_n 0) (len := 1) (by decide +kernel) rfl
theorem x_54_72 : Xp 54 d 72 ls ((2, p) :: st) t g Q = (hkJK p = 3 ∧ jA p 0 ≤ t ∧ Xp 54 d 75 ls ((2, jR p 0) :: st) t g Q) := xr_getR (idx := 26) (ci := 3) (k := 0) (by decide +kernel) (by decide +kernel) (by decide +kernel)
theorem x_54_75 : Xp 54 d 75 ls ((2, p) :: st) t g Q = (hkJK p = 1 ∧ Xp 54 d 78 ls ((0, g p 1) :: st) t g Q) := xr_getI (idx := 87) (ci := 1) (k := 1) (by decide +kernel) (by decide +kernel) (by decide +kernel)
theorem x_54_78 : Xp 54 d 78 ls ((0, b) :: (0, a) :: st) t g Q = (b ≠ 0 ∧ Xp 54 d 79 ls ((0, a.tmod b) :: st) t g Q) := Xp_chk (i := .irem) (len := 1) (by decide +kernel) rfl
theorem x_54_79 : Xp 54 d 79 ls st t g Q = Xp 54 d 80 ls ((0, 1) :: st) t g Q := xr_const (c := 1) (by decide +kernel) (by decide)
theorem x_54_80 : Xp 54 (d + 1) 80 ls ((0, a6) :: (0, a5) :: (0, a4) :: (0, a3) :: (0, a2) :: (0, a1) :: (2, a0) :: st) t g Q = (hkJK a0 = 3 ∧ hkC8 st ∧ Xp 55 d 0 [(2, a0), (0, a1), (0, a2), (0, a3), (0, a4), (0, a5), (0, a6), hkU, hkU, hkU, hkU] [] t g (fun r t g => Xp 54 (d + 1) 83 ls (hkPush r st) t g Q)) := xr_invV (idx := 105) (y' := 55) (ci := 3) (tg := [2, 0, 0, 0, 0, 0, 0]) (by decide +kernel) (by decide +kernel) (by decide +kernel) (by decide +kernel) rfl rfl rfl
theorem x_54_83 : Xp 54 d 83 [v0, v1, v2, (0, x)] st t g Q = Xp 54 d 84 [v0, v1, v2, (0, x)] ((0, x) :: st) t g Q := Xp_go (i := .iload_n 3) (len := 1) (by decide +kernel) rfl
theorem x_54_84 : Xp 54 d 84 ls [(0, x)] t g Q = Q (some (0, x)) t g := xr_retI (by decide +kernel) (by decide +kernel)
-- 55: HookBoxes$Products.addOrders(IIIIII)V
theorem x_55_0 : Xp 55 d 0 [(2, x), v1, v2, v3, v4, v5, v6, v7, v8, v9, v10] st t g Q = Xp 55 d 1 [(2, x), v1, v2, v3, v4, v5, v6, v7, v8, v9, v10] ((2, x) :: st) t g Q := Xp_go (i := .aload_n 0) (len := 1) (by decide +kernel) rfl
theorem x_55_1 : Xp 55 d 1 ls ((2, p) :: st) t g Q = (hkJK p = 3 ∧ jA p 0 ≤ t ∧ Xp 55 d 4 ls ((2, jR p 0) :: st) t g Q) := xr_getR (idx := 26) (ci := 3) (k := 0) (by decide +kernel) (by decide +kernel) (by decide +kernel)
theorem x_55_4 : Xp 55 d 4 [v0, v1, (0, x), v3, v4, v5, v6, v7, v8, v9, v10] st t g Q = Xp 55 d 5 [v0, v1, (0, x), v3, v4, v5, v6, v7, v8, v9, v10] ((0, x) :: st) t g Q := Xp_go (i := .iload_n 2) (len := 1) (by decide +kernel) rfl
theorem x_55_5 : Xp 55 (d + 1) 5 ls ((0, a1) :: (2, a0) :: st) t g Q = (hkJK a0 = 1 ∧ hkC8 st ∧ Xp 41 d 0 [(2, a0), (0, a1), hkU, hkU] [] t g (fun r t g => Xp 55 (d + 1) 8 ls (hkPush r st) t g Q)) := xr_invV (idx := 109) (y' := 41) (ci := 1) (tg := [2, 0]) (by decide +kernel) (by decide +kernel) (by decide +kernel) (by decide +kernel) rfl rfl rfl
theorem x_55_8 : Xp 55 d 8 [v0, v1, v2, v3, v4, v5, v6, v7, v8, v9, v10] ((0, x) :: st) t g Q = (hkP1 v6 ∧ Xp 55 d 10 [v0, v1, v2, v3, v4, v5, v6, (0, x), v8, v9, v10] st t g Q) := Xp_chk (i := .istore 7) (len := 2) (by decide +kernel) rfl
theorem x_55_10 : Xp 55 d 10 [v0, v1, v2, (0, x), v4, v5, v6, v7, v8, v9, v10] st t g Q = Xp 55 d 11 [v0, v1, v2, (0, x), v4, v5, v6, v7, v8, v9, v10] ((0, x) :: st) t g Q := Xp_go (i := .iload_n 3) (len := 1) (by decide +kernel) rfl
theorem x_55_11 : Xp 55 d 11 [v0, v1, v2, v3, v4, v5, v6, (0, x), v8, v9, v10] st t g Q = Xp 55 d 13 [v0, v1, v2, v3, v4, v5, v6, (0, x), v8, v9, v10] ((0, x) :: st) t g Q := Xp_go (i := .iload 7) (len := 2) (by decide +kernel) rfl
theorem x_55_13 : Xp 55 d 13 ls ((0, b) :: (0, a) :: st) t g Q = ((a < b → Xp 55 d 58 ls st t g Q) ∧ (¬ (a < b) → Xp 55 d 16 ls st t g Q)) := xr_if2 (cd := .lt) (off := 45) (by decide +kernel) (by decide)
theorem x_55_16 : Xp 55 d 16 ls st t g Q = Xp 55 d 17 ls ((0, 0) :: st) t g Q := xr_const (c := 0) (by decide +kernel) (by decide)
theorem x_55_17 : Xp 55 d 17 [v0, v1, v2, v3, v4, v5, v6, v7, v8, v9, v10] ((0, x) :: st) t g Q = (hkP1 v7 ∧ Xp 55 d 19 [v0, v1, v2, v3, v4, v5, v6, v7, (0, x), v9, v10] st t g Q) := Xp_chk (i := .istore 8) (len := 2) (by decide +kernel) rfl
theorem x_55_19 : Xp 55 d 19 [v0, v1, v2, v3, v4, v5, v6, v7, (0, x), v9, v10] st t g Q = Xp 55 d 21 [v0, v1, v2, v3, v4, v5, v6, v7, (0, x), v9, v10] ((0, x) :: st) t g Q := Xp_go (i := .iload 8) (len := 2) (by decide +kernel) rfl
theorem x_55_21 : Xp 55 d 21 ls st t g Q = Xp 55 d 22 ls ((0, 5) :: st) t g Q := xr_const (c := 5) (by decide +kernel) (by decide)
theorem x_55_22 : Xp 55 d 22 ls ((0, b) :: (0, a) :: st) t g Q = ((b ≤ a → Xp 55 d 57 ls st t g Q) ∧ (¬ (b ≤ a) → Xp 55 d 25 ls st t g Q)) := xr_if2 (cd := .ge) (off := 35) (by decide +kernel) (by decide)
theorem x_55_25 : Xp 55 d 25 [(2, x), v1, v2, v3, v4, v5, v6, v7, v8, v9, v10] st t g Q = Xp 55 d 26 [(2, x), v1, v2, v3, v4, v5, v6, v7, v8, v9, v10] ((2, x) :: st) t g Q := Xp_go (i := .aload_n 0) (len := 1) (by decide +kernel) rfl
theorem x_55_26 : Xp 55 d 26 ls ((2, p) :: st) t g Q = (hkJK p = 3 ∧ jA p 3 ≤ t ∧ Xp 55 d 29 ls ((2, jR p 3) :: st) t g Q) := xr_getR (idx := 17) (ci := 3) (k := 3) (by decide +kernel) (by decide +kernel) (by decide +kernel)
theorem x_55_29 : Xp 55 d 29 [v0, (0, x), v2, v3, v4, v5, v6, v7, v8, v9, v10] st t g Q = Xp 55 d 30 [v0, (0, x), v2, v3, v4, v5, v6, v7, v8, v9, v10] ((0, x) :: st) t g Q := Xp_go (i := .iload_n 1) (len := 1) (by decide +kernel) rfl
theorem x_55_30 : Xp 55 d 30 [v0, v1, v2, v3, v4, v5, v6, v7, (0, x), v9, v10] st t g Q = Xp 55 d 32 [v0, v1, v2, v3, v4, v5, v6, v7, (0, x), v9, v10] ((0, x) :: st) t g Q := Xp_go (i := .iload 8) (len := 2) (by decide +kernel) rfl
theorem x_55_32 : Xp 55 d 32 ls ((0, b) :: (0, a) :: st) t g Q = Xp 55 d 33 ls ((0, hkW (a + b)) :: st) t g Q := Xp_go (i := .iadd) (len := 1) (by decide +kernel) rfl
theorem x_55_33 : Xp 55 d 33 ls (v :: w :: st) t g Q = ((hkP1 v ∧ hkP1 w) ∧ Xp 55 d 34 ls (v :: w :: v :: w :: st) t g Q) := Xp_chk (i := .dup2) (len := 1) (by decide +kernel) rfl
theorem x_55_34 : Xp 55 d 34 ls ((0, a) :: (2, p) :: st) t g Q = ((hkJK p = 100 ∧ 0 ≤ a ∧ a < jL p) ∧ Xp 55 d 35 ls ((0, g p a) :: st) t g Q) := Xp_chk (i := .iaload) (len := 1) (by decide +kernel) rfl
theorem x_55_35 : Xp 55 d 35 [v0, v1, v2, v3, v4, v5, (0, x), v7, v8, v9, v10] st t g Q = Xp 55 d 37 [v0, v1, v2, v3, v4, v5, (0, x), v7, v8, v9, v10] ((0, x) :: st) t g Q := Xp_go (i := .iload 6) (len := 2) (by decide +kernel) rfl
theorem x_55_37 : Xp 55 d 37 [(2, x), v1, v2, v3, v4, v5, v6, v7, v8, v9, v10] st t g Q = Xp 55 d 38 [(2, x), v1, v2, v3, v4, v5, v6, v7, v8, v9, v10] ((2, x) :: st) t g Q := Xp_go (i := .aload_n 0) (len := 1) (by decide +kernel) rfl
theorem x_55_38 : Xp 55 d 38 ls ((2, p) :: st) t g Q = (hkJK p = 3 ∧ jA p 4 ≤ t ∧ Xp 55 d 41 ls ((2, jR p 4) :: st) t g Q) := xr_getR (idx := 20) (ci := 3) (k := 4) (by decide +kernel) (by decide +kernel) (by decide +kernel)
theorem x_55_41 : Xp 55 d 41 [v0, v1, v2, (0, x), v4, v5, v6, v7, v8, v9, v10] st t g Q = Xp 55 d 42 [v0, v1, v2, (0, x), v4, v5, v6, v7, v8, v9, v10] ((0, x) :: st) t g Q := Xp_go (i := .iload_n 3) (len := 1) (by decide +kernel) rfl
theorem x_55_42 : Xp 55 d 42 ls st t g Q = Xp 55 d 43 ls ((0, 5) :: st) t g Q := xr_const (c := 5) (by decide +kernel) (by decide)
theorem x_55_43 : Xp 55 d 43 ls ((0, b) :: (0, a) :: st) t g Q = Xp 55 d 44 ls ((0, hkW (a * b)) :: st) t g Q := Xp_go (i := .imul) (len := 1) (by decide +kernel) rfl
theorem x_55_44 : Xp 55 d 44 [v0, v1, v2, v3, v4, v5, v6, v7, (0, x), v9, v10] st t g Q = Xp 55 d 46 [v0, v1, v2, v3, v4, v5, v6, v7, (0, x), v9, v10] ((0, x) :: st) t g Q := Xp_go (i := .iload 8) (len := 2) (by decide +kernel) rfl
theorem x_55_46 : Xp 55 d 46 ls ((0, b) :: (0, a) :: st) t g Q = Xp 55 d 47 ls ((0, hkW (a + b)) :: st) t g Q := Xp_go (i := .iadd) (len := 1) (by decide +kernel) rfl
theorem x_55_47 : Xp 55 d 47 ls ((0, a) :: (2, p) :: st) t g Q = ((hkJK p = 100 ∧ 0 ≤ a ∧ a < jL p) ∧ Xp 55 d 48 ls ((0, g p a) :: st) t g Q) := Xp_chk (i := .iaload) (len := 1) (by decide +kernel) rfl
theorem x_55_48 : Xp 55 d 48 ls ((0, b) :: (0, a) :: st) t g Q = Xp 55 d 49 ls ((0, hkW (a * b)) :: st) t g Q := Xp_go (i := .imul) (len := 1) (by decide +kernel) rfl
theorem x_55_49 : Xp 55 d 49 ls ((0, b) :: (0, a) :: st) t g Q = Xp 55 d 50 ls ((0, hkW (a + b)) :: st) t g Q := Xp_go (i := .iadd) (len := 1) (by decide +kernel) rfl
theorem x_55_50 : Xp 55 d 50 ls ((0, x) :: (0, a) :: (2, p) :: st) t g Q = ((hkJK p = 100 ∧ (100 = 102 → x = 0 ∨ x = 1) ∧ 0 ≤ a ∧ a < jL p) ∧ Xp 55 d 51 ls st t (hkSet g p a x) Q) := Xp_chk (i := .iastore) (len := 1) (by decide +kernel) rfl
theorem x_55_51 : Xp 55 d 51 [v0, v1, v2, v3, v4, v5, v6, v7, (0, x), v9, v10] st t g Q = (hkP1 v7 ∧ Xp 55 d 54 [v0, v1, v2, v3, v4, v5, v6, v7, (0, hkW (x + 1)), v9, v10] st t g Q) := Xp_chk (i := .iinc 8 (1)) (len := 3) (by decide +kernel) rfl
theorem x_55_54 : Xp 55 d 54 ls st t g Q = Xp 55 d 19 ls st t g Q := xr_goto (off := -35) (by decide +kernel) (by decide)
theorem x_55_57 : Xp 55 d 57 ls [] t g Q = Q none t g := xr_retV (by decide +kernel) (by decide +kernel)
theorem x_55_58 : Xp 55 d 58 ls st t g Q = Xp 55 d 59 ls ((0, 0) :: st) t g Q := xr_const (c := 0) (by decide +kernel) (by decide)
theorem x_55_59 : Xp 55 d 59 [v0, v1, v2, v3, v4, v5, v6, v7, v8, v9, v10] ((0, x) :: st) t g Q = (hkP1 v7 ∧ Xp 55 d 61 [v0, v1, v2, v3, v4, v5, v6, v7, (0, x), v9, v10] st t g Q) := Xp_chk (i := .istore 8) (len := 2) (by decide +kernel) rfl
theorem x_55_61 : Xp 55 d 61 [v0, v1, v2, v3, v4, v5, v6, v7, (0, x), v9, v10] st t g Q = Xp 55 d 63 [v0, v1, v2, v3, v4, v5, v6, v7, (0, x), v9, v10] ((0, x) :: st) t g Q := Xp_go (i := .iload 8) (len := 2) (by decide +kernel) rfl
theorem x_55_63 : Xp 55 d 63 [v0, v1, v2, v3, v4, v5, v6, (0, x), v8, v9, v10] st t g Q = Xp 55 d 65 [v0, v1, v2, v3, v4, v5, v6, (0, x), v8, v9, v10] ((0, x) :: st) t g Q := Xp_go (i := .iload 7) (len := 2) (by decide +kernel) rfl
theorem x_55_65 : Xp 55 d 65 ls ((0, b) :: (0, a) :: st) t g Q = ((b ≤ a → Xp 55 d 184 ls st t g Q) ∧ (¬ (b ≤ a) → Xp 55 d 68 ls st t g Q)) := xr_if2 (cd := .ge) (off := 119) (by decide +kernel) (by decide)
theorem x_55_68 : Xp 55 d 68 [(2, x), v1, v2, v3, v4, v5, v6, v7, v8, v9, v10] st t g Q = Xp 55 d 69 [(2, x), v1, v2, v3, v4, v5, v6, v7, v8, v9, v10] ((2, x) :: st) t g Q := Xp_go (i := .aload_n 0) (len := 1) (by decide +kernel) rfl
theorem x_55_69 : Xp 55 d 69 ls ((2, p) :: st) t g Q = (hkJK p = 3 ∧ jA p 0 ≤ t ∧ Xp 55 d 72 ls ((2, jR p 0) :: st) t g Q) := xr_getR (idx := 26) (ci := 3) (k := 0) (by decide +kernel) (by decide +kernel) (by decide +kernel)
theorem x_55_72 : Xp 55 d 72 ls ((2, p) :: st) t g Q = (hkJK p = 1 ∧ jA p 4 ≤ t ∧ Xp 55 d 75 ls ((2, jR p 4) :: st) t g Q) := xr_getR (idx := 60) (ci := 1) (k := 4) (by decide +kernel) (by decide +kernel) (by decide +kernel)
theorem x_55_75 : Xp 55 d 75 [v0, v1, (0, x), v3, v4, v5, v6, v7, v8, v9, v10] st t g Q = Xp 55 d 76 [v0, v1, (0, x), v3, v4, v5, v6, v7, v8, v9, v10] ((0, x) :: st) t g Q := Xp_go (i := .iload_n 2) (len := 1) (by decide +kernel) rfl
theorem x_55_76 : Xp 55 d 76 ls st t g Q = Xp 55 d 77 ls ((0, 4) :: st) t g Q := xr_const (c := 4) (by decide +kernel) (by decide)
theorem x_55_77 : Xp 55 d 77 ls ((0, b) :: (0, a) :: st) t g Q = Xp 55 d 78 ls ((0, hkW (a * b)) :: st) t g Q := Xp_go (i := .imul) (len := 1) (by decide +kernel) rfl
theorem x_55_78 : Xp 55 d 78 [v0, v1, v2, (0, x), v4, v5, v6, v7, v8, v9, v10] st t g Q = Xp 55 d 79 [v0, v1, v2, (0, x), v4, v5, v6, v7, v8, v9, v10] ((0, x) :: st) t g Q := Xp_go (i := .iload_n 3) (len := 1) (by decide +kernel) rfl
theorem x_55_79 : Xp 55 d 79 ls ((0, b) :: (0, a) :: st) t g Q = Xp 55 d 80 ls ((0, hkW (a + b)) :: st) t g Q := Xp_go (i := .iadd) (len := 1) (by decide +kernel) rfl
theorem x_55_80 : Xp 55 d 80 ls ((0, a) :: (2, p) :: st) t g Q = ((hkJK p = 100 ∧ 0 ≤ a ∧ a < jL p) ∧ Xp 55 d 81 ls ((0, g p a) :: st) t g Q) := Xp_chk (i := .iaload) (len := 1) (by decide +kernel) rfl
theorem x_55_81 : Xp 55 d 81 [v0, v1, v2, v3, v4, v5, v6, v7, (0, x), v9, v10] st t g Q = Xp 55 d 83 [v0, v1, v2, v3, v4, v5, v6, v7, (0, x), v9, v10] ((0, x) :: st) t g Q := Xp_go (i := .iload 8) (len := 2) (by decide +kernel) rfl
theorem x_55_83 : Xp 55 d 83 ls ((0, b) :: (0, a) :: st) t g Q = Xp 55 d 84 ls ((0, hkW (a + b)) :: st) t g Q := Xp_go (i := .iadd) (len := 1) (by decide +kernel) rfl
theorem x_55_84 : Xp 55 d 84 [v0, v1, v2, (0, x), v4, v5, v6, v7, v8, v9, v10] st t g Q = Xp 55 d 85 [v0, v1, v2, (0, x), v4, v5, v6, v7, v8, v9, v10] ((0, x) :: st) t g Q := Xp_go (i := .iload_n 3) (len := 1) (by decide +kernel) rfl
theorem x_55_85 : Xp 55 d 85 ls ((0, b) :: (0, a) :: st) t g Q = Xp 55 d 86 ls ((0, hkW (a - b)) :: st) t g Q := Xp_go (i := .isub) (len := 1) (by decide +kernel) rfl
theorem x_55_86 : Xp 55 d 86 [v0, v1, v2, v3, v4, v5, v6, v7, v8, v9, v10] ((0, x) :: st) t g Q = (hkP1 v8 ∧ Xp 55 d 88 [v0, v1, v2, v3, v4, v5, v6, v7, v8, (0, x), v10] st t g Q) := Xp_chk (i := .istore 9) (len := 2) (by decide +kernel) rfl
theorem x_55_88 : Xp 55 d 88 [v0, v1, v2, v3, (0, x), v5, v6, v7, v8, v9, v10] st t g Q = Xp 55 d 90 [v0, v1, v2, v3, (0, x), v5, v6, v7, v8, v9, v10] ((0, x) :: st) t g Q := Xp_go (i := .iload 4) (len := 2) (by decide +kernel) rfl
theorem x_55_90 : Xp 55 d 90 [v0, v1, v2, v3, v4, v5, v6, v7, (0, x), v9, v10] st t g Q = Xp 55 d 92 [v0, v1, v2, v3, v4, v5, v6, v7, (0, x), v9, v10] ((0, x) :: st) t g Q := Xp_go (i := .iload 8) (len := 2) (by decide +kernel) rfl
theorem x_55_92 : Xp 55 d 92 ls ((0, b) :: (0, a) :: st) t g Q = Xp 55 d 93 ls ((0, hkShr a b) :: st) t g Q := Xp_go (i := .ishr) (len := 1) (by decide +kernel) rfl
theorem x_55_93 : Xp 55 d 93 ls st t g Q = Xp 55 d 94 ls ((0, 1) :: st) t g Q := xr_const (c := 1) (by decide +kernel) (by decide)
theorem x_55_94 : Xp 55 d 94 ls ((0, b) :: (0, a) :: st) t g Q = Xp 55 d 95 ls ((0, hkAnd a b) :: st) t g Q := Xp_go (i := .iand) (len := 1) (by decide +kernel) rfl
theorem x_55_95 : Xp 55 d 95 ls ((0, a) :: st) t g Q = ((¬ (a = 0) → Xp 55 d 178 ls st t g Q) ∧ (¬ (¬ (a = 0)) → Xp 55 d 98 ls st t g Q)) := xr_if1 (cd := .ne) (off := 83) (by decide +kernel) (by decide)
theorem x_55_98 : Xp 55 d 98 [v0, v1, v2, v3, v4, v5, v6, v7, v8, (0, x), v10] st t g Q = Xp 55 d 100 [v0, v1, v2, v3, v4, v5, v6, v7, v8, (0, x), v10] ((0, x) :: st) t g Q := Xp_go (i := .iload 9) (len := 2) (by decide +kernel) rfl
theorem x_55_100 : Xp 55 d 100 ls ((0, a) :: st) t g Q = ((a < 0 → Xp 55 d 178 ls st t g Q) ∧ (¬ (a < 0) → Xp 55 d 103 ls st t g Q)) := xr_if1 (cd := .lt) (off := 78) (by decide +kernel) (by decide)
theorem x_55_103 : Xp 55 d 103 [v0, v1, v2, v3, v4, v5, v6, v7, v8, (0, x), v10] st t g Q = Xp 55 d 105 [v0, v1, v2, v3, v4, v5, v6, v7, v8, (0, x), v10] ((0, x) :: st) t g Q := Xp_go (i := .iload 9) (len := 2) (by decide +kernel) rfl
theorem x_55_105 : Xp 55 d 105 [(2, x), v1, v2, v3, v4, v5, v6, v7, v8, v9, v10] st t g Q = Xp 55 d 106 [(2, x), v1, v2, v3, v4, v5, v6, v7, v8, v9, v10] ((2, x) :: st) t g Q := Xp_go (i := .aload_n 0) (len := 1) (by decide +kernel) rfl
theorem x_55_106 : Xp 55 d 106 ls ((2, p) :: st) t g Q = (hkJK p = 3 ∧ jA p 0 ≤ t ∧ Xp 55 d 109 ls ((2, jR p 0) :: st) t g Q) := xr_getR (idx := 26) (ci := 3) (k := 0) (by decide +kernel) (by decide +kernel) (by decide +kernel)
theorem x_55_109 : Xp 55 d 109 ls ((2, p) :: st) t g Q = (hkJK p = 1 ∧ Xp 55 d 112 ls ((0, g p 2) :: st) t g Q) := xr_getI (idx := 50) (ci := 1) (k := 2) (by decide +kernel) (by decide +kernel) (by decide +kernel)
theorem x_55_112 : Xp 55 d 112 ls ((0, b) :: (0, a) :: st) t g Q = ((b < a → Xp 55 d 178 ls st t g Q) ∧ (¬ (b < a) → Xp 55 d 115 ls st t g Q)) := xr_if2 (cd := .gt) (off := 66) (by decide +kernel) (by decide)
theorem x_55_115 : Xp 55 d 115 [v0, v1, v2, v3, (0, x), v5, v6, v7, v8, v9, v10] st t g Q = Xp 55 d 117 [v0, v1, v2, v3, (0, x), v5, v6, v7, v8, v9, v10] ((0, x) :: st) t g Q := Xp_go (i := .iload 4) (len := 2) (by decide +kernel) rfl
theorem x_55_117 : Xp 55 d 117 [v0, v1, v2, v3, v4, v5, v6, v7, (0, x), v9, v10] st t g Q = Xp 55 d 119 [v0, v1, v2, v3, v4, v5, v6, v7, (0, x), v9, v10] ((0, x) :: st) t g Q := Xp_go (i := .iload 8) (len := 2) (by decide +kernel) rfl
theorem x_55_119 : Xp 55 d 119 ls ((0, b) :: (0, a) :: st) t g Q = Xp 55 d 120 ls ((0, hkShr a b) :: st) t g Q := Xp_go (i := .ishr) (len := 1) (by decide +kernel) rfl
theorem x_55_120 : Xp 55 (d + 1) 120 ls ((0, a0) :: st) t g Q = (hkC8 st ∧ Xp 173 d 0 [(0, a0)] [] t g (fun r t g => Xp 55 (d + 1) 123 ls (hkPush r st) t g Q)) := xr_invS (idx := 113) (y' := 173) (tg := [0]) (by decide +kernel) (by decide +kernel) (by decide +kernel) rfl rfl
theorem x_55_123 : Xp 55 d 123 [v0, v1, v2, v3, v4, v5, v6, v7, v8, v9, v10] ((0, x) :: st) t g Q = (hkP1 v9 ∧ Xp 55 d 125 [v0, v1, v2, v3, v4, v5, v6, v7, v8, v9, (0, x)] st t g Q) := Xp_chk (i := .istore 10) (len := 2) (by decide +kernel) rfl
theorem x_55_125 : Xp 55 d 125 [(2, x), v1, v2, v3, v4, v5, v6, v7, v8, v9, v10] st t g Q = Xp 55 d 126 [(2, x), v1, v2, v3, v4, v5, v6, v7, v8, v9, v10] ((2, x) :: st) t g Q := Xp_go (i := .aload_n 0) (len := 1) (by decide +kernel) rfl
theorem x_55_126 : Xp 55 d 126 [v0, v1, v2, (0, x), v4, v5, v6, v7, v8, v9, v10] st t g Q = Xp 55 d 127 [v0, v1, v2, (0, x), v4, v5, v6, v7, v8, v9, v10] ((0, x) :: st) t g Q := Xp_go (i := .iload_n 3) (len := 1) (by decide +kernel) rfl
theorem x_55_127 : Xp 55 d 127 [v0, v1, v2, v3, v4, (0, x), v6, v7, v8, v9, v10] st t g Q = Xp 55 d 129 [v0, v1, v2, v3, v4, (0, x), v6, v7, v8, v9, v10] ((0, x) :: st) t g Q := Xp_go (i := .iload 5) (len := 2) (by decide +kernel) rfl
theorem x_55_129 : Xp 55 d 129 [v0, v1, v2, v3, v4, v5, v6, v7, v8, (0, x), v10] st t g Q = Xp 55 d 131 [v0, v1, v2, v3, v4, v5, v6, v7, v8, (0, x), v10] ((0, x) :: st) t g Q := Xp_go (i := .iload 9) (len := 2) (by decide +kernel) rfl
theorem x_55_131 : Xp 55 (d + 1) 131 ls ((0, a3) :: (0, a2) :: (0, a1) :: (2, a0) :: st) t g Q = (hkJK a0 = 3 ∧ hkC8 st ∧ Xp 56 d 0 [(2, a0), (0, a1), (0, a2), (0, a3), hkU, hkU, hkU, hkU, hkU, hkU] [] t g (fun r t g => Xp 55 (d + 1) 134 ls (hkPush r st) t g Q)) := xr_invV (idx := 116) (y' := 56) (ci := 3) (tg := [2, 0, 0, 0]) (by decide +kernel) (by decide +kernel) (by decide +kernel) (by decide +kernel) rfl rfl rfl
theorem x_55_134 : Xp 55 d 134 [(2, x), v1, v2, v3, v4, v5, v6, v7, v8, v9, v10] st t g Q = Xp 55 d 135 [(2, x), v1, v2, v3, v4, v5, v6, v7, v8, v9, v10] ((2, x) :: st) t g Q := Xp_go (i := .aload_n 0) (len := 1) (by decide +kernel) rfl
theorem x_55_135 : Xp 55 d 135 [v0, (0, x), v2, v3, v4, v5, v6, v7, v8, v9, v10] st t g Q = Xp 55 d 136 [v0, (0, x), v2, v3, v4, v5, v6, v7, v8, v9, v10] ((0, x) :: st) t g Q := Xp_go (i := .iload_n 1) (len := 1) (by decide +kernel) rfl
theorem x_55_136 : Xp 55 d 136 [v0, v1, (0, x), v3, v4, v5, v6, v7, v8, v9, v10] st t g Q = Xp 55 d 137 [v0, v1, (0, x), v3, v4, v5, v6, v7, v8, v9, v10] ((0, x) :: st) t g Q := Xp_go (i := .iload_n 2) (len := 1) (by decide +kernel) rfl
theorem x_55_137 : Xp 55 d 137 [v0, v1, v2, (0, x), v4, v5, v6, v7, v8, v9, v10] st t g Q = Xp 55 d 138 [v0, v1, v2, (0, x), v4, v5, v6, v7, v8, v9, v10] ((0, x) :: st) t g Q := Xp_go (i := .iload_n 3) (len := 1) (by decide +kernel) rfl
theorem x_55_138 : Xp 55 d 138 ls st t g Q = Xp 55 d 139 ls ((0, 1) :: st) t g Q := xr_const (c := 1) (by decide +kernel) (by decide)
theorem x_55_139 : Xp 55 d 139 ls ((0, b) :: (0, a) :: st) t g Q = Xp 55 d 140 ls ((0, hkW (a + b)) :: st) t g Q := Xp_go (i := .iadd) (len := 1) (by decide +kernel) rfl
theorem x_55_140 : Xp 55 d 140 [v0, v1, v2, v3, (0, x), v5, v6, v7, v8, v9, v10] st t g Q = Xp 55 d 142 [v0, v1, v2, v3, (0, x), v5, v6, v7, v8, v9, v10] ((0, x) :: st) t g Q := Xp_go (i := .iload 4) (len := 2) (by decide +kernel) rfl
theorem x_55_142 : Xp 55 d 142 ls st t g Q = Xp 55 d 143 ls ((0, 1) :: st) t g Q := xr_const (c := 1) (by decide +kernel) (by decide)
theorem x_55_143 : Xp 55 d 143 [v0, v1, v2, v3, v4, v5, v6, v7, (0, x), v9, v10] st t g Q = Xp 55 d 145 [v0, v1, v2, v3, v4, v5, v6, v7, (0, x), v9, v10] ((0, x) :: st) t g Q := Xp_go (i := .iload 8) (len := 2) (by decide +kernel) rfl
theorem x_55_145 : Xp 55 d 145 ls ((0, b) :: (0, a) :: st) t g Q = Xp 55 d 146 ls ((0, hkShl a b) :: st) t g Q := Xp_go (i := .ishl) (len := 1) (by decide +kernel) rfl
theorem x_55_146 : Xp 55 d 146 ls ((0, b) :: (0, a) :: st) t g Q = Xp 55 d 147 ls ((0, hkOr a b) :: st) t g Q := Xp_go (i := .ior) (len := 1) (by decide +kernel) rfl
theorem x_55_147 : Xp 55 d 147 [v0, v1, v2, v3, v4, (0, x), v6, v7, v8, v9, v10] st t g Q = Xp 55 d 149 [v0, v1, v2, v3, v4, (0, x), v6, v7, v8, v9, v10] ((0, x) :: st) t g Q := Xp_go (i := .iload 5) (len := 2) (by decide +kernel) rfl
theorem x_55_149 : Xp 55 d 149 [v0, v1, v2, v3, v4, v5, v6, v7, v8, (0, x), v10] st t g Q = Xp 55 d 151 [v0, v1, v2, v3, v4, v5, v6, v7, v8, (0, x), v10] ((0, x) :: st) t g Q := Xp_go (i := .iload 9) (len := 2) (by decide +kernel) rfl
theorem x_55_151 : Xp 55 d 151 ls ((0, b) :: (0, a) :: st) t g Q = Xp 55 d 152 ls ((0, hkW (a + b)) :: st) t g Q := Xp_go (i := .iadd) (len := 1) (by decide +kernel) rfl
theorem x_55_152 : Xp 55 d 152 [(2, x), v1, v2, v3, v4, v5, v6, v7, v8, v9, v10] st t g Q = Xp 55 d 153 [(2, x), v1, v2, v3, v4, v5, v6, v7, v8, v9, v10] ((2, x) :: st) t g Q := Xp_go (i := .aload_n 0) (len := 1) (by decide +kernel) rfl
theorem x_55_153 : Xp 55 d 153 ls ((2, p) :: st) t g Q = (hkJK p = 3 ∧ jA p 0 ≤ t ∧ Xp 55 d 156 ls ((2, jR p 0) :: st) t g Q) := xr_getR (idx := 26) (ci := 3) (k := 0) (by decide +kernel) (by decide +kernel) (by decide +kernel)
theorem x_55_156 : Xp 55 d 156 ls ((2, p) :: st) t g Q = (hkJK p = 1 ∧ Xp 55 d 159 ls ((0, g p 1) :: st) t g Q) := xr_getI (idx := 87) (ci := 1) (k := 1) (by decide +kernel) (by decide +kernel) (by decide +kernel)
theorem x_55_159 : Xp 55 d 159 ls ((0, b) :: (0, a) :: st) t g Q = (b ≠ 0 ∧ Xp 55 d 160 ls ((0, a.tmod b) :: st) t g Q) := Xp_chk (i := .irem) (len := 1) (by decide +kernel) rfl
theorem x_55_160 : Xp 55 d 160 [v0, v1, v2, v3, v4, v5, v6, v7, v8, v9, (0, x)] st t g Q = Xp 55 d 162 [v0, v1, v2, v3, v4, v5, v6, v7, v8, v9, (0, x)] ((0, x) :: st) t g Q := Xp_go (i := .iload 10) (len := 2) (by decide +kernel) rfl
theorem x_55_162 : Xp 55 d 162 ls st t g Q = Xp 55 d 163 ls ((0, 2) :: st) t g Q := xr_const (c := 2) (by decide +kernel) (by decide)
theorem x_55_163 : Xp 55 d 163 ls ((0, b) :: (0, a) :: st) t g Q = (b ≠ 0 ∧ Xp 55 d 164 ls ((0, a.tmod b) :: st) t g Q) := Xp_chk (i := .irem) (len := 1) (by decide +kernel) rfl
theorem x_55_164 : Xp 55 d 164 ls ((0, a) :: st) t g Q = ((¬ (a = 0) → Xp 55 d 172 ls st t g Q) ∧ (¬ (¬ (a = 0)) → Xp 55 d 167 ls st t g Q)) := xr_if1 (cd := .ne) (off := 8) (by decide +kernel) (by decide)
theorem x_55_167 : Xp 55 d 167 [v0, v1, v2, v3, v4, v5, (0, x), v7, v8, v9, v10] st t g Q = Xp 55 d 169 [v0, v1, v2, v3, v4, v5, (0, x), v7, v8, v9, v10] ((0, x) :: st) t g Q := Xp_go (i := .iload 6) (len := 2) (by decide +kernel) rfl
theorem x_55_169 : Xp 55 d 169 ls st t g Q = Xp 55 d 175 ls st t g Q := xr_goto (off := 6) (by decide +kernel) (by decide)
theorem x_55_172 : Xp 55 d 172 [v0, v1, v2, v3, v4, v5, (0, x), v7, v8, v9, v10] st t g Q = Xp 55 d 174 [v0, v1, v2, v3, v4, v5, (0, x), v7, v8, v9, v10] ((0, x) :: st) t g Q := Xp_go (i := .iload 6) (len := 2) (by decide +kernel) rfl
theorem x_55_174 : Xp 55 d 174 ls ((0, a) :: st) t g Q = Xp 55 d 175 ls ((0, hkW (-a)) :: st) t g Q := Xp_go (i := .ineg) (len := 1) (by decide +kernel) rfl
theorem x_55_175 : Xp 55 (d + 1) 175 ls ((0, a6) :: (0, a5) :: (0, a4) :: (0, a3) :: (0, a2) :: (0, a1) :: (2, a0) :: st) t g Q = (hkJK a0 = 3 ∧ hkC8 st ∧ Xp 55 d 0 [(2, a0), (0, a1), (0, a2), (0, a3), (0, a4), (0, a5), (0, a6), hkU, hkU, hkU, hkU] [] t g (fun r t g => Xp 55 (d + 1) 178 ls (hkPush r st) t g Q)) := xr_invV (idx := 105) (y' := 55) (ci := 3) (tg := [2, 0, 0, 0, 0, 0, 0]) (by decide +kernel) (by decide +kernel) (by decide +kernel) (by decide +kernel) rfl rfl rfl
theorem x_55_178 : Xp 55 d 178 [v0, v1, v2, v3, v4, v5, v6, v7, (0, x), v9, v10] st t g Q = (hkP1 v7 ∧ Xp 55 d 181 [v0, v1, v2, v3, v4, v5, v6, v7, (0, hkW (x + 1)), v9, v10] st t g Q) := Xp_chk (i := .iinc 8 (1)) (len := 3) (by decide +kernel) rfl
theorem x_55_181 : Xp 55 d 181 ls st t g Q = Xp 55 d 61 ls st t g Q := xr_goto (off := -120) (by decide +kernel) (by decide)
theorem x_55_184 : Xp 55 d 184 ls [] t g Q = Q none t g := xr_retV (by decide +kernel) (by decide +kernel)
-- 56: HookBoxes$Products.multiplyPartial(III)V
theorem x_56_0 : Xp 56 d 0 [v0, (0, x), v2, v3, v4, v5, v6, v7, v8, v9] st t g Q = Xp 56 d 1 [v0, (0, x), v2, v3, v4, v5, v6, v7, v8, v9] ((0, x) :: st) t g Q := Xp_go (i := .iload_n 1) (len := 1) (by decide +kernel) rfl
theorem x_56_1 : Xp 56 d 1 ls st t g Q = Xp 56 d 2 ls ((0, 5) :: st) t g Q := xr_const (c := 5) (by decide +kernel) (by decide)
theorem x_56_2 : Xp 56 d 2 ls ((0, b) :: (0, a) :: st) t g Q = Xp 56 d 3 ls ((0, hkW (a * b)) :: st) t g Q := Xp_go (i := .imul) (len := 1) (by decide +kernel) rfl
theorem x_56_3 : Xp 56 d 3 [v0, v1, v2, v3, v4, v5, v6, v7, v8, v9] ((0, x) :: st) t g Q = (hkP1 v3 ∧ Xp 56 d 5 [v0, v1, v2, v3, (0, x), v5, v6, v7, v8, v9] st t g Q) := Xp_chk (i := .istore 4) (len := 2) (by decide +kernel) rfl
theorem x_56_5 : Xp 56 d 5 [v0, v1, v2, v3, (0, x), v5, v6, v7, v8, v9] st t g Q = Xp 56 d 7 [v0, v1, v2, v3, (0, x), v5, v6, v7, v8, v9] ((0, x) :: st) t g Q := Xp_go (i := .iload 4) (len := 2) (by decide +kernel) rfl
theorem x_56_7 : Xp 56 d 7 ls st t g Q = Xp 56 d 8 ls ((0, 5) :: st) t g Q := xr_const (c := 5) (by decide +kernel) (by decide)
theorem x_56_8 : Xp 56 d 8 ls ((0, b) :: (0, a) :: st) t g Q = Xp 56 d 9 ls ((0, hkW (a + b)) :: st) t g Q := Xp_go (i := .iadd) (len := 1) (by decide +kernel) rfl
theorem x_56_9 : Xp 56 d 9 [v0, v1, v2, v3, v4, v5, v6, v7, v8, v9] ((0, x) :: st) t g Q = (hkP1 v4 ∧ Xp 56 d 11 [v0, v1, v2, v3, v4, (0, x), v6, v7, v8, v9] st t g Q) := Xp_chk (i := .istore 5) (len := 2) (by decide +kernel) rfl
theorem x_56_11 : Xp 56 d 11 [(2, x), v1, v2, v3, v4, v5, v6, v7, v8, v9] st t g Q = Xp 56 d 12 [(2, x), v1, v2, v3, v4, v5, v6, v7, v8, v9] ((2, x) :: st) t g Q := Xp_go (i := .aload_n 0) (len := 1) (by decide +kernel) rfl
theorem x_56_12 : Xp 56 d 12 ls ((2, p) :: st) t g Q = (hkJK p = 3 ∧ jA p 4 ≤ t ∧ Xp 56 d 15 ls ((2, jR p 4) :: st) t g Q) := xr_getR (idx := 20) (ci := 3) (k := 4) (by decide +kernel) (by decide +kernel) (by decide +kernel)
theorem x_56_15 : Xp 56 d 15 [v0, v1, v2, v3, v4, (0, x), v6, v7, v8, v9] st t g Q = Xp 56 d 17 [v0, v1, v2, v3, v4, (0, x), v6, v7, v8, v9] ((0, x) :: st) t g Q := Xp_go (i := .iload 5) (len := 2) (by decide +kernel) rfl
theorem x_56_17 : Xp 56 d 17 [v0, v1, v2, v3, v4, (0, x), v6, v7, v8, v9] st t g Q = Xp 56 d 19 [v0, v1, v2, v3, v4, (0, x), v6, v7, v8, v9] ((0, x) :: st) t g Q := Xp_go (i := .iload 5) (len := 2) (by decide +kernel) rfl
theorem x_56_19 : Xp 56 d 19 ls st t g Q = Xp 56 d 20 ls ((0, 5) :: st) t g Q := xr_const (c := 5) (by decide +kernel) (by decide)
theorem x_56_20 : Xp 56 d 20 ls ((0, b) :: (0, a) :: st) t g Q = Xp 56 d 21 ls ((0, hkW (a + b)) :: st) t g Q := Xp_go (i := .iadd) (len := 1) (by decide +kernel) rfl
theorem x_56_21 : Xp 56 d 21 ls st t g Q = Xp 56 d 22 ls ((0, 0) :: st) t g Q := xr_const (c := 0) (by decide +kernel) (by decide)
theorem x_56_22 : Xp 56 (d + 1) 22 ls ((0, a3) :: (0, a2) :: (0, a1) :: (2, a0) :: st) t g Q = (hkC8 st ∧ Xp 180 d 0 [(2, a0), (0, a1), (0, a2), (0, a3), hkU] [] t g (fun r t g => Xp 56 (d + 1) 25 ls (hkPush r st) t g Q)) := xr_invS (idx := 102) (y' := 180) (tg := [2, 0, 0, 0]) (by decide +kernel) (by decide +kernel) (by decide +kernel) rfl rfl
theorem x_56_25 : Xp 56 d 25 ls st t g Q = Xp 56 d 26 ls ((0, 0) :: st) t g Q := xr_const (c := 0) (by decide +kernel) (by decide)
theorem x_56_26 : Xp 56 d 26 [v0, v1, v2, v3, v4, v5, v6, v7, v8, v9] ((0, x) :: st) t g Q = (hkP1 v5 ∧ Xp 56 d 28 [v0, v1, v2, v3, v4, v5, (0, x), v7, v8, v9] st t g Q) := Xp_chk (i := .istore 6) (len := 2) (by decide +kernel) rfl
theorem x_56_28 : Xp 56 d 28 [v0, v1, v2, v3, v4, v5, (0, x), v7, v8, v9] st t g Q = Xp 56 d 30 [v0, v1, v2, v3, v4, v5, (0, x), v7, v8, v9] ((0, x) :: st) t g Q := Xp_go (i := .iload 6) (len := 2) (by decide +kernel) rfl
theorem x_56_30 : Xp 56 d 30 [(2, x), v1, v2, v3, v4, v5, v6, v7, v8, v9] st t g Q = Xp 56 d 31 [(2, x), v1, v2, v3, v4, v5, v6, v7, v8, v9] ((2, x) :: st) t g Q := Xp_go (i := .aload_n 0) (len := 1) (by decide +kernel) rfl
theorem x_56_31 : Xp 56 d 31 ls ((2, p) :: st) t g Q = (hkJK p = 3 ∧ jA p 0 ≤ t ∧ Xp 56 d 34 ls ((2, jR p 0) :: st) t g Q) := xr_getR (idx := 26) (ci := 3) (k := 0) (by decide +kernel) (by decide +kernel) (by decide +kernel)
theorem x_56_34 : Xp 56 d 34 ls ((2, p) :: st) t g Q = (hkJK p = 1 ∧ jA p 8 ≤ t ∧ Xp 56 d 37 ls ((2, jR p 8) :: st) t g Q) := xr_getR (idx := 96) (ci := 1) (k := 8) (by decide +kernel) (by decide +kernel) (by decide +kernel)
theorem x_56_37 : Xp 56 d 37 [v0, v1, (0, x), v3, v4, v5, v6, v7, v8, v9] st t g Q = Xp 56 d 38 [v0, v1, (0, x), v3, v4, v5, v6, v7, v8, v9] ((0, x) :: st) t g Q := Xp_go (i := .iload_n 2) (len := 1) (by decide +kernel) rfl
theorem x_56_38 : Xp 56 d 38 ls ((0, a) :: (2, p) :: st) t g Q = ((hkJK p = 100 ∧ 0 ≤ a ∧ a < jL p) ∧ Xp 56 d 39 ls ((0, g p a) :: st) t g Q) := Xp_chk (i := .iaload) (len := 1) (by decide +kernel) rfl
theorem x_56_39 : Xp 56 d 39 ls ((0, b) :: (0, a) :: st) t g Q = ((b ≤ a → Xp 56 d 129 ls st t g Q) ∧ (¬ (b ≤ a) → Xp 56 d 42 ls st t g Q)) := xr_if2 (cd := .ge) (off := 90) (by decide +kernel) (by decide)
theorem x_56_42 : Xp 56 d 42 [(2, x), v1, v2, v3, v4, v5, v6, v7, v8, v9] st t g Q = Xp 56 d 43 [(2, x), v1, v2, v3, v4, v5, v6, v7, v8, v9] ((2, x) :: st) t g Q := Xp_go (i := .aload_n 0) (len := 1) (by decide +kernel) rfl
theorem x_56_43 : Xp 56 d 43 ls ((2, p) :: st) t g Q = (hkJK p = 3 ∧ jA p 4 ≤ t ∧ Xp 56 d 46 ls ((2, jR p 4) :: st) t g Q) := xr_getR (idx := 20) (ci := 3) (k := 4) (by decide +kernel) (by decide +kernel) (by decide +kernel)
theorem x_56_46 : Xp 56 d 46 [v0, v1, v2, v3, (0, x), v5, v6, v7, v8, v9] st t g Q = Xp 56 d 48 [v0, v1, v2, v3, (0, x), v5, v6, v7, v8, v9] ((0, x) :: st) t g Q := Xp_go (i := .iload 4) (len := 2) (by decide +kernel) rfl
theorem x_56_48 : Xp 56 d 48 [v0, v1, v2, v3, v4, v5, (0, x), v7, v8, v9] st t g Q = Xp 56 d 50 [v0, v1, v2, v3, v4, v5, (0, x), v7, v8, v9] ((0, x) :: st) t g Q := Xp_go (i := .iload 6) (len := 2) (by decide +kernel) rfl
theorem x_56_50 : Xp 56 d 50 ls ((0, b) :: (0, a) :: st) t g Q = Xp 56 d 51 ls ((0, hkW (a + b)) :: st) t g Q := Xp_go (i := .iadd) (len := 1) (by decide +kernel) rfl
theorem x_56_51 : Xp 56 d 51 ls ((0, a) :: (2, p) :: st) t g Q = ((hkJK p = 100 ∧ 0 ≤ a ∧ a < jL p) ∧ Xp 56 d 52 ls ((0, g p a) :: st) t g Q) := Xp_chk (i := .iaload) (len := 1) (by decide +kernel) rfl
theorem x_56_52 : Xp 56 d 52 [v0, v1, v2, v3, v4, v5, v6, v7, v8, v9] ((0, x) :: st) t g Q = (hkP1 v6 ∧ Xp 56 d 54 [v0, v1, v2, v3, v4, v5, v6, (0, x), v8, v9] st t g Q) := Xp_chk (i := .istore 7) (len := 2) (by decide +kernel) rfl
theorem x_56_54 : Xp 56 d 54 [(2, x), v1, v2, v3, v4, v5, v6, v7, v8, v9] st t g Q = Xp 56 d 55 [(2, x), v1, v2, v3, v4, v5, v6, v7, v8, v9] ((2, x) :: st) t g Q := Xp_go (i := .aload_n 0) (len := 1) (by decide +kernel) rfl
theorem x_56_55 : Xp 56 d 55 ls ((2, p) :: st) t g Q = (hkJK p = 3 ∧ jA p 0 ≤ t ∧ Xp 56 d 58 ls ((2, jR p 0) :: st) t g Q) := xr_getR (idx := 26) (ci := 3) (k := 0) (by decide +kernel) (by decide +kernel) (by decide +kernel)
theorem x_56_58 : Xp 56 d 58 ls ((2, p) :: st) t g Q = (hkJK p = 1 ∧ jA p 7 ≤ t ∧ Xp 56 d 61 ls ((2, jR p 7) :: st) t g Q) := xr_getR (idx := 99) (ci := 1) (k := 7) (by decide +kernel) (by decide +kernel) (by decide +kernel)
theorem x_56_61 : Xp 56 d 61 [v0, v1, (0, x), v3, v4, v5, v6, v7, v8, v9] st t g Q = Xp 56 d 62 [v0, v1, (0, x), v3, v4, v5, v6, v7, v8, v9] ((0, x) :: st) t g Q := Xp_go (i := .iload_n 2) (len := 1) (by decide +kernel) rfl
theorem x_56_62 : Xp 56 d 62 ls st t g Q = Xp 56 d 63 ls ((0, 5) :: st) t g Q := xr_const (c := 5) (by decide +kernel) (by decide)
theorem x_56_63 : Xp 56 d 63 ls ((0, b) :: (0, a) :: st) t g Q = Xp 56 d 64 ls ((0, hkW (a * b)) :: st) t g Q := Xp_go (i := .imul) (len := 1) (by decide +kernel) rfl
theorem x_56_64 : Xp 56 d 64 [v0, v1, v2, v3, v4, v5, (0, x), v7, v8, v9] st t g Q = Xp 56 d 66 [v0, v1, v2, v3, v4, v5, (0, x), v7, v8, v9] ((0, x) :: st) t g Q := Xp_go (i := .iload 6) (len := 2) (by decide +kernel) rfl
theorem x_56_66 : Xp 56 d 66 ls ((0, b) :: (0, a) :: st) t g Q = Xp 56 d 67 ls ((0, hkW (a + b)) :: st) t g Q := Xp_go (i := .iadd) (len := 1) (by decide +kernel) rfl
theorem x_56_67 : Xp 56 d 67 ls ((0, a) :: (2, p) :: st) t g Q = ((hkJK p = 100 ∧ 0 ≤ a ∧ a < jL p) ∧ Xp 56 d 68 ls ((0, g p a) :: st) t g Q) := Xp_chk (i := .iaload) (len := 1) (by decide +kernel) rfl
theorem x_56_68 : Xp 56 d 68 ls st t g Q = Xp 56 d 70 ls ((0, 7) :: st) t g Q := xr_bi (c := 7) (by decide +kernel) (by decide)
theorem x_56_70 : Xp 56 d 70 ls ((0, b) :: (0, a) :: st) t g Q = Xp 56 d 71 ls ((0, hkW (a * b)) :: st) t g Q := Xp_go (i := .imul) (len := 1) (by decide +kernel) rfl
theorem x_56_71 : Xp 56 d 71 [v0, v1, v2, (0, x), v4, v5, v6, v7, v8, v9] st t g Q = Xp 56 d 72 [v0, v1, v2, (0, x), v4, v5, v6, v7, v8, v9] ((0, x) :: st) t g Q := Xp_go (i := .iload_n 3) (len := 1) (by decide +kernel) rfl
theorem x_56_72 : Xp 56 d 72 ls ((0, b) :: (0, a) :: st) t g Q = Xp 56 d 73 ls ((0, hkW (a + b)) :: st) t g Q := Xp_go (i := .iadd) (len := 1) (by decide +kernel) rfl
theorem x_56_73 : Xp 56 d 73 ls st t g Q = Xp 56 d 74 ls ((0, 5) :: st) t g Q := xr_const (c := 5) (by decide +kernel) (by decide)
theorem x_56_74 : Xp 56 d 74 ls ((0, b) :: (0, a) :: st) t g Q = Xp 56 d 75 ls ((0, hkW (a * b)) :: st) t g Q := Xp_go (i := .imul) (len := 1) (by decide +kernel) rfl
theorem x_56_75 : Xp 56 d 75 [v0, v1, v2, v3, v4, v5, v6, v7, v8, v9] ((0, x) :: st) t g Q = (hkP1 v7 ∧ Xp 56 d 77 [v0, v1, v2, v3, v4, v5, v6, v7, (0, x), v9] st t g Q) := Xp_chk (i := .istore 8) (len := 2) (by decide +kernel) rfl
theorem x_56_77 : Xp 56 d 77 [v0, v1, v2, v3, v4, v5, v6, (0, x), v8, v9] st t g Q = Xp 56 d 79 [v0, v1, v2, v3, v4, v5, v6, (0, x), v8, v9] ((0, x) :: st) t g Q := Xp_go (i := .iload 7) (len := 2) (by decide +kernel) rfl
theorem x_56_79 : Xp 56 d 79 ls ((0, a) :: st) t g Q = ((a = 0 → Xp 56 d 123 ls st t g Q) ∧ (¬ (a = 0) → Xp 56 d 82 ls st t g Q)) := xr_if1 (cd := .eq) (off := 44) (by decide +kernel) (by decide)
theorem x_56_82 : Xp 56 d 82 ls st t g Q = Xp 56 d 83 ls ((0, 0) :: st) t g Q := xr_const (c := 0) (by decide +kernel) (by decide)
theorem x_56_83 : Xp 56 d 83 [v0, v1, v2, v3, v4, v5, v6, v7, v8, v9] ((0, x) :: st) t g Q = (hkP1 v8 ∧ Xp 56 d 85 [v0, v1, v2, v3, v4, v5, v6, v7, v8, (0, x)] st t g Q) := Xp_chk (i := .istore 9) (len := 2) (by decide +kernel) rfl
theorem x_56_85 : Xp 56 d 85 [v0, v1, v2, v3, v4, v5, v6, v7, v8, (0, x)] st t g Q = Xp 56 d 87 [v0, v1, v2, v3, v4, v5, v6, v7, v8, (0, x)] ((0, x) :: st) t g Q := Xp_go (i := .iload 9) (len := 2) (by decide +kernel) rfl
theorem x_56_87 : Xp 56 d 87 ls st t g Q = Xp 56 d 88 ls ((0, 5) :: st) t g Q := xr_const (c := 5) (by decide +kernel) (by decide)
theorem x_56_88 : Xp 56 d 88 ls ((0, b) :: (0, a) :: st) t g Q = ((b ≤ a → Xp 56 d 123 ls st t g Q) ∧ (¬ (b ≤ a) → Xp 56 d 91 ls st t g Q)) := xr_if2 (cd := .ge) (off := 35) (by decide +kernel) (by decide)
theorem x_56_91 : Xp 56 d 91 [(2, x), v1, v2, v3, v4, v5, v6, v7, v8, v9] st t g Q = Xp 56 d 92 [(2, x), v1, v2, v3, v4, v5, v6, v7, v8, v9] ((2, x) :: st) t g Q := Xp_go (i := .aload_n 0) (len := 1) (by decide +kernel) rfl
theorem x_56_92 : Xp 56 d 92 ls ((2, p) :: st) t g Q = (hkJK p = 3 ∧ jA p 4 ≤ t ∧ Xp 56 d 95 ls ((2, jR p 4) :: st) t g Q) := xr_getR (idx := 20) (ci := 3) (k := 4) (by decide +kernel) (by decide +kernel) (by decide +kernel)
theorem x_56_95 : Xp 56 d 95 [v0, v1, v2, v3, v4, (0, x), v6, v7, v8, v9] st t g Q = Xp 56 d 97 [v0, v1, v2, v3, v4, (0, x), v6, v7, v8, v9] ((0, x) :: st) t g Q := Xp_go (i := .iload 5) (len := 2) (by decide +kernel) rfl
theorem x_56_97 : Xp 56 d 97 [v0, v1, v2, v3, v4, v5, v6, v7, v8, (0, x)] st t g Q = Xp 56 d 99 [v0, v1, v2, v3, v4, v5, v6, v7, v8, (0, x)] ((0, x) :: st) t g Q := Xp_go (i := .iload 9) (len := 2) (by decide +kernel) rfl
theorem x_56_99 : Xp 56 d 99 ls ((0, b) :: (0, a) :: st) t g Q = Xp 56 d 100 ls ((0, hkW (a + b)) :: st) t g Q := Xp_go (i := .iadd) (len := 1) (by decide +kernel) rfl
theorem x_56_100 : Xp 56 d 100 ls (v :: w :: st) t g Q = ((hkP1 v ∧ hkP1 w) ∧ Xp 56 d 101 ls (v :: w :: v :: w :: st) t g Q) := Xp_chk (i := .dup2) (len := 1) (by decide +kernel) rfl
theorem x_56_101 : Xp 56 d 101 ls ((0, a) :: (2, p) :: st) t g Q = ((hkJK p = 100 ∧ 0 ≤ a ∧ a < jL p) ∧ Xp 56 d 102 ls ((0, g p a) :: st) t g Q) := Xp_chk (i := .iaload) (len := 1) (by decide +kernel) rfl
theorem x_56_102 : Xp 56 d 102 [v0, v1, v2, v3, v4, v5, v6, (0, x), v8, v9] st t g Q = Xp 56 d 104 [v0, v1, v2, v3, v4, v5, v6, (0, x), v8, v9] ((0, x) :: st) t g Q := Xp_go (i := .iload 7) (len := 2) (by decide +kernel) rfl
theorem x_56_104 : Xp 56 d 104 [(2, x), v1, v2, v3, v4, v5, v6, v7, v8, v9] st t g Q = Xp 56 d 105 [(2, x), v1, v2, v3, v4, v5, v6, v7, v8, v9] ((2, x) :: st) t g Q := Xp_go (i := .aload_n 0) (len := 1) (by decide +kernel) rfl
theorem x_56_105 : Xp 56 d 105 ls ((2, p) :: st) t g Q = (hkJK p = 3 ∧ jA p 2 ≤ t ∧ Xp 56 d 108 ls ((2, jR p 2) :: st) t g Q) := xr_getR (idx := 11) (ci := 3) (k := 2) (by decide +kernel) (by decide +kernel) (by decide +kernel)
theorem x_56_108 : Xp 56 d 108 [v0, v1, v2, v3, v4, v5, v6, v7, (0, x), v9] st t g Q = Xp 56 d 110 [v0, v1, v2, v3, v4, v5, v6, v7, (0, x), v9] ((0, x) :: st) t g Q := Xp_go (i := .iload 8) (len := 2) (by decide +kernel) rfl
theorem x_56_110 : Xp 56 d 110 [v0, v1, v2, v3, v4, v5, v6, v7, v8, (0, x)] st t g Q = Xp 56 d 112 [v0, v1, v2, v3, v4, v5, v6, v7, v8, (0, x)] ((0, x) :: st) t g Q := Xp_go (i := .iload 9) (len := 2) (by decide +kernel) rfl
theorem x_56_112 : Xp 56 d 112 ls ((0, b) :: (0, a) :: st) t g Q = Xp 56 d 113 ls ((0, hkW (a + b)) :: st) t g Q := Xp_go (i := .iadd) (len := 1) (by decide +kernel) rfl
theorem x_56_113 : Xp 56 d 113 ls ((0, a) :: (2, p) :: st) t g Q = ((hkJK p = 100 ∧ 0 ≤ a ∧ a < jL p) ∧ Xp 56 d 114 ls ((0, g p a) :: st) t g Q) := Xp_chk (i := .iaload) (len := 1) (by decide +kernel) rfl
theorem x_56_114 : Xp 56 d 114 ls ((0, b) :: (0, a) :: st) t g Q = Xp 56 d 115 ls ((0, hkW (a * b)) :: st) t g Q := Xp_go (i := .imul) (len := 1) (by decide +kernel) rfl
theorem x_56_115 : Xp 56 d 115 ls ((0, b) :: (0, a) :: st) t g Q = Xp 56 d 116 ls ((0, hkW (a + b)) :: st) t g Q := Xp_go (i := .iadd) (len := 1) (by decide +kernel) rfl
theorem x_56_116 : Xp 56 d 116 ls ((0, x) :: (0, a) :: (2, p) :: st) t g Q = ((hkJK p = 100 ∧ (100 = 102 → x = 0 ∨ x = 1) ∧ 0 ≤ a ∧ a < jL p) ∧ Xp 56 d 117 ls st t (hkSet g p a x) Q) := Xp_chk (i := .iastore) (len := 1) (by decide +kernel) rfl
theorem x_56_117 : Xp 56 d 117 [v0, v1, v2, v3, v4, v5, v6, v7, v8, (0, x)] st t g Q = (hkP1 v8 ∧ Xp 56 d 120 [v0, v1, v2, v3, v4, v5, v6, v7, v8, (0, hkW (x + 1))] st t g Q) := Xp_chk (i := .iinc 9 (1)) (len := 3) (by decide +kernel) rfl
theorem x_56_120 : Xp 56 d 120 ls st t g Q = Xp 56 d 85 ls st t g Q := xr_goto (off := -35) (by decide +kernel) (by decide)
theorem x_56_123 : Xp 56 d 123 [v0, v1, v2, v3, v4, v5, (0, x), v7, v8, v9] st t g Q = (hkP1 v5 ∧ Xp 56 d 126 [v0, v1, v2, v3, v4, v5, (0, hkW (x + 1)), v7, v8, v9] st t g Q) := Xp_chk (i := .iinc 6 (1)) (len := 3) (by decide +kernel) rfl
theorem x_56_126 : Xp 56 d 126 ls st t g Q = Xp 56 d 28 ls st t g Q := xr_goto (off := -98) (by decide +kernel) (by decide)
theorem x_56_129 : Xp 56 d 129 ls [] t g Q = Q none t g := xr_retV (by decide +kernel) (by decide +kernel)
-- 57: HookBoxes$Products.turnsTo(III)I
theorem x_57_0 : Xp 57 d 0 [(2, x), v1, v2, v3] st t g Q = Xp 57 d 1 [(2, x), v1, v2, v3] ((2, x) :: st) t g Q := Xp_go (i := .aload_n 0) (len := 1) (by decide +kernel) rfl
theorem x_57_1 : Xp 57 d 1 ls ((2, p) :: st) t g Q = (hkJK p = 3 ∧ jA p 0 ≤ t ∧ Xp 57 d 4 ls ((2, jR p 0) :: st) t g Q) := xr_getR (idx := 26) (ci := 3) (k := 0) (by decide +kernel) (by decide +kernel) (by decide +kernel)
theorem x_57_4 : Xp 57 d 4 ls ((2, p) :: st) t g Q = (hkJK p = 1 ∧ jA p 5 ≤ t ∧ Xp 57 d 7 ls ((2, jR p 5) :: st) t g Q) := xr_getR (idx := 84) (ci := 1) (k := 5) (by decide +kernel) (by decide +kernel) (by decide +kernel)
theorem x_57_7 : Xp 57 d 7 [v0, (0, x), v2, v3] st t g Q = Xp 57 d 8 [v0, (0, x), v2, v3] ((0, x) :: st) t g Q := Xp_go (i := .iload_n 1) (len := 1) (by decide +kernel) rfl
theorem x_57_8 : Xp 57 d 8 ls ((0, a) :: (2, p) :: st) t g Q = ((hkJK p = 100 ∧ 0 ≤ a ∧ a < jL p) ∧ Xp 57 d 9 ls ((0, g p a) :: st) t g Q) := Xp_chk (i := .iaload) (len := 1) (by decide +kernel) rfl
theorem x_57_9 : Xp 57 d 9 [(2, x), v1, v2, v3] st t g Q = Xp 57 d 10 [(2, x), v1, v2, v3] ((2, x) :: st) t g Q := Xp_go (i := .aload_n 0) (len := 1) (by decide +kernel) rfl
theorem x_57_10 : Xp 57 d 10 ls ((2, p) :: st) t g Q = (hkJK p = 3 ∧ jA p 0 ≤ t ∧ Xp 57 d 13 ls ((2, jR p 0) :: st) t g Q) := xr_getR (idx := 26) (ci := 3) (k := 0) (by decide +kernel) (by decide +kernel) (by decide +kernel)
theorem x_57_13 : Xp 57 d 13 ls ((2, p) :: st) t g Q = (hkJK p = 1 ∧ jA p 5 ≤ t ∧ Xp 57 d 16 ls ((2, jR p 5) :: st) t g Q) := xr_getR (idx := 84) (ci := 1) (k := 5) (by decide +kernel) (by decide +kernel) (by decide +kernel)
theorem x_57_16 : Xp 57 d 16 [v0, v1, (0, x), v3] st t g Q = Xp 57 d 17 [v0, v1, (0, x), v3] ((0, x) :: st) t g Q := Xp_go (i := .iload_n 2) (len := 1) (by decide +kernel) rfl
theorem x_57_17 : Xp 57 d 17 ls ((0, a) :: (2, p) :: st) t g Q = ((hkJK p = 100 ∧ 0 ≤ a ∧ a < jL p) ∧ Xp 57 d 18 ls ((0, g p a) :: st) t g Q) := Xp_chk (i := .iaload) (len := 1) (by decide +kernel) rfl
theorem x_57_18 : Xp 57 d 18 ls ((0, b) :: (0, a) :: st) t g Q = Xp 57 d 19 ls ((0, hkW (a + b)) :: st) t g Q := Xp_go (i := .iadd) (len := 1) (by decide +kernel) rfl
theorem x_57_19 : Xp 57 d 19 [(2, x), v1, v2, v3] st t g Q = Xp 57 d 20 [(2, x), v1, v2, v3] ((2, x) :: st) t g Q := Xp_go (i := .aload_n 0) (len := 1) (by decide +kernel) rfl
theorem x_57_20 : Xp 57 d 20 ls ((2, p) :: st) t g Q = (hkJK p = 3 ∧ jA p 0 ≤ t ∧ Xp 57 d 23 ls ((2, jR p 0) :: st) t g Q) := xr_getR (idx := 26) (ci := 3) (k := 0) (by decide +kernel) (by decide +kernel) (by decide +kernel)
theorem x_57_23 : Xp 57 d 23 ls ((2, p) :: st) t g Q = (hkJK p = 1 ∧ jA p 5 ≤ t ∧ Xp 57 d 26 ls ((2, jR p 5) :: st) t g Q) := xr_getR (idx := 84) (ci := 1) (k := 5) (by decide +kernel) (by decide +kernel) (by decide +kernel)
theorem x_57_26 : Xp 57 d 26 [v0, v1, v2, (0, x)] st t g Q = Xp 57 d 27 [v0, v1, v2, (0, x)] ((0, x) :: st) t g Q := Xp_go (i := .iload_n 3) (len := 1) (by decide +kernel) rfl
theorem x_57_27 : Xp 57 d 27 ls ((0, a) :: (2, p) :: st) t g Q = ((hkJK p = 100 ∧ 0 ≤ a ∧ a < jL p) ∧ Xp 57 d 28 ls ((0, g p a) :: st) t g Q) := Xp_chk (i := .iaload) (len := 1) (by decide +kernel) rfl
theorem x_57_28 : Xp 57 d 28 ls ((0, b) :: (0, a) :: st) t g Q = Xp 57 d 29 ls ((0, hkW (a - b)) :: st) t g Q := Xp_go (i := .isub) (len := 1) (by decide +kernel) rfl
theorem x_57_29 : Xp 57 d 29 [(2, x), v1, v2, v3] st t g Q = Xp 57 d 30 [(2, x), v1, v2, v3] ((2, x) :: st) t g Q := Xp_go (i := .aload_n 0) (len := 1) (by decide +kernel) rfl
theorem x_57_30 : Xp 57 d 30 ls ((2, p) :: st) t g Q = (hkJK p = 3 ∧ jA p 0 ≤ t ∧ Xp 57 d 33 ls ((2, jR p 0) :: st) t g Q) := xr_getR (idx := 26) (ci := 3) (k := 0) (by decide +kernel) (by decide +kernel) (by decide +kernel)
theorem x_57_33 : Xp 57 d 33 ls ((2, p) :: st) t g Q = (hkJK p = 1 ∧ Xp 57 d 36 ls ((0, g p 1) :: st) t g Q) := xr_getI (idx := 87) (ci := 1) (k := 1) (by decide +kernel) (by decide +kernel) (by decide +kernel)
theorem x_57_36 : Xp 57 d 36 ls ((0, b) :: (0, a) :: st) t g Q = (b ≠ 0 ∧ Xp 57 d 37 ls ((0, hkW (a.tdiv b)) :: st) t g Q) := Xp_chk (i := .idiv) (len := 1) (by decide +kernel) rfl
theorem x_57_37 : Xp 57 d 37 ls [(0, x)] t g Q = Q (some (0, x)) t g := xr_retI (by decide +kernel) (by decide +kernel)
-- 58: HookBoxes$Products.restOf(II)I
theorem x_58_0 : Xp 58 d 0 [(2, x), v1, v2] st t g Q = Xp 58 d 1 [(2, x), v1, v2] ((2, x) :: st) t g Q := Xp_go (i := .aload_n 0) (len := 1) (by decide +kernel) rfl
theorem x_58_1 : Xp 58 d 1 ls ((2, p) :: st) t g Q = (hkJK p = 3 ∧ jA p 0 ≤ t ∧ Xp 58 d 4 ls ((2, jR p 0) :: st) t g Q) := xr_getR (idx := 26) (ci := 3) (k := 0) (by decide +kernel) (by decide +kernel) (by decide +kernel)
theorem x_58_4 : Xp 58 d 4 ls ((2, p) :: st) t g Q = (hkJK p = 1 ∧ jA p 5 ≤ t ∧ Xp 58 d 7 ls ((2, jR p 5) :: st) t g Q) := xr_getR (idx := 84) (ci := 1) (k := 5) (by decide +kernel) (by decide +kernel) (by decide +kernel)
theorem x_58_7 : Xp 58 d 7 [v0, (0, x), v2] st t g Q = Xp 58 d 8 [v0, (0, x), v2] ((0, x) :: st) t g Q := Xp_go (i := .iload_n 1) (len := 1) (by decide +kernel) rfl
theorem x_58_8 : Xp 58 d 8 ls ((0, a) :: (2, p) :: st) t g Q = ((hkJK p = 100 ∧ 0 ≤ a ∧ a < jL p) ∧ Xp 58 d 9 ls ((0, g p a) :: st) t g Q) := Xp_chk (i := .iaload) (len := 1) (by decide +kernel) rfl
theorem x_58_9 : Xp 58 d 9 [(2, x), v1, v2] st t g Q = Xp 58 d 10 [(2, x), v1, v2] ((2, x) :: st) t g Q := Xp_go (i := .aload_n 0) (len := 1) (by decide +kernel) rfl
theorem x_58_10 : Xp 58 d 10 ls ((2, p) :: st) t g Q = (hkJK p = 3 ∧ jA p 0 ≤ t ∧ Xp 58 d 13 ls ((2, jR p 0) :: st) t g Q) := xr_getR (idx := 26) (ci := 3) (k := 0) (by decide +kernel) (by decide +kernel) (by decide +kernel)
theorem x_58_13 : Xp 58 d 13 ls ((2, p) :: st) t g Q = (hkJK p = 1 ∧ jA p 5 ≤ t ∧ Xp 58 d 16 ls ((2, jR p 5) :: st) t g Q) := xr_getR (idx := 84) (ci := 1) (k := 5) (by decide +kernel) (by decide +kernel) (by decide +kernel)
theorem x_58_16 : Xp 58 d 16 [v0, v1, (0, x)] st t g Q = Xp 58 d 17 [v0, v1, (0, x)] ((0, x) :: st) t g Q := Xp_go (i := .iload_n 2) (len := 1) (by decide +kernel) rfl
theorem x_58_17 : Xp 58 d 17 ls ((0, a) :: (2, p) :: st) t g Q = ((hkJK p = 100 ∧ 0 ≤ a ∧ a < jL p) ∧ Xp 58 d 18 ls ((0, g p a) :: st) t g Q) := Xp_chk (i := .iaload) (len := 1) (by decide +kernel) rfl
theorem x_58_18 : Xp 58 d 18 ls ((0, b) :: (0, a) :: st) t g Q = Xp 58 d 19 ls ((0, hkW (a + b)) :: st) t g Q := Xp_go (i := .iadd) (len := 1) (by decide +kernel) rfl
theorem x_58_19 : Xp 58 d 19 [(2, x), v1, v2] st t g Q = Xp 58 d 20 [(2, x), v1, v2] ((2, x) :: st) t g Q := Xp_go (i := .aload_n 0) (len := 1) (by decide +kernel) rfl
theorem x_58_20 : Xp 58 d 20 ls ((2, p) :: st) t g Q = (hkJK p = 3 ∧ jA p 0 ≤ t ∧ Xp 58 d 23 ls ((2, jR p 0) :: st) t g Q) := xr_getR (idx := 26) (ci := 3) (k := 0) (by decide +kernel) (by decide +kernel) (by decide +kernel)
theorem x_58_23 : Xp 58 d 23 ls ((2, p) :: st) t g Q = (hkJK p = 1 ∧ Xp 58 d 26 ls ((0, g p 1) :: st) t g Q) := xr_getI (idx := 87) (ci := 1) (k := 1) (by decide +kernel) (by decide +kernel) (by decide +kernel)
theorem x_58_26 : Xp 58 d 26 ls ((0, b) :: (0, a) :: st) t g Q = (b ≠ 0 ∧ Xp 58 d 27 ls ((0, a.tmod b) :: st) t g Q) := Xp_chk (i := .irem) (len := 1) (by decide +kernel) rfl
theorem x_58_27 : Xp 58 d 27 ls [(0, x)] t g Q = Q (some (0, x)) t g := xr_retI (by decide +kernel) (by decide +kernel)
-- 59: HookBoxes$Products.firstIn(II)I
theorem x_59_0 : Xp 59 d 0 [(2, x), v1, v2, v3, v4, v5] st t g Q = Xp 59 d 1 [(2, x), v1, v2, v3, v4, v5] ((2, x) :: st) t g Q := Xp_go (i := .aload_n 0) (len := 1) (by decide +kernel) rfl
theorem x_59_1 : Xp 59 d 1 [v0, (0, x), v2, v3, v4, v5] st t g Q = Xp 59 d 2 [v0, (0, x), v2, v3, v4, v5] ((0, x) :: st) t g Q := Xp_go (i := .iload_n 1) (len := 1) (by decide +kernel) rfl
theorem x_59_2 : Xp 59 d 2 [v0, v1, (0, x), v3, v4, v5] st t g Q = Xp 59 d 3 [v0, v1, (0, x), v3, v4, v5] ((0, x) :: st) t g Q := Xp_go (i := .iload_n 2) (len := 1) (by decide +kernel) rfl
theorem x_59_3 : Xp 59 (d + 1) 3 ls ((0, a2) :: (0, a1) :: (2, a0) :: st) t g Q = (hkJK a0 = 3 ∧ hkC8 st ∧ Xp 58 d 0 [(2, a0), (0, a1), (0, a2)] [] t g (fun r t g => Xp 59 (d + 1) 6 ls (hkPush r st) t g Q)) := xr_invV (idx := 93) (y' := 58) (ci := 3) (tg := [2, 0, 0]) (by decide +kernel) (by decide +kernel) (by decide +kernel) (by decide +kernel) rfl rfl rfl
theorem x_59_6 : Xp 59 d 6 [v0, v1, v2, v3, v4, v5] ((0, x) :: st) t g Q = (hkP1 v2 ∧ Xp 59 d 7 [v0, v1, v2, (0, x), v4, v5] st t g Q) := Xp_chk (i := .istore_n 3) (len := 1) (by decide +kernel) rfl
theorem x_59_7 : Xp 59 d 7 [(2, x), v1, v2, v3, v4, v5] st t g Q = Xp 59 d 8 [(2, x), v1, v2, v3, v4, v5] ((2, x) :: st) t g Q := Xp_go (i := .aload_n 0) (len := 1) (by decide +kernel) rfl
theorem x_59_8 : Xp 59 d 8 [v0, (0, x), v2, v3, v4, v5] st t g Q = Xp 59 d 9 [v0, (0, x), v2, v3, v4, v5] ((0, x) :: st) t g Q := Xp_go (i := .iload_n 1) (len := 1) (by decide +kernel) rfl
theorem x_59_9 : Xp 59 d 9 [v0, v1, (0, x), v3, v4, v5] st t g Q = Xp 59 d 10 [v0, v1, (0, x), v3, v4, v5] ((0, x) :: st) t g Q := Xp_go (i := .iload_n 2) (len := 1) (by decide +kernel) rfl
theorem x_59_10 : Xp 59 (d + 1) 10 ls ((0, a2) :: (0, a1) :: (2, a0) :: st) t g Q = (hkJK a0 = 3 ∧ hkC8 st ∧ Xp 54 d 0 [(2, a0), (0, a1), (0, a2), hkU] [] t g (fun r t g => Xp 59 (d + 1) 13 ls (hkPush r st) t g Q)) := xr_invV (idx := 90) (y' := 54) (ci := 3) (tg := [2, 0, 0]) (by decide +kernel) (by decide +kernel) (by decide +kernel) (by decide +kernel) rfl rfl rfl
theorem x_59_13 : Xp 59 d 13 [v0, v1, v2, v3, v4, v5] ((0, x) :: st) t g Q = (hkP1 v3 ∧ Xp 59 d 15 [v0, v1, v2, v3, (0, x), v5] st t g Q) := Xp_chk (i := .istore 4) (len := 2) (by decide +kernel) rfl
theorem x_59_15 : Xp 59 d 15 ls st t g Q = Xp 59 d 16 ls ((0, 0) :: st) t g Q := xr_const (c := 0) (by decide +kernel) (by decide)
theorem x_59_16 : Xp 59 d 16 [v0, v1, v2, v3, v4, v5] ((0, x) :: st) t g Q = (hkP1 v4 ∧ Xp 59 d 18 [v0, v1, v2, v3, v4, (0, x)] st t g Q) := Xp_chk (i := .istore 5) (len := 2) (by decide +kernel) rfl
theorem x_59_18 : Xp 59 d 18 [v0, v1, v2, v3, v4, (0, x)] st t g Q = Xp 59 d 20 [v0, v1, v2, v3, v4, (0, x)] ((0, x) :: st) t g Q := Xp_go (i := .iload 5) (len := 2) (by decide +kernel) rfl
theorem x_59_20 : Xp 59 d 20 [(2, x), v1, v2, v3, v4, v5] st t g Q = Xp 59 d 21 [(2, x), v1, v2, v3, v4, v5] ((2, x) :: st) t g Q := Xp_go (i := .aload_n 0) (len := 1) (by decide +kernel) rfl
theorem x_59_21 : Xp 59 d 21 ls ((2, p) :: st) t g Q = (hkJK p = 3 ∧ jA p 0 ≤ t ∧ Xp 59 d 24 ls ((2, jR p 0) :: st) t g Q) := xr_getR (idx := 26) (ci := 3) (k := 0) (by decide +kernel) (by decide +kernel) (by decide +kernel)
theorem x_59_24 : Xp 59 d 24 ls ((2, p) :: st) t g Q = (hkJK p = 1 ∧ jA p 8 ≤ t ∧ Xp 59 d 27 ls ((2, jR p 8) :: st) t g Q) := xr_getR (idx := 96) (ci := 1) (k := 8) (by decide +kernel) (by decide +kernel) (by decide +kernel)
theorem x_59_27 : Xp 59 d 27 [v0, v1, v2, (0, x), v4, v5] st t g Q = Xp 59 d 28 [v0, v1, v2, (0, x), v4, v5] ((0, x) :: st) t g Q := Xp_go (i := .iload_n 3) (len := 1) (by decide +kernel) rfl
theorem x_59_28 : Xp 59 d 28 ls ((0, a) :: (2, p) :: st) t g Q = ((hkJK p = 100 ∧ 0 ≤ a ∧ a < jL p) ∧ Xp 59 d 29 ls ((0, g p a) :: st) t g Q) := Xp_chk (i := .iaload) (len := 1) (by decide +kernel) rfl
theorem x_59_29 : Xp 59 d 29 ls ((0, b) :: (0, a) :: st) t g Q = ((b ≤ a → Xp 59 d 66 ls st t g Q) ∧ (¬ (b ≤ a) → Xp 59 d 32 ls st t g Q)) := xr_if2 (cd := .ge) (off := 37) (by decide +kernel) (by decide)
theorem x_59_32 : Xp 59 d 32 [(2, x), v1, v2, v3, v4, v5] st t g Q = Xp 59 d 33 [(2, x), v1, v2, v3, v4, v5] ((2, x) :: st) t g Q := Xp_go (i := .aload_n 0) (len := 1) (by decide +kernel) rfl
theorem x_59_33 : Xp 59 d 33 ls ((2, p) :: st) t g Q = (hkJK p = 3 ∧ jA p 3 ≤ t ∧ Xp 59 d 36 ls ((2, jR p 3) :: st) t g Q) := xr_getR (idx := 17) (ci := 3) (k := 3) (by decide +kernel) (by decide +kernel) (by decide +kernel)
theorem x_59_36 : Xp 59 d 36 [v0, v1, v2, v3, (0, x), v5] st t g Q = Xp 59 d 38 [v0, v1, v2, v3, (0, x), v5] ((0, x) :: st) t g Q := Xp_go (i := .iload 4) (len := 2) (by decide +kernel) rfl
theorem x_59_38 : Xp 59 d 38 [v0, v1, v2, v3, v4, (0, x)] st t g Q = Xp 59 d 40 [v0, v1, v2, v3, v4, (0, x)] ((0, x) :: st) t g Q := Xp_go (i := .iload 5) (len := 2) (by decide +kernel) rfl
theorem x_59_40 : Xp 59 d 40 ls ((0, b) :: (0, a) :: st) t g Q = Xp 59 d 41 ls ((0, hkW (a + b)) :: st) t g Q := Xp_go (i := .iadd) (len := 1) (by decide +kernel) rfl
theorem x_59_41 : Xp 59 d 41 ls ((0, a) :: (2, p) :: st) t g Q = ((hkJK p = 100 ∧ 0 ≤ a ∧ a < jL p) ∧ Xp 59 d 42 ls ((0, g p a) :: st) t g Q) := Xp_chk (i := .iaload) (len := 1) (by decide +kernel) rfl
theorem x_59_42 : Xp 59 d 42 ls ((0, a) :: st) t g Q = ((a = 0 → Xp 59 d 60 ls st t g Q) ∧ (¬ (a = 0) → Xp 59 d 45 ls st t g Q)) := xr_if1 (cd := .eq) (off := 18) (by decide +kernel) (by decide)
theorem x_59_45 : Xp 59 d 45 [(2, x), v1, v2, v3, v4, v5] st t g Q = Xp 59 d 46 [(2, x), v1, v2, v3, v4, v5] ((2, x) :: st) t g Q := Xp_go (i := .aload_n 0) (len := 1) (by decide +kernel) rfl
theorem x_59_46 : Xp 59 d 46 ls ((2, p) :: st) t g Q = (hkJK p = 3 ∧ jA p 0 ≤ t ∧ Xp 59 d 49 ls ((2, jR p 0) :: st) t g Q) := xr_getR (idx := 26) (ci := 3) (k := 0) (by decide +kernel) (by decide +kernel) (by decide +kernel)
theorem x_59_49 : Xp 59 d 49 ls ((2, p) :: st) t g Q = (hkJK p = 1 ∧ jA p 7 ≤ t ∧ Xp 59 d 52 ls ((2, jR p 7) :: st) t g Q) := xr_getR (idx := 99) (ci := 1) (k := 7) (by decide +kernel) (by decide +kernel) (by decide +kernel)
theorem x_59_52 : Xp 59 d 52 [v0, v1, v2, (0, x), v4, v5] st t g Q = Xp 59 d 53 [v0, v1, v2, (0, x), v4, v5] ((0, x) :: st) t g Q := Xp_go (i := .iload_n 3) (len := 1) (by decide +kernel) rfl
theorem x_59_53 : Xp 59 d 53 ls st t g Q = Xp 59 d 54 ls ((0, 5) :: st) t g Q := xr_const (c := 5) (by decide +kernel) (by decide)
theorem x_59_54 : Xp 59 d 54 ls ((0, b) :: (0, a) :: st) t g Q = Xp 59 d 55 ls ((0, hkW (a * b)) :: st) t g Q := Xp_go (i := .imul) (len := 1) (by decide +kernel) rfl
theorem x_59_55 : Xp 59 d 55 [v0, v1, v2, v3, v4, (0, x)] st t g Q = Xp 59 d 57 [v0, v1, v2, v3, v4, (0, x)] ((0, x) :: st) t g Q := Xp_go (i := .iload 5) (len := 2) (by decide +kernel) rfl
theorem x_59_57 : Xp 59 d 57 ls ((0, b) :: (0, a) :: st) t g Q = Xp 59 d 58 ls ((0, hkW (a + b)) :: st) t g Q := Xp_go (i := .iadd) (len := 1) (by decide +kernel) rfl
theorem x_59_58 : Xp 59 d 58 ls ((0, a) :: (2, p) :: st) t g Q = ((hkJK p = 100 ∧ 0 ≤ a ∧ a < jL p) ∧ Xp 59 d 59 ls ((0, g p a) :: st) t g Q) := Xp_chk (i := .iaload) (len := 1) (by decide +kernel) rfl
theorem x_59_59 : Xp 59 d 59 ls [(0, x)] t g Q = Q (some (0, x)) t g := xr_retI (by decide +kernel) (by decide +kernel)
theorem x_59_60 : Xp 59 d 60 [v0, v1, v2, v3, v4, (0, x)] st t g Q = (hkP1 v4 ∧ Xp 59 d 63 [v0, v1, v2, v3, v4, (0, hkW (x + 1))] st t g Q) := Xp_chk (i := .iinc 5 (1)) (len := 3) (by decide +kernel) rfl
theorem x_59_63 : Xp 59 d 63 ls st t g Q = Xp 59 d 18 ls st t g Q := xr_goto (off := -45) (by decide +kernel) (by decide)
theorem x_59_66 : Xp 59 d 66 ls st t g Q = Xp 59 d 67 ls ((0, -1) :: st) t g Q := xr_const (c := -1) (by decide +kernel) (by decide)
theorem x_59_67 : Xp 59 d 67 ls [(0, x)] t g Q = Q (some (0, x)) t g := xr_retI (by decide +kernel) (by decide +kernel)
-- 60: HookBoxes$Roots.<init>(LHookBoxes$Box;)V
theorem x_60_0 : Xp 60 d 0 [(2, x), v1] st t g Q = Xp 60 d 1 [(2, x), v1] ((2, x) :: st) t g Q := Xp_go (i := .aload_n 0) (len := 1) (by decide +kernel) rfl
theorem x_60_1 : Xp 60 d 1 ls ((2, p) :: st) t g Q = (hkC8 st ∧ Xp 60 d 4 ls st t g Q) := xr_obj (idx := 3) (f := 183) (by decide +kernel) (by decide +kernel) (by decide +kernel) (by decide +kernel)
theorem x_60_4 : Xp 60 d 4 [(2, x), v1] st t g Q = Xp 60 d 5 [(2, x), v1] ((2, x) :: st) t g Q := Xp_go (i := .aload_n 0) (len := 1) (by decide +kernel) rfl
theorem x_60_5 : Xp 60 d 5 ls st t g Q = Xp 60 d 7 ls ((0, 8) :: st) t g Q := xr_bi (c := 8) (by decide +kernel) (by decide)
theorem x_60_7 : Xp 60 d 7 ls ((0, x) :: st) t g Q = (∃ P z w, hkEV[t]? = some (0, P, z, w) ∧ hkKd P = 100 ∧ x = jL (P : Int) ∧ Xp 60 d 9 ls ((2, (P : Int)) :: st) (t + 1) g Q) := xr_newa (ty := .int) (ci := 100) (by decide +kernel) (by decide) (by decide)
theorem x_60_9 : Xp 60 d 9 ls ((2, z) :: (2, p) :: st) t g Q = (hkJK p = 4 ∧ hkEV[t]? = some (1, p.toNat, 0, z.toNat) ∧ Xp 60 d 12 ls st (t + 1) g Q) := xr_putR (idx := 9) (ci := 4) (k := 0) (by decide +kernel) (by decide +kernel) (by decide +kernel) (by decide +kernel) (by decide +kernel)
theorem x_60_12 : Xp 60 d 12 [(2, x), v1] st t g Q = Xp 60 d 13 [(2, x), v1] ((2, x) :: st) t g Q := Xp_go (i := .aload_n 0) (len := 1) (by decide +kernel) rfl
theorem x_60_13 : Xp 60 d 13 ls st t g Q = Xp 60 d 15 ls ((0, 49) :: st) t g Q := xr_bi (c := 49) (by decide +kernel) (by decide)
theorem x_60_15 : Xp 60 d 15 ls ((0, x) :: st) t g Q = (∃ P z w, hkEV[t]? = some (0, P, z, w) ∧ hkKd P = 100 ∧ x = jL (P : Int) ∧ Xp 60 d 17 ls ((2, (P : Int)) :: st) (t + 1) g Q) := xr_newa (ty := .int) (ci := 100) (by decide +kernel) (by decide) (by decide)
theorem x_60_17 : Xp 60 d 17 ls ((2, z) :: (2, p) :: st) t g Q = (hkJK p = 4 ∧ hkEV[t]? = some (1, p.toNat, 2, z.toNat) ∧ Xp 60 d 20 ls st (t + 1) g Q) := xr_putR (idx := 15) (ci := 4) (k := 2) (by decide +kernel) (by decide +kernel) (by decide +kernel) (by decide +kernel) (by decide +kernel)
theorem x_60_20 : Xp 60 d 20 [(2, x), v1] st t g Q = Xp 60 d 21 [(2, x), v1] ((2, x) :: st) t g Q := Xp_go (i := .aload_n 0) (len := 1) (by decide +kernel) rfl
theorem x_60_21 : Xp 60 d 21 ls st t g Q = Xp 60 d 23 ls ((0, 49) :: st) t g Q := xr_bi (c := 49) (by decide +kernel) (by decide)
theorem x_60_23 : Xp 60 d 23 ls ((0, x) :: st) t g Q = (∃ P z w, hkEV[t]? = some (0, P, z, w) ∧ hkKd P = 100 ∧ x = jL (P : Int) ∧ Xp 60 d 25 ls ((2, (P : Int)) :: st) (t + 1) g Q) := xr_newa (ty := .int) (ci := 100) (by decide +kernel) (by decide) (by decide)
theorem x_60_25 : Xp 60 d 25 ls ((2, z) :: (2, p) :: st) t g Q = (hkJK p = 4 ∧ hkEV[t]? = some (1, p.toNat, 3, z.toNat) ∧ Xp 60 d 28 ls st (t + 1) g Q) := xr_putR (idx := 18) (ci := 4) (k := 3) (by decide +kernel) (by decide +kernel) (by decide +kernel) (by decide +kernel) (by decide +kernel)
theorem x_60_28 : Xp 60 d 28 [(2, x), v1] st t g Q = Xp 60 d 29 [(2, x), v1] ((2, x) :: st) t g Q := Xp_go (i := .aload_n 0) (len := 1) (by decide +kernel) rfl
theorem x_60_29 : Xp 60 d 29 ls st t g Q = Xp 60 d 30 ls ((0, 4) :: st) t g Q := xr_const (c := 4) (by decide +kernel) (by decide)
theorem x_60_30 : Xp 60 d 30 ls ((0, x) :: st) t g Q = (∃ P z w, hkEV[t]? = some (0, P, z, w) ∧ hkKd P = 100 ∧ x = jL (P : Int) ∧ Xp 60 d 32 ls ((2, (P : Int)) :: st) (t + 1) g Q) := xr_newa (ty := .int) (ci := 100) (by decide +kernel) (by decide) (by decide)
theorem x_60_32 : Xp 60 d 32 ls ((2, z) :: (2, p) :: st) t g Q = (hkJK p = 4 ∧ hkEV[t]? = some (1, p.toNat, 4, z.toNat) ∧ Xp 60 d 35 ls st (t + 1) g Q) := xr_putR (idx := 21) (ci := 4) (k := 4) (by decide +kernel) (by decide +kernel) (by decide +kernel) (by decide +kernel) (by decide +kernel)
theorem x_60_35 : Xp 60 d 35 [(2, x), v1] st t g Q = Xp 60 d 36 [(2, x), v1] ((2, x) :: st) t g Q := Xp_go (i := .aload_n 0) (len := 1) (by decide +kernel) rfl
theorem x_60_36 : Xp 60 d 36 ls st t g Q = Xp 60 d 37 ls ((0, 0) :: st) t g Q := xr_const (c := 0) (by decide +kernel) (by decide)
theorem x_60_37 : Xp 60 d 37 ls ((0, x) :: (2, p) :: st) t g Q = (hkJK p = 4 ∧ (x = 0 ∨ x = 1) ∧ Xp 60 d 40 ls st t (hkSet g p 5 x) Q) := xr_putB (idx := 24) (ci := 4) (k := 5) (by decide +kernel) (by decide +kernel) (by decide +kernel)
theorem x_60_40 : Xp 60 d 40 [(2, x), v1] st t g Q = Xp 60 d 41 [(2, x), v1] ((2, x) :: st) t g Q := Xp_go (i := .aload_n 0) (len := 1) (by decide +kernel) rfl
theorem x_60_41 : Xp 60 d 41 [v0, (2, x)] st t g Q = Xp 60 d 42 [v0, (2, x)] ((2, x) :: st) t g Q := Xp_go (i := .aload_n 1) (len := 1) (by decide +kernel) rfl
theorem x_60_42 : Xp 60 d 42 ls ((2, z) :: (2, p) :: st) t g Q = (hkJK p = 4 ∧ hkEV[t]? = some (1, p.toNat, 1, z.toNat) ∧ Xp 60 d 45 ls st (t + 1) g Q) := xr_putR (idx := 28) (ci := 4) (k := 1) (by decide +kernel) (by decide +kernel) (by decide +kernel) (by decide +kernel) (by decide +kernel)
theorem x_60_45 : Xp 60 d 45 ls [] t g Q = Q none t g := xr_retV (by decide +kernel) (by decide +kernel)
-- 61: HookBoxes$Roots.forget()V
theorem x_61_0 : Xp 61 d 0 [(2, x)] st t g Q = Xp 61 d 1 [(2, x)] ((2, x) :: st) t g Q := Xp_go (i := .aload_n 0) (len := 1) (by decide +kernel) rfl
theorem x_61_1 : Xp 61 d 1 ls st t g Q = Xp 61 d 2 ls ((0, 0) :: st) t g Q := xr_const (c := 0) (by decide +kernel) (by decide)
theorem x_61_2 : Xp 61 d 2 ls ((0, x) :: (2, p) :: st) t g Q = (hkJK p = 4 ∧ (x = 0 ∨ x = 1) ∧ Xp 61 d 5 ls st t (hkSet g p 5 x) Q) := xr_putB (idx := 24) (ci := 4) (k := 5) (by decide +kernel) (by decide +kernel) (by decide +kernel)
theorem x_61_5 : Xp 61 d 5 ls [] t g Q = Q none t g := xr_retV (by decide +kernel) (by decide +kernel)
-- 62: HookBoxes$Roots.often(II)I
theorem x_62_0 : Xp 62 d 0 [(2, x), v1, v2, v3, v4] st t g Q = Xp 62 d 1 [(2, x), v1, v2, v3, v4] ((2, x) :: st) t g Q := Xp_go (i := .aload_n 0) (len := 1) (by decide +kernel) rfl
theorem x_62_1 : Xp 62 d 1 ls ((2, p) :: st) t g Q = (hkJK p = 4 ∧ Xp 62 d 4 ls ((0, g p 5) :: st) t g Q) := xr_getI (idx := 24) (ci := 4) (k := 5) (by decide +kernel) (by decide +kernel) (by decide +kernel)
theorem x_62_4 : Xp 62 d 4 ls ((0, a) :: st) t g Q = ((¬ (a = 0) → Xp 62 d 11 ls st t g Q) ∧ (¬ (¬ (a = 0)) → Xp 62 d 7 ls st t g Q)) := xr_if1 (cd := .ne) (off := 7) (by decide +kernel) (by decide)
theorem x_62_7 : Xp 62 d 7 [(2, x), v1, v2, v3, v4] st t g Q = Xp 62 d 8 [(2, x), v1, v2, v3, v4] ((2, x) :: st) t g Q := Xp_go (i := .aload_n 0) (len := 1) (by decide +kernel) rfl
theorem x_62_8 : Xp 62 (d + 1) 8 ls ((2, a0) :: st) t g Q = (hkJK a0 = 4 ∧ hkC8 st ∧ Xp 63 d 0 [(2, a0), hkU, hkU, hkU] [] t g (fun r t g => Xp 62 (d + 1) 11 ls (hkPush r st) t g Q)) := xr_invV (idx := 53) (y' := 63) (ci := 4) (tg := [2]) (by decide +kernel) (by decide +kernel) (by decide +kernel) (by decide +kernel) rfl rfl rfl
theorem x_62_11 : Xp 62 d 11 ls st t g Q = Xp 62 d 12 ls ((0, 0) :: st) t g Q := xr_const (c := 0) (by decide +kernel) (by decide)
theorem x_62_12 : Xp 62 d 12 [v0, v1, v2, v3, v4] ((0, x) :: st) t g Q = (hkP1 v2 ∧ Xp 62 d 13 [v0, v1, v2, (0, x), v4] st t g Q) := Xp_chk (i := .istore_n 3) (len := 1) (by decide +kernel) rfl
theorem x_62_13 : Xp 62 d 13 ls st t g Q = Xp 62 d 14 ls ((0, 0) :: st) t g Q := xr_const (c := 0) (by decide +kernel) (by decide)
theorem x_62_14 : Xp 62 d 14 [v0, v1, v2, v3, v4] ((0, x) :: st) t g Q = (hkP1 v3 ∧ Xp 62 d 16 [v0, v1, v2, v3, (0, x)] st t g Q) := Xp_chk (i := .istore 4) (len := 2) (by decide +kernel) rfl
theorem x_62_16 : Xp 62 d 16 [v0, v1, v2, v3, (0, x)] st t g Q = Xp 62 d 18 [v0, v1, v2, v3, (0, x)] ((0, x) :: st) t g Q := Xp_go (i := .iload 4) (len := 2) (by decide +kernel) rfl
theorem x_62_18 : Xp 62 d 18 ls st t g Q = Xp 62 d 19 ls ((0, 1) :: st) t g Q := xr_const (c := 1) (by decide +kernel) (by decide)
theorem x_62_19 : Xp 62 d 19 [(2, x), v1, v2, v3, v4] st t g Q = Xp 62 d 20 [(2, x), v1, v2, v3, v4] ((2, x) :: st) t g Q := Xp_go (i := .aload_n 0) (len := 1) (by decide +kernel) rfl
theorem x_62_20 : Xp 62 d 20 ls ((2, p) :: st) t g Q = (hkJK p = 4 ∧ jA p 1 ≤ t ∧ Xp 62 d 23 ls ((2, jR p 1) :: st) t g Q) := xr_getR (idx := 28) (ci := 4) (k := 1) (by decide +kernel) (by decide +kernel) (by decide +kernel)
theorem x_62_23 : Xp 62 d 23 ls ((2, p) :: st) t g Q = (hkJK p = 1 ∧ Xp 62 d 26 ls ((0, g p 1) :: st) t g Q) := xr_getI (idx := 38) (ci := 1) (k := 1) (by decide +kernel) (by decide +kernel) (by decide +kernel)
theorem x_62_26 : Xp 62 d 26 ls ((0, b) :: (0, a) :: st) t g Q = Xp 62 d 27 ls ((0, hkShl a b) :: st) t g Q := Xp_go (i := .ishl) (len := 1) (by decide +kernel) rfl
theorem x_62_27 : Xp 62 d 27 ls ((0, b) :: (0, a) :: st) t g Q = ((b ≤ a → Xp 62 d 66 ls st t g Q) ∧ (¬ (b ≤ a) → Xp 62 d 30 ls st t g Q)) := xr_if2 (cd := .ge) (off := 39) (by decide +kernel) (by decide)
theorem x_62_30 : Xp 62 d 30 [v0, v1, v2, v3, (0, x)] st t g Q = Xp 62 d 32 [v0, v1, v2, v3, (0, x)] ((0, x) :: st) t g Q := Xp_go (i := .iload 4) (len := 2) (by decide +kernel) rfl
theorem x_62_32 : Xp 62 (d + 1) 32 ls ((0, a0) :: st) t g Q = (hkC8 st ∧ Xp 173 d 0 [(0, a0)] [] t g (fun r t g => Xp 62 (d + 1) 35 ls (hkPush r st) t g Q)) := xr_invS (idx := 56) (y' := 173) (tg := [0]) (by decide +kernel) (by decide +kernel) (by decide +kernel) rfl rfl
theorem x_62_35 : Xp 62 d 35 [(2, x), v1, v2, v3, v4] st t g Q = Xp 62 d 36 [(2, x), v1, v2, v3, v4] ((2, x) :: st) t g Q := Xp_go (i := .aload_n 0) (len := 1) (by decide +kernel) rfl
theorem x_62_36 : Xp 62 d 36 ls ((2, p) :: st) t g Q = (hkJK p = 4 ∧ jA p 1 ≤ t ∧ Xp 62 d 39 ls ((2, jR p 1) :: st) t g Q) := xr_getR (idx := 28) (ci := 4) (k := 1) (by decide +kernel) (by decide +kernel) (by decide +kernel)
theorem x_62_39 : Xp 62 d 39 ls ((2, p) :: st) t g Q = (hkJK p = 1 ∧ Xp 62 d 42 ls ((0, g p 0) :: st) t g Q) := xr_getI (idx := 32) (ci := 1) (k := 0) (by decide +kernel) (by decide +kernel) (by decide +kernel)
theorem x_62_42 : Xp 62 d 42 ls ((0, b) :: (0, a) :: st) t g Q = ((¬ (a = b) → Xp 62 d 60 ls st t g Q) ∧ (¬ (¬ (a = b)) → Xp 62 d 45 ls st t g Q)) := xr_if2 (cd := .ne) (off := 18) (by decide +kernel) (by decide)
theorem x_62_45 : Xp 62 d 45 [(2, x), v1, v2, v3, v4] st t g Q = Xp 62 d 46 [(2, x), v1, v2, v3, v4] ((2, x) :: st) t g Q := Xp_go (i := .aload_n 0) (len := 1) (by decide +kernel) rfl
theorem x_62_46 : Xp 62 d 46 [v0, v1, v2, v3, (0, x)] st t g Q = Xp 62 d 48 [v0, v1, v2, v3, (0, x)] ((0, x) :: st) t g Q := Xp_go (i := .iload 4) (len := 2) (by decide +kernel) rfl
theorem x_62_48 : Xp 62 (d + 1) 48 ls ((0, a1) :: (2, a0) :: st) t g Q = (hkJK a0 = 4 ∧ hkC8 st ∧ Xp 67 d 0 [(2, a0), (0, a1), hkU, hkU] [] t g (fun r t g => Xp 62 (d + 1) 51 ls (hkPush r st) t g Q)) := xr_invV (idx := 61) (y' := 67) (ci := 4) (tg := [2, 0]) (by decide +kernel) (by decide +kernel) (by decide +kernel) (by decide +kernel) rfl rfl rfl
theorem x_62_51 : Xp 62 d 51 [v0, v1, v2, (0, x), v4] st t g Q = Xp 62 d 52 [v0, v1, v2, (0, x), v4] ((0, x) :: st) t g Q := Xp_go (i := .iload_n 3) (len := 1) (by decide +kernel) rfl
theorem x_62_52 : Xp 62 d 52 [(2, x), v1, v2, v3, v4] st t g Q = Xp 62 d 53 [(2, x), v1, v2, v3, v4] ((2, x) :: st) t g Q := Xp_go (i := .aload_n 0) (len := 1) (by decide +kernel) rfl
theorem x_62_53 : Xp 62 d 53 [v0, (0, x), v2, v3, v4] st t g Q = Xp 62 d 54 [v0, (0, x), v2, v3, v4] ((0, x) :: st) t g Q := Xp_go (i := .iload_n 1) (len := 1) (by decide +kernel) rfl
theorem x_62_54 : Xp 62 d 54 [v0, v1, (0, x), v3, v4] st t g Q = Xp 62 d 55 [v0, v1, (0, x), v3, v4] ((0, x) :: st) t g Q := Xp_go (i := .iload_n 2) (len := 1) (by decide +kernel) rfl
theorem x_62_55 : Xp 62 (d + 1) 55 ls ((0, a2) :: (0, a1) :: (2, a0) :: st) t g Q = (hkJK a0 = 4 ∧ hkC8 st ∧ Xp 68 d 0 [(2, a0), (0, a1), (0, a2), hkU, hkU, hkU, hkU, hkU] [] t g (fun r t g => Xp 62 (d + 1) 58 ls (hkPush r st) t g Q)) := xr_invV (idx := 65) (y' := 68) (ci := 4) (tg := [2, 0, 0]) (by decide +kernel) (by decide +kernel) (by decide +kernel) (by decide +kernel) rfl rfl rfl
theorem x_62_58 : Xp 62 d 58 ls ((0, b) :: (0, a) :: st) t g Q = Xp 62 d 59 ls ((0, hkW (a + b)) :: st) t g Q := Xp_go (i := .iadd) (len := 1) (by decide +kernel) rfl
theorem x_62_59 : Xp 62 d 59 [v0, v1, v2, v3, v4] ((0, x) :: st) t g Q = (hkP1 v2 ∧ Xp 62 d 60 [v0, v1, v2, (0, x), v4] st t g Q) := Xp_chk (i := .istore_n 3) (len := 1) (by decide +kernel) rfl
theorem x_62_60 : Xp 62 d 60 [v0, v1, v2, v3, (0, x)] st t g Q = (hkP1 v3 ∧ Xp 62 d 63 [v0, v1, v2, v3, (0, hkW (x + 1))] st t g Q) := Xp_chk (i := .iinc 4 (1)) (len := 3) (by decide +kernel) rfl
theorem x_62_63 : Xp 62 d 63 ls st t g Q = Xp 62 d 16 ls st t g Q := xr_goto (off := -47) (by decide +kernel) (by decide)
theorem x_62_66 : Xp 62 d 66 [v0, v1, v2, (0, x), v4] st t g Q = Xp 62 d 67 [v0, v1, v2, (0, x), v4] ((0, x) :: st) t g Q := Xp_go (i := .iload_n 3) (len := 1) (by decide +kernel) rfl
theorem x_62_67 : Xp 62 d 67 ls st t g Q = Xp 62 d 70 ls ((0, 2521) :: st) t g Q := xr_si (c := 2521) (by decide +kernel) (by decide)
theorem x_62_70 : Xp 62 d 70 ls ((0, b) :: (0, a) :: st) t g Q = (b ≠ 0 ∧ Xp 62 d 71 ls ((0, a.tmod b) :: st) t g Q) := Xp_chk (i := .irem) (len := 1) (by decide +kernel) rfl
theorem x_62_71 : Xp 62 d 71 [(2, x), v1, v2, v3, v4] st t g Q = Xp 62 d 72 [(2, x), v1, v2, v3, v4] ((2, x) :: st) t g Q := Xp_go (i := .aload_n 0) (len := 1) (by decide +kernel) rfl
theorem x_62_72 : Xp 62 d 72 ls ((2, p) :: st) t g Q = (hkJK p = 4 ∧ jA p 1 ≤ t ∧ Xp 62 d 75 ls ((2, jR p 1) :: st) t g Q) := xr_getR (idx := 28) (ci := 4) (k := 1) (by decide +kernel) (by decide +kernel) (by decide +kernel)
theorem x_62_75 : Xp 62 d 75 ls ((2, p) :: st) t g Q = (hkJK p = 1 ∧ Xp 62 d 78 ls ((0, g p 1) :: st) t g Q) := xr_getI (idx := 38) (ci := 1) (k := 1) (by decide +kernel) (by decide +kernel) (by decide +kernel)
theorem x_62_78 : Xp 62 d 78 [(2, x), v1, v2, v3, v4] st t g Q = Xp 62 d 79 [(2, x), v1, v2, v3, v4] ((2, x) :: st) t g Q := Xp_go (i := .aload_n 0) (len := 1) (by decide +kernel) rfl
theorem x_62_79 : Xp 62 d 79 ls ((2, p) :: st) t g Q = (hkJK p = 4 ∧ jA p 1 ≤ t ∧ Xp 62 d 82 ls ((2, jR p 1) :: st) t g Q) := xr_getR (idx := 28) (ci := 4) (k := 1) (by decide +kernel) (by decide +kernel) (by decide +kernel)
theorem x_62_82 : Xp 62 d 82 ls ((2, p) :: st) t g Q = (hkJK p = 1 ∧ Xp 62 d 85 ls ((0, g p 0) :: st) t g Q) := xr_getI (idx := 32) (ci := 1) (k := 0) (by decide +kernel) (by decide +kernel) (by decide +kernel)
theorem x_62_85 : Xp 62 (d + 1) 85 ls ((0, a1) :: (0, a0) :: st) t g Q = (hkC8 st ∧ Xp 64 d 0 [(0, a0), (0, a1), hkU, hkU, hkU] [] t g (fun r t g => Xp 62 (d + 1) 88 ls (hkPush r st) t g Q)) := xr_invS (idx := 41) (y' := 64) (tg := [0, 0]) (by decide +kernel) (by decide +kernel) (by decide +kernel) rfl rfl
theorem x_62_88 : Xp 62 (d + 1) 88 ls ((0, a0) :: st) t g Q = (hkC8 st ∧ Xp 66 d 0 [(0, a0)] [] t g (fun r t g => Xp 62 (d + 1) 91 ls (hkPush r st) t g Q)) := xr_invS (idx := 49) (y' := 66) (tg := [0]) (by decide +kernel) (by decide +kernel) (by decide +kernel) rfl rfl
theorem x_62_91 : Xp 62 d 91 ls ((0, b) :: (0, a) :: st) t g Q = Xp 62 d 92 ls ((0, hkW (a * b)) :: st) t g Q := Xp_go (i := .imul) (len := 1) (by decide +kernel) rfl
theorem x_62_92 : Xp 62 d 92 ls st t g Q = Xp 62 d 95 ls ((0, 2521) :: st) t g Q := xr_si (c := 2521) (by decide +kernel) (by decide)
theorem x_62_95 : Xp 62 d 95 ls ((0, b) :: (0, a) :: st) t g Q = (b ≠ 0 ∧ Xp 62 d 96 ls ((0, a.tmod b) :: st) t g Q) := Xp_chk (i := .irem) (len := 1) (by decide +kernel) rfl
theorem x_62_96 : Xp 62 d 96 ls [(0, x)] t g Q = Q (some (0, x)) t g := xr_retI (by decide +kernel) (by decide +kernel)
-- 63: HookBoxes$Roots.prepare()V
theorem x_63_0 : Xp 63 d 0 [(2, x), v1, v2, v3] st t g Q = Xp 63 d 1 [(2, x), v1, v2, v3] ((2, x) :: st) t g Q := Xp_go (i := .aload_n 0) (len := 1) (by decide +kernel) rfl
theorem x_63_1 : Xp 63 d 1 ls ((2, p) :: st) t g Q = (hkJK p = 4 ∧ jA p 1 ≤ t ∧ Xp 63 d 4 ls ((2, jR p 1) :: st) t g Q) := xr_getR (idx := 28) (ci := 4) (k := 1) (by decide +kernel) (by decide +kernel) (by decide +kernel)
theorem x_63_4 : Xp 63 d 4 ls ((2, p) :: st) t g Q = (hkJK p = 1 ∧ Xp 63 d 7 ls ((0, g p 0) :: st) t g Q) := xr_getI (idx := 32) (ci := 1) (k := 0) (by decide +kernel) (by decide +kernel) (by decide +kernel)
theorem x_63_7 : Xp 63 d 7 ls st t g Q = Xp 63 d 8 ls ((0, 2) :: st) t g Q := xr_const (c := 2) (by decide +kernel) (by decide)
theorem x_63_8 : Xp 63 d 8 ls ((0, b) :: (0, a) :: st) t g Q = (b ≠ 0 ∧ Xp 63 d 9 ls ((0, a.tmod b) :: st) t g Q) := Xp_chk (i := .irem) (len := 1) (by decide +kernel) rfl
theorem x_63_9 : Xp 63 d 9 ls ((0, a) :: st) t g Q = ((¬ (a = 0) → Xp 63 d 18 ls st t g Q) ∧ (¬ (¬ (a = 0)) → Xp 63 d 12 ls st t g Q)) := xr_if1 (cd := .ne) (off := 9) (by decide +kernel) (by decide)
theorem x_63_12 : Xp 63 d 12 ls st t g Q = Xp 63 d 15 ls ((0, 2520) :: st) t g Q := xr_si (c := 2520) (by decide +kernel) (by decide)
theorem x_63_15 : Xp 63 d 15 ls st t g Q = Xp 63 d 19 ls st t g Q := xr_goto (off := 4) (by decide +kernel) (by decide)
theorem x_63_18 : Xp 63 d 18 ls st t g Q = Xp 63 d 19 ls ((0, 1) :: st) t g Q := xr_const (c := 1) (by decide +kernel) (by decide)
theorem x_63_19 : Xp 63 d 19 [v0, v1, v2, v3] ((0, x) :: st) t g Q = (hkP1 v0 ∧ Xp 63 d 20 [v0, (0, x), v2, v3] st t g Q) := Xp_chk (i := .istore_n 1) (len := 1) (by decide +kernel) rfl
theorem x_63_20 : Xp 63 d 20 ls st t g Q = Xp 63 d 21 ls ((0, 0) :: st) t g Q := xr_const (c := 0) (by decide +kernel) (by decide)
theorem x_63_21 : Xp 63 d 21 [v0, v1, v2, v3] ((0, x) :: st) t g Q = (hkP1 v1 ∧ Xp 63 d 22 [v0, v1, (0, x), v3] st t g Q) := Xp_chk (i := .istore_n 2) (len := 1) (by decide +kernel) rfl
theorem x_63_22 : Xp 63 d 22 ls st t g Q = Xp 63 d 23 ls ((0, 1) :: st) t g Q := xr_const (c := 1) (by decide +kernel) (by decide)
theorem x_63_23 : Xp 63 d 23 [v0, v1, v2, v3] ((0, x) :: st) t g Q = (hkP1 v2 ∧ Xp 63 d 24 [v0, v1, v2, (0, x)] st t g Q) := Xp_chk (i := .istore_n 3) (len := 1) (by decide +kernel) rfl
theorem x_63_24 : Xp 63 d 24 [v0, v1, v2, (0, x)] st t g Q = Xp 63 d 25 [v0, v1, v2, (0, x)] ((0, x) :: st) t g Q := Xp_go (i := .iload_n 3) (len := 1) (by decide +kernel) rfl
theorem x_63_25 : Xp 63 d 25 ls st t g Q = Xp 63 d 28 ls ((0, 2521) :: st) t g Q := xr_si (c := 2521) (by decide +kernel) (by decide)
theorem x_63_28 : Xp 63 d 28 ls ((0, b) :: (0, a) :: st) t g Q = ((b ≤ a → Xp 63 d 89 ls st t g Q) ∧ (¬ (b ≤ a) → Xp 63 d 31 ls st t g Q)) := xr_if2 (cd := .ge) (off := 61) (by decide +kernel) (by decide)
theorem x_63_31 : Xp 63 d 31 [v0, v1, (0, x), v3] st t g Q = Xp 63 d 32 [v0, v1, (0, x), v3] ((0, x) :: st) t g Q := Xp_go (i := .iload_n 2) (len := 1) (by decide +kernel) rfl
theorem x_63_32 : Xp 63 d 32 [(2, x), v1, v2, v3] st t g Q = Xp 63 d 33 [(2, x), v1, v2, v3] ((2, x) :: st) t g Q := Xp_go (i := .aload_n 0) (len := 1) (by decide +kernel) rfl
theorem x_63_33 : Xp 63 d 33 ls ((2, p) :: st) t g Q = (hkJK p = 4 ∧ jA p 1 ≤ t ∧ Xp 63 d 36 ls ((2, jR p 1) :: st) t g Q) := xr_getR (idx := 28) (ci := 4) (k := 1) (by decide +kernel) (by decide +kernel) (by decide +kernel)
theorem x_63_36 : Xp 63 d 36 ls ((2, p) :: st) t g Q = (hkJK p = 1 ∧ Xp 63 d 39 ls ((0, g p 1) :: st) t g Q) := xr_getI (idx := 38) (ci := 1) (k := 1) (by decide +kernel) (by decide +kernel) (by decide +kernel)
theorem x_63_39 : Xp 63 d 39 ls ((0, b) :: (0, a) :: st) t g Q = ((b ≤ a → Xp 63 d 89 ls st t g Q) ∧ (¬ (b ≤ a) → Xp 63 d 42 ls st t g Q)) := xr_if2 (cd := .ge) (off := 50) (by decide +kernel) (by decide)
theorem x_63_42 : Xp 63 d 42 [v0, v1, v2, (0, x)] st t g Q = Xp 63 d 43 [v0, v1, v2, (0, x)] ((0, x) :: st) t g Q := Xp_go (i := .iload_n 3) (len := 1) (by decide +kernel) rfl
theorem x_63_43 : Xp 63 d 43 [(2, x), v1, v2, v3] st t g Q = Xp 63 d 44 [(2, x), v1, v2, v3] ((2, x) :: st) t g Q := Xp_go (i := .aload_n 0) (len := 1) (by decide +kernel) rfl
theorem x_63_44 : Xp 63 d 44 ls ((2, p) :: st) t g Q = (hkJK p = 4 ∧ jA p 1 ≤ t ∧ Xp 63 d 47 ls ((2, jR p 1) :: st) t g Q) := xr_getR (idx := 28) (ci := 4) (k := 1) (by decide +kernel) (by decide +kernel) (by decide +kernel)
theorem x_63_47 : Xp 63 d 47 ls ((2, p) :: st) t g Q = (hkJK p = 1 ∧ Xp 63 d 50 ls ((0, g p 1) :: st) t g Q) := xr_getI (idx := 38) (ci := 1) (k := 1) (by decide +kernel) (by decide +kernel) (by decide +kernel)
theorem x_63_50 : Xp 63 (d + 1) 50 ls ((0, a1) :: (0, a0) :: st) t g Q = (hkC8 st ∧ Xp 64 d 0 [(0, a0), (0, a1), hkU, hkU, hkU] [] t g (fun r t g => Xp 63 (d + 1) 53 ls (hkPush r st) t g Q)) := xr_invS (idx := 41) (y' := 64) (tg := [0, 0]) (by decide +kernel) (by decide +kernel) (by decide +kernel) rfl rfl
theorem x_63_53 : Xp 63 d 53 [v0, (0, x), v2, v3] st t g Q = Xp 63 d 54 [v0, (0, x), v2, v3] ((0, x) :: st) t g Q := Xp_go (i := .iload_n 1) (len := 1) (by decide +kernel) rfl
theorem x_63_54 : Xp 63 d 54 ls ((0, b) :: (0, a) :: st) t g Q = ((¬ (a = b) → Xp 63 d 83 ls st t g Q) ∧ (¬ (¬ (a = b)) → Xp 63 d 57 ls st t g Q)) := xr_if2 (cd := .ne) (off := 29) (by decide +kernel) (by decide)
theorem x_63_57 : Xp 63 d 57 [(2, x), v1, v2, v3] st t g Q = Xp 63 d 58 [(2, x), v1, v2, v3] ((2, x) :: st) t g Q := Xp_go (i := .aload_n 0) (len := 1) (by decide +kernel) rfl
theorem x_63_58 : Xp 63 d 58 [(2, x), v1, v2, v3] st t g Q = Xp 63 d 59 [(2, x), v1, v2, v3] ((2, x) :: st) t g Q := Xp_go (i := .aload_n 0) (len := 1) (by decide +kernel) rfl
theorem x_63_59 : Xp 63 d 59 ls ((2, p) :: st) t g Q = (hkJK p = 4 ∧ jA p 2 ≤ t ∧ Xp 63 d 62 ls ((2, jR p 2) :: st) t g Q) := xr_getR (idx := 15) (ci := 4) (k := 2) (by decide +kernel) (by decide +kernel) (by decide +kernel)
theorem x_63_62 : Xp 63 d 62 [v0, v1, (0, x), v3] st t g Q = Xp 63 d 63 [v0, v1, (0, x), v3] ((0, x) :: st) t g Q := Xp_go (i := .iload_n 2) (len := 1) (by decide +kernel) rfl
theorem x_63_63 : Xp 63 d 63 [v0, v1, v2, (0, x)] st t g Q = Xp 63 d 64 [v0, v1, v2, (0, x)] ((0, x) :: st) t g Q := Xp_go (i := .iload_n 3) (len := 1) (by decide +kernel) rfl
theorem x_63_64 : Xp 63 (d + 1) 64 ls ((0, a3) :: (0, a2) :: (2, a1) :: (2, a0) :: st) t g Q = (hkJK a0 = 4 ∧ hkC8 st ∧ Xp 65 d 0 [(2, a0), (2, a1), (0, a2), (0, a3), hkU, hkU] [] t g (fun r t g => Xp 63 (d + 1) 67 ls (hkPush r st) t g Q)) := xr_invV (idx := 45) (y' := 65) (ci := 4) (tg := [2, 2, 0, 0]) (by decide +kernel) (by decide +kernel) (by decide +kernel) (by decide +kernel) rfl rfl rfl
theorem x_63_67 : Xp 63 d 67 [(2, x), v1, v2, v3] st t g Q = Xp 63 d 68 [(2, x), v1, v2, v3] ((2, x) :: st) t g Q := Xp_go (i := .aload_n 0) (len := 1) (by decide +kernel) rfl
theorem x_63_68 : Xp 63 d 68 [(2, x), v1, v2, v3] st t g Q = Xp 63 d 69 [(2, x), v1, v2, v3] ((2, x) :: st) t g Q := Xp_go (i := .aload_n 0) (len := 1) (by decide +kernel) rfl
theorem x_63_69 : Xp 63 d 69 ls ((2, p) :: st) t g Q = (hkJK p = 4 ∧ jA p 3 ≤ t ∧ Xp 63 d 72 ls ((2, jR p 3) :: st) t g Q) := xr_getR (idx := 18) (ci := 4) (k := 3) (by decide +kernel) (by decide +kernel) (by decide +kernel)
theorem x_63_72 : Xp 63 d 72 [v0, v1, (0, x), v3] st t g Q = Xp 63 d 73 [v0, v1, (0, x), v3] ((0, x) :: st) t g Q := Xp_go (i := .iload_n 2) (len := 1) (by decide +kernel) rfl
theorem x_63_73 : Xp 63 d 73 [v0, v1, v2, (0, x)] st t g Q = Xp 63 d 74 [v0, v1, v2, (0, x)] ((0, x) :: st) t g Q := Xp_go (i := .iload_n 3) (len := 1) (by decide +kernel) rfl
theorem x_63_74 : Xp 63 (d + 1) 74 ls ((0, a0) :: st) t g Q = (hkC8 st ∧ Xp 66 d 0 [(0, a0)] [] t g (fun r t g => Xp 63 (d + 1) 77 ls (hkPush r st) t g Q)) := xr_invS (idx := 49) (y' := 66) (tg := [0]) (by decide +kernel) (by decide +kernel) (by decide +kernel) rfl rfl
theorem x_63_77 : Xp 63 (d + 1) 77 ls ((0, a3) :: (0, a2) :: (2, a1) :: (2, a0) :: st) t g Q = (hkJK a0 = 4 ∧ hkC8 st ∧ Xp 65 d 0 [(2, a0), (2, a1), (0, a2), (0, a3), hkU, hkU] [] t g (fun r t g => Xp 63 (d + 1) 80 ls (hkPush r st) t g Q)) := xr_invV (idx := 45) (y' := 65) (ci := 4) (tg := [2, 2, 0, 0]) (by decide +kernel) (by decide +kernel) (by decide +kernel) (by decide +kernel) rfl rfl rfl
theorem x_63_80 : Xp 63 d 80 [v0, v1, (0, x), v3] st t g Q = (hkP1 v1 ∧ Xp 63 d 83 [v0, v1, (0, hkW (x + 1)), v3] st t g Q) := Xp_chk (i := .iinc 2 (1)) (len := 3) (by decide +kernel) rfl
theorem x_63_83 : Xp 63 d 83 [v0, v1, v2, (0, x)] st t g Q = (hkP1 v2 ∧ Xp 63 d 86 [v0, v1, v2, (0, hkW (x + 1))] st t g Q) := Xp_chk (i := .iinc 3 (1)) (len := 3) (by decide +kernel) rfl
theorem x_63_86 : Xp 63 d 86 ls st t g Q = Xp 63 d 24 ls st t g Q := xr_goto (off := -62) (by decide +kernel) (by decide)
theorem x_63_89 : Xp 63 d 89 [(2, x), v1, v2, v3] st t g Q = Xp 63 d 90 [(2, x), v1, v2, v3] ((2, x) :: st) t g Q := Xp_go (i := .aload_n 0) (len := 1) (by decide +kernel) rfl
theorem x_63_90 : Xp 63 d 90 ls st t g Q = Xp 63 d 91 ls ((0, 1) :: st) t g Q := xr_const (c := 1) (by decide +kernel) (by decide)
theorem x_63_91 : Xp 63 d 91 ls ((0, x) :: (2, p) :: st) t g Q = (hkJK p = 4 ∧ (x = 0 ∨ x = 1) ∧ Xp 63 d 94 ls st t (hkSet g p 5 x) Q) := xr_putB (idx := 24) (ci := 4) (k := 5) (by decide +kernel) (by decide +kernel) (by decide +kernel)
theorem x_63_94 : Xp 63 d 94 ls [] t g Q = Q none t g := xr_retV (by decide +kernel) (by decide +kernel)
-- 64: HookBoxes$Roots.power(II)I
theorem x_64_0 : Xp 64 d 0 ls st t g Q = Xp 64 d 1 ls ((0, 1) :: st) t g Q := xr_const (c := 1) (by decide +kernel) (by decide)
theorem x_64_1 : Xp 64 d 1 [v0, v1, v2, v3, v4] ((0, x) :: st) t g Q = (hkP1 v1 ∧ Xp 64 d 2 [v0, v1, (0, x), v3, v4] st t g Q) := Xp_chk (i := .istore_n 2) (len := 1) (by decide +kernel) rfl
theorem x_64_2 : Xp 64 d 2 [(0, x), v1, v2, v3, v4] st t g Q = Xp 64 d 3 [(0, x), v1, v2, v3, v4] ((0, x) :: st) t g Q := Xp_go (i := .iload_n 0) (len := 1) (by decide +kernel) rfl
theorem x_64_3 : Xp 64 d 3 ls st t g Q = Xp 64 d 6 ls ((0, 2521) :: st) t g Q := xr_si (c := 2521) (by decide +kernel) (by decide)
theorem x_64_6 : Xp 64 d 6 ls ((0, b) :: (0, a) :: st) t g Q = (b ≠ 0 ∧ Xp 64 d 7 ls ((0, a.tmod b) :: st) t g Q) := Xp_chk (i := .irem) (len := 1) (by decide +kernel) rfl
theorem x_64_7 : Xp 64 d 7 [v0, v1, v2, v3, v4] ((0, x) :: st) t g Q = (hkP1 v2 ∧ Xp 64 d 8 [v0, v1, v2, (0, x), v4] st t g Q) := Xp_chk (i := .istore_n 3) (len := 1) (by decide +kernel) rfl
theorem x_64_8 : Xp 64 d 8 [v0, (0, x), v2, v3, v4] st t g Q = Xp 64 d 9 [v0, (0, x), v2, v3, v4] ((0, x) :: st) t g Q := Xp_go (i := .iload_n 1) (len := 1) (by decide +kernel) rfl
theorem x_64_9 : Xp 64 d 9 [v0, v1, v2, v3, v4] ((0, x) :: st) t g Q = (hkP1 v3 ∧ Xp 64 d 11 [v0, v1, v2, v3, (0, x)] st t g Q) := Xp_chk (i := .istore 4) (len := 2) (by decide +kernel) rfl
theorem x_64_11 : Xp 64 d 11 [v0, v1, v2, v3, (0, x)] st t g Q = Xp 64 d 13 [v0, v1, v2, v3, (0, x)] ((0, x) :: st) t g Q := Xp_go (i := .iload 4) (len := 2) (by decide +kernel) rfl
theorem x_64_13 : Xp 64 d 13 ls ((0, a) :: st) t g Q = ((a ≤ 0 → Xp 64 d 48 ls st t g Q) ∧ (¬ (a ≤ 0) → Xp 64 d 16 ls st t g Q)) := xr_if1 (cd := .le) (off := 35) (by decide +kernel) (by decide)
theorem x_64_16 : Xp 64 d 16 [v0, v1, v2, v3, (0, x)] st t g Q = Xp 64 d 18 [v0, v1, v2, v3, (0, x)] ((0, x) :: st) t g Q := Xp_go (i := .iload 4) (len := 2) (by decide +kernel) rfl
theorem x_64_18 : Xp 64 d 18 ls st t g Q = Xp 64 d 19 ls ((0, 1) :: st) t g Q := xr_const (c := 1) (by decide +kernel) (by decide)
theorem x_64_19 : Xp 64 d 19 ls ((0, b) :: (0, a) :: st) t g Q = Xp 64 d 20 ls ((0, hkAnd a b) :: st) t g Q := Xp_go (i := .iand) (len := 1) (by decide +kernel) rfl
theorem x_64_20 : Xp 64 d 20 ls ((0, a) :: st) t g Q = ((a = 0 → Xp 64 d 31 ls st t g Q) ∧ (¬ (a = 0) → Xp 64 d 23 ls st t g Q)) := xr_if1 (cd := .eq) (off := 11) (by decide +kernel) (by decide)
theorem x_64_23 : Xp 64 d 23 [v0, v1, (0, x), v3, v4] st t g Q = Xp 64 d 24 [v0, v1, (0, x), v3, v4] ((0, x) :: st) t g Q := Xp_go (i := .iload_n 2) (len := 1) (by decide +kernel) rfl
theorem x_64_24 : Xp 64 d 24 [v0, v1, v2, (0, x), v4] st t g Q = Xp 64 d 25 [v0, v1, v2, (0, x), v4] ((0, x) :: st) t g Q := Xp_go (i := .iload_n 3) (len := 1) (by decide +kernel) rfl
theorem x_64_25 : Xp 64 d 25 ls ((0, b) :: (0, a) :: st) t g Q = Xp 64 d 26 ls ((0, hkW (a * b)) :: st) t g Q := Xp_go (i := .imul) (len := 1) (by decide +kernel) rfl
theorem x_64_26 : Xp 64 d 26 ls st t g Q = Xp 64 d 29 ls ((0, 2521) :: st) t g Q := xr_si (c := 2521) (by decide +kernel) (by decide)
theorem x_64_29 : Xp 64 d 29 ls ((0, b) :: (0, a) :: st) t g Q = (b ≠ 0 ∧ Xp 64 d 30 ls ((0, a.tmod b) :: st) t g Q) := Xp_chk (i := .irem) (len := 1) (by decide +kernel) rfl
theorem x_64_30 : Xp 64 d 30 [v0, v1, v2, v3, v4] ((0, x) :: st) t g Q = (hkP1 v1 ∧ Xp 64 d 31 [v0, v1, (0, x), v3, v4] st t g Q) := Xp_chk (i := .istore_n 2) (len := 1) (by decide +kernel) rfl
theorem x_64_31 : Xp 64 d 31 [v0, v1, v2, (0, x), v4] st t g Q = Xp 64 d 32 [v0, v1, v2, (0, x), v4] ((0, x) :: st) t g Q := Xp_go (i := .iload_n 3) (len := 1) (by decide +kernel) rfl
theorem x_64_32 : Xp 64 d 32 [v0, v1, v2, (0, x), v4] st t g Q = Xp 64 d 33 [v0, v1, v2, (0, x), v4] ((0, x) :: st) t g Q := Xp_go (i := .iload_n 3) (len := 1) (by decide +kernel) rfl
theorem x_64_33 : Xp 64 d 33 ls ((0, b) :: (0, a) :: st) t g Q = Xp 64 d 34 ls ((0, hkW (a * b)) :: st) t g Q := Xp_go (i := .imul) (len := 1) (by decide +kernel) rfl
theorem x_64_34 : Xp 64 d 34 ls st t g Q = Xp 64 d 37 ls ((0, 2521) :: st) t g Q := xr_si (c := 2521) (by decide +kernel) (by decide)
theorem x_64_37 : Xp 64 d 37 ls ((0, b) :: (0, a) :: st) t g Q = (b ≠ 0 ∧ Xp 64 d 38 ls ((0, a.tmod b) :: st) t g Q) := Xp_chk (i := .irem) (len := 1) (by decide +kernel) rfl
theorem x_64_38 : Xp 64 d 38 [v0, v1, v2, v3, v4] ((0, x) :: st) t g Q = (hkP1 v2 ∧ Xp 64 d 39 [v0, v1, v2, (0, x), v4] st t g Q) := Xp_chk (i := .istore_n 3) (len := 1) (by decide +kernel) rfl
theorem x_64_39 : Xp 64 d 39 [v0, v1, v2, v3, (0, x)] st t g Q = Xp 64 d 41 [v0, v1, v2, v3, (0, x)] ((0, x) :: st) t g Q := Xp_go (i := .iload 4) (len := 2) (by decide +kernel) rfl
theorem x_64_41 : Xp 64 d 41 ls st t g Q = Xp 64 d 42 ls ((0, 1) :: st) t g Q := xr_const (c := 1) (by decide +kernel) (by decide)
theorem x_64_42 : Xp 64 d 42 ls ((0, b) :: (0, a) :: st) t g Q = Xp 64 d 43 ls ((0, hkShr a b) :: st) t g Q := Xp_go (i := .ishr) (len := 1) (by decide +kernel) rfl
theorem x_64_43 : Xp 64 d 43 [v0, v1, v2, v3, v4] ((0, x) :: st) t g Q = (hkP1 v3 ∧ Xp 64 d 45 [v0, v1, v2, v3, (0, x)] st t g Q) := Xp_chk (i := .istore 4) (len := 2) (by decide +kernel) rfl
theorem x_64_45 : Xp 64 d 45 ls st t g Q = Xp 64 d 11 ls st t g Q := xr_goto (off := -34) (by decide +kernel) (by decide)
theorem x_64_48 : Xp 64 d 48 [v0, v1, (0, x), v3, v4] st t g Q = Xp 64 d 49 [v0, v1, (0, x), v3, v4] ((0, x) :: st) t g Q := Xp_go (i := .iload_n 2) (len := 1) (by decide +kernel) rfl
theorem x_64_49 : Xp 64 d 49 ls [(0, x)] t g Q = Q (some (0, x)) t g := xr_retI (by decide +kernel) (by decide +kernel)
-- 65: HookBoxes$Roots.fillPowers([III)V
theorem x_65_0 : Xp 65 d 0 ls st t g Q = Xp 65 d 1 ls ((0, 1) :: st) t g Q := xr_const (c := 1) (by decide +kernel) (by decide)
theorem x_65_1 : Xp 65 d 1 [v0, v1, v2, v3, v4, v5] ((0, x) :: st) t g Q = (hkP1 v3 ∧ Xp 65 d 3 [v0, v1, v2, v3, (0, x), v5] st t g Q) := Xp_chk (i := .istore 4) (len := 2) (by decide +kernel) rfl
theorem x_65_3 : Xp 65 d 3 ls st t g Q = Xp 65 d 4 ls ((0, 0) :: st) t g Q := xr_const (c := 0) (by decide +kernel) (by decide)
theorem x_65_4 : Xp 65 d 4 [v0, v1, v2, v3, v4, v5] ((0, x) :: st) t g Q = (hkP1 v4 ∧ Xp 65 d 6 [v0, v1, v2, v3, v4, (0, x)] st t g Q) := Xp_chk (i := .istore 5) (len := 2) (by decide +kernel) rfl
theorem x_65_6 : Xp 65 d 6 [v0, v1, v2, v3, v4, (0, x)] st t g Q = Xp 65 d 8 [v0, v1, v2, v3, v4, (0, x)] ((0, x) :: st) t g Q := Xp_go (i := .iload 5) (len := 2) (by decide +kernel) rfl
theorem x_65_8 : Xp 65 d 8 ls st t g Q = Xp 65 d 10 ls ((0, 7) :: st) t g Q := xr_bi (c := 7) (by decide +kernel) (by decide)
theorem x_65_10 : Xp 65 d 10 ls ((0, b) :: (0, a) :: st) t g Q = ((b ≤ a → Xp 65 d 40 ls st t g Q) ∧ (¬ (b ≤ a) → Xp 65 d 13 ls st t g Q)) := xr_if2 (cd := .ge) (off := 30) (by decide +kernel) (by decide)
theorem x_65_13 : Xp 65 d 13 [v0, (2, x), v2, v3, v4, v5] st t g Q = Xp 65 d 14 [v0, (2, x), v2, v3, v4, v5] ((2, x) :: st) t g Q := Xp_go (i := .aload_n 1) (len := 1) (by decide +kernel) rfl
theorem x_65_14 : Xp 65 d 14 [v0, v1, (0, x), v3, v4, v5] st t g Q = Xp 65 d 15 [v0, v1, (0, x), v3, v4, v5] ((0, x) :: st) t g Q := Xp_go (i := .iload_n 2) (len := 1) (by decide +kernel) rfl
theorem x_65_15 : Xp 65 d 15 ls st t g Q = Xp 65 d 17 ls ((0, 7) :: st) t g Q := xr_bi (c := 7) (by decide +kernel) (by decide)
theorem x_65_17 : Xp 65 d 17 ls ((0, b) :: (0, a) :: st) t g Q = Xp 65 d 18 ls ((0, hkW (a * b)) :: st) t g Q := Xp_go (i := .imul) (len := 1) (by decide +kernel) rfl
theorem x_65_18 : Xp 65 d 18 [v0, v1, v2, v3, v4, (0, x)] st t g Q = Xp 65 d 20 [v0, v1, v2, v3, v4, (0, x)] ((0, x) :: st) t g Q := Xp_go (i := .iload 5) (len := 2) (by decide +kernel) rfl
theorem x_65_20 : Xp 65 d 20 ls ((0, b) :: (0, a) :: st) t g Q = Xp 65 d 21 ls ((0, hkW (a + b)) :: st) t g Q := Xp_go (i := .iadd) (len := 1) (by decide +kernel) rfl
theorem x_65_21 : Xp 65 d 21 [v0, v1, v2, v3, (0, x), v5] st t g Q = Xp 65 d 23 [v0, v1, v2, v3, (0, x), v5] ((0, x) :: st) t g Q := Xp_go (i := .iload 4) (len := 2) (by decide +kernel) rfl
theorem x_65_23 : Xp 65 d 23 ls ((0, x) :: (0, a) :: (2, p) :: st) t g Q = ((hkJK p = 100 ∧ (100 = 102 → x = 0 ∨ x = 1) ∧ 0 ≤ a ∧ a < jL p) ∧ Xp 65 d 24 ls st t (hkSet g p a x) Q) := Xp_chk (i := .iastore) (len := 1) (by decide +kernel) rfl
theorem x_65_24 : Xp 65 d 24 [v0, v1, v2, v3, (0, x), v5] st t g Q = Xp 65 d 26 [v0, v1, v2, v3, (0, x), v5] ((0, x) :: st) t g Q := Xp_go (i := .iload 4) (len := 2) (by decide +kernel) rfl
theorem x_65_26 : Xp 65 d 26 [v0, v1, v2, (0, x), v4, v5] st t g Q = Xp 65 d 27 [v0, v1, v2, (0, x), v4, v5] ((0, x) :: st) t g Q := Xp_go (i := .iload_n 3) (len := 1) (by decide +kernel) rfl
theorem x_65_27 : Xp 65 d 27 ls ((0, b) :: (0, a) :: st) t g Q = Xp 65 d 28 ls ((0, hkW (a * b)) :: st) t g Q := Xp_go (i := .imul) (len := 1) (by decide +kernel) rfl
theorem x_65_28 : Xp 65 d 28 ls st t g Q = Xp 65 d 31 ls ((0, 2521) :: st) t g Q := xr_si (c := 2521) (by decide +kernel) (by decide)
theorem x_65_31 : Xp 65 d 31 ls ((0, b) :: (0, a) :: st) t g Q = (b ≠ 0 ∧ Xp 65 d 32 ls ((0, a.tmod b) :: st) t g Q) := Xp_chk (i := .irem) (len := 1) (by decide +kernel) rfl
theorem x_65_32 : Xp 65 d 32 [v0, v1, v2, v3, v4, v5] ((0, x) :: st) t g Q = (hkP1 v3 ∧ Xp 65 d 34 [v0, v1, v2, v3, (0, x), v5] st t g Q) := Xp_chk (i := .istore 4) (len := 2) (by decide +kernel) rfl
theorem x_65_34 : Xp 65 d 34 [v0, v1, v2, v3, v4, (0, x)] st t g Q = (hkP1 v4 ∧ Xp 65 d 37 [v0, v1, v2, v3, v4, (0, hkW (x + 1))] st t g Q) := Xp_chk (i := .iinc 5 (1)) (len := 3) (by decide +kernel) rfl
theorem x_65_37 : Xp 65 d 37 ls st t g Q = Xp 65 d 6 ls st t g Q := xr_goto (off := -31) (by decide +kernel) (by decide)
theorem x_65_40 : Xp 65 d 40 ls [] t g Q = Q none t g := xr_retV (by decide +kernel) (by decide +kernel)
-- 66: HookBoxes$Roots.inverse(I)I
theorem x_66_0 : Xp 66 d 0 [(0, x)] st t g Q = Xp 66 d 1 [(0, x)] ((0, x) :: st) t g Q := Xp_go (i := .iload_n 0) (len := 1) (by decide +kernel) rfl
theorem x_66_1 : Xp 66 d 1 ls st t g Q = Xp 66 d 4 ls ((0, 2519) :: st) t g Q := xr_si (c := 2519) (by decide +kernel) (by decide)
theorem x_66_4 : Xp 66 (d + 1) 4 ls ((0, a1) :: (0, a0) :: st) t g Q = (hkC8 st ∧ Xp 64 d 0 [(0, a0), (0, a1), hkU, hkU, hkU] [] t g (fun r t g => Xp 66 (d + 1) 7 ls (hkPush r st) t g Q)) := xr_invS (idx := 41) (y' := 64) (tg := [0, 0]) (by decide +kernel) (by decide +kernel) (by decide +kernel) rfl rfl
theorem x_66_7 : Xp 66 d 7 ls [(0, x)] t g Q = Q (some (0, x)) t g := xr_retI (by decide +kernel) (by decide +kernel)
-- 67: HookBoxes$Roots.choose(I)V
theorem x_67_0 : Xp 67 d 0 ls st t g Q = Xp 67 d 1 ls ((0, 0) :: st) t g Q := xr_const (c := 0) (by decide +kernel) (by decide)
theorem x_67_1 : Xp 67 d 1 [v0, v1, v2, v3] ((0, x) :: st) t g Q = (hkP1 v1 ∧ Xp 67 d 2 [v0, v1, (0, x), v3] st t g Q) := Xp_chk (i := .istore_n 2) (len := 1) (by decide +kernel) rfl
theorem x_67_2 : Xp 67 d 2 ls st t g Q = Xp 67 d 3 ls ((0, 0) :: st) t g Q := xr_const (c := 0) (by decide +kernel) (by decide)
theorem x_67_3 : Xp 67 d 3 [v0, v1, v2, v3] ((0, x) :: st) t g Q = (hkP1 v2 ∧ Xp 67 d 4 [v0, v1, v2, (0, x)] st t g Q) := Xp_chk (i := .istore_n 3) (len := 1) (by decide +kernel) rfl
theorem x_67_4 : Xp 67 d 4 [v0, v1, v2, (0, x)] st t g Q = Xp 67 d 5 [v0, v1, v2, (0, x)] ((0, x) :: st) t g Q := Xp_go (i := .iload_n 3) (len := 1) (by decide +kernel) rfl
theorem x_67_5 : Xp 67 d 5 [(2, x), v1, v2, v3] st t g Q = Xp 67 d 6 [(2, x), v1, v2, v3] ((2, x) :: st) t g Q := Xp_go (i := .aload_n 0) (len := 1) (by decide +kernel) rfl
theorem x_67_6 : Xp 67 d 6 ls ((2, p) :: st) t g Q = (hkJK p = 4 ∧ jA p 1 ≤ t ∧ Xp 67 d 9 ls ((2, jR p 1) :: st) t g Q) := xr_getR (idx := 28) (ci := 4) (k := 1) (by decide +kernel) (by decide +kernel) (by decide +kernel)
theorem x_67_9 : Xp 67 d 9 ls ((2, p) :: st) t g Q = (hkJK p = 1 ∧ Xp 67 d 12 ls ((0, g p 1) :: st) t g Q) := xr_getI (idx := 38) (ci := 1) (k := 1) (by decide +kernel) (by decide +kernel) (by decide +kernel)
theorem x_67_12 : Xp 67 d 12 ls ((0, b) :: (0, a) :: st) t g Q = ((b ≤ a → Xp 67 d 44 ls st t g Q) ∧ (¬ (b ≤ a) → Xp 67 d 15 ls st t g Q)) := xr_if2 (cd := .ge) (off := 32) (by decide +kernel) (by decide)
theorem x_67_15 : Xp 67 d 15 [v0, v1, (0, x), v3] st t g Q = Xp 67 d 16 [v0, v1, (0, x), v3] ((0, x) :: st) t g Q := Xp_go (i := .iload_n 2) (len := 1) (by decide +kernel) rfl
theorem x_67_16 : Xp 67 d 16 ls st t g Q = Xp 67 d 17 ls ((0, 4) :: st) t g Q := xr_const (c := 4) (by decide +kernel) (by decide)
theorem x_67_17 : Xp 67 d 17 ls ((0, b) :: (0, a) :: st) t g Q = ((b ≤ a → Xp 67 d 44 ls st t g Q) ∧ (¬ (b ≤ a) → Xp 67 d 20 ls st t g Q)) := xr_if2 (cd := .ge) (off := 27) (by decide +kernel) (by decide)
theorem x_67_20 : Xp 67 d 20 [v0, (0, x), v2, v3] st t g Q = Xp 67 d 21 [v0, (0, x), v2, v3] ((0, x) :: st) t g Q := Xp_go (i := .iload_n 1) (len := 1) (by decide +kernel) rfl
theorem x_67_21 : Xp 67 d 21 [v0, v1, v2, (0, x)] st t g Q = Xp 67 d 22 [v0, v1, v2, (0, x)] ((0, x) :: st) t g Q := Xp_go (i := .iload_n 3) (len := 1) (by decide +kernel) rfl
theorem x_67_22 : Xp 67 d 22 ls ((0, b) :: (0, a) :: st) t g Q = Xp 67 d 23 ls ((0, hkShr a b) :: st) t g Q := Xp_go (i := .ishr) (len := 1) (by decide +kernel) rfl
theorem x_67_23 : Xp 67 d 23 ls st t g Q = Xp 67 d 24 ls ((0, 1) :: st) t g Q := xr_const (c := 1) (by decide +kernel) (by decide)
theorem x_67_24 : Xp 67 d 24 ls ((0, b) :: (0, a) :: st) t g Q = Xp 67 d 25 ls ((0, hkAnd a b) :: st) t g Q := Xp_go (i := .iand) (len := 1) (by decide +kernel) rfl
theorem x_67_25 : Xp 67 d 25 ls ((0, a) :: st) t g Q = ((a = 0 → Xp 67 d 38 ls st t g Q) ∧ (¬ (a = 0) → Xp 67 d 28 ls st t g Q)) := xr_if1 (cd := .eq) (off := 13) (by decide +kernel) (by decide)
theorem x_67_28 : Xp 67 d 28 [(2, x), v1, v2, v3] st t g Q = Xp 67 d 29 [(2, x), v1, v2, v3] ((2, x) :: st) t g Q := Xp_go (i := .aload_n 0) (len := 1) (by decide +kernel) rfl
theorem x_67_29 : Xp 67 d 29 ls ((2, p) :: st) t g Q = (hkJK p = 4 ∧ jA p 4 ≤ t ∧ Xp 67 d 32 ls ((2, jR p 4) :: st) t g Q) := xr_getR (idx := 21) (ci := 4) (k := 4) (by decide +kernel) (by decide +kernel) (by decide +kernel)
theorem x_67_32 : Xp 67 d 32 [v0, v1, (0, x), v3] st t g Q = Xp 67 d 33 [v0, v1, (0, x), v3] ((0, x) :: st) t g Q := Xp_go (i := .iload_n 2) (len := 1) (by decide +kernel) rfl
theorem x_67_33 : Xp 67 d 33 [v0, v1, v2, (0, x)] st t g Q = Xp 67 d 34 [v0, v1, v2, (0, x)] ((0, x) :: st) t g Q := Xp_go (i := .iload_n 3) (len := 1) (by decide +kernel) rfl
theorem x_67_34 : Xp 67 d 34 ls ((0, x) :: (0, a) :: (2, p) :: st) t g Q = ((hkJK p = 100 ∧ (100 = 102 → x = 0 ∨ x = 1) ∧ 0 ≤ a ∧ a < jL p) ∧ Xp 67 d 35 ls st t (hkSet g p a x) Q) := Xp_chk (i := .iastore) (len := 1) (by decide +kernel) rfl
theorem x_67_35 : Xp 67 d 35 [v0, v1, (0, x), v3] st t g Q = (hkP1 v1 ∧ Xp 67 d 38 [v0, v1, (0, hkW (x + 1)), v3] st t g Q) := Xp_chk (i := .iinc 2 (1)) (len := 3) (by decide +kernel) rfl
theorem x_67_38 : Xp 67 d 38 [v0, v1, v2, (0, x)] st t g Q = (hkP1 v2 ∧ Xp 67 d 41 [v0, v1, v2, (0, hkW (x + 1))] st t g Q) := Xp_chk (i := .iinc 3 (1)) (len := 3) (by decide +kernel) rfl
theorem x_67_41 : Xp 67 d 41 ls st t g Q = Xp 67 d 4 ls st t g Q := xr_goto (off := -37) (by decide +kernel) (by decide)
theorem x_67_44 : Xp 67 d 44 ls [] t g Q = Q none t g := xr_retV (by decide +kernel) (by decide +kernel)
-- 68: HookBoxes$Roots.shareOf(II)I
theorem x_68_0 : Xp 68 d 0 [(2, x), v1, v2, v3, v4, v5, v6, v7] st t g Q = Xp 68 d 1 [(2, x), v1, v2, v3, v4, v5, v6, v7] ((2, x) :: st) t g Q := Xp_go (i := .aload_n 0) (len := 1) (by decide +kernel) rfl
theorem x_68_1 : Xp 68 d 1 [(2, x), v1, v2, v3, v4, v5, v6, v7] st t g Q = Xp 68 d 2 [(2, x), v1, v2, v3, v4, v5, v6, v7] ((2, x) :: st) t g Q := Xp_go (i := .aload_n 0) (len := 1) (by decide +kernel) rfl
theorem x_68_2 : Xp 68 d 2 ls ((2, p) :: st) t g Q = (hkJK p = 4 ∧ jA p 2 ≤ t ∧ Xp 68 d 5 ls ((2, jR p 2) :: st) t g Q) := xr_getR (idx := 15) (ci := 4) (k := 2) (by decide +kernel) (by decide +kernel) (by decide +kernel)
theorem x_68_5 : Xp 68 d 5 ls st t g Q = Xp 68 d 6 ls ((0, 0) :: st) t g Q := xr_const (c := 0) (by decide +kernel) (by decide)
theorem x_68_6 : Xp 68 d 6 ls st t g Q = Xp 68 d 7 ls ((0, 0) :: st) t g Q := xr_const (c := 0) (by decide +kernel) (by decide)
theorem x_68_7 : Xp 68 d 7 ls st t g Q = Xp 68 d 8 ls ((0, 0) :: st) t g Q := xr_const (c := 0) (by decide +kernel) (by decide)
theorem x_68_8 : Xp 68 (d + 1) 8 ls ((0, a4) :: (0, a3) :: (0, a2) :: (2, a1) :: (2, a0) :: st) t g Q = (hkJK a0 = 4 ∧ hkC8 st ∧ Xp 69 d 0 [(2, a0), (2, a1), (0, a2), (0, a3), (0, a4), hkU, hkU, hkU, hkU, hkU] [] t g (fun r t g => Xp 68 (d + 1) 11 ls (hkPush r st) t g Q)) := xr_invV (idx := 68) (y' := 69) (ci := 4) (tg := [2, 2, 0, 0, 0]) (by decide +kernel) (by decide +kernel) (by decide +kernel) (by decide +kernel) rfl rfl rfl
theorem x_68_11 : Xp 68 d 11 [v0, v1, v2, v3, v4, v5, v6, v7] ((0, x) :: st) t g Q = (hkP1 v2 ∧ Xp 68 d 12 [v0, v1, v2, (0, x), v4, v5, v6, v7] st t g Q) := Xp_chk (i := .istore_n 3) (len := 1) (by decide +kernel) rfl
theorem x_68_12 : Xp 68 d 12 [v0, v1, v2, (0, x), v4, v5, v6, v7] st t g Q = Xp 68 d 13 [v0, v1, v2, (0, x), v4, v5, v6, v7] ((0, x) :: st) t g Q := Xp_go (i := .iload_n 3) (len := 1) (by decide +kernel) rfl
theorem x_68_13 : Xp 68 (d + 1) 13 ls ((0, a0) :: st) t g Q = (hkC8 st ∧ Xp 66 d 0 [(0, a0)] [] t g (fun r t g => Xp 68 (d + 1) 16 ls (hkPush r st) t g Q)) := xr_invS (idx := 49) (y' := 66) (tg := [0]) (by decide +kernel) (by decide +kernel) (by decide +kernel) rfl rfl
theorem x_68_16 : Xp 68 d 16 [v0, v1, v2, v3, v4, v5, v6, v7] ((0, x) :: st) t g Q = (hkP1 v3 ∧ Xp 68 d 18 [v0, v1, v2, v3, (0, x), v5, v6, v7] st t g Q) := Xp_chk (i := .istore 4) (len := 2) (by decide +kernel) rfl
theorem x_68_18 : Xp 68 d 18 [v0, v1, v2, (0, x), v4, v5, v6, v7] st t g Q = Xp 68 d 19 [v0, v1, v2, (0, x), v4, v5, v6, v7] ((0, x) :: st) t g Q := Xp_go (i := .iload_n 3) (len := 1) (by decide +kernel) rfl
theorem x_68_19 : Xp 68 d 19 [(2, x), v1, v2, v3, v4, v5, v6, v7] st t g Q = Xp 68 d 20 [(2, x), v1, v2, v3, v4, v5, v6, v7] ((2, x) :: st) t g Q := Xp_go (i := .aload_n 0) (len := 1) (by decide +kernel) rfl
theorem x_68_20 : Xp 68 d 20 [(2, x), v1, v2, v3, v4, v5, v6, v7] st t g Q = Xp 68 d 21 [(2, x), v1, v2, v3, v4, v5, v6, v7] ((2, x) :: st) t g Q := Xp_go (i := .aload_n 0) (len := 1) (by decide +kernel) rfl
theorem x_68_21 : Xp 68 d 21 ls ((2, p) :: st) t g Q = (hkJK p = 4 ∧ jA p 3 ≤ t ∧ Xp 68 d 24 ls ((2, jR p 3) :: st) t g Q) := xr_getR (idx := 18) (ci := 4) (k := 3) (by decide +kernel) (by decide +kernel) (by decide +kernel)
theorem x_68_24 : Xp 68 d 24 [v0, v1, (0, x), v3, v4, v5, v6, v7] st t g Q = Xp 68 d 25 [v0, v1, (0, x), v3, v4, v5, v6, v7] ((0, x) :: st) t g Q := Xp_go (i := .iload_n 2) (len := 1) (by decide +kernel) rfl
theorem x_68_25 : Xp 68 d 25 ls st t g Q = Xp 68 d 26 ls ((0, 0) :: st) t g Q := xr_const (c := 0) (by decide +kernel) (by decide)
theorem x_68_26 : Xp 68 d 26 ls st t g Q = Xp 68 d 27 ls ((0, 0) :: st) t g Q := xr_const (c := 0) (by decide +kernel) (by decide)
theorem x_68_27 : Xp 68 (d + 1) 27 ls ((0, a4) :: (0, a3) :: (0, a2) :: (2, a1) :: (2, a0) :: st) t g Q = (hkJK a0 = 4 ∧ hkC8 st ∧ Xp 69 d 0 [(2, a0), (2, a1), (0, a2), (0, a3), (0, a4), hkU, hkU, hkU, hkU, hkU] [] t g (fun r t g => Xp 68 (d + 1) 30 ls (hkPush r st) t g Q)) := xr_invV (idx := 68) (y' := 69) (ci := 4) (tg := [2, 2, 0, 0, 0]) (by decide +kernel) (by decide +kernel) (by decide +kernel) (by decide +kernel) rfl rfl rfl
theorem x_68_30 : Xp 68 d 30 ls ((0, b) :: (0, a) :: st) t g Q = Xp 68 d 31 ls ((0, hkW (a * b)) :: st) t g Q := Xp_go (i := .imul) (len := 1) (by decide +kernel) rfl
theorem x_68_31 : Xp 68 d 31 ls st t g Q = Xp 68 d 34 ls ((0, 2521) :: st) t g Q := xr_si (c := 2521) (by decide +kernel) (by decide)
theorem x_68_34 : Xp 68 d 34 ls ((0, b) :: (0, a) :: st) t g Q = (b ≠ 0 ∧ Xp 68 d 35 ls ((0, a.tmod b) :: st) t g Q) := Xp_chk (i := .irem) (len := 1) (by decide +kernel) rfl
theorem x_68_35 : Xp 68 d 35 [v0, v1, v2, v3, v4, v5, v6, v7] ((0, x) :: st) t g Q = (hkP1 v4 ∧ Xp 68 d 37 [v0, v1, v2, v3, v4, (0, x), v6, v7] st t g Q) := Xp_chk (i := .istore 5) (len := 2) (by decide +kernel) rfl
theorem x_68_37 : Xp 68 d 37 ls st t g Q = Xp 68 d 38 ls ((0, 0) :: st) t g Q := xr_const (c := 0) (by decide +kernel) (by decide)
theorem x_68_38 : Xp 68 d 38 [v0, v1, v2, v3, v4, v5, v6, v7] ((0, x) :: st) t g Q = (hkP1 v5 ∧ Xp 68 d 40 [v0, v1, v2, v3, v4, v5, (0, x), v7] st t g Q) := Xp_chk (i := .istore 6) (len := 2) (by decide +kernel) rfl
theorem x_68_40 : Xp 68 d 40 [v0, v1, v2, v3, v4, v5, (0, x), v7] st t g Q = Xp 68 d 42 [v0, v1, v2, v3, v4, v5, (0, x), v7] ((0, x) :: st) t g Q := Xp_go (i := .iload 6) (len := 2) (by decide +kernel) rfl
theorem x_68_42 : Xp 68 d 42 [v0, (0, x), v2, v3, v4, v5, v6, v7] st t g Q = Xp 68 d 43 [v0, (0, x), v2, v3, v4, v5, v6, v7] ((0, x) :: st) t g Q := Xp_go (i := .iload_n 1) (len := 1) (by decide +kernel) rfl
theorem x_68_43 : Xp 68 d 43 ls ((0, b) :: (0, a) :: st) t g Q = ((b ≤ a → Xp 68 d 89 ls st t g Q) ∧ (¬ (b ≤ a) → Xp 68 d 46 ls st t g Q)) := xr_if2 (cd := .ge) (off := 46) (by decide +kernel) (by decide)
theorem x_68_46 : Xp 68 d 46 [(2, x), v1, v2, v3, v4, v5, v6, v7] st t g Q = Xp 68 d 47 [(2, x), v1, v2, v3, v4, v5, v6, v7] ((2, x) :: st) t g Q := Xp_go (i := .aload_n 0) (len := 1) (by decide +kernel) rfl
theorem x_68_47 : Xp 68 d 47 [(2, x), v1, v2, v3, v4, v5, v6, v7] st t g Q = Xp 68 d 48 [(2, x), v1, v2, v3, v4, v5, v6, v7] ((2, x) :: st) t g Q := Xp_go (i := .aload_n 0) (len := 1) (by decide +kernel) rfl
theorem x_68_48 : Xp 68 d 48 ls ((2, p) :: st) t g Q = (hkJK p = 4 ∧ jA p 2 ≤ t ∧ Xp 68 d 51 ls ((2, jR p 2) :: st) t g Q) := xr_getR (idx := 15) (ci := 4) (k := 2) (by decide +kernel) (by decide +kernel) (by decide +kernel)
theorem x_68_51 : Xp 68 d 51 [(2, x), v1, v2, v3, v4, v5, v6, v7] st t g Q = Xp 68 d 52 [(2, x), v1, v2, v3, v4, v5, v6, v7] ((2, x) :: st) t g Q := Xp_go (i := .aload_n 0) (len := 1) (by decide +kernel) rfl
theorem x_68_52 : Xp 68 d 52 ls ((2, p) :: st) t g Q = (hkJK p = 4 ∧ jA p 0 ≤ t ∧ Xp 68 d 55 ls ((2, jR p 0) :: st) t g Q) := xr_getR (idx := 9) (ci := 4) (k := 0) (by decide +kernel) (by decide +kernel) (by decide +kernel)
theorem x_68_55 : Xp 68 d 55 [v0, v1, v2, v3, v4, v5, (0, x), v7] st t g Q = Xp 68 d 57 [v0, v1, v2, v3, v4, v5, (0, x), v7] ((0, x) :: st) t g Q := Xp_go (i := .iload 6) (len := 2) (by decide +kernel) rfl
theorem x_68_57 : Xp 68 d 57 ls ((0, a) :: (2, p) :: st) t g Q = ((hkJK p = 100 ∧ 0 ≤ a ∧ a < jL p) ∧ Xp 68 d 58 ls ((0, g p a) :: st) t g Q) := Xp_chk (i := .iaload) (len := 1) (by decide +kernel) rfl
theorem x_68_58 : Xp 68 d 58 ls st t g Q = Xp 68 d 59 ls ((0, 0) :: st) t g Q := xr_const (c := 0) (by decide +kernel) (by decide)
theorem x_68_59 : Xp 68 d 59 ls st t g Q = Xp 68 d 60 ls ((0, 0) :: st) t g Q := xr_const (c := 0) (by decide +kernel) (by decide)
theorem x_68_60 : Xp 68 (d + 1) 60 ls ((0, a4) :: (0, a3) :: (0, a2) :: (2, a1) :: (2, a0) :: st) t g Q = (hkJK a0 = 4 ∧ hkC8 st ∧ Xp 69 d 0 [(2, a0), (2, a1), (0, a2), (0, a3), (0, a4), hkU, hkU, hkU, hkU, hkU] [] t g (fun r t g => Xp 68 (d + 1) 63 ls (hkPush r st) t g Q)) := xr_invV (idx := 68) (y' := 69) (ci := 4) (tg := [2, 2, 0, 0, 0]) (by decide +kernel) (by decide +kernel) (by decide +kernel) (by decide +kernel) rfl rfl rfl
theorem x_68_63 : Xp 68 d 63 [v0, v1, v2, v3, (0, x), v5, v6, v7] st t g Q = Xp 68 d 65 [v0, v1, v2, v3, (0, x), v5, v6, v7] ((0, x) :: st) t g Q := Xp_go (i := .iload 4) (len := 2) (by decide +kernel) rfl
theorem x_68_65 : Xp 68 d 65 ls ((0, b) :: (0, a) :: st) t g Q = Xp 68 d 66 ls ((0, hkW (a * b)) :: st) t g Q := Xp_go (i := .imul) (len := 1) (by decide +kernel) rfl
theorem x_68_66 : Xp 68 d 66 ls st t g Q = Xp 68 d 69 ls ((0, 2521) :: st) t g Q := xr_si (c := 2521) (by decide +kernel) (by decide)
theorem x_68_69 : Xp 68 d 69 ls ((0, b) :: (0, a) :: st) t g Q = (b ≠ 0 ∧ Xp 68 d 70 ls ((0, a.tmod b) :: st) t g Q) := Xp_chk (i := .irem) (len := 1) (by decide +kernel) rfl
theorem x_68_70 : Xp 68 d 70 [v0, v1, v2, v3, v4, v5, v6, v7] ((0, x) :: st) t g Q = (hkP1 v6 ∧ Xp 68 d 72 [v0, v1, v2, v3, v4, v5, v6, (0, x)] st t g Q) := Xp_chk (i := .istore 7) (len := 2) (by decide +kernel) rfl
theorem x_68_72 : Xp 68 d 72 [v0, v1, v2, v3, v4, (0, x), v6, v7] st t g Q = Xp 68 d 74 [v0, v1, v2, v3, v4, (0, x), v6, v7] ((0, x) :: st) t g Q := Xp_go (i := .iload 5) (len := 2) (by decide +kernel) rfl
theorem x_68_74 : Xp 68 d 74 [v0, v1, v2, v3, v4, v5, v6, (0, x)] st t g Q = Xp 68 d 76 [v0, v1, v2, v3, v4, v5, v6, (0, x)] ((0, x) :: st) t g Q := Xp_go (i := .iload 7) (len := 2) (by decide +kernel) rfl
theorem x_68_76 : Xp 68 d 76 ls ((0, b) :: (0, a) :: st) t g Q = Xp 68 d 77 ls ((0, hkW (a * b)) :: st) t g Q := Xp_go (i := .imul) (len := 1) (by decide +kernel) rfl
theorem x_68_77 : Xp 68 d 77 ls st t g Q = Xp 68 d 80 ls ((0, 2521) :: st) t g Q := xr_si (c := 2521) (by decide +kernel) (by decide)
theorem x_68_80 : Xp 68 d 80 ls ((0, b) :: (0, a) :: st) t g Q = (b ≠ 0 ∧ Xp 68 d 81 ls ((0, a.tmod b) :: st) t g Q) := Xp_chk (i := .irem) (len := 1) (by decide +kernel) rfl
theorem x_68_81 : Xp 68 d 81 [v0, v1, v2, v3, v4, v5, v6, v7] ((0, x) :: st) t g Q = (hkP1 v4 ∧ Xp 68 d 83 [v0, v1, v2, v3, v4, (0, x), v6, v7] st t g Q) := Xp_chk (i := .istore 5) (len := 2) (by decide +kernel) rfl
theorem x_68_83 : Xp 68 d 83 [v0, v1, v2, v3, v4, v5, (0, x), v7] st t g Q = (hkP1 v5 ∧ Xp 68 d 86 [v0, v1, v2, v3, v4, v5, (0, hkW (x + 1)), v7] st t g Q) := Xp_chk (i := .iinc 6 (1)) (len := 3) (by decide +kernel) rfl
theorem x_68_86 : Xp 68 d 86 ls st t g Q = Xp 68 d 40 ls st t g Q := xr_goto (off := -46) (by decide +kernel) (by decide)
theorem x_68_89 : Xp 68 d 89 [v0, v1, v2, v3, v4, (0, x), v6, v7] st t g Q = Xp 68 d 91 [v0, v1, v2, v3, v4, (0, x), v6, v7] ((0, x) :: st) t g Q := Xp_go (i := .iload 5) (len := 2) (by decide +kernel) rfl
theorem x_68_91 : Xp 68 d 91 ls [(0, x)] t g Q = Q (some (0, x)) t g := xr_retI (by decide +kernel) (by decide +kernel)
-- 69: HookBoxes$Roots.alternant([IIII)I
theorem x_69_0 : Xp 69 d 0 [v0, v1, v2, (0, x), v4, v5, v6, v7, v8, v9] st t g Q = Xp 69 d 1 [v0, v1, v2, (0, x), v4, v5, v6, v7, v8, v9] ((0, x) :: st) t g Q := Xp_go (i := .iload_n 3) (len := 1) (by decide +kernel) rfl
theorem x_69_1 : Xp 69 d 1 [(2, x), v1, v2, v3, v4, v5, v6, v7, v8, v9] st t g Q = Xp 69 d 2 [(2, x), v1, v2, v3, v4, v5, v6, v7, v8, v9] ((2, x) :: st) t g Q := Xp_go (i := .aload_n 0) (len := 1) (by decide +kernel) rfl
theorem x_69_2 : Xp 69 d 2 ls ((2, p) :: st) t g Q = (hkJK p = 4 ∧ jA p 1 ≤ t ∧ Xp 69 d 5 ls ((2, jR p 1) :: st) t g Q) := xr_getR (idx := 28) (ci := 4) (k := 1) (by decide +kernel) (by decide +kernel) (by decide +kernel)
theorem x_69_5 : Xp 69 d 5 ls ((2, p) :: st) t g Q = (hkJK p = 1 ∧ Xp 69 d 8 ls ((0, g p 0) :: st) t g Q) := xr_getI (idx := 32) (ci := 1) (k := 0) (by decide +kernel) (by decide +kernel) (by decide +kernel)
theorem x_69_8 : Xp 69 d 8 ls ((0, b) :: (0, a) :: st) t g Q = ((a < b → Xp 69 d 13 ls st t g Q) ∧ (¬ (a < b) → Xp 69 d 11 ls st t g Q)) := xr_if2 (cd := .lt) (off := 5) (by decide +kernel) (by decide)
theorem x_69_11 : Xp 69 d 11 ls st t g Q = Xp 69 d 12 ls ((0, 1) :: st) t g Q := xr_const (c := 1) (by decide +kernel) (by decide)
theorem x_69_12 : Xp 69 d 12 ls [(0, x)] t g Q = Q (some (0, x)) t g := xr_retI (by decide +kernel) (by decide +kernel)
theorem x_69_13 : Xp 69 d 13 [(2, x), v1, v2, v3, v4, v5, v6, v7, v8, v9] st t g Q = Xp 69 d 14 [(2, x), v1, v2, v3, v4, v5, v6, v7, v8, v9] ((2, x) :: st) t g Q := Xp_go (i := .aload_n 0) (len := 1) (by decide +kernel) rfl
theorem x_69_14 : Xp 69 d 14 ls ((2, p) :: st) t g Q = (hkJK p = 4 ∧ jA p 1 ≤ t ∧ Xp 69 d 17 ls ((2, jR p 1) :: st) t g Q) := xr_getR (idx := 28) (ci := 4) (k := 1) (by decide +kernel) (by decide +kernel) (by decide +kernel)
theorem x_69_17 : Xp 69 d 17 [(2, x), v1, v2, v3, v4, v5, v6, v7, v8, v9] st t g Q = Xp 69 d 18 [(2, x), v1, v2, v3, v4, v5, v6, v7, v8, v9] ((2, x) :: st) t g Q := Xp_go (i := .aload_n 0) (len := 1) (by decide +kernel) rfl
theorem x_69_18 : Xp 69 d 18 ls ((2, p) :: st) t g Q = (hkJK p = 4 ∧ jA p 1 ≤ t ∧ Xp 69 d 21 ls ((2, jR p 1) :: st) t g Q) := xr_getR (idx := 28) (ci := 4) (k := 1) (by decide +kernel) (by decide +kernel) (by decide +kernel)
theorem x_69_21 : Xp 69 d 21 ls ((2, p) :: st) t g Q = (hkJK p = 1 ∧ jA p 4 ≤ t ∧ Xp 69 d 24 ls ((2, jR p 4) :: st) t g Q) := xr_getR (idx := 72) (ci := 1) (k := 4) (by decide +kernel) (by decide +kernel) (by decide +kernel)
theorem x_69_24 : Xp 69 d 24 [v0, v1, (0, x), v3, v4, v5, v6, v7, v8, v9] st t g Q = Xp 69 d 25 [v0, v1, (0, x), v3, v4, v5, v6, v7, v8, v9] ((0, x) :: st) t g Q := Xp_go (i := .iload_n 2) (len := 1) (by decide +kernel) rfl
theorem x_69_25 : Xp 69 d 25 ls st t g Q = Xp 69 d 26 ls ((0, 4) :: st) t g Q := xr_const (c := 4) (by decide +kernel) (by decide)
theorem x_69_26 : Xp 69 d 26 ls ((0, b) :: (0, a) :: st) t g Q = Xp 69 d 27 ls ((0, hkW (a * b)) :: st) t g Q := Xp_go (i := .imul) (len := 1) (by decide +kernel) rfl
theorem x_69_27 : Xp 69 d 27 [v0, v1, v2, (0, x), v4, v5, v6, v7, v8, v9] st t g Q = Xp 69 d 28 [v0, v1, v2, (0, x), v4, v5, v6, v7, v8, v9] ((0, x) :: st) t g Q := Xp_go (i := .iload_n 3) (len := 1) (by decide +kernel) rfl
theorem x_69_28 : Xp 69 d 28 ls ((0, b) :: (0, a) :: st) t g Q = Xp 69 d 29 ls ((0, hkW (a + b)) :: st) t g Q := Xp_go (i := .iadd) (len := 1) (by decide +kernel) rfl
theorem x_69_29 : Xp 69 d 29 ls ((0, a) :: (2, p) :: st) t g Q = ((hkJK p = 100 ∧ 0 ≤ a ∧ a < jL p) ∧ Xp 69 d 30 ls ((0, g p a) :: st) t g Q) := Xp_chk (i := .iaload) (len := 1) (by decide +kernel) rfl
theorem x_69_30 : Xp 69 d 30 [v0, v1, v2, (0, x), v4, v5, v6, v7, v8, v9] st t g Q = Xp 69 d 31 [v0, v1, v2, (0, x), v4, v5, v6, v7, v8, v9] ((0, x) :: st) t g Q := Xp_go (i := .iload_n 3) (len := 1) (by decide +kernel) rfl
theorem x_69_31 : Xp 69 (d + 1) 31 ls ((0, a2) :: (0, a1) :: (2, a0) :: st) t g Q = (hkJK a0 = 1 ∧ hkC8 st ∧ Xp 37 d 0 [(2, a0), (0, a1), (0, a2)] [] t g (fun r t g => Xp 69 (d + 1) 34 ls (hkPush r st) t g Q)) := xr_invV (idx := 75) (y' := 37) (ci := 1) (tg := [2, 0, 0]) (by decide +kernel) (by decide +kernel) (by decide +kernel) (by decide +kernel) rfl rfl rfl
theorem x_69_34 : Xp 69 d 34 [v0, v1, v2, v3, v4, v5, v6, v7, v8, v9] ((0, x) :: st) t g Q = (hkP1 v4 ∧ Xp 69 d 36 [v0, v1, v2, v3, v4, (0, x), v6, v7, v8, v9] st t g Q) := Xp_chk (i := .istore 5) (len := 2) (by decide +kernel) rfl
theorem x_69_36 : Xp 69 d 36 ls st t g Q = Xp 69 d 37 ls ((0, 0) :: st) t g Q := xr_const (c := 0) (by decide +kernel) (by decide)
theorem x_69_37 : Xp 69 d 37 [v0, v1, v2, v3, v4, v5, v6, v7, v8, v9] ((0, x) :: st) t g Q = (hkP1 v5 ∧ Xp 69 d 39 [v0, v1, v2, v3, v4, v5, (0, x), v7, v8, v9] st t g Q) := Xp_chk (i := .istore 6) (len := 2) (by decide +kernel) rfl
theorem x_69_39 : Xp 69 d 39 ls st t g Q = Xp 69 d 40 ls ((0, 1) :: st) t g Q := xr_const (c := 1) (by decide +kernel) (by decide)
theorem x_69_40 : Xp 69 d 40 [v0, v1, v2, v3, v4, v5, v6, v7, v8, v9] ((0, x) :: st) t g Q = (hkP1 v6 ∧ Xp 69 d 42 [v0, v1, v2, v3, v4, v5, v6, (0, x), v8, v9] st t g Q) := Xp_chk (i := .istore 7) (len := 2) (by decide +kernel) rfl
theorem x_69_42 : Xp 69 d 42 ls st t g Q = Xp 69 d 43 ls ((0, 0) :: st) t g Q := xr_const (c := 0) (by decide +kernel) (by decide)
theorem x_69_43 : Xp 69 d 43 [v0, v1, v2, v3, v4, v5, v6, v7, v8, v9] ((0, x) :: st) t g Q = (hkP1 v7 ∧ Xp 69 d 45 [v0, v1, v2, v3, v4, v5, v6, v7, (0, x), v9] st t g Q) := Xp_chk (i := .istore 8) (len := 2) (by decide +kernel) rfl
theorem x_69_45 : Xp 69 d 45 [v0, v1, v2, v3, v4, v5, v6, v7, (0, x), v9] st t g Q = Xp 69 d 47 [v0, v1, v2, v3, v4, v5, v6, v7, (0, x), v9] ((0, x) :: st) t g Q := Xp_go (i := .iload 8) (len := 2) (by decide +kernel) rfl
theorem x_69_47 : Xp 69 d 47 [(2, x), v1, v2, v3, v4, v5, v6, v7, v8, v9] st t g Q = Xp 69 d 48 [(2, x), v1, v2, v3, v4, v5, v6, v7, v8, v9] ((2, x) :: st) t g Q := Xp_go (i := .aload_n 0) (len := 1) (by decide +kernel) rfl
theorem x_69_48 : Xp 69 d 48 ls ((2, p) :: st) t g Q = (hkJK p = 4 ∧ jA p 1 ≤ t ∧ Xp 69 d 51 ls ((2, jR p 1) :: st) t g Q) := xr_getR (idx := 28) (ci := 4) (k := 1) (by decide +kernel) (by decide +kernel) (by decide +kernel)
theorem x_69_51 : Xp 69 d 51 ls ((2, p) :: st) t g Q = (hkJK p = 1 ∧ Xp 69 d 54 ls ((0, g p 0) :: st) t g Q) := xr_getI (idx := 32) (ci := 1) (k := 0) (by decide +kernel) (by decide +kernel) (by decide +kernel)
theorem x_69_54 : Xp 69 d 54 ls ((0, b) :: (0, a) :: st) t g Q = ((b ≤ a → Xp 69 d 126 ls st t g Q) ∧ (¬ (b ≤ a) → Xp 69 d 57 ls st t g Q)) := xr_if2 (cd := .ge) (off := 72) (by decide +kernel) (by decide)
theorem x_69_57 : Xp 69 d 57 [v0, v1, v2, v3, (0, x), v5, v6, v7, v8, v9] st t g Q = Xp 69 d 59 [v0, v1, v2, v3, (0, x), v5, v6, v7, v8, v9] ((0, x) :: st) t g Q := Xp_go (i := .iload 4) (len := 2) (by decide +kernel) rfl
theorem x_69_59 : Xp 69 d 59 [v0, v1, v2, v3, v4, v5, v6, v7, (0, x), v9] st t g Q = Xp 69 d 61 [v0, v1, v2, v3, v4, v5, v6, v7, (0, x), v9] ((0, x) :: st) t g Q := Xp_go (i := .iload 8) (len := 2) (by decide +kernel) rfl
theorem x_69_61 : Xp 69 d 61 ls ((0, b) :: (0, a) :: st) t g Q = Xp 69 d 62 ls ((0, hkShr a b) :: st) t g Q := Xp_go (i := .ishr) (len := 1) (by decide +kernel) rfl
theorem x_69_62 : Xp 69 d 62 ls st t g Q = Xp 69 d 63 ls ((0, 1) :: st) t g Q := xr_const (c := 1) (by decide +kernel) (by decide)
theorem x_69_63 : Xp 69 d 63 ls ((0, b) :: (0, a) :: st) t g Q = Xp 69 d 64 ls ((0, hkAnd a b) :: st) t g Q := Xp_go (i := .iand) (len := 1) (by decide +kernel) rfl
theorem x_69_64 : Xp 69 d 64 ls ((0, a) :: st) t g Q = ((¬ (a = 0) → Xp 69 d 120 ls st t g Q) ∧ (¬ (¬ (a = 0)) → Xp 69 d 67 ls st t g Q)) := xr_if1 (cd := .ne) (off := 56) (by decide +kernel) (by decide)
theorem x_69_67 : Xp 69 d 67 [(2, x), v1, v2, v3, v4, v5, v6, v7, v8, v9] st t g Q = Xp 69 d 68 [(2, x), v1, v2, v3, v4, v5, v6, v7, v8, v9] ((2, x) :: st) t g Q := Xp_go (i := .aload_n 0) (len := 1) (by decide +kernel) rfl
theorem x_69_68 : Xp 69 d 68 [v0, (2, x), v2, v3, v4, v5, v6, v7, v8, v9] st t g Q = Xp 69 d 69 [v0, (2, x), v2, v3, v4, v5, v6, v7, v8, v9] ((2, x) :: st) t g Q := Xp_go (i := .aload_n 1) (len := 1) (by decide +kernel) rfl
theorem x_69_69 : Xp 69 d 69 [v0, v1, (0, x), v3, v4, v5, v6, v7, v8, v9] st t g Q = Xp 69 d 70 [v0, v1, (0, x), v3, v4, v5, v6, v7, v8, v9] ((0, x) :: st) t g Q := Xp_go (i := .iload_n 2) (len := 1) (by decide +kernel) rfl
theorem x_69_70 : Xp 69 d 70 [v0, v1, v2, (0, x), v4, v5, v6, v7, v8, v9] st t g Q = Xp 69 d 71 [v0, v1, v2, (0, x), v4, v5, v6, v7, v8, v9] ((0, x) :: st) t g Q := Xp_go (i := .iload_n 3) (len := 1) (by decide +kernel) rfl
theorem x_69_71 : Xp 69 d 71 ls st t g Q = Xp 69 d 72 ls ((0, 1) :: st) t g Q := xr_const (c := 1) (by decide +kernel) (by decide)
theorem x_69_72 : Xp 69 d 72 ls ((0, b) :: (0, a) :: st) t g Q = Xp 69 d 73 ls ((0, hkW (a + b)) :: st) t g Q := Xp_go (i := .iadd) (len := 1) (by decide +kernel) rfl
theorem x_69_73 : Xp 69 d 73 [v0, v1, v2, v3, (0, x), v5, v6, v7, v8, v9] st t g Q = Xp 69 d 75 [v0, v1, v2, v3, (0, x), v5, v6, v7, v8, v9] ((0, x) :: st) t g Q := Xp_go (i := .iload 4) (len := 2) (by decide +kernel) rfl
theorem x_69_75 : Xp 69 d 75 ls st t g Q = Xp 69 d 76 ls ((0, 1) :: st) t g Q := xr_const (c := 1) (by decide +kernel) (by decide)
theorem x_69_76 : Xp 69 d 76 [v0, v1, v2, v3, v4, v5, v6, v7, (0, x), v9] st t g Q = Xp 69 d 78 [v0, v1, v2, v3, v4, v5, v6, v7, (0, x), v9] ((0, x) :: st) t g Q := Xp_go (i := .iload 8) (len := 2) (by decide +kernel) rfl
theorem x_69_78 : Xp 69 d 78 ls ((0, b) :: (0, a) :: st) t g Q = Xp 69 d 79 ls ((0, hkShl a b) :: st) t g Q := Xp_go (i := .ishl) (len := 1) (by decide +kernel) rfl
theorem x_69_79 : Xp 69 d 79 ls ((0, b) :: (0, a) :: st) t g Q = Xp 69 d 80 ls ((0, hkOr a b) :: st) t g Q := Xp_go (i := .ior) (len := 1) (by decide +kernel) rfl
theorem x_69_80 : Xp 69 (d + 1) 80 ls ((0, a4) :: (0, a3) :: (0, a2) :: (2, a1) :: (2, a0) :: st) t g Q = (hkJK a0 = 4 ∧ hkC8 st ∧ Xp 69 d 0 [(2, a0), (2, a1), (0, a2), (0, a3), (0, a4), hkU, hkU, hkU, hkU, hkU] [] t g (fun r t g => Xp 69 (d + 1) 83 ls (hkPush r st) t g Q)) := xr_invV (idx := 68) (y' := 69) (ci := 4) (tg := [2, 2, 0, 0, 0]) (by decide +kernel) (by decide +kernel) (by decide +kernel) (by decide +kernel) rfl rfl rfl
theorem x_69_83 : Xp 69 d 83 [v0, v1, v2, v3, v4, v5, v6, v7, v8, v9] ((0, x) :: st) t g Q = (hkP1 v8 ∧ Xp 69 d 85 [v0, v1, v2, v3, v4, v5, v6, v7, v8, (0, x)] st t g Q) := Xp_chk (i := .istore 9) (len := 2) (by decide +kernel) rfl
theorem x_69_85 : Xp 69 d 85 [v0, v1, v2, v3, v4, v5, (0, x), v7, v8, v9] st t g Q = Xp 69 d 87 [v0, v1, v2, v3, v4, v5, (0, x), v7, v8, v9] ((0, x) :: st) t g Q := Xp_go (i := .iload 6) (len := 2) (by decide +kernel) rfl
theorem x_69_87 : Xp 69 d 87 [v0, v1, v2, v3, v4, v5, v6, (0, x), v8, v9] st t g Q = Xp 69 d 89 [v0, v1, v2, v3, v4, v5, v6, (0, x), v8, v9] ((0, x) :: st) t g Q := Xp_go (i := .iload 7) (len := 2) (by decide +kernel) rfl
theorem x_69_89 : Xp 69 d 89 [v0, (2, x), v2, v3, v4, v5, v6, v7, v8, v9] st t g Q = Xp 69 d 90 [v0, (2, x), v2, v3, v4, v5, v6, v7, v8, v9] ((2, x) :: st) t g Q := Xp_go (i := .aload_n 1) (len := 1) (by decide +kernel) rfl
theorem x_69_90 : Xp 69 d 90 [(2, x), v1, v2, v3, v4, v5, v6, v7, v8, v9] st t g Q = Xp 69 d 91 [(2, x), v1, v2, v3, v4, v5, v6, v7, v8, v9] ((2, x) :: st) t g Q := Xp_go (i := .aload_n 0) (len := 1) (by decide +kernel) rfl
theorem x_69_91 : Xp 69 d 91 ls ((2, p) :: st) t g Q = (hkJK p = 4 ∧ jA p 4 ≤ t ∧ Xp 69 d 94 ls ((2, jR p 4) :: st) t g Q) := xr_getR (idx := 21) (ci := 4) (k := 4) (by decide +kernel) (by decide +kernel) (by decide +kernel)
theorem x_69_94 : Xp 69 d 94 [v0, v1, v2, v3, v4, v5, v6, v7, (0, x), v9] st t g Q = Xp 69 d 96 [v0, v1, v2, v3, v4, v5, v6, v7, (0, x), v9] ((0, x) :: st) t g Q := Xp_go (i := .iload 8) (len := 2) (by decide +kernel) rfl
theorem x_69_96 : Xp 69 d 96 ls ((0, a) :: (2, p) :: st) t g Q = ((hkJK p = 100 ∧ 0 ≤ a ∧ a < jL p) ∧ Xp 69 d 97 ls ((0, g p a) :: st) t g Q) := Xp_chk (i := .iaload) (len := 1) (by decide +kernel) rfl
theorem x_69_97 : Xp 69 d 97 ls st t g Q = Xp 69 d 99 ls ((0, 7) :: st) t g Q := xr_bi (c := 7) (by decide +kernel) (by decide)
theorem x_69_99 : Xp 69 d 99 ls ((0, b) :: (0, a) :: st) t g Q = Xp 69 d 100 ls ((0, hkW (a * b)) :: st) t g Q := Xp_go (i := .imul) (len := 1) (by decide +kernel) rfl
theorem x_69_100 : Xp 69 d 100 [v0, v1, v2, v3, v4, (0, x), v6, v7, v8, v9] st t g Q = Xp 69 d 102 [v0, v1, v2, v3, v4, (0, x), v6, v7, v8, v9] ((0, x) :: st) t g Q := Xp_go (i := .iload 5) (len := 2) (by decide +kernel) rfl
theorem x_69_102 : Xp 69 d 102 ls ((0, b) :: (0, a) :: st) t g Q = Xp 69 d 103 ls ((0, hkW (a + b)) :: st) t g Q := Xp_go (i := .iadd) (len := 1) (by decide +kernel) rfl
theorem x_69_103 : Xp 69 d 103 ls ((0, a) :: (2, p) :: st) t g Q = ((hkJK p = 100 ∧ 0 ≤ a ∧ a < jL p) ∧ Xp 69 d 104 ls ((0, g p a) :: st) t g Q) := Xp_chk (i := .iaload) (len := 1) (by decide +kernel) rfl
theorem x_69_104 : Xp 69 d 104 [v0, v1, v2, v3, v4, v5, v6, v7, v8, (0, x)] st t g Q = Xp 69 d 106 [v0, v1, v2, v3, v4, v5, v6, v7, v8, (0, x)] ((0, x) :: st) t g Q := Xp_go (i := .iload 9) (len := 2) (by decide +kernel) rfl
theorem x_69_106 : Xp 69 d 106 ls ((0, b) :: (0, a) :: st) t g Q = Xp 69 d 107 ls ((0, hkW (a * b)) :: st) t g Q := Xp_go (i := .imul) (len := 1) (by decide +kernel) rfl
theorem x_69_107 : Xp 69 d 107 ls st t g Q = Xp 69 d 110 ls ((0, 2521) :: st) t g Q := xr_si (c := 2521) (by decide +kernel) (by decide)
theorem x_69_110 : Xp 69 d 110 ls ((0, b) :: (0, a) :: st) t g Q = (b ≠ 0 ∧ Xp 69 d 111 ls ((0, a.tmod b) :: st) t g Q) := Xp_chk (i := .irem) (len := 1) (by decide +kernel) rfl
theorem x_69_111 : Xp 69 d 111 ls ((0, b) :: (0, a) :: st) t g Q = Xp 69 d 112 ls ((0, hkW (a * b)) :: st) t g Q := Xp_go (i := .imul) (len := 1) (by decide +kernel) rfl
theorem x_69_112 : Xp 69 d 112 ls ((0, b) :: (0, a) :: st) t g Q = Xp 69 d 113 ls ((0, hkW (a + b)) :: st) t g Q := Xp_go (i := .iadd) (len := 1) (by decide +kernel) rfl
theorem x_69_113 : Xp 69 d 113 [v0, v1, v2, v3, v4, v5, v6, v7, v8, v9] ((0, x) :: st) t g Q = (hkP1 v5 ∧ Xp 69 d 115 [v0, v1, v2, v3, v4, v5, (0, x), v7, v8, v9] st t g Q) := Xp_chk (i := .istore 6) (len := 2) (by decide +kernel) rfl
theorem x_69_115 : Xp 69 d 115 [v0, v1, v2, v3, v4, v5, v6, (0, x), v8, v9] st t g Q = Xp 69 d 117 [v0, v1, v2, v3, v4, v5, v6, (0, x), v8, v9] ((0, x) :: st) t g Q := Xp_go (i := .iload 7) (len := 2) (by decide +kernel) rfl
theorem x_69_117 : Xp 69 d 117 ls ((0, a) :: st) t g Q = Xp 69 d 118 ls ((0, hkW (-a)) :: st) t g Q := Xp_go (i := .ineg) (len := 1) (by decide +kernel) rfl
theorem x_69_118 : Xp 69 d 118 [v0, v1, v2, v3, v4, v5, v6, v7, v8, v9] ((0, x) :: st) t g Q = (hkP1 v6 ∧ Xp 69 d 120 [v0, v1, v2, v3, v4, v5, v6, (0, x), v8, v9] st t g Q) := Xp_chk (i := .istore 7) (len := 2) (by decide +kernel) rfl
theorem x_69_120 : Xp 69 d 120 [v0, v1, v2, v3, v4, v5, v6, v7, (0, x), v9] st t g Q = (hkP1 v7 ∧ Xp 69 d 123 [v0, v1, v2, v3, v4, v5, v6, v7, (0, hkW (x + 1)), v9] st t g Q) := Xp_chk (i := .iinc 8 (1)) (len := 3) (by decide +kernel) rfl
theorem x_69_123 : Xp 69 d 123 ls st t g Q = Xp 69 d 45 ls st t g Q := xr_goto (off := -78) (by decide +kernel) (by decide)
theorem x_69_126 : Xp 69 d 126 [v0, v1, v2, v3, v4, v5, (0, x), v7, v8, v9] st t g Q = Xp 69 d 128 [v0, v1, v2, v3, v4, v5, (0, x), v7, v8, v9] ((0, x) :: st) t g Q := Xp_go (i := .iload 6) (len := 2) (by decide +kernel) rfl
theorem x_69_128 : Xp 69 d 128 ls st t g Q = Xp 69 d 131 ls ((0, 2521) :: st) t g Q := xr_si (c := 2521) (by decide +kernel) (by decide)
theorem x_69_131 : Xp 69 (d + 1) 131 ls ((0, a1) :: (0, a0) :: st) t g Q = (hkC8 st ∧ Xp 176 d 0 [(0, a0), (0, a1), hkU] [] t g (fun r t g => Xp 69 (d + 1) 134 ls (hkPush r st) t g Q)) := xr_invS (idx := 78) (y' := 176) (tg := [0, 0]) (by decide +kernel) (by decide +kernel) (by decide +kernel) rfl rfl
theorem x_69_134 : Xp 69 d 134 ls [(0, x)] t g Q = Q (some (0, x)) t g := xr_retI (by decide +kernel) (by decide +kernel)
-- 70: HookBoxes$Multiplier.<init>(LHookBoxes$Box;LHookBoxes$Products;)V
theorem x_70_0 : Xp 70 d 0 [(2, x), v1, v2] st t g Q = Xp 70 d 1 [(2, x), v1, v2] ((2, x) :: st) t g Q := Xp_go (i := .aload_n 0) (len := 1) (by decide +kernel) rfl
theorem x_70_1 : Xp 70 d 1 ls ((2, p) :: st) t g Q = (hkC8 st ∧ Xp 70 d 4 ls st t g Q) := xr_obj (idx := 3) (f := 183) (by decide +kernel) (by decide +kernel) (by decide +kernel) (by decide +kernel)
theorem x_70_4 : Xp 70 d 4 [(2, x), v1, v2] st t g Q = Xp 70 d 5 [(2, x), v1, v2] ((2, x) :: st) t g Q := Xp_go (i := .aload_n 0) (len := 1) (by decide +kernel) rfl
theorem x_70_5 : Xp 70 d 5 ls st t g Q = Xp 70 d 8 ls ((0, 630) :: st) t g Q := xr_si (c := 630) (by decide +kernel) (by decide)
theorem x_70_8 : Xp 70 d 8 ls ((0, x) :: st) t g Q = (∃ P z w, hkEV[t]? = some (0, P, z, w) ∧ hkKd P = 101 ∧ x = jL (P : Int) ∧ Xp 70 d 10 ls ((2, (P : Int)) :: st) (t + 1) g Q) := xr_newa (ty := .long) (ci := 101) (by decide +kernel) (by decide) (by decide)
theorem x_70_10 : Xp 70 d 10 ls ((2, z) :: (2, p) :: st) t g Q = (hkJK p = 5 ∧ hkEV[t]? = some (1, p.toNat, 2, z.toNat) ∧ Xp 70 d 13 ls st (t + 1) g Q) := xr_putR (idx := 11) (ci := 5) (k := 2) (by decide +kernel) (by decide +kernel) (by decide +kernel) (by decide +kernel) (by decide +kernel)
theorem x_70_13 : Xp 70 d 13 [(2, x), v1, v2] st t g Q = Xp 70 d 14 [(2, x), v1, v2] ((2, x) :: st) t g Q := Xp_go (i := .aload_n 0) (len := 1) (by decide +kernel) rfl
theorem x_70_14 : Xp 70 d 14 [v0, (2, x), v2] st t g Q = Xp 70 d 15 [v0, (2, x), v2] ((2, x) :: st) t g Q := Xp_go (i := .aload_n 1) (len := 1) (by decide +kernel) rfl
theorem x_70_15 : Xp 70 d 15 ls ((2, z) :: (2, p) :: st) t g Q = (hkJK p = 5 ∧ hkEV[t]? = some (1, p.toNat, 0, z.toNat) ∧ Xp 70 d 18 ls st (t + 1) g Q) := xr_putR (idx := 15) (ci := 5) (k := 0) (by decide +kernel) (by decide +kernel) (by decide +kernel) (by decide +kernel) (by decide +kernel)
theorem x_70_18 : Xp 70 d 18 [(2, x), v1, v2] st t g Q = Xp 70 d 19 [(2, x), v1, v2] ((2, x) :: st) t g Q := Xp_go (i := .aload_n 0) (len := 1) (by decide +kernel) rfl
theorem x_70_19 : Xp 70 d 19 [v0, v1, (2, x)] st t g Q = Xp 70 d 20 [v0, v1, (2, x)] ((2, x) :: st) t g Q := Xp_go (i := .aload_n 2) (len := 1) (by decide +kernel) rfl
theorem x_70_20 : Xp 70 d 20 ls ((2, z) :: (2, p) :: st) t g Q = (hkJK p = 5 ∧ hkEV[t]? = some (1, p.toNat, 1, z.toNat) ∧ Xp 70 d 23 ls st (t + 1) g Q) := xr_putR (idx := 19) (ci := 5) (k := 1) (by decide +kernel) (by decide +kernel) (by decide +kernel) (by decide +kernel) (by decide +kernel)
theorem x_70_23 : Xp 70 d 23 ls [] t g Q = Q none t g := xr_retV (by decide +kernel) (by decide +kernel)
-- 71: HookBoxes$Multiplier.multiplied(LHookBoxes$Sum;LHookBoxes$Sum;)Z
theorem x_71_0 : Xp 71 d 0 [(2, x), v1, v2, v3, v4, v5] st t g Q = Xp 71 d 1 [(2, x), v1, v2, v3, v4, v5] ((2, x) :: st) t g Q := Xp_go (i := .aload_n 0) (len := 1) (by decide +kernel) rfl
theorem x_71_1 : Xp 71 d 1 ls ((2, p) :: st) t g Q = (hkJK p = 5 ∧ jA p 2 ≤ t ∧ Xp 71 d 4 ls ((2, jR p 2) :: st) t g Q) := xr_getR (idx := 11) (ci := 5) (k := 2) (by decide +kernel) (by decide +kernel) (by decide +kernel)
theorem x_71_4 : Xp 71 d 4 ls st t g Q = Xp 71 d 5 ls ((1, 0) :: st) t g Q := Xp_go (i := .lconst 0) (len := 1) (by decide +kernel) rfl
theorem x_71_5 : Xp 71 (d + 1) 5 ls ((1, a1) :: (2, a0) :: st) t g Q = (hkC8 st ∧ Xp 182 d 0 [(2, a0), (1, a1), hkU, hkU, hkU] [] t g (fun r t g => Xp 71 (d + 1) 8 ls (hkPush r st) t g Q)) := xr_invS (idx := 23) (y' := 182) (tg := [2, 1]) (by decide +kernel) (by decide +kernel) (by decide +kernel) rfl rfl
theorem x_71_8 : Xp 71 d 8 ls st t g Q = Xp 71 d 9 ls ((0, 0) :: st) t g Q := xr_const (c := 0) (by decide +kernel) (by decide)
theorem x_71_9 : Xp 71 d 9 [v0, v1, v2, v3, v4, v5] ((0, x) :: st) t g Q = (hkP1 v2 ∧ Xp 71 d 10 [v0, v1, v2, (0, x), v4, v5] st t g Q) := Xp_chk (i := .istore_n 3) (len := 1) (by decide +kernel) rfl
theorem x_71_10 : Xp 71 d 10 [v0, v1, v2, (0, x), v4, v5] st t g Q = Xp 71 d 11 [v0, v1, v2, (0, x), v4, v5] ((0, x) :: st) t g Q := Xp_go (i := .iload_n 3) (len := 1) (by decide +kernel) rfl
theorem x_71_11 : Xp 71 d 11 ls st t g Q = Xp 71 d 14 ls ((0, 280) :: st) t g Q := xr_si (c := 280) (by decide +kernel) (by decide)
theorem x_71_14 : Xp 71 d 14 ls ((0, b) :: (0, a) :: st) t g Q = ((b ≤ a → Xp 71 d 102 ls st t g Q) ∧ (¬ (b ≤ a) → Xp 71 d 17 ls st t g Q)) := xr_if2 (cd := .ge) (off := 88) (by decide +kernel) (by decide)
theorem x_71_17 : Xp 71 d 17 ls st t g Q = Xp 71 d 18 ls ((0, 0) :: st) t g Q := xr_const (c := 0) (by decide +kernel) (by decide)
theorem x_71_18 : Xp 71 d 18 [v0, v1, v2, v3, v4, v5] ((0, x) :: st) t g Q = (hkP1 v3 ∧ Xp 71 d 20 [v0, v1, v2, v3, (0, x), v5] st t g Q) := Xp_chk (i := .istore 4) (len := 2) (by decide +kernel) rfl
theorem x_71_20 : Xp 71 d 20 [v0, v1, (2, x), v3, v4, v5] st t g Q = Xp 71 d 21 [v0, v1, (2, x), v3, v4, v5] ((2, x) :: st) t g Q := Xp_go (i := .aload_n 2) (len := 1) (by decide +kernel) rfl
theorem x_71_21 : Xp 71 d 21 ls ((2, p) :: st) t g Q = (hkJK p = 7 ∧ jA p 0 ≤ t ∧ Xp 71 d 24 ls ((2, jR p 0) :: st) t g Q) := xr_getR (idx := 29) (ci := 7) (k := 0) (by decide +kernel) (by decide +kernel) (by decide +kernel)
theorem x_71_24 : Xp 71 d 24 [v0, v1, v2, (0, x), v4, v5] st t g Q = Xp 71 d 25 [v0, v1, v2, (0, x), v4, v5] ((0, x) :: st) t g Q := Xp_go (i := .iload_n 3) (len := 1) (by decide +kernel) rfl
theorem x_71_25 : Xp 71 d 25 ls ((0, a) :: (2, p) :: st) t g Q = ((hkJK p = 100 ∧ 0 ≤ a ∧ a < jL p) ∧ Xp 71 d 26 ls ((0, g p a) :: st) t g Q) := Xp_chk (i := .iaload) (len := 1) (by decide +kernel) rfl
theorem x_71_26 : Xp 71 d 26 ls ((0, a) :: st) t g Q = ((a = 0 → Xp 71 d 96 ls st t g Q) ∧ (¬ (a = 0) → Xp 71 d 29 ls st t g Q)) := xr_if1 (cd := .eq) (off := 70) (by decide +kernel) (by decide)
theorem x_71_29 : Xp 71 d 29 [v0, v1, v2, v3, (0, x), v5] st t g Q = Xp 71 d 31 [v0, v1, v2, v3, (0, x), v5] ((0, x) :: st) t g Q := Xp_go (i := .iload 4) (len := 2) (by decide +kernel) rfl
theorem x_71_31 : Xp 71 d 31 ls st t g Q = Xp 71 d 34 ls ((0, 280) :: st) t g Q := xr_si (c := 280) (by decide +kernel) (by decide)
theorem x_71_34 : Xp 71 d 34 ls ((0, b) :: (0, a) :: st) t g Q = ((b ≤ a → Xp 71 d 96 ls st t g Q) ∧ (¬ (b ≤ a) → Xp 71 d 37 ls st t g Q)) := xr_if2 (cd := .ge) (off := 62) (by decide +kernel) (by decide)
theorem x_71_37 : Xp 71 d 37 [v0, (2, x), v2, v3, v4, v5] st t g Q = Xp 71 d 38 [v0, (2, x), v2, v3, v4, v5] ((2, x) :: st) t g Q := Xp_go (i := .aload_n 1) (len := 1) (by decide +kernel) rfl
theorem x_71_38 : Xp 71 d 38 ls ((2, p) :: st) t g Q = (hkJK p = 7 ∧ jA p 0 ≤ t ∧ Xp 71 d 41 ls ((2, jR p 0) :: st) t g Q) := xr_getR (idx := 29) (ci := 7) (k := 0) (by decide +kernel) (by decide +kernel) (by decide +kernel)
theorem x_71_41 : Xp 71 d 41 [v0, v1, v2, v3, (0, x), v5] st t g Q = Xp 71 d 43 [v0, v1, v2, v3, (0, x), v5] ((0, x) :: st) t g Q := Xp_go (i := .iload 4) (len := 2) (by decide +kernel) rfl
theorem x_71_43 : Xp 71 d 43 ls ((0, a) :: (2, p) :: st) t g Q = ((hkJK p = 100 ∧ 0 ≤ a ∧ a < jL p) ∧ Xp 71 d 44 ls ((0, g p a) :: st) t g Q) := Xp_chk (i := .iaload) (len := 1) (by decide +kernel) rfl
theorem x_71_44 : Xp 71 d 44 ls ((0, a) :: st) t g Q = ((a = 0 → Xp 71 d 90 ls st t g Q) ∧ (¬ (a = 0) → Xp 71 d 47 ls st t g Q)) := xr_if1 (cd := .eq) (off := 46) (by decide +kernel) (by decide)
theorem x_71_47 : Xp 71 d 47 [(2, x), v1, v2, v3, v4, v5] st t g Q = Xp 71 d 48 [(2, x), v1, v2, v3, v4, v5] ((2, x) :: st) t g Q := Xp_go (i := .aload_n 0) (len := 1) (by decide +kernel) rfl
theorem x_71_48 : Xp 71 d 48 ls ((2, p) :: st) t g Q = (hkJK p = 5 ∧ jA p 1 ≤ t ∧ Xp 71 d 51 ls ((2, jR p 1) :: st) t g Q) := xr_getR (idx := 19) (ci := 5) (k := 1) (by decide +kernel) (by decide +kernel) (by decide +kernel)
theorem x_71_51 : Xp 71 d 51 [v0, v1, v2, v3, (0, x), v5] st t g Q = Xp 71 d 53 [v0, v1, v2, v3, (0, x), v5] ((0, x) :: st) t g Q := Xp_go (i := .iload 4) (len := 2) (by decide +kernel) rfl
theorem x_71_53 : Xp 71 d 53 ls st t g Q = Xp 71 d 55 ls ((0, 35) :: st) t g Q := xr_bi (c := 35) (by decide +kernel) (by decide)
theorem x_71_55 : Xp 71 d 55 ls ((0, b) :: (0, a) :: st) t g Q = (b ≠ 0 ∧ Xp 71 d 56 ls ((0, a.tmod b) :: st) t g Q) := Xp_chk (i := .irem) (len := 1) (by decide +kernel) rfl
theorem x_71_56 : Xp 71 d 56 [v0, v1, v2, (0, x), v4, v5] st t g Q = Xp 71 d 57 [v0, v1, v2, (0, x), v4, v5] ((0, x) :: st) t g Q := Xp_go (i := .iload_n 3) (len := 1) (by decide +kernel) rfl
theorem x_71_57 : Xp 71 d 57 ls st t g Q = Xp 71 d 59 ls ((0, 35) :: st) t g Q := xr_bi (c := 35) (by decide +kernel) (by decide)
theorem x_71_59 : Xp 71 d 59 ls ((0, b) :: (0, a) :: st) t g Q = (b ≠ 0 ∧ Xp 71 d 60 ls ((0, a.tmod b) :: st) t g Q) := Xp_chk (i := .irem) (len := 1) (by decide +kernel) rfl
theorem x_71_60 : Xp 71 (d + 1) 60 ls ((0, a2) :: (0, a1) :: (2, a0) :: st) t g Q = (hkJK a0 = 3 ∧ hkC8 st ∧ Xp 54 d 0 [(2, a0), (0, a1), (0, a2), hkU] [] t g (fun r t g => Xp 71 (d + 1) 63 ls (hkPush r st) t g Q)) := xr_invV (idx := 35) (y' := 54) (ci := 3) (tg := [2, 0, 0]) (by decide +kernel) (by decide +kernel) (by decide +kernel) (by decide +kernel) rfl rfl rfl
theorem x_71_63 : Xp 71 d 63 [v0, v1, v2, v3, v4, v5] ((0, x) :: st) t g Q = (hkP1 v4 ∧ Xp 71 d 65 [v0, v1, v2, v3, v4, (0, x)] st t g Q) := Xp_chk (i := .istore 5) (len := 2) (by decide +kernel) rfl
theorem x_71_65 : Xp 71 d 65 [(2, x), v1, v2, v3, v4, v5] st t g Q = Xp 71 d 66 [(2, x), v1, v2, v3, v4, v5] ((2, x) :: st) t g Q := Xp_go (i := .aload_n 0) (len := 1) (by decide +kernel) rfl
theorem x_71_66 : Xp 71 d 66 [v0, v1, v2, v3, (0, x), v5] st t g Q = Xp 71 d 68 [v0, v1, v2, v3, (0, x), v5] ((0, x) :: st) t g Q := Xp_go (i := .iload 4) (len := 2) (by decide +kernel) rfl
theorem x_71_68 : Xp 71 d 68 [v0, v1, v2, (0, x), v4, v5] st t g Q = Xp 71 d 69 [v0, v1, v2, (0, x), v4, v5] ((0, x) :: st) t g Q := Xp_go (i := .iload_n 3) (len := 1) (by decide +kernel) rfl
theorem x_71_69 : Xp 71 d 69 [v0, v1, v2, v3, v4, (0, x)] st t g Q = Xp 71 d 71 [v0, v1, v2, v3, v4, (0, x)] ((0, x) :: st) t g Q := Xp_go (i := .iload 5) (len := 2) (by decide +kernel) rfl
theorem x_71_71 : Xp 71 d 71 [v0, (2, x), v2, v3, v4, v5] st t g Q = Xp 71 d 72 [v0, (2, x), v2, v3, v4, v5] ((2, x) :: st) t g Q := Xp_go (i := .aload_n 1) (len := 1) (by decide +kernel) rfl
theorem x_71_72 : Xp 71 d 72 ls ((2, p) :: st) t g Q = (hkJK p = 7 ∧ jA p 0 ≤ t ∧ Xp 71 d 75 ls ((2, jR p 0) :: st) t g Q) := xr_getR (idx := 29) (ci := 7) (k := 0) (by decide +kernel) (by decide +kernel) (by decide +kernel)
theorem x_71_75 : Xp 71 d 75 [v0, v1, v2, v3, (0, x), v5] st t g Q = Xp 71 d 77 [v0, v1, v2, v3, (0, x), v5] ((0, x) :: st) t g Q := Xp_go (i := .iload 4) (len := 2) (by decide +kernel) rfl
theorem x_71_77 : Xp 71 d 77 ls ((0, a) :: (2, p) :: st) t g Q = ((hkJK p = 100 ∧ 0 ≤ a ∧ a < jL p) ∧ Xp 71 d 78 ls ((0, g p a) :: st) t g Q) := Xp_chk (i := .iaload) (len := 1) (by decide +kernel) rfl
theorem x_71_78 : Xp 71 d 78 ls ((0, a) :: st) t g Q = Xp 71 d 79 ls ((1, a) :: st) t g Q := Xp_go (i := .i2l) (len := 1) (by decide +kernel) rfl
theorem x_71_79 : Xp 71 d 79 [v0, v1, (2, x), v3, v4, v5] st t g Q = Xp 71 d 80 [v0, v1, (2, x), v3, v4, v5] ((2, x) :: st) t g Q := Xp_go (i := .aload_n 2) (len := 1) (by decide +kernel) rfl
theorem x_71_80 : Xp 71 d 80 ls ((2, p) :: st) t g Q = (hkJK p = 7 ∧ jA p 0 ≤ t ∧ Xp 71 d 83 ls ((2, jR p 0) :: st) t g Q) := xr_getR (idx := 29) (ci := 7) (k := 0) (by decide +kernel) (by decide +kernel) (by decide +kernel)
theorem x_71_83 : Xp 71 d 83 [v0, v1, v2, (0, x), v4, v5] st t g Q = Xp 71 d 84 [v0, v1, v2, (0, x), v4, v5] ((0, x) :: st) t g Q := Xp_go (i := .iload_n 3) (len := 1) (by decide +kernel) rfl
theorem x_71_84 : Xp 71 d 84 ls ((0, a) :: (2, p) :: st) t g Q = ((hkJK p = 100 ∧ 0 ≤ a ∧ a < jL p) ∧ Xp 71 d 85 ls ((0, g p a) :: st) t g Q) := Xp_chk (i := .iaload) (len := 1) (by decide +kernel) rfl
theorem x_71_85 : Xp 71 d 85 ls ((0, a) :: st) t g Q = Xp 71 d 86 ls ((1, a) :: st) t g Q := Xp_go (i := .i2l) (len := 1) (by decide +kernel) rfl
theorem x_71_86 : Xp 71 d 86 ls ((1, b) :: (1, a) :: st) t g Q = Xp 71 d 87 ls ((1, hkL (a * b)) :: st) t g Q := Xp_go (i := .lmul) (len := 1) (by decide +kernel) rfl
theorem x_71_87 : Xp 71 (d + 1) 87 ls ((1, a4) :: (0, a3) :: (0, a2) :: (0, a1) :: (2, a0) :: st) t g Q = (hkJK a0 = 5 ∧ hkC8 st ∧ Xp 72 d 0 [(2, a0), (0, a1), (0, a2), (0, a3), (1, a4), hkU, hkU, hkU, hkU, hkU, hkU, hkU, hkU] [] t g (fun r t g => Xp 71 (d + 1) 90 ls (hkPush r st) t g Q)) := xr_invV (idx := 41) (y' := 72) (ci := 5) (tg := [2, 0, 0, 0, 1]) (by decide +kernel) (by decide +kernel) (by decide +kernel) (by decide +kernel) rfl rfl rfl
theorem x_71_90 : Xp 71 d 90 [v0, v1, v2, v3, (0, x), v5] st t g Q = (hkP1 v3 ∧ Xp 71 d 93 [v0, v1, v2, v3, (0, hkW (x + 1)), v5] st t g Q) := Xp_chk (i := .iinc 4 (1)) (len := 3) (by decide +kernel) rfl
theorem x_71_93 : Xp 71 d 93 ls st t g Q = Xp 71 d 20 ls st t g Q := xr_goto (off := -73) (by decide +kernel) (by decide)
theorem x_71_96 : Xp 71 d 96 [v0, v1, v2, (0, x), v4, v5] st t g Q = (hkP1 v2 ∧ Xp 71 d 99 [v0, v1, v2, (0, hkW (x + 1)), v4, v5] st t g Q) := Xp_chk (i := .iinc 3 (1)) (len := 3) (by decide +kernel) rfl
theorem x_71_99 : Xp 71 d 99 ls st t g Q = Xp 71 d 10 ls st t g Q := xr_goto (off := -89) (by decide +kernel) (by decide)
theorem x_71_102 : Xp 71 d 102 [(2, x), v1, v2, v3, v4, v5] st t g Q = Xp 71 d 103 [(2, x), v1, v2, v3, v4, v5] ((2, x) :: st) t g Q := Xp_go (i := .aload_n 0) (len := 1) (by decide +kernel) rfl
theorem x_71_103 : Xp 71 (d + 1) 103 ls ((2, a0) :: st) t g Q = (hkJK a0 = 5 ∧ hkC8 st ∧ Xp 73 d 0 [(2, a0), hkU, hkU, hkU] [] t g (fun r t g => Xp 71 (d + 1) 106 ls (hkPush r st) t g Q)) := xr_invV (idx := 45) (y' := 73) (ci := 5) (tg := [2]) (by decide +kernel) (by decide +kernel) (by decide +kernel) (by decide +kernel) rfl rfl rfl
theorem x_71_106 : Xp 71 d 106 ls ((0, a) :: st) t g Q = ((¬ (a = 0) → Xp 71 d 111 ls st t g Q) ∧ (¬ (¬ (a = 0)) → Xp 71 d 109 ls st t g Q)) := xr_if1 (cd := .ne) (off := 5) (by decide +kernel) (by decide)
theorem x_71_109 : Xp 71 d 109 ls st t g Q = Xp 71 d 110 ls ((0, 0) :: st) t g Q := xr_const (c := 0) (by decide +kernel) (by decide)
theorem x_71_110 : Xp 71 d 110 ls [(0, x)] t g Q = ((x = 0 ∨ x = 1) ∧ Q (some (0, x)) t g) := xr_retZ (by decide +kernel) (by decide +kernel)
theorem x_71_111 : Xp 71 d 111 ls st t g Q = Xp 71 d 112 ls ((0, 0) :: st) t g Q := xr_const (c := 0) (by decide +kernel) (by decide)
theorem x_71_112 : Xp 71 d 112 [v0, v1, v2, v3, v4, v5] ((0, x) :: st) t g Q = (hkP1 v2 ∧ Xp 71 d 113 [v0, v1, v2, (0, x), v4, v5] st t g Q) := Xp_chk (i := .istore_n 3) (len := 1) (by decide +kernel) rfl
theorem x_71_113 : Xp 71 d 113 [v0, v1, v2, (0, x), v4, v5] st t g Q = Xp 71 d 114 [v0, v1, v2, (0, x), v4, v5] ((0, x) :: st) t g Q := Xp_go (i := .iload_n 3) (len := 1) (by decide +kernel) rfl
theorem x_71_114 : Xp 71 d 114 ls st t g Q = Xp 71 d 117 ls ((0, 280) :: st) t g Q := xr_si (c := 280) (by decide +kernel) (by decide)
theorem x_71_117 : Xp 71 d 117 ls ((0, b) :: (0, a) :: st) t g Q = ((b ≤ a → Xp 71 d 139 ls st t g Q) ∧ (¬ (b ≤ a) → Xp 71 d 120 ls st t g Q)) := xr_if2 (cd := .ge) (off := 22) (by decide +kernel) (by decide)
theorem x_71_120 : Xp 71 d 120 [v0, (2, x), v2, v3, v4, v5] st t g Q = Xp 71 d 121 [v0, (2, x), v2, v3, v4, v5] ((2, x) :: st) t g Q := Xp_go (i := .aload_n 1) (len := 1) (by decide +kernel) rfl
theorem x_71_121 : Xp 71 d 121 ls ((2, p) :: st) t g Q = (hkJK p = 7 ∧ jA p 0 ≤ t ∧ Xp 71 d 124 ls ((2, jR p 0) :: st) t g Q) := xr_getR (idx := 29) (ci := 7) (k := 0) (by decide +kernel) (by decide +kernel) (by decide +kernel)
theorem x_71_124 : Xp 71 d 124 [v0, v1, v2, (0, x), v4, v5] st t g Q = Xp 71 d 125 [v0, v1, v2, (0, x), v4, v5] ((0, x) :: st) t g Q := Xp_go (i := .iload_n 3) (len := 1) (by decide +kernel) rfl
theorem x_71_125 : Xp 71 d 125 [(2, x), v1, v2, v3, v4, v5] st t g Q = Xp 71 d 126 [(2, x), v1, v2, v3, v4, v5] ((2, x) :: st) t g Q := Xp_go (i := .aload_n 0) (len := 1) (by decide +kernel) rfl
theorem x_71_126 : Xp 71 d 126 ls ((2, p) :: st) t g Q = (hkJK p = 5 ∧ jA p 2 ≤ t ∧ Xp 71 d 129 ls ((2, jR p 2) :: st) t g Q) := xr_getR (idx := 11) (ci := 5) (k := 2) (by decide +kernel) (by decide +kernel) (by decide +kernel)
theorem x_71_129 : Xp 71 d 129 [v0, v1, v2, (0, x), v4, v5] st t g Q = Xp 71 d 130 [v0, v1, v2, (0, x), v4, v5] ((0, x) :: st) t g Q := Xp_go (i := .iload_n 3) (len := 1) (by decide +kernel) rfl
theorem x_71_130 : Xp 71 d 130 ls ((0, a) :: (2, p) :: st) t g Q = ((hkJK p = 101 ∧ 0 ≤ a ∧ a < jL p) ∧ Xp 71 d 131 ls ((1, g p a) :: st) t g Q) := Xp_chk (i := .laload) (len := 1) (by decide +kernel) rfl
theorem x_71_131 : Xp 71 d 131 ls ((1, a) :: st) t g Q = Xp 71 d 132 ls ((0, hkW a) :: st) t g Q := Xp_go (i := .l2i) (len := 1) (by decide +kernel) rfl
theorem x_71_132 : Xp 71 d 132 ls ((0, x) :: (0, a) :: (2, p) :: st) t g Q = ((hkJK p = 100 ∧ (100 = 102 → x = 0 ∨ x = 1) ∧ 0 ≤ a ∧ a < jL p) ∧ Xp 71 d 133 ls st t (hkSet g p a x) Q) := Xp_chk (i := .iastore) (len := 1) (by decide +kernel) rfl
theorem x_71_133 : Xp 71 d 133 [v0, v1, v2, (0, x), v4, v5] st t g Q = (hkP1 v2 ∧ Xp 71 d 136 [v0, v1, v2, (0, hkW (x + 1)), v4, v5] st t g Q) := Xp_chk (i := .iinc 3 (1)) (len := 3) (by decide +kernel) rfl
theorem x_71_136 : Xp 71 d 136 ls st t g Q = Xp 71 d 113 ls st t g Q := xr_goto (off := -23) (by decide +kernel) (by decide)
theorem x_71_139 : Xp 71 d 139 ls st t g Q = Xp 71 d 140 ls ((0, 1) :: st) t g Q := xr_const (c := 1) (by decide +kernel) (by decide)
theorem x_71_140 : Xp 71 d 140 ls [(0, x)] t g Q = ((x = 0 ∨ x = 1) ∧ Q (some (0, x)) t g) := xr_retZ (by decide +kernel) (by decide +kernel)
-- 72: HookBoxes$Multiplier.addShares(IIIJ)V
theorem x_72_0 : Xp 72 d 0 [v0, (0, x), v2, v3, v4, v5, v6, v7, v8, v9, v10, v11, v12] st t g Q = Xp 72 d 1 [v0, (0, x), v2, v3, v4, v5, v6, v7, v8, v9, v10, v11, v12] ((0, x) :: st) t g Q := Xp_go (i := .iload_n 1) (len := 1) (by decide +kernel) rfl
theorem x_72_1 : Xp 72 d 1 ls st t g Q = Xp 72 d 3 ls ((0, 35) :: st) t g Q := xr_bi (c := 35) (by decide +kernel) (by decide)
theorem x_72_3 : Xp 72 d 3 ls ((0, b) :: (0, a) :: st) t g Q = (b ≠ 0 ∧ Xp 72 d 4 ls ((0, a.tmod b) :: st) t g Q) := Xp_chk (i := .irem) (len := 1) (by decide +kernel) rfl
theorem x_72_4 : Xp 72 d 4 [v0, v1, v2, v3, v4, v5, v6, v7, v8, v9, v10, v11, v12] ((0, x) :: st) t g Q = (hkP1 v5 ∧ Xp 72 d 6 [v0, v1, v2, v3, v4, v5, (0, x), v7, v8, v9, v10, v11, v12] st t g Q) := Xp_chk (i := .istore 6) (len := 2) (by decide +kernel) rfl
theorem x_72_6 : Xp 72 d 6 [v0, v1, (0, x), v3, v4, v5, v6, v7, v8, v9, v10, v11, v12] st t g Q = Xp 72 d 7 [v0, v1, (0, x), v3, v4, v5, v6, v7, v8, v9, v10, v11, v12] ((0, x) :: st) t g Q := Xp_go (i := .iload_n 2) (len := 1) (by decide +kernel) rfl
theorem x_72_7 : Xp 72 d 7 ls st t g Q = Xp 72 d 9 ls ((0, 35) :: st) t g Q := xr_bi (c := 35) (by decide +kernel) (by decide)
theorem x_72_9 : Xp 72 d 9 ls ((0, b) :: (0, a) :: st) t g Q = (b ≠ 0 ∧ Xp 72 d 10 ls ((0, a.tmod b) :: st) t g Q) := Xp_chk (i := .irem) (len := 1) (by decide +kernel) rfl
theorem x_72_10 : Xp 72 d 10 [v0, v1, v2, v3, v4, v5, v6, v7, v8, v9, v10, v11, v12] ((0, x) :: st) t g Q = (hkP1 v6 ∧ Xp 72 d 12 [v0, v1, v2, v3, v4, v5, v6, (0, x), v8, v9, v10, v11, v12] st t g Q) := Xp_chk (i := .istore 7) (len := 2) (by decide +kernel) rfl
theorem x_72_12 : Xp 72 d 12 [v0, (0, x), v2, v3, v4, v5, v6, v7, v8, v9, v10, v11, v12] st t g Q = Xp 72 d 13 [v0, (0, x), v2, v3, v4, v5, v6, v7, v8, v9, v10, v11, v12] ((0, x) :: st) t g Q := Xp_go (i := .iload_n 1) (len := 1) (by decide +kernel) rfl
theorem x_72_13 : Xp 72 d 13 ls st t g Q = Xp 72 d 15 ls ((0, 35) :: st) t g Q := xr_bi (c := 35) (by decide +kernel) (by decide)
theorem x_72_15 : Xp 72 d 15 ls ((0, b) :: (0, a) :: st) t g Q = (b ≠ 0 ∧ Xp 72 d 16 ls ((0, hkW (a.tdiv b)) :: st) t g Q) := Xp_chk (i := .idiv) (len := 1) (by decide +kernel) rfl
theorem x_72_16 : Xp 72 d 16 [v0, v1, (0, x), v3, v4, v5, v6, v7, v8, v9, v10, v11, v12] st t g Q = Xp 72 d 17 [v0, v1, (0, x), v3, v4, v5, v6, v7, v8, v9, v10, v11, v12] ((0, x) :: st) t g Q := Xp_go (i := .iload_n 2) (len := 1) (by decide +kernel) rfl
theorem x_72_17 : Xp 72 d 17 ls st t g Q = Xp 72 d 19 ls ((0, 35) :: st) t g Q := xr_bi (c := 35) (by decide +kernel) (by decide)
theorem x_72_19 : Xp 72 d 19 ls ((0, b) :: (0, a) :: st) t g Q = (b ≠ 0 ∧ Xp 72 d 20 ls ((0, hkW (a.tdiv b)) :: st) t g Q) := Xp_chk (i := .idiv) (len := 1) (by decide +kernel) rfl
theorem x_72_20 : Xp 72 d 20 ls ((0, b) :: (0, a) :: st) t g Q = Xp 72 d 21 ls ((0, hkW (a + b)) :: st) t g Q := Xp_go (i := .iadd) (len := 1) (by decide +kernel) rfl
theorem x_72_21 : Xp 72 d 21 [v0, v1, v2, v3, v4, v5, v6, v7, v8, v9, v10, v11, v12] ((0, x) :: st) t g Q = (hkP1 v7 ∧ Xp 72 d 23 [v0, v1, v2, v3, v4, v5, v6, v7, (0, x), v9, v10, v11, v12] st t g Q) := Xp_chk (i := .istore 8) (len := 2) (by decide +kernel) rfl
theorem x_72_23 : Xp 72 d 23 [(2, x), v1, v2, v3, v4, v5, v6, v7, v8, v9, v10, v11, v12] st t g Q = Xp 72 d 24 [(2, x), v1, v2, v3, v4, v5, v6, v7, v8, v9, v10, v11, v12] ((2, x) :: st) t g Q := Xp_go (i := .aload_n 0) (len := 1) (by decide +kernel) rfl
theorem x_72_24 : Xp 72 d 24 ls ((2, p) :: st) t g Q = (hkJK p = 5 ∧ jA p 1 ≤ t ∧ Xp 72 d 27 ls ((2, jR p 1) :: st) t g Q) := xr_getR (idx := 19) (ci := 5) (k := 1) (by decide +kernel) (by decide +kernel) (by decide +kernel)
theorem x_72_27 : Xp 72 d 27 [v0, v1, v2, v3, v4, v5, (0, x), v7, v8, v9, v10, v11, v12] st t g Q = Xp 72 d 29 [v0, v1, v2, v3, v4, v5, (0, x), v7, v8, v9, v10, v11, v12] ((0, x) :: st) t g Q := Xp_go (i := .iload 6) (len := 2) (by decide +kernel) rfl
theorem x_72_29 : Xp 72 d 29 [v0, v1, v2, v3, v4, v5, v6, (0, x), v8, v9, v10, v11, v12] st t g Q = Xp 72 d 31 [v0, v1, v2, v3, v4, v5, v6, (0, x), v8, v9, v10, v11, v12] ((0, x) :: st) t g Q := Xp_go (i := .iload 7) (len := 2) (by decide +kernel) rfl
theorem x_72_31 : Xp 72 (d + 1) 31 ls ((0, a2) :: (0, a1) :: (2, a0) :: st) t g Q = (hkJK a0 = 3 ∧ hkC8 st ∧ Xp 58 d 0 [(2, a0), (0, a1), (0, a2)] [] t g (fun r t g => Xp 72 (d + 1) 34 ls (hkPush r st) t g Q)) := xr_invV (idx := 49) (y' := 58) (ci := 3) (tg := [2, 0, 0]) (by decide +kernel) (by decide +kernel) (by decide +kernel) (by decide +kernel) rfl rfl rfl
theorem x_72_34 : Xp 72 d 34 [v0, v1, v2, v3, v4, v5, v6, v7, v8, v9, v10, v11, v12] ((0, x) :: st) t g Q = (hkP1 v8 ∧ Xp 72 d 36 [v0, v1, v2, v3, v4, v5, v6, v7, v8, (0, x), v10, v11, v12] st t g Q) := Xp_chk (i := .istore 9) (len := 2) (by decide +kernel) rfl
theorem x_72_36 : Xp 72 d 36 ls st t g Q = Xp 72 d 37 ls ((0, 0) :: st) t g Q := xr_const (c := 0) (by decide +kernel) (by decide)
theorem x_72_37 : Xp 72 d 37 [v0, v1, v2, v3, v4, v5, v6, v7, v8, v9, v10, v11, v12] ((0, x) :: st) t g Q = (hkP1 v9 ∧ Xp 72 d 39 [v0, v1, v2, v3, v4, v5, v6, v7, v8, v9, (0, x), v11, v12] st t g Q) := Xp_chk (i := .istore 10) (len := 2) (by decide +kernel) rfl
theorem x_72_39 : Xp 72 d 39 [v0, v1, v2, v3, v4, v5, v6, v7, v8, v9, (0, x), v11, v12] st t g Q = Xp 72 d 41 [v0, v1, v2, v3, v4, v5, v6, v7, v8, v9, (0, x), v11, v12] ((0, x) :: st) t g Q := Xp_go (i := .iload 10) (len := 2) (by decide +kernel) rfl
theorem x_72_41 : Xp 72 d 41 [(2, x), v1, v2, v3, v4, v5, v6, v7, v8, v9, v10, v11, v12] st t g Q = Xp 72 d 42 [(2, x), v1, v2, v3, v4, v5, v6, v7, v8, v9, v10, v11, v12] ((2, x) :: st) t g Q := Xp_go (i := .aload_n 0) (len := 1) (by decide +kernel) rfl
theorem x_72_42 : Xp 72 d 42 ls ((2, p) :: st) t g Q = (hkJK p = 5 ∧ jA p 0 ≤ t ∧ Xp 72 d 45 ls ((2, jR p 0) :: st) t g Q) := xr_getR (idx := 15) (ci := 5) (k := 0) (by decide +kernel) (by decide +kernel) (by decide +kernel)
theorem x_72_45 : Xp 72 d 45 ls ((2, p) :: st) t g Q = (hkJK p = 1 ∧ jA p 8 ≤ t ∧ Xp 72 d 48 ls ((2, jR p 8) :: st) t g Q) := xr_getR (idx := 52) (ci := 1) (k := 8) (by decide +kernel) (by decide +kernel) (by decide +kernel)
theorem x_72_48 : Xp 72 d 48 [v0, v1, v2, v3, v4, v5, v6, v7, v8, (0, x), v10, v11, v12] st t g Q = Xp 72 d 50 [v0, v1, v2, v3, v4, v5, v6, v7, v8, (0, x), v10, v11, v12] ((0, x) :: st) t g Q := Xp_go (i := .iload 9) (len := 2) (by decide +kernel) rfl
theorem x_72_50 : Xp 72 d 50 ls ((0, a) :: (2, p) :: st) t g Q = ((hkJK p = 100 ∧ 0 ≤ a ∧ a < jL p) ∧ Xp 72 d 51 ls ((0, g p a) :: st) t g Q) := Xp_chk (i := .iaload) (len := 1) (by decide +kernel) rfl
theorem x_72_51 : Xp 72 d 51 ls ((0, b) :: (0, a) :: st) t g Q = ((b ≤ a → Xp 72 d 132 ls st t g Q) ∧ (¬ (b ≤ a) → Xp 72 d 54 ls st t g Q)) := xr_if2 (cd := .ge) (off := 81) (by decide +kernel) (by decide)
theorem x_72_54 : Xp 72 d 54 [(2, x), v1, v2, v3, v4, v5, v6, v7, v8, v9, v10, v11, v12] st t g Q = Xp 72 d 55 [(2, x), v1, v2, v3, v4, v5, v6, v7, v8, v9, v10, v11, v12] ((2, x) :: st) t g Q := Xp_go (i := .aload_n 0) (len := 1) (by decide +kernel) rfl
theorem x_72_55 : Xp 72 d 55 ls ((2, p) :: st) t g Q = (hkJK p = 5 ∧ jA p 1 ≤ t ∧ Xp 72 d 58 ls ((2, jR p 1) :: st) t g Q) := xr_getR (idx := 19) (ci := 5) (k := 1) (by decide +kernel) (by decide +kernel) (by decide +kernel)
theorem x_72_58 : Xp 72 d 58 ls ((2, p) :: st) t g Q = (hkJK p = 3 ∧ jA p 3 ≤ t ∧ Xp 72 d 61 ls ((2, jR p 3) :: st) t g Q) := xr_getR (idx := 57) (ci := 3) (k := 3) (by decide +kernel) (by decide +kernel) (by decide +kernel)
theorem x_72_61 : Xp 72 d 61 [v0, v1, v2, (0, x), v4, v5, v6, v7, v8, v9, v10, v11, v12] st t g Q = Xp 72 d 62 [v0, v1, v2, (0, x), v4, v5, v6, v7, v8, v9, v10, v11, v12] ((0, x) :: st) t g Q := Xp_go (i := .iload_n 3) (len := 1) (by decide +kernel) rfl
theorem x_72_62 : Xp 72 d 62 [v0, v1, v2, v3, v4, v5, v6, v7, v8, v9, (0, x), v11, v12] st t g Q = Xp 72 d 64 [v0, v1, v2, v3, v4, v5, v6, v7, v8, v9, (0, x), v11, v12] ((0, x) :: st) t g Q := Xp_go (i := .iload 10) (len := 2) (by decide +kernel) rfl
theorem x_72_64 : Xp 72 d 64 ls ((0, b) :: (0, a) :: st) t g Q = Xp 72 d 65 ls ((0, hkW (a + b)) :: st) t g Q := Xp_go (i := .iadd) (len := 1) (by decide +kernel) rfl
theorem x_72_65 : Xp 72 d 65 ls ((0, a) :: (2, p) :: st) t g Q = ((hkJK p = 100 ∧ 0 ≤ a ∧ a < jL p) ∧ Xp 72 d 66 ls ((0, g p a) :: st) t g Q) := Xp_chk (i := .iaload) (len := 1) (by decide +kernel) rfl
theorem x_72_66 : Xp 72 d 66 [v0, v1, v2, v3, v4, v5, v6, v7, v8, v9, v10, v11, v12] ((0, x) :: st) t g Q = (hkP1 v10 ∧ Xp 72 d 68 [v0, v1, v2, v3, v4, v5, v6, v7, v8, v9, v10, (0, x), v12] st t g Q) := Xp_chk (i := .istore 11) (len := 2) (by decide +kernel) rfl
theorem x_72_68 : Xp 72 d 68 [v0, v1, v2, v3, v4, v5, v6, v7, v8, v9, v10, (0, x), v12] st t g Q = Xp 72 d 70 [v0, v1, v2, v3, v4, v5, v6, v7, v8, v9, v10, (0, x), v12] ((0, x) :: st) t g Q := Xp_go (i := .iload 11) (len := 2) (by decide +kernel) rfl
theorem x_72_70 : Xp 72 d 70 ls ((0, a) :: st) t g Q = ((a = 0 → Xp 72 d 126 ls st t g Q) ∧ (¬ (a = 0) → Xp 72 d 73 ls st t g Q)) := xr_if1 (cd := .eq) (off := 56) (by decide +kernel) (by decide)
theorem x_72_73 : Xp 72 d 73 [(2, x), v1, v2, v3, v4, v5, v6, v7, v8, v9, v10, v11, v12] st t g Q = Xp 72 d 74 [(2, x), v1, v2, v3, v4, v5, v6, v7, v8, v9, v10, v11, v12] ((2, x) :: st) t g Q := Xp_go (i := .aload_n 0) (len := 1) (by decide +kernel) rfl
theorem x_72_74 : Xp 72 d 74 ls ((2, p) :: st) t g Q = (hkJK p = 5 ∧ jA p 0 ≤ t ∧ Xp 72 d 77 ls ((2, jR p 0) :: st) t g Q) := xr_getR (idx := 15) (ci := 5) (k := 0) (by decide +kernel) (by decide +kernel) (by decide +kernel)
theorem x_72_77 : Xp 72 d 77 ls ((2, p) :: st) t g Q = (hkJK p = 1 ∧ jA p 7 ≤ t ∧ Xp 72 d 80 ls ((2, jR p 7) :: st) t g Q) := xr_getR (idx := 60) (ci := 1) (k := 7) (by decide +kernel) (by decide +kernel) (by decide +kernel)
theorem x_72_80 : Xp 72 d 80 [v0, v1, v2, v3, v4, v5, v6, v7, v8, (0, x), v10, v11, v12] st t g Q = Xp 72 d 82 [v0, v1, v2, v3, v4, v5, v6, v7, v8, (0, x), v10, v11, v12] ((0, x) :: st) t g Q := Xp_go (i := .iload 9) (len := 2) (by decide +kernel) rfl
theorem x_72_82 : Xp 72 d 82 ls st t g Q = Xp 72 d 83 ls ((0, 5) :: st) t g Q := xr_const (c := 5) (by decide +kernel) (by decide)
theorem x_72_83 : Xp 72 d 83 ls ((0, b) :: (0, a) :: st) t g Q = Xp 72 d 84 ls ((0, hkW (a * b)) :: st) t g Q := Xp_go (i := .imul) (len := 1) (by decide +kernel) rfl
theorem x_72_84 : Xp 72 d 84 [v0, v1, v2, v3, v4, v5, v6, v7, v8, v9, (0, x), v11, v12] st t g Q = Xp 72 d 86 [v0, v1, v2, v3, v4, v5, v6, v7, v8, v9, (0, x), v11, v12] ((0, x) :: st) t g Q := Xp_go (i := .iload 10) (len := 2) (by decide +kernel) rfl
theorem x_72_86 : Xp 72 d 86 ls ((0, b) :: (0, a) :: st) t g Q = Xp 72 d 87 ls ((0, hkW (a + b)) :: st) t g Q := Xp_go (i := .iadd) (len := 1) (by decide +kernel) rfl
theorem x_72_87 : Xp 72 d 87 ls ((0, a) :: (2, p) :: st) t g Q = ((hkJK p = 100 ∧ 0 ≤ a ∧ a < jL p) ∧ Xp 72 d 88 ls ((0, g p a) :: st) t g Q) := Xp_chk (i := .iaload) (len := 1) (by decide +kernel) rfl
theorem x_72_88 : Xp 72 d 88 [v0, v1, v2, v3, v4, v5, v6, v7, v8, v9, v10, v11, v12] ((0, x) :: st) t g Q = (hkP1 v11 ∧ Xp 72 d 90 [v0, v1, v2, v3, v4, v5, v6, v7, v8, v9, v10, v11, (0, x)] st t g Q) := Xp_chk (i := .istore 12) (len := 2) (by decide +kernel) rfl
theorem x_72_90 : Xp 72 d 90 [(2, x), v1, v2, v3, v4, v5, v6, v7, v8, v9, v10, v11, v12] st t g Q = Xp 72 d 91 [(2, x), v1, v2, v3, v4, v5, v6, v7, v8, v9, v10, v11, v12] ((2, x) :: st) t g Q := Xp_go (i := .aload_n 0) (len := 1) (by decide +kernel) rfl
theorem x_72_91 : Xp 72 d 91 ls ((2, p) :: st) t g Q = (hkJK p = 5 ∧ jA p 2 ≤ t ∧ Xp 72 d 94 ls ((2, jR p 2) :: st) t g Q) := xr_getR (idx := 11) (ci := 5) (k := 2) (by decide +kernel) (by decide +kernel) (by decide +kernel)
theorem x_72_94 : Xp 72 d 94 [v0, v1, v2, v3, v4, v5, v6, v7, (0, x), v9, v10, v11, v12] st t g Q = Xp 72 d 96 [v0, v1, v2, v3, v4, v5, v6, v7, (0, x), v9, v10, v11, v12] ((0, x) :: st) t g Q := Xp_go (i := .iload 8) (len := 2) (by decide +kernel) rfl
theorem x_72_96 : Xp 72 d 96 [(2, x), v1, v2, v3, v4, v5, v6, v7, v8, v9, v10, v11, v12] st t g Q = Xp 72 d 97 [(2, x), v1, v2, v3, v4, v5, v6, v7, v8, v9, v10, v11, v12] ((2, x) :: st) t g Q := Xp_go (i := .aload_n 0) (len := 1) (by decide +kernel) rfl
theorem x_72_97 : Xp 72 d 97 ls ((2, p) :: st) t g Q = (hkJK p = 5 ∧ jA p 1 ≤ t ∧ Xp 72 d 100 ls ((2, jR p 1) :: st) t g Q) := xr_getR (idx := 19) (ci := 5) (k := 1) (by decide +kernel) (by decide +kernel) (by decide +kernel)
theorem x_72_100 : Xp 72 d 100 [v0, v1, v2, v3, v4, v5, (0, x), v7, v8, v9, v10, v11, v12] st t g Q = Xp 72 d 102 [v0, v1, v2, v3, v4, v5, (0, x), v7, v8, v9, v10, v11, v12] ((0, x) :: st) t g Q := Xp_go (i := .iload 6) (len := 2) (by decide +kernel) rfl
theorem x_72_102 : Xp 72 d 102 [v0, v1, v2, v3, v4, v5, v6, (0, x), v8, v9, v10, v11, v12] st t g Q = Xp 72 d 104 [v0, v1, v2, v3, v4, v5, v6, (0, x), v8, v9, v10, v11, v12] ((0, x) :: st) t g Q := Xp_go (i := .iload 7) (len := 2) (by decide +kernel) rfl
theorem x_72_104 : Xp 72 d 104 [v0, v1, v2, v3, v4, v5, v6, v7, v8, v9, v10, v11, (0, x)] st t g Q = Xp 72 d 106 [v0, v1, v2, v3, v4, v5, v6, v7, v8, v9, v10, v11, (0, x)] ((0, x) :: st) t g Q := Xp_go (i := .iload 12) (len := 2) (by decide +kernel) rfl
theorem x_72_106 : Xp 72 (d + 1) 106 ls ((0, a3) :: (0, a2) :: (0, a1) :: (2, a0) :: st) t g Q = (hkJK a0 = 3 ∧ hkC8 st ∧ Xp 57 d 0 [(2, a0), (0, a1), (0, a2), (0, a3)] [] t g (fun r t g => Xp 72 (d + 1) 109 ls (hkPush r st) t g Q)) := xr_invV (idx := 63) (y' := 57) (ci := 3) (tg := [2, 0, 0, 0]) (by decide +kernel) (by decide +kernel) (by decide +kernel) (by decide +kernel) rfl rfl rfl
theorem x_72_109 : Xp 72 d 109 ls ((0, b) :: (0, a) :: st) t g Q = Xp 72 d 110 ls ((0, hkW (a + b)) :: st) t g Q := Xp_go (i := .iadd) (len := 1) (by decide +kernel) rfl
theorem x_72_110 : Xp 72 d 110 ls st t g Q = Xp 72 d 112 ls ((0, 35) :: st) t g Q := xr_bi (c := 35) (by decide +kernel) (by decide)
theorem x_72_112 : Xp 72 d 112 ls ((0, b) :: (0, a) :: st) t g Q = Xp 72 d 113 ls ((0, hkW (a * b)) :: st) t g Q := Xp_go (i := .imul) (len := 1) (by decide +kernel) rfl
theorem x_72_113 : Xp 72 d 113 [v0, v1, v2, v3, v4, v5, v6, v7, v8, v9, v10, v11, (0, x)] st t g Q = Xp 72 d 115 [v0, v1, v2, v3, v4, v5, v6, v7, v8, v9, v10, v11, (0, x)] ((0, x) :: st) t g Q := Xp_go (i := .iload 12) (len := 2) (by decide +kernel) rfl
theorem x_72_115 : Xp 72 d 115 ls ((0, b) :: (0, a) :: st) t g Q = Xp 72 d 116 ls ((0, hkW (a + b)) :: st) t g Q := Xp_go (i := .iadd) (len := 1) (by decide +kernel) rfl
theorem x_72_116 : Xp 72 d 116 ls (v :: w :: st) t g Q = ((hkP1 v ∧ hkP1 w) ∧ Xp 72 d 117 ls (v :: w :: v :: w :: st) t g Q) := Xp_chk (i := .dup2) (len := 1) (by decide +kernel) rfl
theorem x_72_117 : Xp 72 d 117 ls ((0, a) :: (2, p) :: st) t g Q = ((hkJK p = 101 ∧ 0 ≤ a ∧ a < jL p) ∧ Xp 72 d 118 ls ((1, g p a) :: st) t g Q) := Xp_chk (i := .laload) (len := 1) (by decide +kernel) rfl
theorem x_72_118 : Xp 72 d 118 [v0, v1, v2, v3, (1, x), v5, v6, v7, v8, v9, v10, v11, v12] st t g Q = Xp 72 d 120 [v0, v1, v2, v3, (1, x), v5, v6, v7, v8, v9, v10, v11, v12] ((1, x) :: st) t g Q := Xp_go (i := .lload 4) (len := 2) (by decide +kernel) rfl
theorem x_72_120 : Xp 72 d 120 [v0, v1, v2, v3, v4, v5, v6, v7, v8, v9, v10, (0, x), v12] st t g Q = Xp 72 d 122 [v0, v1, v2, v3, v4, v5, v6, v7, v8, v9, v10, (0, x), v12] ((0, x) :: st) t g Q := Xp_go (i := .iload 11) (len := 2) (by decide +kernel) rfl
theorem x_72_122 : Xp 72 d 122 ls ((0, a) :: st) t g Q = Xp 72 d 123 ls ((1, a) :: st) t g Q := Xp_go (i := .i2l) (len := 1) (by decide +kernel) rfl
theorem x_72_123 : Xp 72 d 123 ls ((1, b) :: (1, a) :: st) t g Q = Xp 72 d 124 ls ((1, hkL (a * b)) :: st) t g Q := Xp_go (i := .lmul) (len := 1) (by decide +kernel) rfl
theorem x_72_124 : Xp 72 d 124 ls ((1, b) :: (1, a) :: st) t g Q = Xp 72 d 125 ls ((1, hkL (a + b)) :: st) t g Q := Xp_go (i := .ladd) (len := 1) (by decide +kernel) rfl
theorem x_72_125 : Xp 72 d 125 ls ((1, x) :: (0, a) :: (2, p) :: st) t g Q = ((hkJK p = 101 ∧ (101 = 102 → x = 0 ∨ x = 1) ∧ 0 ≤ a ∧ a < jL p) ∧ Xp 72 d 126 ls st t (hkSet g p a x) Q) := Xp_chk (i := .lastore) (len := 1) (by decide +kernel) rfl
theorem x_72_126 : Xp 72 d 126 [v0, v1, v2, v3, v4, v5, v6, v7, v8, v9, (0, x), v11, v12] st t g Q = (hkP1 v9 ∧ Xp 72 d 129 [v0, v1, v2, v3, v4, v5, v6, v7, v8, v9, (0, hkW (x + 1)), v11, v12] st t g Q) := Xp_chk (i := .iinc 10 (1)) (len := 3) (by decide +kernel) rfl
theorem x_72_129 : Xp 72 d 129 ls st t g Q = Xp 72 d 39 ls st t g Q := xr_goto (off := -90) (by decide +kernel) (by decide)
theorem x_72_132 : Xp 72 d 132 ls [] t g Q = Q none t g := xr_retV (by decide +kernel) (by decide +kernel)
-- 73: HookBoxes$Multiplier.fits()Z
theorem x_73_0 : Xp 73 d 0 ls st t g Q = Xp 73 d 1 ls ((0, 0) :: st) t g Q := xr_const (c := 0) (by decide +kernel) (by decide)
theorem x_73_1 : Xp 73 d 1 [v0, v1, v2, v3] ((0, x) :: st) t g Q = (hkP1 v0 ∧ Xp 73 d 2 [v0, (0, x), v2, v3] st t g Q) := Xp_chk (i := .istore_n 1) (len := 1) (by decide +kernel) rfl
theorem x_73_2 : Xp 73 d 2 [v0, (0, x), v2, v3] st t g Q = Xp 73 d 3 [v0, (0, x), v2, v3] ((0, x) :: st) t g Q := Xp_go (i := .iload_n 1) (len := 1) (by decide +kernel) rfl
theorem x_73_3 : Xp 73 d 3 [(2, x), v1, v2, v3] st t g Q = Xp 73 d 4 [(2, x), v1, v2, v3] ((2, x) :: st) t g Q := Xp_go (i := .aload_n 0) (len := 1) (by decide +kernel) rfl
theorem x_73_4 : Xp 73 d 4 ls ((2, p) :: st) t g Q = (hkJK p = 5 ∧ jA p 2 ≤ t ∧ Xp 73 d 7 ls ((2, jR p 2) :: st) t g Q) := xr_getR (idx := 11) (ci := 5) (k := 2) (by decide +kernel) (by decide +kernel) (by decide +kernel)
theorem x_73_7 : Xp 73 d 7 ls ((2, p) :: st) t g Q = ((100 ≤ hkJK p ∧ hkJK p ≤ 104) ∧ Xp 73 d 8 ls ((0, jL p) :: st) t g Q) := Xp_chk (i := .arraylength) (len := 1) (by decide +kernel) rfl
theorem x_73_8 : Xp 73 d 8 ls ((0, b) :: (0, a) :: st) t g Q = ((b ≤ a → Xp 73 d 48 ls st t g Q) ∧ (¬ (b ≤ a) → Xp 73 d 11 ls st t g Q)) := xr_if2 (cd := .ge) (off := 40) (by decide +kernel) (by decide)
theorem x_73_11 : Xp 73 d 11 [v0, (0, x), v2, v3] st t g Q = Xp 73 d 12 [v0, (0, x), v2, v3] ((0, x) :: st) t g Q := Xp_go (i := .iload_n 1) (len := 1) (by decide +kernel) rfl
theorem x_73_12 : Xp 73 d 12 ls st t g Q = Xp 73 d 15 ls ((0, 280) :: st) t g Q := xr_si (c := 280) (by decide +kernel) (by decide)
theorem x_73_15 : Xp 73 d 15 ls ((0, b) :: (0, a) :: st) t g Q = ((b ≤ a → Xp 73 d 24 ls st t g Q) ∧ (¬ (b ≤ a) → Xp 73 d 18 ls st t g Q)) := xr_if2 (cd := .ge) (off := 9) (by decide +kernel) (by decide)
theorem x_73_18 : Xp 73 d 18 ls st t g Q = Xp 73 d 21 ls ((1, 1000000) :: st) t g Q := xr_ldc2 (idx := 67) (by decide +kernel) (by decide +kernel)
theorem x_73_21 : Xp 73 d 21 ls st t g Q = Xp 73 d 25 ls st t g Q := xr_goto (off := 4) (by decide +kernel) (by decide)
theorem x_73_24 : Xp 73 d 24 ls st t g Q = Xp 73 d 25 ls ((1, 0) :: st) t g Q := Xp_go (i := .lconst 0) (len := 1) (by decide +kernel) rfl
theorem x_73_25 : Xp 73 d 25 [v0, v1, v2, v3] ((1, x) :: st) t g Q = (hkP1 v1 ∧ Xp 73 d 26 [v0, v1, (1, x), hkU] st t g Q) := Xp_chk (i := .lstore_n 2) (len := 1) (by decide +kernel) rfl
theorem x_73_26 : Xp 73 d 26 [(2, x), v1, v2, v3] st t g Q = Xp 73 d 27 [(2, x), v1, v2, v3] ((2, x) :: st) t g Q := Xp_go (i := .aload_n 0) (len := 1) (by decide +kernel) rfl
theorem x_73_27 : Xp 73 d 27 ls ((2, p) :: st) t g Q = (hkJK p = 5 ∧ jA p 2 ≤ t ∧ Xp 73 d 30 ls ((2, jR p 2) :: st) t g Q) := xr_getR (idx := 11) (ci := 5) (k := 2) (by decide +kernel) (by decide +kernel) (by decide +kernel)
theorem x_73_30 : Xp 73 d 30 [v0, (0, x), v2, v3] st t g Q = Xp 73 d 31 [v0, (0, x), v2, v3] ((0, x) :: st) t g Q := Xp_go (i := .iload_n 1) (len := 1) (by decide +kernel) rfl
theorem x_73_31 : Xp 73 d 31 ls ((0, a) :: (2, p) :: st) t g Q = ((hkJK p = 101 ∧ 0 ≤ a ∧ a < jL p) ∧ Xp 73 d 32 ls ((1, g p a) :: st) t g Q) := Xp_chk (i := .laload) (len := 1) (by decide +kernel) rfl
theorem x_73_32 : Xp 73 (d + 1) 32 ls ((1, a0) :: st) t g Q = (hkC8 st ∧ Xp 177 d 0 [(1, a0), hkU] [] t g (fun r t g => Xp 73 (d + 1) 35 ls (hkPush r st) t g Q)) := xr_invS (idx := 69) (y' := 177) (tg := [1]) (by decide +kernel) (by decide +kernel) (by decide +kernel) rfl rfl
theorem x_73_35 : Xp 73 d 35 [v0, v1, (1, x), v3] st t g Q = Xp 73 d 36 [v0, v1, (1, x), v3] ((1, x) :: st) t g Q := Xp_go (i := .lload_n 2) (len := 1) (by decide +kernel) rfl
theorem x_73_36 : Xp 73 d 36 ls ((1, b) :: (1, a) :: st) t g Q = Xp 73 d 37 ls ((0, hkCmp a b) :: st) t g Q := Xp_go (i := .lcmp) (len := 1) (by decide +kernel) rfl
theorem x_73_37 : Xp 73 d 37 ls ((0, a) :: st) t g Q = ((a ≤ 0 → Xp 73 d 42 ls st t g Q) ∧ (¬ (a ≤ 0) → Xp 73 d 40 ls st t g Q)) := xr_if1 (cd := .le) (off := 5) (by decide +kernel) (by decide)
theorem x_73_40 : Xp 73 d 40 ls st t g Q = Xp 73 d 41 ls ((0, 0) :: st) t g Q := xr_const (c := 0) (by decide +kernel) (by decide)
theorem x_73_41 : Xp 73 d 41 ls [(0, x)] t g Q = ((x = 0 ∨ x = 1) ∧ Q (some (0, x)) t g) := xr_retZ (by decide +kernel) (by decide +kernel)
theorem x_73_42 : Xp 73 d 42 [v0, (0, x), v2, v3] st t g Q = (hkP1 v0 ∧ Xp 73 d 45 [v0, (0, hkW (x + 1)), v2, v3] st t g Q) := Xp_chk (i := .iinc 1 (1)) (len := 3) (by decide +kernel) rfl
theorem x_73_45 : Xp 73 d 45 ls st t g Q = Xp 73 d 2 ls st t g Q := xr_goto (off := -43) (by decide +kernel) (by decide)
theorem x_73_48 : Xp 73 d 48 ls st t g Q = Xp 73 d 49 ls ((0, 1) :: st) t g Q := xr_const (c := 1) (by decide +kernel) (by decide)
theorem x_73_49 : Xp 73 d 49 ls [(0, x)] t g Q = ((x = 0 ∨ x = 1) ∧ Q (some (0, x)) t g) := xr_retZ (by decide +kernel) (by decide +kernel)
-- 74: HookBoxes$Reader.<init>(LHookBoxes$Box;LHookBoxes$Multiplier;)V
theorem x_74_0 : Xp 74 d 0 [(2, x), v1, v2, v3] st t g Q = Xp 74 d 1 [(2, x), v1, v2, v3] ((2, x) :: st) t g Q := Xp_go (i := .aload_n 0) (len := 1) (by decide +kernel) rfl
theorem x_74_1 : Xp 74 d 1 ls ((2, p) :: st) t g Q = (hkC8 st ∧ Xp 74 d 4 ls st t g Q) := xr_obj (idx := 3) (f := 183) (by decide +kernel) (by decide +kernel) (by decide +kernel) (by decide +kernel)
theorem x_74_4 : Xp 74 d 4 [(2, x), v1, v2, v3] st t g Q = Xp 74 d 5 [(2, x), v1, v2, v3] ((2, x) :: st) t g Q := Xp_go (i := .aload_n 0) (len := 1) (by decide +kernel) rfl
theorem x_74_5 : Xp 74 d 5 ls st t g Q = Xp 74 d 7 ls ((0, 6) :: st) t g Q := xr_bi (c := 6) (by decide +kernel) (by decide)
theorem x_74_7 : Xp 74 d 7 ls ((0, x) :: st) t g Q = (∃ P z w, hkEV[t]? = some (0, P, z, w) ∧ hkKd P = 103 ∧ x = jL (P : Int) ∧ Xp 74 d 10 ls ((2, (P : Int)) :: st) (t + 1) g Q) := xr_newq (idx := 9) (f := 7) (ci := 103) (by decide +kernel) (by decide +kernel) (by decide)
theorem x_74_10 : Xp 74 d 10 ls ((2, z) :: (2, p) :: st) t g Q = (hkJK p = 6 ∧ hkEV[t]? = some (1, p.toNat, 4, z.toNat) ∧ Xp 74 d 13 ls st (t + 1) g Q) := xr_putR (idx := 11) (ci := 6) (k := 4) (by decide +kernel) (by decide +kernel) (by decide +kernel) (by decide +kernel) (by decide +kernel)
theorem x_74_13 : Xp 74 d 13 [(2, x), v1, v2, v3] st t g Q = Xp 74 d 14 [(2, x), v1, v2, v3] ((2, x) :: st) t g Q := Xp_go (i := .aload_n 0) (len := 1) (by decide +kernel) rfl
theorem x_74_14 : Xp 74 d 14 ls st t g Q = Xp 74 d 15 ls ((0, 5) :: st) t g Q := xr_const (c := 5) (by decide +kernel) (by decide)
theorem x_74_15 : Xp 74 d 15 ls ((0, x) :: st) t g Q = (∃ P z w, hkEV[t]? = some (0, P, z, w) ∧ hkKd P = 103 ∧ x = jL (P : Int) ∧ Xp 74 d 18 ls ((2, (P : Int)) :: st) (t + 1) g Q) := xr_newq (idx := 9) (f := 7) (ci := 103) (by decide +kernel) (by decide +kernel) (by decide)
theorem x_74_18 : Xp 74 d 18 ls ((2, z) :: (2, p) :: st) t g Q = (hkJK p = 6 ∧ hkEV[t]? = some (1, p.toNat, 5, z.toNat) ∧ Xp 74 d 21 ls st (t + 1) g Q) := xr_putR (idx := 17) (ci := 6) (k := 5) (by decide +kernel) (by decide +kernel) (by decide +kernel) (by decide +kernel) (by decide +kernel)
theorem x_74_21 : Xp 74 d 21 [(2, x), v1, v2, v3] st t g Q = Xp 74 d 22 [(2, x), v1, v2, v3] ((2, x) :: st) t g Q := Xp_go (i := .aload_n 0) (len := 1) (by decide +kernel) rfl
theorem x_74_22 : Xp 74 d 22 ls st t g Q = Xp 74 d 24 ls ((0, 60) :: st) t g Q := xr_bi (c := 60) (by decide +kernel) (by decide)
theorem x_74_24 : Xp 74 d 24 ls ((0, x) :: st) t g Q = (∃ P z w, hkEV[t]? = some (0, P, z, w) ∧ hkKd P = 100 ∧ x = jL (P : Int) ∧ Xp 74 d 26 ls ((2, (P : Int)) :: st) (t + 1) g Q) := xr_newa (ty := .int) (ci := 100) (by decide +kernel) (by decide) (by decide)
theorem x_74_26 : Xp 74 d 26 ls ((2, z) :: (2, p) :: st) t g Q = (hkJK p = 6 ∧ hkEV[t]? = some (1, p.toNat, 6, z.toNat) ∧ Xp 74 d 29 ls st (t + 1) g Q) := xr_putR (idx := 20) (ci := 6) (k := 6) (by decide +kernel) (by decide +kernel) (by decide +kernel) (by decide +kernel) (by decide +kernel)
theorem x_74_29 : Xp 74 d 29 [(2, x), v1, v2, v3] st t g Q = Xp 74 d 30 [(2, x), v1, v2, v3] ((2, x) :: st) t g Q := Xp_go (i := .aload_n 0) (len := 1) (by decide +kernel) rfl
theorem x_74_30 : Xp 74 d 30 [v0, (2, x), v2, v3] st t g Q = Xp 74 d 31 [v0, (2, x), v2, v3] ((2, x) :: st) t g Q := Xp_go (i := .aload_n 1) (len := 1) (by decide +kernel) rfl
theorem x_74_31 : Xp 74 d 31 ls ((2, z) :: (2, p) :: st) t g Q = (hkJK p = 6 ∧ hkEV[t]? = some (1, p.toNat, 8, z.toNat) ∧ Xp 74 d 34 ls st (t + 1) g Q) := xr_putR (idx := 24) (ci := 6) (k := 8) (by decide +kernel) (by decide +kernel) (by decide +kernel) (by decide +kernel) (by decide +kernel)
theorem x_74_34 : Xp 74 d 34 [(2, x), v1, v2, v3] st t g Q = Xp 74 d 35 [(2, x), v1, v2, v3] ((2, x) :: st) t g Q := Xp_go (i := .aload_n 0) (len := 1) (by decide +kernel) rfl
theorem x_74_35 : Xp 74 d 35 [v0, v1, (2, x), v3] st t g Q = Xp 74 d 36 [v0, v1, (2, x), v3] ((2, x) :: st) t g Q := Xp_go (i := .aload_n 2) (len := 1) (by decide +kernel) rfl
theorem x_74_36 : Xp 74 d 36 ls ((2, z) :: (2, p) :: st) t g Q = (hkJK p = 6 ∧ hkEV[t]? = some (1, p.toNat, 9, z.toNat) ∧ Xp 74 d 39 ls st (t + 1) g Q) := xr_putR (idx := 28) (ci := 6) (k := 9) (by decide +kernel) (by decide +kernel) (by decide +kernel) (by decide +kernel) (by decide +kernel)
theorem x_74_39 : Xp 74 d 39 ls st t g Q = Xp 74 d 40 ls ((0, 0) :: st) t g Q := xr_const (c := 0) (by decide +kernel) (by decide)
theorem x_74_40 : Xp 74 d 40 [v0, v1, v2, v3] ((0, x) :: st) t g Q = (hkP1 v2 ∧ Xp 74 d 41 [v0, v1, v2, (0, x)] st t g Q) := Xp_chk (i := .istore_n 3) (len := 1) (by decide +kernel) rfl
theorem x_74_41 : Xp 74 d 41 [v0, v1, v2, (0, x)] st t g Q = Xp 74 d 42 [v0, v1, v2, (0, x)] ((0, x) :: st) t g Q := Xp_go (i := .iload_n 3) (len := 1) (by decide +kernel) rfl
theorem x_74_42 : Xp 74 d 42 [(2, x), v1, v2, v3] st t g Q = Xp 74 d 43 [(2, x), v1, v2, v3] ((2, x) :: st) t g Q := Xp_go (i := .aload_n 0) (len := 1) (by decide +kernel) rfl
theorem x_74_43 : Xp 74 d 43 ls ((2, p) :: st) t g Q = (hkJK p = 6 ∧ jA p 4 ≤ t ∧ Xp 74 d 46 ls ((2, jR p 4) :: st) t g Q) := xr_getR (idx := 11) (ci := 6) (k := 4) (by decide +kernel) (by decide +kernel) (by decide +kernel)
theorem x_74_46 : Xp 74 d 46 ls ((2, p) :: st) t g Q = ((100 ≤ hkJK p ∧ hkJK p ≤ 104) ∧ Xp 74 d 47 ls ((0, jL p) :: st) t g Q) := Xp_chk (i := .arraylength) (len := 1) (by decide +kernel) rfl
theorem x_74_47 : Xp 74 d 47 ls ((0, b) :: (0, a) :: st) t g Q = ((b ≤ a → Xp 74 d 69 ls st t g Q) ∧ (¬ (b ≤ a) → Xp 74 d 50 ls st t g Q)) := xr_if2 (cd := .ge) (off := 22) (by decide +kernel) (by decide)
theorem x_74_50 : Xp 74 d 50 [(2, x), v1, v2, v3] st t g Q = Xp 74 d 51 [(2, x), v1, v2, v3] ((2, x) :: st) t g Q := Xp_go (i := .aload_n 0) (len := 1) (by decide +kernel) rfl
theorem x_74_51 : Xp 74 d 51 ls ((2, p) :: st) t g Q = (hkJK p = 6 ∧ jA p 4 ≤ t ∧ Xp 74 d 54 ls ((2, jR p 4) :: st) t g Q) := xr_getR (idx := 11) (ci := 6) (k := 4) (by decide +kernel) (by decide +kernel) (by decide +kernel)
theorem x_74_54 : Xp 74 d 54 [v0, v1, v2, (0, x)] st t g Q = Xp 74 d 55 [v0, v1, v2, (0, x)] ((0, x) :: st) t g Q := Xp_go (i := .iload_n 3) (len := 1) (by decide +kernel) rfl
theorem x_74_55 : Xp 74 d 55 ls st t g Q = (∃ P z w, hkEV[t]? = some (0, P, z, w) ∧ hkKd P = 7 ∧ Xp 74 d 58 ls ((2, (P : Int)) :: st) (t + 1) g Q) := xr_new (idx := 9) (ci := 7) (by decide +kernel) (by decide +kernel) (by decide)
theorem x_74_58 : Xp 74 d 58 ls (v :: st) t g Q = (hkP1 v ∧ Xp 74 d 59 ls (v :: v :: st) t g Q) := Xp_chk (i := .dup) (len := 1) (by decide +kernel) rfl
theorem x_74_59 : Xp 74 (d + 1) 59 ls ((2, a0) :: st) t g Q = (hkC8 st ∧ Xp 87 d 0 [(2, a0)] [] t g (fun r t g => Xp 74 (d + 1) 62 ls (hkPush r st) t g Q)) := xr_invP (idx := 32) (y' := 87) (tg := [2]) (by decide +kernel) (by decide +kernel) (by decide +kernel) rfl rfl
theorem x_74_62 : Xp 74 d 62 ls ((2, z) :: (0, a) :: (2, p) :: st) t g Q = ((((hkJK p = 103 ∧ hkJK z = 7) ∨ (hkJK p = 104 ∧ hkJK z = 9)) ∧ 0 ≤ a ∧ a < jL p ∧ hkEV[t]? = some (1, p.toNat, a.toNat, z.toNat)) ∧ Xp 74 d 63 ls st (t + 1) g Q) := Xp_chk (i := .aastore) (len := 1) (by decide +kernel) rfl
theorem x_74_63 : Xp 74 d 63 [v0, v1, v2, (0, x)] st t g Q = (hkP1 v2 ∧ Xp 74 d 66 [v0, v1, v2, (0, hkW (x + 1))] st t g Q) := Xp_chk (i := .iinc 3 (1)) (len := 3) (by decide +kernel) rfl
theorem x_74_66 : Xp 74 d 66 ls st t g Q = Xp 74 d 41 ls st t g Q := xr_goto (off := -25) (by decide +kernel) (by decide)
theorem x_74_69 : Xp 74 d 69 ls st t g Q = Xp 74 d 70 ls ((0, 0) :: st) t g Q := xr_const (c := 0) (by decide +kernel) (by decide)
theorem x_74_70 : Xp 74 d 70 [v0, v1, v2, v3] ((0, x) :: st) t g Q = (hkP1 v2 ∧ Xp 74 d 71 [v0, v1, v2, (0, x)] st t g Q) := Xp_chk (i := .istore_n 3) (len := 1) (by decide +kernel) rfl
theorem x_74_71 : Xp 74 d 71 [v0, v1, v2, (0, x)] st t g Q = Xp 74 d 72 [v0, v1, v2, (0, x)] ((0, x) :: st) t g Q := Xp_go (i := .iload_n 3) (len := 1) (by decide +kernel) rfl
theorem x_74_72 : Xp 74 d 72 [(2, x), v1, v2, v3] st t g Q = Xp 74 d 73 [(2, x), v1, v2, v3] ((2, x) :: st) t g Q := Xp_go (i := .aload_n 0) (len := 1) (by decide +kernel) rfl
theorem x_74_73 : Xp 74 d 73 ls ((2, p) :: st) t g Q = (hkJK p = 6 ∧ jA p 5 ≤ t ∧ Xp 74 d 76 ls ((2, jR p 5) :: st) t g Q) := xr_getR (idx := 17) (ci := 6) (k := 5) (by decide +kernel) (by decide +kernel) (by decide +kernel)
theorem x_74_76 : Xp 74 d 76 ls ((2, p) :: st) t g Q = ((100 ≤ hkJK p ∧ hkJK p ≤ 104) ∧ Xp 74 d 77 ls ((0, jL p) :: st) t g Q) := Xp_chk (i := .arraylength) (len := 1) (by decide +kernel) rfl
theorem x_74_77 : Xp 74 d 77 ls ((0, b) :: (0, a) :: st) t g Q = ((b ≤ a → Xp 74 d 99 ls st t g Q) ∧ (¬ (b ≤ a) → Xp 74 d 80 ls st t g Q)) := xr_if2 (cd := .ge) (off := 22) (by decide +kernel) (by decide)
theorem x_74_80 : Xp 74 d 80 [(2, x), v1, v2, v3] st t g Q = Xp 74 d 81 [(2, x), v1, v2, v3] ((2, x) :: st) t g Q := Xp_go (i := .aload_n 0) (len := 1) (by decide +kernel) rfl
theorem x_74_81 : Xp 74 d 81 ls ((2, p) :: st) t g Q = (hkJK p = 6 ∧ jA p 5 ≤ t ∧ Xp 74 d 84 ls ((2, jR p 5) :: st) t g Q) := xr_getR (idx := 17) (ci := 6) (k := 5) (by decide +kernel) (by decide +kernel) (by decide +kernel)
theorem x_74_84 : Xp 74 d 84 [v0, v1, v2, (0, x)] st t g Q = Xp 74 d 85 [v0, v1, v2, (0, x)] ((0, x) :: st) t g Q := Xp_go (i := .iload_n 3) (len := 1) (by decide +kernel) rfl
theorem x_74_85 : Xp 74 d 85 ls st t g Q = (∃ P z w, hkEV[t]? = some (0, P, z, w) ∧ hkKd P = 7 ∧ Xp 74 d 88 ls ((2, (P : Int)) :: st) (t + 1) g Q) := xr_new (idx := 9) (ci := 7) (by decide +kernel) (by decide +kernel) (by decide)
theorem x_74_88 : Xp 74 d 88 ls (v :: st) t g Q = (hkP1 v ∧ Xp 74 d 89 ls (v :: v :: st) t g Q) := Xp_chk (i := .dup) (len := 1) (by decide +kernel) rfl
theorem x_74_89 : Xp 74 (d + 1) 89 ls ((2, a0) :: st) t g Q = (hkC8 st ∧ Xp 87 d 0 [(2, a0)] [] t g (fun r t g => Xp 74 (d + 1) 92 ls (hkPush r st) t g Q)) := xr_invP (idx := 32) (y' := 87) (tg := [2]) (by decide +kernel) (by decide +kernel) (by decide +kernel) rfl rfl
theorem x_74_92 : Xp 74 d 92 ls ((2, z) :: (0, a) :: (2, p) :: st) t g Q = ((((hkJK p = 103 ∧ hkJK z = 7) ∨ (hkJK p = 104 ∧ hkJK z = 9)) ∧ 0 ≤ a ∧ a < jL p ∧ hkEV[t]? = some (1, p.toNat, a.toNat, z.toNat)) ∧ Xp 74 d 93 ls st (t + 1) g Q) := Xp_chk (i := .aastore) (len := 1) (by decide +kernel) rfl
theorem x_74_93 : Xp 74 d 93 [v0, v1, v2, (0, x)] st t g Q = (hkP1 v2 ∧ Xp 74 d 96 [v0, v1, v2, (0, hkW (x + 1))] st t g Q) := Xp_chk (i := .iinc 3 (1)) (len := 3) (by decide +kernel) rfl
theorem x_74_96 : Xp 74 d 96 ls st t g Q = Xp 74 d 71 ls st t g Q := xr_goto (off := -25) (by decide +kernel) (by decide)
theorem x_74_99 : Xp 74 d 99 ls [] t g Q = Q none t g := xr_retV (by decide +kernel) (by decide +kernel)
-- 75: HookBoxes$Reader.append(I)V
theorem x_75_0 : Xp 75 d 0 [(2, x), v1] st t g Q = Xp 75 d 1 [(2, x), v1] ((2, x) :: st) t g Q := Xp_go (i := .aload_n 0) (len := 1) (by decide +kernel) rfl
theorem x_75_1 : Xp 75 d 1 ls ((2, p) :: st) t g Q = (hkJK p = 6 ∧ Xp 75 d 4 ls ((0, g p 0) :: st) t g Q) := xr_getI (idx := 33) (ci := 6) (k := 0) (by decide +kernel) (by decide +kernel) (by decide +kernel)
theorem x_75_4 : Xp 75 d 4 ls st t g Q = Xp 75 d 6 ls ((0, 60) :: st) t g Q := xr_bi (c := 60) (by decide +kernel) (by decide)
theorem x_75_6 : Xp 75 d 6 ls ((0, b) :: (0, a) :: st) t g Q = ((b ≤ a → Xp 75 d 29 ls st t g Q) ∧ (¬ (b ≤ a) → Xp 75 d 9 ls st t g Q)) := xr_if2 (cd := .ge) (off := 23) (by decide +kernel) (by decide)
theorem x_75_9 : Xp 75 d 9 [(2, x), v1] st t g Q = Xp 75 d 10 [(2, x), v1] ((2, x) :: st) t g Q := Xp_go (i := .aload_n 0) (len := 1) (by decide +kernel) rfl
theorem x_75_10 : Xp 75 d 10 ls ((2, p) :: st) t g Q = (hkJK p = 6 ∧ jA p 6 ≤ t ∧ Xp 75 d 13 ls ((2, jR p 6) :: st) t g Q) := xr_getR (idx := 20) (ci := 6) (k := 6) (by decide +kernel) (by decide +kernel) (by decide +kernel)
theorem x_75_13 : Xp 75 d 13 [(2, x), v1] st t g Q = Xp 75 d 14 [(2, x), v1] ((2, x) :: st) t g Q := Xp_go (i := .aload_n 0) (len := 1) (by decide +kernel) rfl
theorem x_75_14 : Xp 75 d 14 ls ((2, p) :: st) t g Q = (hkJK p = 6 ∧ Xp 75 d 17 ls ((0, g p 0) :: st) t g Q) := xr_getI (idx := 33) (ci := 6) (k := 0) (by decide +kernel) (by decide +kernel) (by decide +kernel)
theorem x_75_17 : Xp 75 d 17 [v0, (0, x)] st t g Q = Xp 75 d 18 [v0, (0, x)] ((0, x) :: st) t g Q := Xp_go (i := .iload_n 1) (len := 1) (by decide +kernel) rfl
theorem x_75_18 : Xp 75 d 18 ls ((0, x) :: (0, a) :: (2, p) :: st) t g Q = ((hkJK p = 100 ∧ (100 = 102 → x = 0 ∨ x = 1) ∧ 0 ≤ a ∧ a < jL p) ∧ Xp 75 d 19 ls st t (hkSet g p a x) Q) := Xp_chk (i := .iastore) (len := 1) (by decide +kernel) rfl
theorem x_75_19 : Xp 75 d 19 [(2, x), v1] st t g Q = Xp 75 d 20 [(2, x), v1] ((2, x) :: st) t g Q := Xp_go (i := .aload_n 0) (len := 1) (by decide +kernel) rfl
theorem x_75_20 : Xp 75 d 20 ls (v :: st) t g Q = (hkP1 v ∧ Xp 75 d 21 ls (v :: v :: st) t g Q) := Xp_chk (i := .dup) (len := 1) (by decide +kernel) rfl
theorem x_75_21 : Xp 75 d 21 ls ((2, p) :: st) t g Q = (hkJK p = 6 ∧ Xp 75 d 24 ls ((0, g p 0) :: st) t g Q) := xr_getI (idx := 33) (ci := 6) (k := 0) (by decide +kernel) (by decide +kernel) (by decide +kernel)
theorem x_75_24 : Xp 75 d 24 ls st t g Q = Xp 75 d 25 ls ((0, 1) :: st) t g Q := xr_const (c := 1) (by decide +kernel) (by decide)
theorem x_75_25 : Xp 75 d 25 ls ((0, b) :: (0, a) :: st) t g Q = Xp 75 d 26 ls ((0, hkW (a + b)) :: st) t g Q := Xp_go (i := .iadd) (len := 1) (by decide +kernel) rfl
theorem x_75_26 : Xp 75 d 26 ls ((0, x) :: (2, p) :: st) t g Q = (hkJK p = 6 ∧ Xp 75 d 29 ls st t (hkSet g p 0 x) Q) := xr_putI (idx := 33) (ci := 6) (k := 0) (by decide +kernel) (by decide +kernel) (by decide +kernel)
theorem x_75_29 : Xp 75 d 29 ls [] t g Q = Q none t g := xr_retV (by decide +kernel) (by decide +kernel)
-- 76: HookBoxes$Reader.readTape()V
theorem x_76_0 : Xp 76 d 0 [(2, x), v1] st t g Q = Xp 76 d 1 [(2, x), v1] ((2, x) :: st) t g Q := Xp_go (i := .aload_n 0) (len := 1) (by decide +kernel) rfl
theorem x_76_1 : Xp 76 d 1 ls st t g Q = Xp 76 d 2 ls ((0, 0) :: st) t g Q := xr_const (c := 0) (by decide +kernel) (by decide)
theorem x_76_2 : Xp 76 d 2 ls ((0, x) :: (2, p) :: st) t g Q = (hkJK p = 6 ∧ Xp 76 d 5 ls st t (hkSet g p 7 x) Q) := xr_putI (idx := 37) (ci := 6) (k := 7) (by decide +kernel) (by decide +kernel) (by decide +kernel)
theorem x_76_5 : Xp 76 d 5 [(2, x), v1] st t g Q = Xp 76 d 6 [(2, x), v1] ((2, x) :: st) t g Q := Xp_go (i := .aload_n 0) (len := 1) (by decide +kernel) rfl
theorem x_76_6 : Xp 76 d 6 ls st t g Q = Xp 76 d 7 ls ((0, -1) :: st) t g Q := xr_const (c := -1) (by decide +kernel) (by decide)
theorem x_76_7 : Xp 76 d 7 ls ((0, x) :: (2, p) :: st) t g Q = (hkJK p = 6 ∧ Xp 76 d 10 ls st t (hkSet g p 2 x) Q) := xr_putI (idx := 40) (ci := 6) (k := 2) (by decide +kernel) (by decide +kernel) (by decide +kernel)
theorem x_76_10 : Xp 76 d 10 [(2, x), v1] st t g Q = Xp 76 d 11 [(2, x), v1] ((2, x) :: st) t g Q := Xp_go (i := .aload_n 0) (len := 1) (by decide +kernel) rfl
theorem x_76_11 : Xp 76 d 11 ls st t g Q = Xp 76 d 12 ls ((0, 0) :: st) t g Q := xr_const (c := 0) (by decide +kernel) (by decide)
theorem x_76_12 : Xp 76 d 12 ls ((0, x) :: (2, p) :: st) t g Q = (hkJK p = 6 ∧ (x = 0 ∨ x = 1) ∧ Xp 76 d 15 ls st t (hkSet g p 3 x) Q) := xr_putB (idx := 43) (ci := 6) (k := 3) (by decide +kernel) (by decide +kernel) (by decide +kernel)
theorem x_76_15 : Xp 76 d 15 [(2, x), v1] st t g Q = Xp 76 d 16 [(2, x), v1] ((2, x) :: st) t g Q := Xp_go (i := .aload_n 0) (len := 1) (by decide +kernel) rfl
theorem x_76_16 : Xp 76 d 16 ls st t g Q = Xp 76 d 17 ls ((0, 0) :: st) t g Q := xr_const (c := 0) (by decide +kernel) (by decide)
theorem x_76_17 : Xp 76 (d + 1) 17 ls ((0, a1) :: (2, a0) :: st) t g Q = (hkJK a0 = 6 ∧ hkC8 st ∧ Xp 77 d 0 [(2, a0), (0, a1), hkU, hkU, hkU] [] t g (fun r t g => Xp 76 (d + 1) 20 ls (hkPush r st) t g Q)) := xr_invV (idx := 47) (y' := 77) (ci := 6) (tg := [2, 0]) (by decide +kernel) (by decide +kernel) (by decide +kernel) (by decide +kernel) rfl rfl rfl
theorem x_76_20 : Xp 76 d 20 [v0, v1] ((0, x) :: st) t g Q = (hkP1 v0 ∧ Xp 76 d 21 [v0, (0, x)] st t g Q) := Xp_chk (i := .istore_n 1) (len := 1) (by decide +kernel) rfl
theorem x_76_21 : Xp 76 d 21 [(2, x), v1] st t g Q = Xp 76 d 22 [(2, x), v1] ((2, x) :: st) t g Q := Xp_go (i := .aload_n 0) (len := 1) (by decide +kernel) rfl
theorem x_76_22 : Xp 76 d 22 ls ((2, p) :: st) t g Q = (hkJK p = 6 ∧ Xp 76 d 25 ls ((0, g p 7) :: st) t g Q) := xr_getI (idx := 37) (ci := 6) (k := 7) (by decide +kernel) (by decide +kernel) (by decide +kernel)
theorem x_76_25 : Xp 76 d 25 [(2, x), v1] st t g Q = Xp 76 d 26 [(2, x), v1] ((2, x) :: st) t g Q := Xp_go (i := .aload_n 0) (len := 1) (by decide +kernel) rfl
theorem x_76_26 : Xp 76 d 26 ls ((2, p) :: st) t g Q = (hkJK p = 6 ∧ Xp 76 d 29 ls ((0, g p 0) :: st) t g Q) := xr_getI (idx := 33) (ci := 6) (k := 0) (by decide +kernel) (by decide +kernel) (by decide +kernel)
theorem x_76_29 : Xp 76 d 29 ls ((0, b) :: (0, a) :: st) t g Q = ((b ≤ a → Xp 76 d 40 ls st t g Q) ∧ (¬ (b ≤ a) → Xp 76 d 32 ls st t g Q)) := xr_if2 (cd := .ge) (off := 11) (by decide +kernel) (by decide)
theorem x_76_32 : Xp 76 d 32 [(2, x), v1] st t g Q = Xp 76 d 33 [(2, x), v1] ((2, x) :: st) t g Q := Xp_go (i := .aload_n 0) (len := 1) (by decide +kernel) rfl
theorem x_76_33 : Xp 76 d 33 [(2, x), v1] st t g Q = Xp 76 d 34 [(2, x), v1] ((2, x) :: st) t g Q := Xp_go (i := .aload_n 0) (len := 1) (by decide +kernel) rfl
theorem x_76_34 : Xp 76 d 34 ls ((2, p) :: st) t g Q = (hkJK p = 6 ∧ Xp 76 d 37 ls ((0, g p 7) :: st) t g Q) := xr_getI (idx := 37) (ci := 6) (k := 7) (by decide +kernel) (by decide +kernel) (by decide +kernel)
theorem x_76_37 : Xp 76 (d + 1) 37 ls ((0, a1) :: (2, a0) :: st) t g Q = (hkJK a0 = 6 ∧ hkC8 st ∧ Xp 82 d 0 [(2, a0), (0, a1)] [] t g (fun r t g => Xp 76 (d + 1) 40 ls (hkPush r st) t g Q)) := xr_invV (idx := 51) (y' := 82) (ci := 6) (tg := [2, 0]) (by decide +kernel) (by decide +kernel) (by decide +kernel) (by decide +kernel) rfl rfl rfl
theorem x_76_40 : Xp 76 d 40 [(2, x), v1] st t g Q = Xp 76 d 41 [(2, x), v1] ((2, x) :: st) t g Q := Xp_go (i := .aload_n 0) (len := 1) (by decide +kernel) rfl
theorem x_76_41 : Xp 76 d 41 ls ((2, p) :: st) t g Q = (hkJK p = 6 ∧ Xp 76 d 44 ls ((0, g p 2) :: st) t g Q) := xr_getI (idx := 40) (ci := 6) (k := 2) (by decide +kernel) (by decide +kernel) (by decide +kernel)
theorem x_76_44 : Xp 76 d 44 ls st t g Q = Xp 76 d 45 ls ((0, -1) :: st) t g Q := xr_const (c := -1) (by decide +kernel) (by decide)
theorem x_76_45 : Xp 76 d 45 ls ((0, b) :: (0, a) :: st) t g Q = ((¬ (a = b) → Xp 76 d 53 ls st t g Q) ∧ (¬ (¬ (a = b)) → Xp 76 d 48 ls st t g Q)) := xr_if2 (cd := .ne) (off := 8) (by decide +kernel) (by decide)
theorem x_76_48 : Xp 76 d 48 [(2, x), v1] st t g Q = Xp 76 d 49 [(2, x), v1] ((2, x) :: st) t g Q := Xp_go (i := .aload_n 0) (len := 1) (by decide +kernel) rfl
theorem x_76_49 : Xp 76 d 49 [v0, (0, x)] st t g Q = Xp 76 d 50 [v0, (0, x)] ((0, x) :: st) t g Q := Xp_go (i := .iload_n 1) (len := 1) (by decide +kernel) rfl
theorem x_76_50 : Xp 76 d 50 ls ((0, x) :: (2, p) :: st) t g Q = (hkJK p = 6 ∧ Xp 76 d 53 ls st t (hkSet g p 1 x) Q) := xr_putI (idx := 55) (ci := 6) (k := 1) (by decide +kernel) (by decide +kernel) (by decide +kernel)
theorem x_76_53 : Xp 76 d 53 [(2, x), v1] st t g Q = Xp 76 d 54 [(2, x), v1] ((2, x) :: st) t g Q := Xp_go (i := .aload_n 0) (len := 1) (by decide +kernel) rfl
theorem x_76_54 : Xp 76 d 54 ls st t g Q = Xp 76 d 55 ls ((0, 0) :: st) t g Q := xr_const (c := 0) (by decide +kernel) (by decide)
theorem x_76_55 : Xp 76 d 55 ls ((0, x) :: (2, p) :: st) t g Q = (hkJK p = 6 ∧ Xp 76 d 58 ls st t (hkSet g p 0 x) Q) := xr_putI (idx := 33) (ci := 6) (k := 0) (by decide +kernel) (by decide +kernel) (by decide +kernel)
theorem x_76_58 : Xp 76 d 58 ls [] t g Q = Q none t g := xr_retV (by decide +kernel) (by decide +kernel)
-- 77: HookBoxes$Reader.readSum(I)I
theorem x_77_0 : Xp 77 d 0 [(2, x), v1, v2, v3, v4] st t g Q = Xp 77 d 1 [(2, x), v1, v2, v3, v4] ((2, x) :: st) t g Q := Xp_go (i := .aload_n 0) (len := 1) (by decide +kernel) rfl
theorem x_77_1 : Xp 77 d 1 [v0, (0, x), v2, v3, v4] st t g Q = Xp 77 d 2 [v0, (0, x), v2, v3, v4] ((0, x) :: st) t g Q := Xp_go (i := .iload_n 1) (len := 1) (by decide +kernel) rfl
theorem x_77_2 : Xp 77 (d + 1) 2 ls ((0, a1) :: (2, a0) :: st) t g Q = (hkJK a0 = 6 ∧ hkC8 st ∧ Xp 78 d 0 [(2, a0), (0, a1), hkU, hkU] [] t g (fun r t g => Xp 77 (d + 1) 5 ls (hkPush r st) t g Q)) := xr_invV (idx := 58) (y' := 78) (ci := 6) (tg := [2, 0]) (by decide +kernel) (by decide +kernel) (by decide +kernel) (by decide +kernel) rfl rfl rfl
theorem x_77_5 : Xp 77 d 5 [v0, v1, v2, v3, v4] ((0, x) :: st) t g Q = (hkP1 v1 ∧ Xp 77 d 6 [v0, v1, (0, x), v3, v4] st t g Q) := Xp_chk (i := .istore_n 2) (len := 1) (by decide +kernel) rfl
theorem x_77_6 : Xp 77 d 6 [(2, x), v1, v2, v3, v4] st t g Q = Xp 77 d 7 [(2, x), v1, v2, v3, v4] ((2, x) :: st) t g Q := Xp_go (i := .aload_n 0) (len := 1) (by decide +kernel) rfl
theorem x_77_7 : Xp 77 d 7 ls ((2, p) :: st) t g Q = (hkJK p = 6 ∧ jA p 4 ≤ t ∧ Xp 77 d 10 ls ((2, jR p 4) :: st) t g Q) := xr_getR (idx := 11) (ci := 6) (k := 4) (by decide +kernel) (by decide +kernel) (by decide +kernel)
theorem x_77_10 : Xp 77 d 10 [v0, (0, x), v2, v3, v4] st t g Q = Xp 77 d 11 [v0, (0, x), v2, v3, v4] ((0, x) :: st) t g Q := Xp_go (i := .iload_n 1) (len := 1) (by decide +kernel) rfl
theorem x_77_11 : Xp 77 d 11 ls ((0, a) :: (2, p) :: st) t g Q = ((103 ≤ hkJK p ∧ hkJK p ≤ 104 ∧ 0 ≤ a ∧ a < jL p ∧ jAi p a ≤ t) ∧ Xp 77 d 12 ls ((2, jRi p a) :: st) t g Q) := Xp_chk (i := .aaload) (len := 1) (by decide +kernel) rfl
theorem x_77_12 : Xp 77 d 12 [(2, x), v1, v2, v3, v4] st t g Q = Xp 77 d 13 [(2, x), v1, v2, v3, v4] ((2, x) :: st) t g Q := Xp_go (i := .aload_n 0) (len := 1) (by decide +kernel) rfl
theorem x_77_13 : Xp 77 d 13 ls ((2, p) :: st) t g Q = (hkJK p = 6 ∧ jA p 5 ≤ t ∧ Xp 77 d 16 ls ((2, jR p 5) :: st) t g Q) := xr_getR (idx := 17) (ci := 6) (k := 5) (by decide +kernel) (by decide +kernel) (by decide +kernel)
theorem x_77_16 : Xp 77 d 16 [v0, (0, x), v2, v3, v4] st t g Q = Xp 77 d 17 [v0, (0, x), v2, v3, v4] ((0, x) :: st) t g Q := Xp_go (i := .iload_n 1) (len := 1) (by decide +kernel) rfl
theorem x_77_17 : Xp 77 d 17 ls ((0, a) :: (2, p) :: st) t g Q = ((103 ≤ hkJK p ∧ hkJK p ≤ 104 ∧ 0 ≤ a ∧ a < jL p ∧ jAi p a ≤ t) ∧ Xp 77 d 18 ls ((2, jRi p a) :: st) t g Q) := Xp_chk (i := .aaload) (len := 1) (by decide +kernel) rfl
theorem x_77_18 : Xp 77 (d + 1) 18 ls ((2, a1) :: (2, a0) :: st) t g Q = (hkJK a0 = 7 ∧ hkC8 st ∧ Xp 90 d 0 [(2, a0), (2, a1)] [] t g (fun r t g => Xp 77 (d + 1) 21 ls (hkPush r st) t g Q)) := xr_invV (idx := 61) (y' := 90) (ci := 7) (tg := [2, 2]) (by decide +kernel) (by decide +kernel) (by decide +kernel) (by decide +kernel) rfl rfl rfl
theorem x_77_21 : Xp 77 d 21 ls st t g Q = Xp 77 d 22 ls ((0, 0) :: st) t g Q := xr_const (c := 0) (by decide +kernel) (by decide)
theorem x_77_22 : Xp 77 d 22 [v0, v1, v2, v3, v4] ((0, x) :: st) t g Q = (hkP1 v2 ∧ Xp 77 d 23 [v0, v1, v2, (0, x), v4] st t g Q) := Xp_chk (i := .istore_n 3) (len := 1) (by decide +kernel) rfl
theorem x_77_23 : Xp 77 d 23 [v0, v1, v2, (0, x), v4] st t g Q = Xp 77 d 24 [v0, v1, v2, (0, x), v4] ((0, x) :: st) t g Q := Xp_go (i := .iload_n 3) (len := 1) (by decide +kernel) rfl
theorem x_77_24 : Xp 77 d 24 ls st t g Q = Xp 77 d 26 ls ((0, 60) :: st) t g Q := xr_bi (c := 60) (by decide +kernel) (by decide)
theorem x_77_26 : Xp 77 d 26 ls ((0, b) :: (0, a) :: st) t g Q = ((b ≤ a → Xp 77 d 125 ls st t g Q) ∧ (¬ (b ≤ a) → Xp 77 d 29 ls st t g Q)) := xr_if2 (cd := .ge) (off := 99) (by decide +kernel) (by decide)
theorem x_77_29 : Xp 77 d 29 [(2, x), v1, v2, v3, v4] st t g Q = Xp 77 d 30 [(2, x), v1, v2, v3, v4] ((2, x) :: st) t g Q := Xp_go (i := .aload_n 0) (len := 1) (by decide +kernel) rfl
theorem x_77_30 : Xp 77 d 30 ls st t g Q = Xp 77 d 32 ls ((0, 43) :: st) t g Q := xr_bi (c := 43) (by decide +kernel) (by decide)
theorem x_77_32 : Xp 77 (d + 1) 32 ls ((0, a1) :: (2, a0) :: st) t g Q = (hkJK a0 = 6 ∧ hkC8 st ∧ Xp 80 d 0 [(2, a0), (0, a1)] [] t g (fun r t g => Xp 77 (d + 1) 35 ls (hkPush r st) t g Q)) := xr_invV (idx := 65) (y' := 80) (ci := 6) (tg := [2, 0]) (by decide +kernel) (by decide +kernel) (by decide +kernel) (by decide +kernel) rfl rfl rfl
theorem x_77_35 : Xp 77 d 35 ls ((0, a) :: st) t g Q = ((¬ (a = 0) → Xp 77 d 47 ls st t g Q) ∧ (¬ (¬ (a = 0)) → Xp 77 d 38 ls st t g Q)) := xr_if1 (cd := .ne) (off := 12) (by decide +kernel) (by decide)
theorem x_77_38 : Xp 77 d 38 [(2, x), v1, v2, v3, v4] st t g Q = Xp 77 d 39 [(2, x), v1, v2, v3, v4] ((2, x) :: st) t g Q := Xp_go (i := .aload_n 0) (len := 1) (by decide +kernel) rfl
theorem x_77_39 : Xp 77 d 39 ls st t g Q = Xp 77 d 41 ls ((0, 45) :: st) t g Q := xr_bi (c := 45) (by decide +kernel) (by decide)
theorem x_77_41 : Xp 77 (d + 1) 41 ls ((0, a1) :: (2, a0) :: st) t g Q = (hkJK a0 = 6 ∧ hkC8 st ∧ Xp 80 d 0 [(2, a0), (0, a1)] [] t g (fun r t g => Xp 77 (d + 1) 44 ls (hkPush r st) t g Q)) := xr_invV (idx := 65) (y' := 80) (ci := 6) (tg := [2, 0]) (by decide +kernel) (by decide +kernel) (by decide +kernel) (by decide +kernel) rfl rfl rfl
theorem x_77_44 : Xp 77 d 44 ls ((0, a) :: st) t g Q = ((a = 0 → Xp 77 d 125 ls st t g Q) ∧ (¬ (a = 0) → Xp 77 d 47 ls st t g Q)) := xr_if1 (cd := .eq) (off := 81) (by decide +kernel) (by decide)
theorem x_77_47 : Xp 77 d 47 [(2, x), v1, v2, v3, v4] st t g Q = Xp 77 d 48 [(2, x), v1, v2, v3, v4] ((2, x) :: st) t g Q := Xp_go (i := .aload_n 0) (len := 1) (by decide +kernel) rfl
theorem x_77_48 : Xp 77 d 48 ls st t g Q = Xp 77 d 50 ls ((0, 43) :: st) t g Q := xr_bi (c := 43) (by decide +kernel) (by decide)
theorem x_77_50 : Xp 77 (d + 1) 50 ls ((0, a1) :: (2, a0) :: st) t g Q = (hkJK a0 = 6 ∧ hkC8 st ∧ Xp 80 d 0 [(2, a0), (0, a1)] [] t g (fun r t g => Xp 77 (d + 1) 53 ls (hkPush r st) t g Q)) := xr_invV (idx := 65) (y' := 80) (ci := 6) (tg := [2, 0]) (by decide +kernel) (by decide +kernel) (by decide +kernel) (by decide +kernel) rfl rfl rfl
theorem x_77_53 : Xp 77 d 53 ls ((0, a) :: st) t g Q = ((a = 0 → Xp 77 d 60 ls st t g Q) ∧ (¬ (a = 0) → Xp 77 d 56 ls st t g Q)) := xr_if1 (cd := .eq) (off := 7) (by decide +kernel) (by decide)
theorem x_77_56 : Xp 77 d 56 ls st t g Q = Xp 77 d 57 ls ((0, 1) :: st) t g Q := xr_const (c := 1) (by decide +kernel) (by decide)
theorem x_77_57 : Xp 77 d 57 ls st t g Q = Xp 77 d 61 ls st t g Q := xr_goto (off := 4) (by decide +kernel) (by decide)
theorem x_77_60 : Xp 77 d 60 ls st t g Q = Xp 77 d 61 ls ((0, -1) :: st) t g Q := xr_const (c := -1) (by decide +kernel) (by decide)
theorem x_77_61 : Xp 77 d 61 [v0, v1, v2, v3, v4] ((0, x) :: st) t g Q = (hkP1 v3 ∧ Xp 77 d 63 [v0, v1, v2, v3, (0, x)] st t g Q) := Xp_chk (i := .istore 4) (len := 2) (by decide +kernel) rfl
theorem x_77_63 : Xp 77 d 63 [(2, x), v1, v2, v3, v4] st t g Q = Xp 77 d 64 [(2, x), v1, v2, v3, v4] ((2, x) :: st) t g Q := Xp_go (i := .aload_n 0) (len := 1) (by decide +kernel) rfl
theorem x_77_64 : Xp 77 d 64 ls (v :: st) t g Q = (hkP1 v ∧ Xp 77 d 65 ls (v :: v :: st) t g Q) := Xp_chk (i := .dup) (len := 1) (by decide +kernel) rfl
theorem x_77_65 : Xp 77 d 65 ls ((2, p) :: st) t g Q = (hkJK p = 6 ∧ Xp 77 d 68 ls ((0, g p 7) :: st) t g Q) := xr_getI (idx := 37) (ci := 6) (k := 7) (by decide +kernel) (by decide +kernel) (by decide +kernel)
theorem x_77_68 : Xp 77 d 68 ls st t g Q = Xp 77 d 69 ls ((0, 1) :: st) t g Q := xr_const (c := 1) (by decide +kernel) (by decide)
theorem x_77_69 : Xp 77 d 69 ls ((0, b) :: (0, a) :: st) t g Q = Xp 77 d 70 ls ((0, hkW (a + b)) :: st) t g Q := Xp_go (i := .iadd) (len := 1) (by decide +kernel) rfl
theorem x_77_70 : Xp 77 d 70 ls ((0, x) :: (2, p) :: st) t g Q = (hkJK p = 6 ∧ Xp 77 d 73 ls st t (hkSet g p 7 x) Q) := xr_putI (idx := 37) (ci := 6) (k := 7) (by decide +kernel) (by decide +kernel) (by decide +kernel)
theorem x_77_73 : Xp 77 d 73 [v0, v1, (0, x), v3, v4] st t g Q = Xp 77 d 74 [v0, v1, (0, x), v3, v4] ((0, x) :: st) t g Q := Xp_go (i := .iload_n 2) (len := 1) (by decide +kernel) rfl
theorem x_77_74 : Xp 77 d 74 ls st t g Q = Xp 77 d 75 ls ((0, 1) :: st) t g Q := xr_const (c := 1) (by decide +kernel) (by decide)
theorem x_77_75 : Xp 77 d 75 [(2, x), v1, v2, v3, v4] st t g Q = Xp 77 d 76 [(2, x), v1, v2, v3, v4] ((2, x) :: st) t g Q := Xp_go (i := .aload_n 0) (len := 1) (by decide +kernel) rfl
theorem x_77_76 : Xp 77 d 76 [v0, (0, x), v2, v3, v4] st t g Q = Xp 77 d 77 [v0, (0, x), v2, v3, v4] ((0, x) :: st) t g Q := Xp_go (i := .iload_n 1) (len := 1) (by decide +kernel) rfl
theorem x_77_77 : Xp 77 (d + 1) 77 ls ((0, a1) :: (2, a0) :: st) t g Q = (hkJK a0 = 6 ∧ hkC8 st ∧ Xp 78 d 0 [(2, a0), (0, a1), hkU, hkU] [] t g (fun r t g => Xp 77 (d + 1) 80 ls (hkPush r st) t g Q)) := xr_invV (idx := 58) (y' := 78) (ci := 6) (tg := [2, 0]) (by decide +kernel) (by decide +kernel) (by decide +kernel) (by decide +kernel) rfl rfl rfl
theorem x_77_80 : Xp 77 d 80 ls ((0, b) :: (0, a) :: st) t g Q = Xp 77 d 81 ls ((0, hkW (a + b)) :: st) t g Q := Xp_go (i := .iadd) (len := 1) (by decide +kernel) rfl
theorem x_77_81 : Xp 77 d 81 ls ((0, b) :: (0, a) :: st) t g Q = Xp 77 d 82 ls ((0, hkW (a + b)) :: st) t g Q := Xp_go (i := .iadd) (len := 1) (by decide +kernel) rfl
theorem x_77_82 : Xp 77 d 82 [v0, v1, v2, v3, v4] ((0, x) :: st) t g Q = (hkP1 v1 ∧ Xp 77 d 83 [v0, v1, (0, x), v3, v4] st t g Q) := Xp_chk (i := .istore_n 2) (len := 1) (by decide +kernel) rfl
theorem x_77_83 : Xp 77 d 83 [(2, x), v1, v2, v3, v4] st t g Q = Xp 77 d 84 [(2, x), v1, v2, v3, v4] ((2, x) :: st) t g Q := Xp_go (i := .aload_n 0) (len := 1) (by decide +kernel) rfl
theorem x_77_84 : Xp 77 (d + 1) 84 ls ((2, a0) :: st) t g Q = (hkJK a0 = 6 ∧ hkC8 st ∧ Xp 86 d 0 [(2, a0)] [] t g (fun r t g => Xp 77 (d + 1) 87 ls (hkPush r st) t g Q)) := xr_invV (idx := 69) (y' := 86) (ci := 6) (tg := [2]) (by decide +kernel) (by decide +kernel) (by decide +kernel) (by decide +kernel) rfl rfl rfl
theorem x_77_87 : Xp 77 d 87 ls ((0, a) :: st) t g Q = ((a = 0 → Xp 77 d 119 ls st t g Q) ∧ (¬ (a = 0) → Xp 77 d 90 ls st t g Q)) := xr_if1 (cd := .eq) (off := 32) (by decide +kernel) (by decide)
theorem x_77_90 : Xp 77 d 90 [(2, x), v1, v2, v3, v4] st t g Q = Xp 77 d 91 [(2, x), v1, v2, v3, v4] ((2, x) :: st) t g Q := Xp_go (i := .aload_n 0) (len := 1) (by decide +kernel) rfl
theorem x_77_91 : Xp 77 d 91 [(2, x), v1, v2, v3, v4] st t g Q = Xp 77 d 92 [(2, x), v1, v2, v3, v4] ((2, x) :: st) t g Q := Xp_go (i := .aload_n 0) (len := 1) (by decide +kernel) rfl
theorem x_77_92 : Xp 77 d 92 ls ((2, p) :: st) t g Q = (hkJK p = 6 ∧ jA p 4 ≤ t ∧ Xp 77 d 95 ls ((2, jR p 4) :: st) t g Q) := xr_getR (idx := 11) (ci := 6) (k := 4) (by decide +kernel) (by decide +kernel) (by decide +kernel)
theorem x_77_95 : Xp 77 d 95 [v0, (0, x), v2, v3, v4] st t g Q = Xp 77 d 96 [v0, (0, x), v2, v3, v4] ((0, x) :: st) t g Q := Xp_go (i := .iload_n 1) (len := 1) (by decide +kernel) rfl
theorem x_77_96 : Xp 77 d 96 ls ((0, a) :: (2, p) :: st) t g Q = ((103 ≤ hkJK p ∧ hkJK p ≤ 104 ∧ 0 ≤ a ∧ a < jL p ∧ jAi p a ≤ t) ∧ Xp 77 d 97 ls ((2, jRi p a) :: st) t g Q) := Xp_chk (i := .aaload) (len := 1) (by decide +kernel) rfl
theorem x_77_97 : Xp 77 d 97 [(2, x), v1, v2, v3, v4] st t g Q = Xp 77 d 98 [(2, x), v1, v2, v3, v4] ((2, x) :: st) t g Q := Xp_go (i := .aload_n 0) (len := 1) (by decide +kernel) rfl
theorem x_77_98 : Xp 77 d 98 ls ((2, p) :: st) t g Q = (hkJK p = 6 ∧ jA p 5 ≤ t ∧ Xp 77 d 101 ls ((2, jR p 5) :: st) t g Q) := xr_getR (idx := 17) (ci := 6) (k := 5) (by decide +kernel) (by decide +kernel) (by decide +kernel)
theorem x_77_101 : Xp 77 d 101 [v0, (0, x), v2, v3, v4] st t g Q = Xp 77 d 102 [v0, (0, x), v2, v3, v4] ((0, x) :: st) t g Q := Xp_go (i := .iload_n 1) (len := 1) (by decide +kernel) rfl
theorem x_77_102 : Xp 77 d 102 ls ((0, a) :: (2, p) :: st) t g Q = ((103 ≤ hkJK p ∧ hkJK p ≤ 104 ∧ 0 ≤ a ∧ a < jL p ∧ jAi p a ≤ t) ∧ Xp 77 d 103 ls ((2, jRi p a) :: st) t g Q) := Xp_chk (i := .aaload) (len := 1) (by decide +kernel) rfl
theorem x_77_103 : Xp 77 d 103 [v0, v1, v2, v3, (0, x)] st t g Q = Xp 77 d 105 [v0, v1, v2, v3, (0, x)] ((0, x) :: st) t g Q := Xp_go (i := .iload 4) (len := 2) (by decide +kernel) rfl
theorem x_77_105 : Xp 77 (d + 1) 105 ls ((0, a2) :: (2, a1) :: (2, a0) :: st) t g Q = (hkJK a0 = 7 ∧ hkC8 st ∧ Xp 91 d 0 [(2, a0), (2, a1), (0, a2), hkU, hkU] [] t g (fun r t g => Xp 77 (d + 1) 108 ls (hkPush r st) t g Q)) := xr_invV (idx := 73) (y' := 91) (ci := 7) (tg := [2, 2, 0]) (by decide +kernel) (by decide +kernel) (by decide +kernel) (by decide +kernel) rfl rfl rfl
theorem x_77_108 : Xp 77 d 108 ls ((0, a) :: st) t g Q = ((¬ (a = 0) → Xp 77 d 115 ls st t g Q) ∧ (¬ (¬ (a = 0)) → Xp 77 d 111 ls st t g Q)) := xr_if1 (cd := .ne) (off := 7) (by decide +kernel) (by decide)
theorem x_77_111 : Xp 77 d 111 ls st t g Q = Xp 77 d 112 ls ((0, 1) :: st) t g Q := xr_const (c := 1) (by decide +kernel) (by decide)
theorem x_77_112 : Xp 77 d 112 ls st t g Q = Xp 77 d 116 ls st t g Q := xr_goto (off := 4) (by decide +kernel) (by decide)
theorem x_77_115 : Xp 77 d 115 ls st t g Q = Xp 77 d 116 ls ((0, 0) :: st) t g Q := xr_const (c := 0) (by decide +kernel) (by decide)
theorem x_77_116 : Xp 77 d 116 ls ((0, x) :: (2, p) :: st) t g Q = (hkJK p = 6 ∧ (x = 0 ∨ x = 1) ∧ Xp 77 d 119 ls st t (hkSet g p 3 x) Q) := xr_putB (idx := 43) (ci := 6) (k := 3) (by decide +kernel) (by decide +kernel) (by decide +kernel)
theorem x_77_119 : Xp 77 d 119 [v0, v1, v2, (0, x), v4] st t g Q = (hkP1 v2 ∧ Xp 77 d 122 [v0, v1, v2, (0, hkW (x + 1)), v4] st t g Q) := Xp_chk (i := .iinc 3 (1)) (len := 3) (by decide +kernel) rfl
theorem x_77_122 : Xp 77 d 122 ls st t g Q = Xp 77 d 23 ls st t g Q := xr_goto (off := -99) (by decide +kernel) (by decide)
theorem x_77_125 : Xp 77 d 125 [v0, v1, (0, x), v3, v4] st t g Q = Xp 77 d 126 [v0, v1, (0, x), v3, v4] ((0, x) :: st) t g Q := Xp_go (i := .iload_n 2) (len := 1) (by decide +kernel) rfl
theorem x_77_126 : Xp 77 d 126 ls [(0, x)] t g Q = Q (some (0, x)) t g := xr_retI (by decide +kernel) (by decide +kernel)
-- 78: HookBoxes$Reader.readProduct(I)I
theorem x_78_0 : Xp 78 d 0 [(2, x), v1, v2, v3] st t g Q = Xp 78 d 1 [(2, x), v1, v2, v3] ((2, x) :: st) t g Q := Xp_go (i := .aload_n 0) (len := 1) (by decide +kernel) rfl
theorem x_78_1 : Xp 78 d 1 [v0, (0, x), v2, v3] st t g Q = Xp 78 d 2 [v0, (0, x), v2, v3] ((0, x) :: st) t g Q := Xp_go (i := .iload_n 1) (len := 1) (by decide +kernel) rfl
theorem x_78_2 : Xp 78 (d + 1) 2 ls ((0, a1) :: (2, a0) :: st) t g Q = (hkJK a0 = 6 ∧ hkC8 st ∧ Xp 79 d 0 [(2, a0), (0, a1), hkU] [] t g (fun r t g => Xp 78 (d + 1) 5 ls (hkPush r st) t g Q)) := xr_invV (idx := 77) (y' := 79) (ci := 6) (tg := [2, 0]) (by decide +kernel) (by decide +kernel) (by decide +kernel) (by decide +kernel) rfl rfl rfl
theorem x_78_5 : Xp 78 d 5 [v0, v1, v2, v3] ((0, x) :: st) t g Q = (hkP1 v1 ∧ Xp 78 d 6 [v0, v1, (0, x), v3] st t g Q) := Xp_chk (i := .istore_n 2) (len := 1) (by decide +kernel) rfl
theorem x_78_6 : Xp 78 d 6 [(2, x), v1, v2, v3] st t g Q = Xp 78 d 7 [(2, x), v1, v2, v3] ((2, x) :: st) t g Q := Xp_go (i := .aload_n 0) (len := 1) (by decide +kernel) rfl
theorem x_78_7 : Xp 78 d 7 ls ((2, p) :: st) t g Q = (hkJK p = 6 ∧ jA p 5 ≤ t ∧ Xp 78 d 10 ls ((2, jR p 5) :: st) t g Q) := xr_getR (idx := 17) (ci := 6) (k := 5) (by decide +kernel) (by decide +kernel) (by decide +kernel)
theorem x_78_10 : Xp 78 d 10 [v0, (0, x), v2, v3] st t g Q = Xp 78 d 11 [v0, (0, x), v2, v3] ((0, x) :: st) t g Q := Xp_go (i := .iload_n 1) (len := 1) (by decide +kernel) rfl
theorem x_78_11 : Xp 78 d 11 ls ((0, a) :: (2, p) :: st) t g Q = ((103 ≤ hkJK p ∧ hkJK p ≤ 104 ∧ 0 ≤ a ∧ a < jL p ∧ jAi p a ≤ t) ∧ Xp 78 d 12 ls ((2, jRi p a) :: st) t g Q) := Xp_chk (i := .aaload) (len := 1) (by decide +kernel) rfl
theorem x_78_12 : Xp 78 d 12 [(2, x), v1, v2, v3] st t g Q = Xp 78 d 13 [(2, x), v1, v2, v3] ((2, x) :: st) t g Q := Xp_go (i := .aload_n 0) (len := 1) (by decide +kernel) rfl
theorem x_78_13 : Xp 78 d 13 ls ((2, p) :: st) t g Q = (hkJK p = 6 ∧ jA p 4 ≤ t ∧ Xp 78 d 16 ls ((2, jR p 4) :: st) t g Q) := xr_getR (idx := 11) (ci := 6) (k := 4) (by decide +kernel) (by decide +kernel) (by decide +kernel)
theorem x_78_16 : Xp 78 d 16 [v0, (0, x), v2, v3] st t g Q = Xp 78 d 17 [v0, (0, x), v2, v3] ((0, x) :: st) t g Q := Xp_go (i := .iload_n 1) (len := 1) (by decide +kernel) rfl
theorem x_78_17 : Xp 78 d 17 ls st t g Q = Xp 78 d 18 ls ((0, 1) :: st) t g Q := xr_const (c := 1) (by decide +kernel) (by decide)
theorem x_78_18 : Xp 78 d 18 ls ((0, b) :: (0, a) :: st) t g Q = Xp 78 d 19 ls ((0, hkW (a + b)) :: st) t g Q := Xp_go (i := .iadd) (len := 1) (by decide +kernel) rfl
theorem x_78_19 : Xp 78 d 19 ls ((0, a) :: (2, p) :: st) t g Q = ((103 ≤ hkJK p ∧ hkJK p ≤ 104 ∧ 0 ≤ a ∧ a < jL p ∧ jAi p a ≤ t) ∧ Xp 78 d 20 ls ((2, jRi p a) :: st) t g Q) := Xp_chk (i := .aaload) (len := 1) (by decide +kernel) rfl
theorem x_78_20 : Xp 78 (d + 1) 20 ls ((2, a1) :: (2, a0) :: st) t g Q = (hkJK a0 = 7 ∧ hkC8 st ∧ Xp 90 d 0 [(2, a0), (2, a1)] [] t g (fun r t g => Xp 78 (d + 1) 23 ls (hkPush r st) t g Q)) := xr_invV (idx := 61) (y' := 90) (ci := 7) (tg := [2, 2]) (by decide +kernel) (by decide +kernel) (by decide +kernel) (by decide +kernel) rfl rfl rfl
theorem x_78_23 : Xp 78 d 23 ls st t g Q = Xp 78 d 24 ls ((0, 0) :: st) t g Q := xr_const (c := 0) (by decide +kernel) (by decide)
theorem x_78_24 : Xp 78 d 24 [v0, v1, v2, v3] ((0, x) :: st) t g Q = (hkP1 v2 ∧ Xp 78 d 25 [v0, v1, v2, (0, x)] st t g Q) := Xp_chk (i := .istore_n 3) (len := 1) (by decide +kernel) rfl
theorem x_78_25 : Xp 78 d 25 [v0, v1, v2, (0, x)] st t g Q = Xp 78 d 26 [v0, v1, v2, (0, x)] ((0, x) :: st) t g Q := Xp_go (i := .iload_n 3) (len := 1) (by decide +kernel) rfl
theorem x_78_26 : Xp 78 d 26 ls st t g Q = Xp 78 d 28 ls ((0, 60) :: st) t g Q := xr_bi (c := 60) (by decide +kernel) (by decide)
theorem x_78_28 : Xp 78 d 28 ls ((0, b) :: (0, a) :: st) t g Q = ((b ≤ a → Xp 78 d 108 ls st t g Q) ∧ (¬ (b ≤ a) → Xp 78 d 31 ls st t g Q)) := xr_if2 (cd := .ge) (off := 80) (by decide +kernel) (by decide)
theorem x_78_31 : Xp 78 d 31 [(2, x), v1, v2, v3] st t g Q = Xp 78 d 32 [(2, x), v1, v2, v3] ((2, x) :: st) t g Q := Xp_go (i := .aload_n 0) (len := 1) (by decide +kernel) rfl
theorem x_78_32 : Xp 78 d 32 ls st t g Q = Xp 78 d 34 ls ((0, 42) :: st) t g Q := xr_bi (c := 42) (by decide +kernel) (by decide)
theorem x_78_34 : Xp 78 (d + 1) 34 ls ((0, a1) :: (2, a0) :: st) t g Q = (hkJK a0 = 6 ∧ hkC8 st ∧ Xp 80 d 0 [(2, a0), (0, a1)] [] t g (fun r t g => Xp 78 (d + 1) 37 ls (hkPush r st) t g Q)) := xr_invV (idx := 65) (y' := 80) (ci := 6) (tg := [2, 0]) (by decide +kernel) (by decide +kernel) (by decide +kernel) (by decide +kernel) rfl rfl rfl
theorem x_78_37 : Xp 78 d 37 ls ((0, a) :: st) t g Q = ((a = 0 → Xp 78 d 108 ls st t g Q) ∧ (¬ (a = 0) → Xp 78 d 40 ls st t g Q)) := xr_if1 (cd := .eq) (off := 71) (by decide +kernel) (by decide)
theorem x_78_40 : Xp 78 d 40 [(2, x), v1, v2, v3] st t g Q = Xp 78 d 41 [(2, x), v1, v2, v3] ((2, x) :: st) t g Q := Xp_go (i := .aload_n 0) (len := 1) (by decide +kernel) rfl
theorem x_78_41 : Xp 78 d 41 ls (v :: st) t g Q = (hkP1 v ∧ Xp 78 d 42 ls (v :: v :: st) t g Q) := Xp_chk (i := .dup) (len := 1) (by decide +kernel) rfl
theorem x_78_42 : Xp 78 d 42 ls ((2, p) :: st) t g Q = (hkJK p = 6 ∧ Xp 78 d 45 ls ((0, g p 7) :: st) t g Q) := xr_getI (idx := 37) (ci := 6) (k := 7) (by decide +kernel) (by decide +kernel) (by decide +kernel)
theorem x_78_45 : Xp 78 d 45 ls st t g Q = Xp 78 d 46 ls ((0, 1) :: st) t g Q := xr_const (c := 1) (by decide +kernel) (by decide)
theorem x_78_46 : Xp 78 d 46 ls ((0, b) :: (0, a) :: st) t g Q = Xp 78 d 47 ls ((0, hkW (a + b)) :: st) t g Q := Xp_go (i := .iadd) (len := 1) (by decide +kernel) rfl
theorem x_78_47 : Xp 78 d 47 ls ((0, x) :: (2, p) :: st) t g Q = (hkJK p = 6 ∧ Xp 78 d 50 ls st t (hkSet g p 7 x) Q) := xr_putI (idx := 37) (ci := 6) (k := 7) (by decide +kernel) (by decide +kernel) (by decide +kernel)
theorem x_78_50 : Xp 78 d 50 ls st t g Q = Xp 78 d 51 ls ((0, 1) :: st) t g Q := xr_const (c := 1) (by decide +kernel) (by decide)
theorem x_78_51 : Xp 78 d 51 [v0, v1, (0, x), v3] st t g Q = Xp 78 d 52 [v0, v1, (0, x), v3] ((0, x) :: st) t g Q := Xp_go (i := .iload_n 2) (len := 1) (by decide +kernel) rfl
theorem x_78_52 : Xp 78 d 52 [(2, x), v1, v2, v3] st t g Q = Xp 78 d 53 [(2, x), v1, v2, v3] ((2, x) :: st) t g Q := Xp_go (i := .aload_n 0) (len := 1) (by decide +kernel) rfl
theorem x_78_53 : Xp 78 d 53 [v0, (0, x), v2, v3] st t g Q = Xp 78 d 54 [v0, (0, x), v2, v3] ((0, x) :: st) t g Q := Xp_go (i := .iload_n 1) (len := 1) (by decide +kernel) rfl
theorem x_78_54 : Xp 78 (d + 1) 54 ls ((0, a1) :: (2, a0) :: st) t g Q = (hkJK a0 = 6 ∧ hkC8 st ∧ Xp 79 d 0 [(2, a0), (0, a1), hkU] [] t g (fun r t g => Xp 78 (d + 1) 57 ls (hkPush r st) t g Q)) := xr_invV (idx := 77) (y' := 79) (ci := 6) (tg := [2, 0]) (by decide +kernel) (by decide +kernel) (by decide +kernel) (by decide +kernel) rfl rfl rfl
theorem x_78_57 : Xp 78 (d + 1) 57 ls ((0, a1) :: (0, a0) :: st) t g Q = (hkC8 st ∧ Xp 175 d 0 [(0, a0), (0, a1)] [] t g (fun r t g => Xp 78 (d + 1) 60 ls (hkPush r st) t g Q)) := xr_invS (idx := 80) (y' := 175) (tg := [0, 0]) (by decide +kernel) (by decide +kernel) (by decide +kernel) rfl rfl
theorem x_78_60 : Xp 78 d 60 ls ((0, b) :: (0, a) :: st) t g Q = Xp 78 d 61 ls ((0, hkW (a + b)) :: st) t g Q := Xp_go (i := .iadd) (len := 1) (by decide +kernel) rfl
theorem x_78_61 : Xp 78 d 61 [v0, v1, v2, v3] ((0, x) :: st) t g Q = (hkP1 v1 ∧ Xp 78 d 62 [v0, v1, (0, x), v3] st t g Q) := Xp_chk (i := .istore_n 2) (len := 1) (by decide +kernel) rfl
theorem x_78_62 : Xp 78 d 62 [(2, x), v1, v2, v3] st t g Q = Xp 78 d 63 [(2, x), v1, v2, v3] ((2, x) :: st) t g Q := Xp_go (i := .aload_n 0) (len := 1) (by decide +kernel) rfl
theorem x_78_63 : Xp 78 (d + 1) 63 ls ((2, a0) :: st) t g Q = (hkJK a0 = 6 ∧ hkC8 st ∧ Xp 86 d 0 [(2, a0)] [] t g (fun r t g => Xp 78 (d + 1) 66 ls (hkPush r st) t g Q)) := xr_invV (idx := 69) (y' := 86) (ci := 6) (tg := [2]) (by decide +kernel) (by decide +kernel) (by decide +kernel) (by decide +kernel) rfl rfl rfl
theorem x_78_66 : Xp 78 d 66 ls ((0, a) :: st) t g Q = ((a = 0 → Xp 78 d 102 ls st t g Q) ∧ (¬ (a = 0) → Xp 78 d 69 ls st t g Q)) := xr_if1 (cd := .eq) (off := 36) (by decide +kernel) (by decide)
theorem x_78_69 : Xp 78 d 69 [(2, x), v1, v2, v3] st t g Q = Xp 78 d 70 [(2, x), v1, v2, v3] ((2, x) :: st) t g Q := Xp_go (i := .aload_n 0) (len := 1) (by decide +kernel) rfl
theorem x_78_70 : Xp 78 d 70 [(2, x), v1, v2, v3] st t g Q = Xp 78 d 71 [(2, x), v1, v2, v3] ((2, x) :: st) t g Q := Xp_go (i := .aload_n 0) (len := 1) (by decide +kernel) rfl
theorem x_78_71 : Xp 78 d 71 ls ((2, p) :: st) t g Q = (hkJK p = 6 ∧ jA p 9 ≤ t ∧ Xp 78 d 74 ls ((2, jR p 9) :: st) t g Q) := xr_getR (idx := 28) (ci := 6) (k := 9) (by decide +kernel) (by decide +kernel) (by decide +kernel)
theorem x_78_74 : Xp 78 d 74 [(2, x), v1, v2, v3] st t g Q = Xp 78 d 75 [(2, x), v1, v2, v3] ((2, x) :: st) t g Q := Xp_go (i := .aload_n 0) (len := 1) (by decide +kernel) rfl
theorem x_78_75 : Xp 78 d 75 ls ((2, p) :: st) t g Q = (hkJK p = 6 ∧ jA p 5 ≤ t ∧ Xp 78 d 78 ls ((2, jR p 5) :: st) t g Q) := xr_getR (idx := 17) (ci := 6) (k := 5) (by decide +kernel) (by decide +kernel) (by decide +kernel)
theorem x_78_78 : Xp 78 d 78 [v0, (0, x), v2, v3] st t g Q = Xp 78 d 79 [v0, (0, x), v2, v3] ((0, x) :: st) t g Q := Xp_go (i := .iload_n 1) (len := 1) (by decide +kernel) rfl
theorem x_78_79 : Xp 78 d 79 ls ((0, a) :: (2, p) :: st) t g Q = ((103 ≤ hkJK p ∧ hkJK p ≤ 104 ∧ 0 ≤ a ∧ a < jL p ∧ jAi p a ≤ t) ∧ Xp 78 d 80 ls ((2, jRi p a) :: st) t g Q) := Xp_chk (i := .aaload) (len := 1) (by decide +kernel) rfl
theorem x_78_80 : Xp 78 d 80 [(2, x), v1, v2, v3] st t g Q = Xp 78 d 81 [(2, x), v1, v2, v3] ((2, x) :: st) t g Q := Xp_go (i := .aload_n 0) (len := 1) (by decide +kernel) rfl
theorem x_78_81 : Xp 78 d 81 ls ((2, p) :: st) t g Q = (hkJK p = 6 ∧ jA p 4 ≤ t ∧ Xp 78 d 84 ls ((2, jR p 4) :: st) t g Q) := xr_getR (idx := 11) (ci := 6) (k := 4) (by decide +kernel) (by decide +kernel) (by decide +kernel)
theorem x_78_84 : Xp 78 d 84 [v0, (0, x), v2, v3] st t g Q = Xp 78 d 85 [v0, (0, x), v2, v3] ((0, x) :: st) t g Q := Xp_go (i := .iload_n 1) (len := 1) (by decide +kernel) rfl
theorem x_78_85 : Xp 78 d 85 ls st t g Q = Xp 78 d 86 ls ((0, 1) :: st) t g Q := xr_const (c := 1) (by decide +kernel) (by decide)
theorem x_78_86 : Xp 78 d 86 ls ((0, b) :: (0, a) :: st) t g Q = Xp 78 d 87 ls ((0, hkW (a + b)) :: st) t g Q := Xp_go (i := .iadd) (len := 1) (by decide +kernel) rfl
theorem x_78_87 : Xp 78 d 87 ls ((0, a) :: (2, p) :: st) t g Q = ((103 ≤ hkJK p ∧ hkJK p ≤ 104 ∧ 0 ≤ a ∧ a < jL p ∧ jAi p a ≤ t) ∧ Xp 78 d 88 ls ((2, jRi p a) :: st) t g Q) := Xp_chk (i := .aaload) (len := 1) (by decide +kernel) rfl
theorem x_78_88 : Xp 78 (d + 1) 88 ls ((2, a2) :: (2, a1) :: (2, a0) :: st) t g Q = (hkJK a0 = 5 ∧ hkC8 st ∧ Xp 71 d 0 [(2, a0), (2, a1), (2, a2), hkU, hkU, hkU] [] t g (fun r t g => Xp 78 (d + 1) 91 ls (hkPush r st) t g Q)) := xr_invV (idx := 86) (y' := 71) (ci := 5) (tg := [2, 2, 2]) (by decide +kernel) (by decide +kernel) (by decide +kernel) (by decide +kernel) rfl rfl rfl
theorem x_78_91 : Xp 78 d 91 ls ((0, a) :: st) t g Q = ((¬ (a = 0) → Xp 78 d 98 ls st t g Q) ∧ (¬ (¬ (a = 0)) → Xp 78 d 94 ls st t g Q)) := xr_if1 (cd := .ne) (off := 7) (by decide +kernel) (by decide)
theorem x_78_94 : Xp 78 d 94 ls st t g Q = Xp 78 d 95 ls ((0, 1) :: st) t g Q := xr_const (c := 1) (by decide +kernel) (by decide)
theorem x_78_95 : Xp 78 d 95 ls st t g Q = Xp 78 d 99 ls st t g Q := xr_goto (off := 4) (by decide +kernel) (by decide)
theorem x_78_98 : Xp 78 d 98 ls st t g Q = Xp 78 d 99 ls ((0, 0) :: st) t g Q := xr_const (c := 0) (by decide +kernel) (by decide)
theorem x_78_99 : Xp 78 d 99 ls ((0, x) :: (2, p) :: st) t g Q = (hkJK p = 6 ∧ (x = 0 ∨ x = 1) ∧ Xp 78 d 102 ls st t (hkSet g p 3 x) Q) := xr_putB (idx := 43) (ci := 6) (k := 3) (by decide +kernel) (by decide +kernel) (by decide +kernel)
theorem x_78_102 : Xp 78 d 102 [v0, v1, v2, (0, x)] st t g Q = (hkP1 v2 ∧ Xp 78 d 105 [v0, v1, v2, (0, hkW (x + 1))] st t g Q) := Xp_chk (i := .iinc 3 (1)) (len := 3) (by decide +kernel) rfl
theorem x_78_105 : Xp 78 d 105 ls st t g Q = Xp 78 d 25 ls st t g Q := xr_goto (off := -80) (by decide +kernel) (by decide)
theorem x_78_108 : Xp 78 d 108 [v0, v1, (0, x), v3] st t g Q = Xp 78 d 109 [v0, v1, (0, x), v3] ((0, x) :: st) t g Q := Xp_go (i := .iload_n 2) (len := 1) (by decide +kernel) rfl
theorem x_78_109 : Xp 78 d 109 ls [(0, x)] t g Q = Q (some (0, x)) t g := xr_retI (by decide +kernel) (by decide +kernel)
-- 79: HookBoxes$Reader.readOne(I)I
theorem x_79_0 : Xp 79 d 0 [(2, x), v1, v2] st t g Q = Xp 79 d 1 [(2, x), v1, v2] ((2, x) :: st) t g Q := Xp_go (i := .aload_n 0) (len := 1) (by decide +kernel) rfl
theorem x_79_1 : Xp 79 d 1 ls st t g Q = Xp 79 d 3 ls ((0, 40) :: st) t g Q := xr_bi (c := 40) (by decide +kernel) (by decide)
theorem x_79_3 : Xp 79 (d + 1) 3 ls ((0, a1) :: (2, a0) :: st) t g Q = (hkJK a0 = 6 ∧ hkC8 st ∧ Xp 80 d 0 [(2, a0), (0, a1)] [] t g (fun r t g => Xp 79 (d + 1) 6 ls (hkPush r st) t g Q)) := xr_invV (idx := 65) (y' := 80) (ci := 6) (tg := [2, 0]) (by decide +kernel) (by decide +kernel) (by decide +kernel) (by decide +kernel) rfl rfl rfl
theorem x_79_6 : Xp 79 d 6 ls ((0, a) :: st) t g Q = ((a = 0 → Xp 79 d 15 ls st t g Q) ∧ (¬ (a = 0) → Xp 79 d 9 ls st t g Q)) := xr_if1 (cd := .eq) (off := 9) (by decide +kernel) (by decide)
theorem x_79_9 : Xp 79 d 9 [(2, x), v1, v2] st t g Q = Xp 79 d 10 [(2, x), v1, v2] ((2, x) :: st) t g Q := Xp_go (i := .aload_n 0) (len := 1) (by decide +kernel) rfl
theorem x_79_10 : Xp 79 d 10 [v0, (0, x), v2] st t g Q = Xp 79 d 11 [v0, (0, x), v2] ((0, x) :: st) t g Q := Xp_go (i := .iload_n 1) (len := 1) (by decide +kernel) rfl
theorem x_79_11 : Xp 79 (d + 1) 11 ls ((0, a1) :: (2, a0) :: st) t g Q = (hkJK a0 = 6 ∧ hkC8 st ∧ Xp 81 d 0 [(2, a0), (0, a1), hkU] [] t g (fun r t g => Xp 79 (d + 1) 14 ls (hkPush r st) t g Q)) := xr_invV (idx := 92) (y' := 81) (ci := 6) (tg := [2, 0]) (by decide +kernel) (by decide +kernel) (by decide +kernel) (by decide +kernel) rfl rfl rfl
theorem x_79_14 : Xp 79 d 14 ls [(0, x)] t g Q = Q (some (0, x)) t g := xr_retI (by decide +kernel) (by decide +kernel)
theorem x_79_15 : Xp 79 d 15 [(2, x), v1, v2] st t g Q = Xp 79 d 16 [(2, x), v1, v2] ((2, x) :: st) t g Q := Xp_go (i := .aload_n 0) (len := 1) (by decide +kernel) rfl
theorem x_79_16 : Xp 79 d 16 ls ((2, p) :: st) t g Q = (hkJK p = 6 ∧ jA p 4 ≤ t ∧ Xp 79 d 19 ls ((2, jR p 4) :: st) t g Q) := xr_getR (idx := 11) (ci := 6) (k := 4) (by decide +kernel) (by decide +kernel) (by decide +kernel)
theorem x_79_19 : Xp 79 d 19 [v0, (0, x), v2] st t g Q = Xp 79 d 20 [v0, (0, x), v2] ((0, x) :: st) t g Q := Xp_go (i := .iload_n 1) (len := 1) (by decide +kernel) rfl
theorem x_79_20 : Xp 79 d 20 ls st t g Q = Xp 79 d 21 ls ((0, 1) :: st) t g Q := xr_const (c := 1) (by decide +kernel) (by decide)
theorem x_79_21 : Xp 79 d 21 ls ((0, b) :: (0, a) :: st) t g Q = Xp 79 d 22 ls ((0, hkW (a + b)) :: st) t g Q := Xp_go (i := .iadd) (len := 1) (by decide +kernel) rfl
theorem x_79_22 : Xp 79 d 22 ls ((0, a) :: (2, p) :: st) t g Q = ((103 ≤ hkJK p ∧ hkJK p ≤ 104 ∧ 0 ≤ a ∧ a < jL p ∧ jAi p a ≤ t) ∧ Xp 79 d 23 ls ((2, jRi p a) :: st) t g Q) := Xp_chk (i := .aaload) (len := 1) (by decide +kernel) rfl
theorem x_79_23 : Xp 79 d 23 [v0, v1, v2] ((2, x) :: st) t g Q = (hkP1 v1 ∧ Xp 79 d 24 [v0, v1, (2, x)] st t g Q) := Xp_chk (i := .astore_n 2) (len := 1) (by decide +kernel) rfl
theorem x_79_24 : Xp 79 d 24 [v0, v1, (2, x)] st t g Q = Xp 79 d 25 [v0, v1, (2, x)] ((2, x) :: st) t g Q := Xp_go (i := .aload_n 2) (len := 1) (by decide +kernel) rfl
theorem x_79_25 : Xp 79 (d + 1) 25 ls ((2, a0) :: st) t g Q = (hkJK a0 = 7 ∧ hkC8 st ∧ Xp 88 d 0 [(2, a0)] [] t g (fun r t g => Xp 79 (d + 1) 28 ls (hkPush r st) t g Q)) := xr_invV (idx := 95) (y' := 88) (ci := 7) (tg := [2]) (by decide +kernel) (by decide +kernel) (by decide +kernel) (by decide +kernel) rfl rfl rfl
theorem x_79_28 : Xp 79 d 28 [(2, x), v1, v2] st t g Q = Xp 79 d 29 [(2, x), v1, v2] ((2, x) :: st) t g Q := Xp_go (i := .aload_n 0) (len := 1) (by decide +kernel) rfl
theorem x_79_29 : Xp 79 d 29 ls st t g Q = Xp 79 d 31 ls ((0, 113) :: st) t g Q := xr_bi (c := 113) (by decide +kernel) (by decide)
theorem x_79_31 : Xp 79 (d + 1) 31 ls ((0, a1) :: (2, a0) :: st) t g Q = (hkJK a0 = 6 ∧ hkC8 st ∧ Xp 80 d 0 [(2, a0), (0, a1)] [] t g (fun r t g => Xp 79 (d + 1) 34 ls (hkPush r st) t g Q)) := xr_invV (idx := 65) (y' := 80) (ci := 6) (tg := [2, 0]) (by decide +kernel) (by decide +kernel) (by decide +kernel) (by decide +kernel) rfl rfl rfl
theorem x_79_34 : Xp 79 d 34 ls ((0, a) :: st) t g Q = ((a = 0 → Xp 79 d 58 ls st t g Q) ∧ (¬ (a = 0) → Xp 79 d 37 ls st t g Q)) := xr_if1 (cd := .eq) (off := 24) (by decide +kernel) (by decide)
theorem x_79_37 : Xp 79 d 37 [(2, x), v1, v2] st t g Q = Xp 79 d 38 [(2, x), v1, v2] ((2, x) :: st) t g Q := Xp_go (i := .aload_n 0) (len := 1) (by decide +kernel) rfl
theorem x_79_38 : Xp 79 d 38 ls (v :: st) t g Q = (hkP1 v ∧ Xp 79 d 39 ls (v :: v :: st) t g Q) := Xp_chk (i := .dup) (len := 1) (by decide +kernel) rfl
theorem x_79_39 : Xp 79 d 39 ls ((2, p) :: st) t g Q = (hkJK p = 6 ∧ Xp 79 d 42 ls ((0, g p 7) :: st) t g Q) := xr_getI (idx := 37) (ci := 6) (k := 7) (by decide +kernel) (by decide +kernel) (by decide +kernel)
theorem x_79_42 : Xp 79 d 42 ls st t g Q = Xp 79 d 43 ls ((0, 1) :: st) t g Q := xr_const (c := 1) (by decide +kernel) (by decide)
theorem x_79_43 : Xp 79 d 43 ls ((0, b) :: (0, a) :: st) t g Q = Xp 79 d 44 ls ((0, hkW (a + b)) :: st) t g Q := Xp_go (i := .iadd) (len := 1) (by decide +kernel) rfl
theorem x_79_44 : Xp 79 d 44 ls ((0, x) :: (2, p) :: st) t g Q = (hkJK p = 6 ∧ Xp 79 d 47 ls st t (hkSet g p 7 x) Q) := xr_putI (idx := 37) (ci := 6) (k := 7) (by decide +kernel) (by decide +kernel) (by decide +kernel)
theorem x_79_47 : Xp 79 d 47 [v0, v1, (2, x)] st t g Q = Xp 79 d 48 [v0, v1, (2, x)] ((2, x) :: st) t g Q := Xp_go (i := .aload_n 2) (len := 1) (by decide +kernel) rfl
theorem x_79_48 : Xp 79 d 48 ls ((2, p) :: st) t g Q = (hkJK p = 7 ∧ jA p 0 ≤ t ∧ Xp 79 d 51 ls ((2, jR p 0) :: st) t g Q) := xr_getR (idx := 98) (ci := 7) (k := 0) (by decide +kernel) (by decide +kernel) (by decide +kernel)
theorem x_79_51 : Xp 79 d 51 ls st t g Q = Xp 79 d 53 ls ((0, 35) :: st) t g Q := xr_bi (c := 35) (by decide +kernel) (by decide)
theorem x_79_53 : Xp 79 d 53 ls st t g Q = Xp 79 d 54 ls ((0, 1) :: st) t g Q := xr_const (c := 1) (by decide +kernel) (by decide)
theorem x_79_54 : Xp 79 d 54 ls ((0, x) :: (0, a) :: (2, p) :: st) t g Q = ((hkJK p = 100 ∧ (100 = 102 → x = 0 ∨ x = 1) ∧ 0 ≤ a ∧ a < jL p) ∧ Xp 79 d 55 ls st t (hkSet g p a x) Q) := Xp_chk (i := .iastore) (len := 1) (by decide +kernel) rfl
theorem x_79_55 : Xp 79 d 55 ls st t g Q = Xp 79 d 80 ls st t g Q := xr_goto (off := 25) (by decide +kernel) (by decide)
theorem x_79_58 : Xp 79 d 58 [(2, x), v1, v2] st t g Q = Xp 79 d 59 [(2, x), v1, v2] ((2, x) :: st) t g Q := Xp_go (i := .aload_n 0) (len := 1) (by decide +kernel) rfl
theorem x_79_59 : Xp 79 d 59 ls st t g Q = Xp 79 d 61 ls ((0, 91) :: st) t g Q := xr_bi (c := 91) (by decide +kernel) (by decide)
theorem x_79_61 : Xp 79 (d + 1) 61 ls ((0, a1) :: (2, a0) :: st) t g Q = (hkJK a0 = 6 ∧ hkC8 st ∧ Xp 80 d 0 [(2, a0), (0, a1)] [] t g (fun r t g => Xp 79 (d + 1) 64 ls (hkPush r st) t g Q)) := xr_invV (idx := 65) (y' := 80) (ci := 6) (tg := [2, 0]) (by decide +kernel) (by decide +kernel) (by decide +kernel) (by decide +kernel) rfl rfl rfl
theorem x_79_64 : Xp 79 d 64 ls ((0, a) :: st) t g Q = ((a = 0 → Xp 79 d 75 ls st t g Q) ∧ (¬ (a = 0) → Xp 79 d 67 ls st t g Q)) := xr_if1 (cd := .eq) (off := 11) (by decide +kernel) (by decide)
theorem x_79_67 : Xp 79 d 67 [(2, x), v1, v2] st t g Q = Xp 79 d 68 [(2, x), v1, v2] ((2, x) :: st) t g Q := Xp_go (i := .aload_n 0) (len := 1) (by decide +kernel) rfl
theorem x_79_68 : Xp 79 d 68 [v0, v1, (2, x)] st t g Q = Xp 79 d 69 [v0, v1, (2, x)] ((2, x) :: st) t g Q := Xp_go (i := .aload_n 2) (len := 1) (by decide +kernel) rfl
theorem x_79_69 : Xp 79 (d + 1) 69 ls ((2, a1) :: (2, a0) :: st) t g Q = (hkJK a0 = 6 ∧ hkC8 st ∧ Xp 83 d 0 [(2, a0), (2, a1), hkU, hkU, hkU, hkU] [] t g (fun r t g => Xp 79 (d + 1) 72 ls (hkPush r st) t g Q)) := xr_invV (idx := 101) (y' := 83) (ci := 6) (tg := [2, 2]) (by decide +kernel) (by decide +kernel) (by decide +kernel) (by decide +kernel) rfl rfl rfl
theorem x_79_72 : Xp 79 d 72 ls st t g Q = Xp 79 d 80 ls st t g Q := xr_goto (off := 8) (by decide +kernel) (by decide)
theorem x_79_75 : Xp 79 d 75 [(2, x), v1, v2] st t g Q = Xp 79 d 76 [(2, x), v1, v2] ((2, x) :: st) t g Q := Xp_go (i := .aload_n 0) (len := 1) (by decide +kernel) rfl
theorem x_79_76 : Xp 79 d 76 [v0, v1, (2, x)] st t g Q = Xp 79 d 77 [v0, v1, (2, x)] ((2, x) :: st) t g Q := Xp_go (i := .aload_n 2) (len := 1) (by decide +kernel) rfl
theorem x_79_77 : Xp 79 (d + 1) 77 ls ((2, a1) :: (2, a0) :: st) t g Q = (hkJK a0 = 6 ∧ hkC8 st ∧ Xp 85 d 0 [(2, a0), (2, a1), hkU, hkU] [] t g (fun r t g => Xp 79 (d + 1) 80 ls (hkPush r st) t g Q)) := xr_invV (idx := 104) (y' := 85) (ci := 6) (tg := [2, 2]) (by decide +kernel) (by decide +kernel) (by decide +kernel) (by decide +kernel) rfl rfl rfl
theorem x_79_80 : Xp 79 d 80 ls st t g Q = Xp 79 d 81 ls ((0, 1) :: st) t g Q := xr_const (c := 1) (by decide +kernel) (by decide)
theorem x_79_81 : Xp 79 d 81 ls [(0, x)] t g Q = Q (some (0, x)) t g := xr_retI (by decide +kernel) (by decide +kernel)
-- 80: HookBoxes$Reader.sees(I)Z
theorem x_80_0 : Xp 80 d 0 [(2, x), v1] st t g Q = Xp 80 d 1 [(2, x), v1] ((2, x) :: st) t g Q := Xp_go (i := .aload_n 0) (len := 1) (by decide +kernel) rfl
theorem x_80_1 : Xp 80 d 1 ls ((2, p) :: st) t g Q = (hkJK p = 6 ∧ Xp 80 d 4 ls ((0, g p 2) :: st) t g Q) := xr_getI (idx := 40) (ci := 6) (k := 2) (by decide +kernel) (by decide +kernel) (by decide +kernel)
theorem x_80_4 : Xp 80 d 4 ls st t g Q = Xp 80 d 5 ls ((0, -1) :: st) t g Q := xr_const (c := -1) (by decide +kernel) (by decide)
theorem x_80_5 : Xp 80 d 5 ls ((0, b) :: (0, a) :: st) t g Q = ((¬ (a = b) → Xp 80 d 36 ls st t g Q) ∧ (¬ (¬ (a = b)) → Xp 80 d 8 ls st t g Q)) := xr_if2 (cd := .ne) (off := 31) (by decide +kernel) (by decide)
theorem x_80_8 : Xp 80 d 8 [(2, x), v1] st t g Q = Xp 80 d 9 [(2, x), v1] ((2, x) :: st) t g Q := Xp_go (i := .aload_n 0) (len := 1) (by decide +kernel) rfl
theorem x_80_9 : Xp 80 d 9 ls ((2, p) :: st) t g Q = (hkJK p = 6 ∧ Xp 80 d 12 ls ((0, g p 7) :: st) t g Q) := xr_getI (idx := 37) (ci := 6) (k := 7) (by decide +kernel) (by decide +kernel) (by decide +kernel)
theorem x_80_12 : Xp 80 d 12 [(2, x), v1] st t g Q = Xp 80 d 13 [(2, x), v1] ((2, x) :: st) t g Q := Xp_go (i := .aload_n 0) (len := 1) (by decide +kernel) rfl
theorem x_80_13 : Xp 80 d 13 ls ((2, p) :: st) t g Q = (hkJK p = 6 ∧ Xp 80 d 16 ls ((0, g p 0) :: st) t g Q) := xr_getI (idx := 33) (ci := 6) (k := 0) (by decide +kernel) (by decide +kernel) (by decide +kernel)
theorem x_80_16 : Xp 80 d 16 ls ((0, b) :: (0, a) :: st) t g Q = ((b ≤ a → Xp 80 d 36 ls st t g Q) ∧ (¬ (b ≤ a) → Xp 80 d 19 ls st t g Q)) := xr_if2 (cd := .ge) (off := 20) (by decide +kernel) (by decide)
theorem x_80_19 : Xp 80 d 19 [(2, x), v1] st t g Q = Xp 80 d 20 [(2, x), v1] ((2, x) :: st) t g Q := Xp_go (i := .aload_n 0) (len := 1) (by decide +kernel) rfl
theorem x_80_20 : Xp 80 d 20 ls ((2, p) :: st) t g Q = (hkJK p = 6 ∧ jA p 6 ≤ t ∧ Xp 80 d 23 ls ((2, jR p 6) :: st) t g Q) := xr_getR (idx := 20) (ci := 6) (k := 6) (by decide +kernel) (by decide +kernel) (by decide +kernel)
theorem x_80_23 : Xp 80 d 23 [(2, x), v1] st t g Q = Xp 80 d 24 [(2, x), v1] ((2, x) :: st) t g Q := Xp_go (i := .aload_n 0) (len := 1) (by decide +kernel) rfl
theorem x_80_24 : Xp 80 d 24 ls ((2, p) :: st) t g Q = (hkJK p = 6 ∧ Xp 80 d 27 ls ((0, g p 7) :: st) t g Q) := xr_getI (idx := 37) (ci := 6) (k := 7) (by decide +kernel) (by decide +kernel) (by decide +kernel)
theorem x_80_27 : Xp 80 d 27 ls ((0, a) :: (2, p) :: st) t g Q = ((hkJK p = 100 ∧ 0 ≤ a ∧ a < jL p) ∧ Xp 80 d 28 ls ((0, g p a) :: st) t g Q) := Xp_chk (i := .iaload) (len := 1) (by decide +kernel) rfl
theorem x_80_28 : Xp 80 d 28 [v0, (0, x)] st t g Q = Xp 80 d 29 [v0, (0, x)] ((0, x) :: st) t g Q := Xp_go (i := .iload_n 1) (len := 1) (by decide +kernel) rfl
theorem x_80_29 : Xp 80 d 29 ls ((0, b) :: (0, a) :: st) t g Q = ((¬ (a = b) → Xp 80 d 36 ls st t g Q) ∧ (¬ (¬ (a = b)) → Xp 80 d 32 ls st t g Q)) := xr_if2 (cd := .ne) (off := 7) (by decide +kernel) (by decide)
theorem x_80_32 : Xp 80 d 32 ls st t g Q = Xp 80 d 33 ls ((0, 1) :: st) t g Q := xr_const (c := 1) (by decide +kernel) (by decide)
theorem x_80_33 : Xp 80 d 33 ls st t g Q = Xp 80 d 37 ls st t g Q := xr_goto (off := 4) (by decide +kernel) (by decide)
theorem x_80_36 : Xp 80 d 36 ls st t g Q = Xp 80 d 37 ls ((0, 0) :: st) t g Q := xr_const (c := 0) (by decide +kernel) (by decide)
theorem x_80_37 : Xp 80 d 37 ls [(0, x)] t g Q = ((x = 0 ∨ x = 1) ∧ Q (some (0, x)) t g) := xr_retZ (by decide +kernel) (by decide +kernel)
-- 81: HookBoxes$Reader.readInner(I)I
theorem x_81_0 : Xp 81 d 0 [v0, (0, x), v2] st t g Q = Xp 81 d 1 [v0, (0, x), v2] ((0, x) :: st) t g Q := Xp_go (i := .iload_n 1) (len := 1) (by decide +kernel) rfl
theorem x_81_1 : Xp 81 d 1 ls st t g Q = Xp 81 d 2 ls ((0, 4) :: st) t g Q := xr_const (c := 4) (by decide +kernel) (by decide)
theorem x_81_2 : Xp 81 d 2 ls ((0, b) :: (0, a) :: st) t g Q = ((a < b → Xp 81 d 15 ls st t g Q) ∧ (¬ (a < b) → Xp 81 d 5 ls st t g Q)) := xr_if2 (cd := .lt) (off := 13) (by decide +kernel) (by decide)
theorem x_81_5 : Xp 81 d 5 [(2, x), v1, v2] st t g Q = Xp 81 d 6 [(2, x), v1, v2] ((2, x) :: st) t g Q := Xp_go (i := .aload_n 0) (len := 1) (by decide +kernel) rfl
theorem x_81_6 : Xp 81 d 6 [(2, x), v1, v2] st t g Q = Xp 81 d 7 [(2, x), v1, v2] ((2, x) :: st) t g Q := Xp_go (i := .aload_n 0) (len := 1) (by decide +kernel) rfl
theorem x_81_7 : Xp 81 d 7 ls ((2, p) :: st) t g Q = (hkJK p = 6 ∧ Xp 81 d 10 ls ((0, g p 7) :: st) t g Q) := xr_getI (idx := 37) (ci := 6) (k := 7) (by decide +kernel) (by decide +kernel) (by decide +kernel)
theorem x_81_10 : Xp 81 (d + 1) 10 ls ((0, a1) :: (2, a0) :: st) t g Q = (hkJK a0 = 6 ∧ hkC8 st ∧ Xp 82 d 0 [(2, a0), (0, a1)] [] t g (fun r t g => Xp 81 (d + 1) 13 ls (hkPush r st) t g Q)) := xr_invV (idx := 51) (y' := 82) (ci := 6) (tg := [2, 0]) (by decide +kernel) (by decide +kernel) (by decide +kernel) (by decide +kernel) rfl rfl rfl
theorem x_81_13 : Xp 81 d 13 ls st t g Q = Xp 81 d 14 ls ((0, 0) :: st) t g Q := xr_const (c := 0) (by decide +kernel) (by decide)
theorem x_81_14 : Xp 81 d 14 ls [(0, x)] t g Q = Q (some (0, x)) t g := xr_retI (by decide +kernel) (by decide +kernel)
theorem x_81_15 : Xp 81 d 15 [(2, x), v1, v2] st t g Q = Xp 81 d 16 [(2, x), v1, v2] ((2, x) :: st) t g Q := Xp_go (i := .aload_n 0) (len := 1) (by decide +kernel) rfl
theorem x_81_16 : Xp 81 d 16 ls (v :: st) t g Q = (hkP1 v ∧ Xp 81 d 17 ls (v :: v :: st) t g Q) := Xp_chk (i := .dup) (len := 1) (by decide +kernel) rfl
theorem x_81_17 : Xp 81 d 17 ls ((2, p) :: st) t g Q = (hkJK p = 6 ∧ Xp 81 d 20 ls ((0, g p 7) :: st) t g Q) := xr_getI (idx := 37) (ci := 6) (k := 7) (by decide +kernel) (by decide +kernel) (by decide +kernel)
theorem x_81_20 : Xp 81 d 20 ls st t g Q = Xp 81 d 21 ls ((0, 1) :: st) t g Q := xr_const (c := 1) (by decide +kernel) (by decide)
theorem x_81_21 : Xp 81 d 21 ls ((0, b) :: (0, a) :: st) t g Q = Xp 81 d 22 ls ((0, hkW (a + b)) :: st) t g Q := Xp_go (i := .iadd) (len := 1) (by decide +kernel) rfl
theorem x_81_22 : Xp 81 d 22 ls ((0, x) :: (2, p) :: st) t g Q = (hkJK p = 6 ∧ Xp 81 d 25 ls st t (hkSet g p 7 x) Q) := xr_putI (idx := 37) (ci := 6) (k := 7) (by decide +kernel) (by decide +kernel) (by decide +kernel)
theorem x_81_25 : Xp 81 d 25 [(2, x), v1, v2] st t g Q = Xp 81 d 26 [(2, x), v1, v2] ((2, x) :: st) t g Q := Xp_go (i := .aload_n 0) (len := 1) (by decide +kernel) rfl
theorem x_81_26 : Xp 81 d 26 [v0, (0, x), v2] st t g Q = Xp 81 d 27 [v0, (0, x), v2] ((0, x) :: st) t g Q := Xp_go (i := .iload_n 1) (len := 1) (by decide +kernel) rfl
theorem x_81_27 : Xp 81 d 27 ls st t g Q = Xp 81 d 28 ls ((0, 1) :: st) t g Q := xr_const (c := 1) (by decide +kernel) (by decide)
theorem x_81_28 : Xp 81 d 28 ls ((0, b) :: (0, a) :: st) t g Q = Xp 81 d 29 ls ((0, hkW (a + b)) :: st) t g Q := Xp_go (i := .iadd) (len := 1) (by decide +kernel) rfl
theorem x_81_29 : Xp 81 (d + 1) 29 ls ((0, a1) :: (2, a0) :: st) t g Q = (hkJK a0 = 6 ∧ hkC8 st ∧ Xp 77 d 0 [(2, a0), (0, a1), hkU, hkU, hkU] [] t g (fun r t g => Xp 81 (d + 1) 32 ls (hkPush r st) t g Q)) := xr_invV (idx := 47) (y' := 77) (ci := 6) (tg := [2, 0]) (by decide +kernel) (by decide +kernel) (by decide +kernel) (by decide +kernel) rfl rfl rfl
theorem x_81_32 : Xp 81 d 32 [v0, v1, v2] ((0, x) :: st) t g Q = (hkP1 v1 ∧ Xp 81 d 33 [v0, v1, (0, x)] st t g Q) := Xp_chk (i := .istore_n 2) (len := 1) (by decide +kernel) rfl
theorem x_81_33 : Xp 81 d 33 [(2, x), v1, v2] st t g Q = Xp 81 d 34 [(2, x), v1, v2] ((2, x) :: st) t g Q := Xp_go (i := .aload_n 0) (len := 1) (by decide +kernel) rfl
theorem x_81_34 : Xp 81 d 34 ls st t g Q = Xp 81 d 36 ls ((0, 41) :: st) t g Q := xr_bi (c := 41) (by decide +kernel) (by decide)
theorem x_81_36 : Xp 81 (d + 1) 36 ls ((0, a1) :: (2, a0) :: st) t g Q = (hkJK a0 = 6 ∧ hkC8 st ∧ Xp 80 d 0 [(2, a0), (0, a1)] [] t g (fun r t g => Xp 81 (d + 1) 39 ls (hkPush r st) t g Q)) := xr_invV (idx := 65) (y' := 80) (ci := 6) (tg := [2, 0]) (by decide +kernel) (by decide +kernel) (by decide +kernel) (by decide +kernel) rfl rfl rfl
theorem x_81_39 : Xp 81 d 39 ls ((0, a) :: st) t g Q = ((a = 0 → Xp 81 d 55 ls st t g Q) ∧ (¬ (a = 0) → Xp 81 d 42 ls st t g Q)) := xr_if1 (cd := .eq) (off := 16) (by decide +kernel) (by decide)
theorem x_81_42 : Xp 81 d 42 [(2, x), v1, v2] st t g Q = Xp 81 d 43 [(2, x), v1, v2] ((2, x) :: st) t g Q := Xp_go (i := .aload_n 0) (len := 1) (by decide +kernel) rfl
theorem x_81_43 : Xp 81 d 43 ls (v :: st) t g Q = (hkP1 v ∧ Xp 81 d 44 ls (v :: v :: st) t g Q) := Xp_chk (i := .dup) (len := 1) (by decide +kernel) rfl
theorem x_81_44 : Xp 81 d 44 ls ((2, p) :: st) t g Q = (hkJK p = 6 ∧ Xp 81 d 47 ls ((0, g p 7) :: st) t g Q) := xr_getI (idx := 37) (ci := 6) (k := 7) (by decide +kernel) (by decide +kernel) (by decide +kernel)
theorem x_81_47 : Xp 81 d 47 ls st t g Q = Xp 81 d 48 ls ((0, 1) :: st) t g Q := xr_const (c := 1) (by decide +kernel) (by decide)
theorem x_81_48 : Xp 81 d 48 ls ((0, b) :: (0, a) :: st) t g Q = Xp 81 d 49 ls ((0, hkW (a + b)) :: st) t g Q := Xp_go (i := .iadd) (len := 1) (by decide +kernel) rfl
theorem x_81_49 : Xp 81 d 49 ls ((0, x) :: (2, p) :: st) t g Q = (hkJK p = 6 ∧ Xp 81 d 52 ls st t (hkSet g p 7 x) Q) := xr_putI (idx := 37) (ci := 6) (k := 7) (by decide +kernel) (by decide +kernel) (by decide +kernel)
theorem x_81_52 : Xp 81 d 52 ls st t g Q = Xp 81 d 63 ls st t g Q := xr_goto (off := 11) (by decide +kernel) (by decide)
theorem x_81_55 : Xp 81 d 55 [(2, x), v1, v2] st t g Q = Xp 81 d 56 [(2, x), v1, v2] ((2, x) :: st) t g Q := Xp_go (i := .aload_n 0) (len := 1) (by decide +kernel) rfl
theorem x_81_56 : Xp 81 d 56 [(2, x), v1, v2] st t g Q = Xp 81 d 57 [(2, x), v1, v2] ((2, x) :: st) t g Q := Xp_go (i := .aload_n 0) (len := 1) (by decide +kernel) rfl
theorem x_81_57 : Xp 81 d 57 ls ((2, p) :: st) t g Q = (hkJK p = 6 ∧ Xp 81 d 60 ls ((0, g p 7) :: st) t g Q) := xr_getI (idx := 37) (ci := 6) (k := 7) (by decide +kernel) (by decide +kernel) (by decide +kernel)
theorem x_81_60 : Xp 81 (d + 1) 60 ls ((0, a1) :: (2, a0) :: st) t g Q = (hkJK a0 = 6 ∧ hkC8 st ∧ Xp 82 d 0 [(2, a0), (0, a1)] [] t g (fun r t g => Xp 81 (d + 1) 63 ls (hkPush r st) t g Q)) := xr_invV (idx := 51) (y' := 82) (ci := 6) (tg := [2, 0]) (by decide +kernel) (by decide +kernel) (by decide +kernel) (by decide +kernel) rfl rfl rfl
theorem x_81_63 : Xp 81 d 63 [v0, v1, (0, x)] st t g Q = Xp 81 d 64 [v0, v1, (0, x)] ((0, x) :: st) t g Q := Xp_go (i := .iload_n 2) (len := 1) (by decide +kernel) rfl
theorem x_81_64 : Xp 81 d 64 ls [(0, x)] t g Q = Q (some (0, x)) t g := xr_retI (by decide +kernel) (by decide +kernel)
-- 82: HookBoxes$Reader.fail(I)V
theorem x_82_0 : Xp 82 d 0 [(2, x), v1] st t g Q = Xp 82 d 1 [(2, x), v1] ((2, x) :: st) t g Q := Xp_go (i := .aload_n 0) (len := 1) (by decide +kernel) rfl
theorem x_82_1 : Xp 82 d 1 ls ((2, p) :: st) t g Q = (hkJK p = 6 ∧ Xp 82 d 4 ls ((0, g p 2) :: st) t g Q) := xr_getI (idx := 40) (ci := 6) (k := 2) (by decide +kernel) (by decide +kernel) (by decide +kernel)
theorem x_82_4 : Xp 82 d 4 ls st t g Q = Xp 82 d 5 ls ((0, -1) :: st) t g Q := xr_const (c := -1) (by decide +kernel) (by decide)
theorem x_82_5 : Xp 82 d 5 ls ((0, b) :: (0, a) :: st) t g Q = ((¬ (a = b) → Xp 82 d 13 ls st t g Q) ∧ (¬ (¬ (a = b)) → Xp 82 d 8 ls st t g Q)) := xr_if2 (cd := .ne) (off := 8) (by decide +kernel) (by decide)
theorem x_82_8 : Xp 82 d 8 [(2, x), v1] st t g Q = Xp 82 d 9 [(2, x), v1] ((2, x) :: st) t g Q := Xp_go (i := .aload_n 0) (len := 1) (by decide +kernel) rfl
theorem x_82_9 : Xp 82 d 9 [v0, (0, x)] st t g Q = Xp 82 d 10 [v0, (0, x)] ((0, x) :: st) t g Q := Xp_go (i := .iload_n 1) (len := 1) (by decide +kernel) rfl
theorem x_82_10 : Xp 82 d 10 ls ((0, x) :: (2, p) :: st) t g Q = (hkJK p = 6 ∧ Xp 82 d 13 ls st t (hkSet g p 2 x) Q) := xr_putI (idx := 40) (ci := 6) (k := 2) (by decide +kernel) (by decide +kernel) (by decide +kernel)
theorem x_82_13 : Xp 82 d 13 ls [] t g Q = Q none t g := xr_retV (by decide +kernel) (by decide +kernel)
-- 83: HookBoxes$Reader.readShape(LHookBoxes$Sum;)V
theorem x_83_0 : Xp 83 d 0 [(2, x), v1, v2, v3, v4, v5] st t g Q = Xp 83 d 1 [(2, x), v1, v2, v3, v4, v5] ((2, x) :: st) t g Q := Xp_go (i := .aload_n 0) (len := 1) (by decide +kernel) rfl
theorem x_83_1 : Xp 83 d 1 ls ((2, p) :: st) t g Q = (hkJK p = 6 ∧ Xp 83 d 4 ls ((0, g p 7) :: st) t g Q) := xr_getI (idx := 37) (ci := 6) (k := 7) (by decide +kernel) (by decide +kernel) (by decide +kernel)
theorem x_83_4 : Xp 83 d 4 [v0, v1, v2, v3, v4, v5] ((0, x) :: st) t g Q = (hkP1 v1 ∧ Xp 83 d 5 [v0, v1, (0, x), v3, v4, v5] st t g Q) := Xp_chk (i := .istore_n 2) (len := 1) (by decide +kernel) rfl
theorem x_83_5 : Xp 83 d 5 [(2, x), v1, v2, v3, v4, v5] st t g Q = Xp 83 d 6 [(2, x), v1, v2, v3, v4, v5] ((2, x) :: st) t g Q := Xp_go (i := .aload_n 0) (len := 1) (by decide +kernel) rfl
theorem x_83_6 : Xp 83 d 6 ls (v :: st) t g Q = (hkP1 v ∧ Xp 83 d 7 ls (v :: v :: st) t g Q) := Xp_chk (i := .dup) (len := 1) (by decide +kernel) rfl
theorem x_83_7 : Xp 83 d 7 ls ((2, p) :: st) t g Q = (hkJK p = 6 ∧ Xp 83 d 10 ls ((0, g p 7) :: st) t g Q) := xr_getI (idx := 37) (ci := 6) (k := 7) (by decide +kernel) (by decide +kernel) (by decide +kernel)
theorem x_83_10 : Xp 83 d 10 ls st t g Q = Xp 83 d 11 ls ((0, 1) :: st) t g Q := xr_const (c := 1) (by decide +kernel) (by decide)
theorem x_83_11 : Xp 83 d 11 ls ((0, b) :: (0, a) :: st) t g Q = Xp 83 d 12 ls ((0, hkW (a + b)) :: st) t g Q := Xp_go (i := .iadd) (len := 1) (by decide +kernel) rfl
theorem x_83_12 : Xp 83 d 12 ls ((0, x) :: (2, p) :: st) t g Q = (hkJK p = 6 ∧ Xp 83 d 15 ls st t (hkSet g p 7 x) Q) := xr_putI (idx := 37) (ci := 6) (k := 7) (by decide +kernel) (by decide +kernel) (by decide +kernel)
theorem x_83_15 : Xp 83 d 15 ls st t g Q = Xp 83 d 16 ls ((0, 0) :: st) t g Q := xr_const (c := 0) (by decide +kernel) (by decide)
theorem x_83_16 : Xp 83 d 16 [v0, v1, v2, v3, v4, v5] ((0, x) :: st) t g Q = (hkP1 v2 ∧ Xp 83 d 17 [v0, v1, v2, (0, x), v4, v5] st t g Q) := Xp_chk (i := .istore_n 3) (len := 1) (by decide +kernel) rfl
theorem x_83_17 : Xp 83 d 17 ls st t g Q = Xp 83 d 18 ls ((0, 0) :: st) t g Q := xr_const (c := 0) (by decide +kernel) (by decide)
theorem x_83_18 : Xp 83 d 18 [v0, v1, v2, v3, v4, v5] ((0, x) :: st) t g Q = (hkP1 v3 ∧ Xp 83 d 20 [v0, v1, v2, v3, (0, x), v5] st t g Q) := Xp_chk (i := .istore 4) (len := 2) (by decide +kernel) rfl
theorem x_83_20 : Xp 83 d 20 ls st t g Q = Xp 83 d 21 ls ((0, 0) :: st) t g Q := xr_const (c := 0) (by decide +kernel) (by decide)
theorem x_83_21 : Xp 83 d 21 [v0, v1, v2, v3, v4, v5] ((0, x) :: st) t g Q = (hkP1 v4 ∧ Xp 83 d 23 [v0, v1, v2, v3, v4, (0, x)] st t g Q) := Xp_chk (i := .istore 5) (len := 2) (by decide +kernel) rfl
theorem x_83_23 : Xp 83 d 23 [v0, v1, v2, v3, v4, (0, x)] st t g Q = Xp 83 d 25 [v0, v1, v2, v3, v4, (0, x)] ((0, x) :: st) t g Q := Xp_go (i := .iload 5) (len := 2) (by decide +kernel) rfl
theorem x_83_25 : Xp 83 d 25 ls st t g Q = Xp 83 d 26 ls ((0, 4) :: st) t g Q := xr_const (c := 4) (by decide +kernel) (by decide)
theorem x_83_26 : Xp 83 d 26 ls ((0, b) :: (0, a) :: st) t g Q = ((b ≤ a → Xp 83 d 94 ls st t g Q) ∧ (¬ (b ≤ a) → Xp 83 d 29 ls st t g Q)) := xr_if2 (cd := .ge) (off := 68) (by decide +kernel) (by decide)
theorem x_83_29 : Xp 83 d 29 [(2, x), v1, v2, v3, v4, v5] st t g Q = Xp 83 d 30 [(2, x), v1, v2, v3, v4, v5] ((2, x) :: st) t g Q := Xp_go (i := .aload_n 0) (len := 1) (by decide +kernel) rfl
theorem x_83_30 : Xp 83 (d + 1) 30 ls ((2, a0) :: st) t g Q = (hkJK a0 = 6 ∧ hkC8 st ∧ Xp 84 d 0 [(2, a0)] [] t g (fun r t g => Xp 83 (d + 1) 33 ls (hkPush r st) t g Q)) := xr_invV (idx := 107) (y' := 84) (ci := 6) (tg := [2]) (by decide +kernel) (by decide +kernel) (by decide +kernel) (by decide +kernel) rfl rfl rfl
theorem x_83_33 : Xp 83 d 33 ls ((0, a) :: st) t g Q = ((a = 0 → Xp 83 d 94 ls st t g Q) ∧ (¬ (a = 0) → Xp 83 d 36 ls st t g Q)) := xr_if1 (cd := .eq) (off := 61) (by decide +kernel) (by decide)
theorem x_83_36 : Xp 83 d 36 [v0, v1, v2, v3, (0, x), v5] st t g Q = Xp 83 d 38 [v0, v1, v2, v3, (0, x), v5] ((0, x) :: st) t g Q := Xp_go (i := .iload 4) (len := 2) (by decide +kernel) rfl
theorem x_83_38 : Xp 83 d 38 [(2, x), v1, v2, v3, v4, v5] st t g Q = Xp 83 d 39 [(2, x), v1, v2, v3, v4, v5] ((2, x) :: st) t g Q := Xp_go (i := .aload_n 0) (len := 1) (by decide +kernel) rfl
theorem x_83_39 : Xp 83 d 39 ls ((2, p) :: st) t g Q = (hkJK p = 6 ∧ jA p 6 ≤ t ∧ Xp 83 d 42 ls ((2, jR p 6) :: st) t g Q) := xr_getR (idx := 20) (ci := 6) (k := 6) (by decide +kernel) (by decide +kernel) (by decide +kernel)
theorem x_83_42 : Xp 83 d 42 [(2, x), v1, v2, v3, v4, v5] st t g Q = Xp 83 d 43 [(2, x), v1, v2, v3, v4, v5] ((2, x) :: st) t g Q := Xp_go (i := .aload_n 0) (len := 1) (by decide +kernel) rfl
theorem x_83_43 : Xp 83 d 43 ls ((2, p) :: st) t g Q = (hkJK p = 6 ∧ Xp 83 d 46 ls ((0, g p 7) :: st) t g Q) := xr_getI (idx := 37) (ci := 6) (k := 7) (by decide +kernel) (by decide +kernel) (by decide +kernel)
theorem x_83_46 : Xp 83 d 46 ls ((0, a) :: (2, p) :: st) t g Q = ((hkJK p = 100 ∧ 0 ≤ a ∧ a < jL p) ∧ Xp 83 d 47 ls ((0, g p a) :: st) t g Q) := Xp_chk (i := .iaload) (len := 1) (by decide +kernel) rfl
theorem x_83_47 : Xp 83 d 47 ls st t g Q = Xp 83 d 49 ls ((0, 48) :: st) t g Q := xr_bi (c := 48) (by decide +kernel) (by decide)
theorem x_83_49 : Xp 83 d 49 ls ((0, b) :: (0, a) :: st) t g Q = ((¬ (a = b) → Xp 83 d 56 ls st t g Q) ∧ (¬ (¬ (a = b)) → Xp 83 d 52 ls st t g Q)) := xr_if2 (cd := .ne) (off := 7) (by decide +kernel) (by decide)
theorem x_83_52 : Xp 83 d 52 ls st t g Q = Xp 83 d 53 ls ((0, 1) :: st) t g Q := xr_const (c := 1) (by decide +kernel) (by decide)
theorem x_83_53 : Xp 83 d 53 ls st t g Q = Xp 83 d 57 ls st t g Q := xr_goto (off := 4) (by decide +kernel) (by decide)
theorem x_83_56 : Xp 83 d 56 ls st t g Q = Xp 83 d 57 ls ((0, 0) :: st) t g Q := xr_const (c := 0) (by decide +kernel) (by decide)
theorem x_83_57 : Xp 83 d 57 ls ((0, b) :: (0, a) :: st) t g Q = Xp 83 d 58 ls ((0, hkOr a b) :: st) t g Q := Xp_go (i := .ior) (len := 1) (by decide +kernel) rfl
theorem x_83_58 : Xp 83 d 58 [v0, v1, v2, v3, v4, v5] ((0, x) :: st) t g Q = (hkP1 v3 ∧ Xp 83 d 60 [v0, v1, v2, v3, (0, x), v5] st t g Q) := Xp_chk (i := .istore 4) (len := 2) (by decide +kernel) rfl
theorem x_83_60 : Xp 83 d 60 [v0, v1, v2, (0, x), v4, v5] st t g Q = Xp 83 d 61 [v0, v1, v2, (0, x), v4, v5] ((0, x) :: st) t g Q := Xp_go (i := .iload_n 3) (len := 1) (by decide +kernel) rfl
theorem x_83_61 : Xp 83 d 61 ls st t g Q = Xp 83 d 63 ls ((0, 10) :: st) t g Q := xr_bi (c := 10) (by decide +kernel) (by decide)
theorem x_83_63 : Xp 83 d 63 ls ((0, b) :: (0, a) :: st) t g Q = Xp 83 d 64 ls ((0, hkW (a * b)) :: st) t g Q := Xp_go (i := .imul) (len := 1) (by decide +kernel) rfl
theorem x_83_64 : Xp 83 d 64 [(2, x), v1, v2, v3, v4, v5] st t g Q = Xp 83 d 65 [(2, x), v1, v2, v3, v4, v5] ((2, x) :: st) t g Q := Xp_go (i := .aload_n 0) (len := 1) (by decide +kernel) rfl
theorem x_83_65 : Xp 83 d 65 ls ((2, p) :: st) t g Q = (hkJK p = 6 ∧ jA p 6 ≤ t ∧ Xp 83 d 68 ls ((2, jR p 6) :: st) t g Q) := xr_getR (idx := 20) (ci := 6) (k := 6) (by decide +kernel) (by decide +kernel) (by decide +kernel)
theorem x_83_68 : Xp 83 d 68 [(2, x), v1, v2, v3, v4, v5] st t g Q = Xp 83 d 69 [(2, x), v1, v2, v3, v4, v5] ((2, x) :: st) t g Q := Xp_go (i := .aload_n 0) (len := 1) (by decide +kernel) rfl
theorem x_83_69 : Xp 83 d 69 ls ((2, p) :: st) t g Q = (hkJK p = 6 ∧ Xp 83 d 72 ls ((0, g p 7) :: st) t g Q) := xr_getI (idx := 37) (ci := 6) (k := 7) (by decide +kernel) (by decide +kernel) (by decide +kernel)
theorem x_83_72 : Xp 83 d 72 ls ((0, a) :: (2, p) :: st) t g Q = ((hkJK p = 100 ∧ 0 ≤ a ∧ a < jL p) ∧ Xp 83 d 73 ls ((0, g p a) :: st) t g Q) := Xp_chk (i := .iaload) (len := 1) (by decide +kernel) rfl
theorem x_83_73 : Xp 83 d 73 ls ((0, b) :: (0, a) :: st) t g Q = Xp 83 d 74 ls ((0, hkW (a + b)) :: st) t g Q := Xp_go (i := .iadd) (len := 1) (by decide +kernel) rfl
theorem x_83_74 : Xp 83 d 74 ls st t g Q = Xp 83 d 76 ls ((0, 48) :: st) t g Q := xr_bi (c := 48) (by decide +kernel) (by decide)
theorem x_83_76 : Xp 83 d 76 ls ((0, b) :: (0, a) :: st) t g Q = Xp 83 d 77 ls ((0, hkW (a - b)) :: st) t g Q := Xp_go (i := .isub) (len := 1) (by decide +kernel) rfl
theorem x_83_77 : Xp 83 d 77 [v0, v1, v2, v3, v4, v5] ((0, x) :: st) t g Q = (hkP1 v2 ∧ Xp 83 d 78 [v0, v1, v2, (0, x), v4, v5] st t g Q) := Xp_chk (i := .istore_n 3) (len := 1) (by decide +kernel) rfl
theorem x_83_78 : Xp 83 d 78 [(2, x), v1, v2, v3, v4, v5] st t g Q = Xp 83 d 79 [(2, x), v1, v2, v3, v4, v5] ((2, x) :: st) t g Q := Xp_go (i := .aload_n 0) (len := 1) (by decide +kernel) rfl
theorem x_83_79 : Xp 83 d 79 ls (v :: st) t g Q = (hkP1 v ∧ Xp 83 d 80 ls (v :: v :: st) t g Q) := Xp_chk (i := .dup) (len := 1) (by decide +kernel) rfl
theorem x_83_80 : Xp 83 d 80 ls ((2, p) :: st) t g Q = (hkJK p = 6 ∧ Xp 83 d 83 ls ((0, g p 7) :: st) t g Q) := xr_getI (idx := 37) (ci := 6) (k := 7) (by decide +kernel) (by decide +kernel) (by decide +kernel)
theorem x_83_83 : Xp 83 d 83 ls st t g Q = Xp 83 d 84 ls ((0, 1) :: st) t g Q := xr_const (c := 1) (by decide +kernel) (by decide)
theorem x_83_84 : Xp 83 d 84 ls ((0, b) :: (0, a) :: st) t g Q = Xp 83 d 85 ls ((0, hkW (a + b)) :: st) t g Q := Xp_go (i := .iadd) (len := 1) (by decide +kernel) rfl
theorem x_83_85 : Xp 83 d 85 ls ((0, x) :: (2, p) :: st) t g Q = (hkJK p = 6 ∧ Xp 83 d 88 ls st t (hkSet g p 7 x) Q) := xr_putI (idx := 37) (ci := 6) (k := 7) (by decide +kernel) (by decide +kernel) (by decide +kernel)
theorem x_83_88 : Xp 83 d 88 [v0, v1, v2, v3, v4, (0, x)] st t g Q = (hkP1 v4 ∧ Xp 83 d 91 [v0, v1, v2, v3, v4, (0, hkW (x + 1))] st t g Q) := Xp_chk (i := .iinc 5 (1)) (len := 3) (by decide +kernel) rfl
theorem x_83_91 : Xp 83 d 91 ls st t g Q = Xp 83 d 23 ls st t g Q := xr_goto (off := -68) (by decide +kernel) (by decide)
theorem x_83_94 : Xp 83 d 94 [v0, v1, v2, v3, (0, x), v5] st t g Q = Xp 83 d 96 [v0, v1, v2, v3, (0, x), v5] ((0, x) :: st) t g Q := Xp_go (i := .iload 4) (len := 2) (by decide +kernel) rfl
theorem x_83_96 : Xp 83 d 96 ls ((0, a) :: st) t g Q = ((a = 0 → Xp 83 d 103 ls st t g Q) ∧ (¬ (a = 0) → Xp 83 d 99 ls st t g Q)) := xr_if1 (cd := .eq) (off := 7) (by decide +kernel) (by decide)
theorem x_83_99 : Xp 83 d 99 ls st t g Q = Xp 83 d 100 ls ((0, -1) :: st) t g Q := xr_const (c := -1) (by decide +kernel) (by decide)
theorem x_83_100 : Xp 83 d 100 ls st t g Q = Xp 83 d 111 ls st t g Q := xr_goto (off := 11) (by decide +kernel) (by decide)
theorem x_83_103 : Xp 83 d 103 [(2, x), v1, v2, v3, v4, v5] st t g Q = Xp 83 d 104 [(2, x), v1, v2, v3, v4, v5] ((2, x) :: st) t g Q := Xp_go (i := .aload_n 0) (len := 1) (by decide +kernel) rfl
theorem x_83_104 : Xp 83 d 104 ls ((2, p) :: st) t g Q = (hkJK p = 6 ∧ jA p 8 ≤ t ∧ Xp 83 d 107 ls ((2, jR p 8) :: st) t g Q) := xr_getR (idx := 24) (ci := 6) (k := 8) (by decide +kernel) (by decide +kernel) (by decide +kernel)
theorem x_83_107 : Xp 83 d 107 [v0, v1, v2, (0, x), v4, v5] st t g Q = Xp 83 d 108 [v0, v1, v2, (0, x), v4, v5] ((0, x) :: st) t g Q := Xp_go (i := .iload_n 3) (len := 1) (by decide +kernel) rfl
theorem x_83_108 : Xp 83 (d + 1) 108 ls ((0, a1) :: (2, a0) :: st) t g Q = (hkJK a0 = 1 ∧ hkC8 st ∧ Xp 40 d 0 [(2, a0), (0, a1), hkU, hkU, hkU, hkU, hkU, hkU] [] t g (fun r t g => Xp 83 (d + 1) 111 ls (hkPush r st) t g Q)) := xr_invV (idx := 110) (y' := 40) (ci := 1) (tg := [2, 0]) (by decide +kernel) (by decide +kernel) (by decide +kernel) (by decide +kernel) rfl rfl rfl
theorem x_83_111 : Xp 83 d 111 [v0, v1, v2, v3, v4, v5] ((0, x) :: st) t g Q = (hkP1 v4 ∧ Xp 83 d 113 [v0, v1, v2, v3, v4, (0, x)] st t g Q) := Xp_chk (i := .istore 5) (len := 2) (by decide +kernel) rfl
theorem x_83_113 : Xp 83 d 113 [v0, v1, v2, v3, v4, (0, x)] st t g Q = Xp 83 d 115 [v0, v1, v2, v3, v4, (0, x)] ((0, x) :: st) t g Q := Xp_go (i := .iload 5) (len := 2) (by decide +kernel) rfl
theorem x_83_115 : Xp 83 d 115 ls st t g Q = Xp 83 d 116 ls ((0, -1) :: st) t g Q := xr_const (c := -1) (by decide +kernel) (by decide)
theorem x_83_116 : Xp 83 d 116 ls ((0, b) :: (0, a) :: st) t g Q = ((¬ (a = b) → Xp 83 d 127 ls st t g Q) ∧ (¬ (¬ (a = b)) → Xp 83 d 119 ls st t g Q)) := xr_if2 (cd := .ne) (off := 11) (by decide +kernel) (by decide)
theorem x_83_119 : Xp 83 d 119 [(2, x), v1, v2, v3, v4, v5] st t g Q = Xp 83 d 120 [(2, x), v1, v2, v3, v4, v5] ((2, x) :: st) t g Q := Xp_go (i := .aload_n 0) (len := 1) (by decide +kernel) rfl
theorem x_83_120 : Xp 83 d 120 [v0, v1, (0, x), v3, v4, v5] st t g Q = Xp 83 d 121 [v0, v1, (0, x), v3, v4, v5] ((0, x) :: st) t g Q := Xp_go (i := .iload_n 2) (len := 1) (by decide +kernel) rfl
theorem x_83_121 : Xp 83 (d + 1) 121 ls ((0, a1) :: (2, a0) :: st) t g Q = (hkJK a0 = 6 ∧ hkC8 st ∧ Xp 82 d 0 [(2, a0), (0, a1)] [] t g (fun r t g => Xp 83 (d + 1) 124 ls (hkPush r st) t g Q)) := xr_invV (idx := 51) (y' := 82) (ci := 6) (tg := [2, 0]) (by decide +kernel) (by decide +kernel) (by decide +kernel) (by decide +kernel) rfl rfl rfl
theorem x_83_124 : Xp 83 d 124 ls st t g Q = Xp 83 d 165 ls st t g Q := xr_goto (off := 41) (by decide +kernel) (by decide)
theorem x_83_127 : Xp 83 d 127 [(2, x), v1, v2, v3, v4, v5] st t g Q = Xp 83 d 128 [(2, x), v1, v2, v3, v4, v5] ((2, x) :: st) t g Q := Xp_go (i := .aload_n 0) (len := 1) (by decide +kernel) rfl
theorem x_83_128 : Xp 83 d 128 ls st t g Q = Xp 83 d 130 ls ((0, 93) :: st) t g Q := xr_bi (c := 93) (by decide +kernel) (by decide)
theorem x_83_130 : Xp 83 (d + 1) 130 ls ((0, a1) :: (2, a0) :: st) t g Q = (hkJK a0 = 6 ∧ hkC8 st ∧ Xp 80 d 0 [(2, a0), (0, a1)] [] t g (fun r t g => Xp 83 (d + 1) 133 ls (hkPush r st) t g Q)) := xr_invV (idx := 65) (y' := 80) (ci := 6) (tg := [2, 0]) (by decide +kernel) (by decide +kernel) (by decide +kernel) (by decide +kernel) rfl rfl rfl
theorem x_83_133 : Xp 83 d 133 ls ((0, a) :: st) t g Q = ((a = 0 → Xp 83 d 157 ls st t g Q) ∧ (¬ (a = 0) → Xp 83 d 136 ls st t g Q)) := xr_if1 (cd := .eq) (off := 24) (by decide +kernel) (by decide)
theorem x_83_136 : Xp 83 d 136 [(2, x), v1, v2, v3, v4, v5] st t g Q = Xp 83 d 137 [(2, x), v1, v2, v3, v4, v5] ((2, x) :: st) t g Q := Xp_go (i := .aload_n 0) (len := 1) (by decide +kernel) rfl
theorem x_83_137 : Xp 83 d 137 ls (v :: st) t g Q = (hkP1 v ∧ Xp 83 d 138 ls (v :: v :: st) t g Q) := Xp_chk (i := .dup) (len := 1) (by decide +kernel) rfl
theorem x_83_138 : Xp 83 d 138 ls ((2, p) :: st) t g Q = (hkJK p = 6 ∧ Xp 83 d 141 ls ((0, g p 7) :: st) t g Q) := xr_getI (idx := 37) (ci := 6) (k := 7) (by decide +kernel) (by decide +kernel) (by decide +kernel)
theorem x_83_141 : Xp 83 d 141 ls st t g Q = Xp 83 d 142 ls ((0, 1) :: st) t g Q := xr_const (c := 1) (by decide +kernel) (by decide)
theorem x_83_142 : Xp 83 d 142 ls ((0, b) :: (0, a) :: st) t g Q = Xp 83 d 143 ls ((0, hkW (a + b)) :: st) t g Q := Xp_go (i := .iadd) (len := 1) (by decide +kernel) rfl
theorem x_83_143 : Xp 83 d 143 ls ((0, x) :: (2, p) :: st) t g Q = (hkJK p = 6 ∧ Xp 83 d 146 ls st t (hkSet g p 7 x) Q) := xr_putI (idx := 37) (ci := 6) (k := 7) (by decide +kernel) (by decide +kernel) (by decide +kernel)
theorem x_83_146 : Xp 83 d 146 [v0, (2, x), v2, v3, v4, v5] st t g Q = Xp 83 d 147 [v0, (2, x), v2, v3, v4, v5] ((2, x) :: st) t g Q := Xp_go (i := .aload_n 1) (len := 1) (by decide +kernel) rfl
theorem x_83_147 : Xp 83 d 147 ls ((2, p) :: st) t g Q = (hkJK p = 7 ∧ jA p 0 ≤ t ∧ Xp 83 d 150 ls ((2, jR p 0) :: st) t g Q) := xr_getR (idx := 98) (ci := 7) (k := 0) (by decide +kernel) (by decide +kernel) (by decide +kernel)
theorem x_83_150 : Xp 83 d 150 [v0, v1, v2, v3, v4, (0, x)] st t g Q = Xp 83 d 152 [v0, v1, v2, v3, v4, (0, x)] ((0, x) :: st) t g Q := Xp_go (i := .iload 5) (len := 2) (by decide +kernel) rfl
theorem x_83_152 : Xp 83 d 152 ls st t g Q = Xp 83 d 153 ls ((0, 1) :: st) t g Q := xr_const (c := 1) (by decide +kernel) (by decide)
theorem x_83_153 : Xp 83 d 153 ls ((0, x) :: (0, a) :: (2, p) :: st) t g Q = ((hkJK p = 100 ∧ (100 = 102 → x = 0 ∨ x = 1) ∧ 0 ≤ a ∧ a < jL p) ∧ Xp 83 d 154 ls st t (hkSet g p a x) Q) := Xp_chk (i := .iastore) (len := 1) (by decide +kernel) rfl
theorem x_83_154 : Xp 83 d 154 ls st t g Q = Xp 83 d 165 ls st t g Q := xr_goto (off := 11) (by decide +kernel) (by decide)
theorem x_83_157 : Xp 83 d 157 [(2, x), v1, v2, v3, v4, v5] st t g Q = Xp 83 d 158 [(2, x), v1, v2, v3, v4, v5] ((2, x) :: st) t g Q := Xp_go (i := .aload_n 0) (len := 1) (by decide +kernel) rfl
theorem x_83_158 : Xp 83 d 158 [(2, x), v1, v2, v3, v4, v5] st t g Q = Xp 83 d 159 [(2, x), v1, v2, v3, v4, v5] ((2, x) :: st) t g Q := Xp_go (i := .aload_n 0) (len := 1) (by decide +kernel) rfl
theorem x_83_159 : Xp 83 d 159 ls ((2, p) :: st) t g Q = (hkJK p = 6 ∧ Xp 83 d 162 ls ((0, g p 7) :: st) t g Q) := xr_getI (idx := 37) (ci := 6) (k := 7) (by decide +kernel) (by decide +kernel) (by decide +kernel)
theorem x_83_162 : Xp 83 (d + 1) 162 ls ((0, a1) :: (2, a0) :: st) t g Q = (hkJK a0 = 6 ∧ hkC8 st ∧ Xp 82 d 0 [(2, a0), (0, a1)] [] t g (fun r t g => Xp 83 (d + 1) 165 ls (hkPush r st) t g Q)) := xr_invV (idx := 51) (y' := 82) (ci := 6) (tg := [2, 0]) (by decide +kernel) (by decide +kernel) (by decide +kernel) (by decide +kernel) rfl rfl rfl
theorem x_83_165 : Xp 83 d 165 ls [] t g Q = Q none t g := xr_retV (by decide +kernel) (by decide +kernel)
-- 84: HookBoxes$Reader.seesDigit()Z
theorem x_84_0 : Xp 84 d 0 [(2, x)] st t g Q = Xp 84 d 1 [(2, x)] ((2, x) :: st) t g Q := Xp_go (i := .aload_n 0) (len := 1) (by decide +kernel) rfl
theorem x_84_1 : Xp 84 d 1 ls ((2, p) :: st) t g Q = (hkJK p = 6 ∧ Xp 84 d 4 ls ((0, g p 2) :: st) t g Q) := xr_getI (idx := 40) (ci := 6) (k := 2) (by decide +kernel) (by decide +kernel) (by decide +kernel)
theorem x_84_4 : Xp 84 d 4 ls st t g Q = Xp 84 d 5 ls ((0, -1) :: st) t g Q := xr_const (c := -1) (by decide +kernel) (by decide)
theorem x_84_5 : Xp 84 d 5 ls ((0, b) :: (0, a) :: st) t g Q = ((¬ (a = b) → Xp 84 d 51 ls st t g Q) ∧ (¬ (¬ (a = b)) → Xp 84 d 8 ls st t g Q)) := xr_if2 (cd := .ne) (off := 46) (by decide +kernel) (by decide)
theorem x_84_8 : Xp 84 d 8 [(2, x)] st t g Q = Xp 84 d 9 [(2, x)] ((2, x) :: st) t g Q := Xp_go (i := .aload_n 0) (len := 1) (by decide +kernel) rfl
theorem x_84_9 : Xp 84 d 9 ls ((2, p) :: st) t g Q = (hkJK p = 6 ∧ Xp 84 d 12 ls ((0, g p 7) :: st) t g Q) := xr_getI (idx := 37) (ci := 6) (k := 7) (by decide +kernel) (by decide +kernel) (by decide +kernel)
theorem x_84_12 : Xp 84 d 12 [(2, x)] st t g Q = Xp 84 d 13 [(2, x)] ((2, x) :: st) t g Q := Xp_go (i := .aload_n 0) (len := 1) (by decide +kernel) rfl
theorem x_84_13 : Xp 84 d 13 ls ((2, p) :: st) t g Q = (hkJK p = 6 ∧ Xp 84 d 16 ls ((0, g p 0) :: st) t g Q) := xr_getI (idx := 33) (ci := 6) (k := 0) (by decide +kernel) (by decide +kernel) (by decide +kernel)
theorem x_84_16 : Xp 84 d 16 ls ((0, b) :: (0, a) :: st) t g Q = ((b ≤ a → Xp 84 d 51 ls st t g Q) ∧ (¬ (b ≤ a) → Xp 84 d 19 ls st t g Q)) := xr_if2 (cd := .ge) (off := 35) (by decide +kernel) (by decide)
theorem x_84_19 : Xp 84 d 19 [(2, x)] st t g Q = Xp 84 d 20 [(2, x)] ((2, x) :: st) t g Q := Xp_go (i := .aload_n 0) (len := 1) (by decide +kernel) rfl
theorem x_84_20 : Xp 84 d 20 ls ((2, p) :: st) t g Q = (hkJK p = 6 ∧ jA p 6 ≤ t ∧ Xp 84 d 23 ls ((2, jR p 6) :: st) t g Q) := xr_getR (idx := 20) (ci := 6) (k := 6) (by decide +kernel) (by decide +kernel) (by decide +kernel)
theorem x_84_23 : Xp 84 d 23 [(2, x)] st t g Q = Xp 84 d 24 [(2, x)] ((2, x) :: st) t g Q := Xp_go (i := .aload_n 0) (len := 1) (by decide +kernel) rfl
theorem x_84_24 : Xp 84 d 24 ls ((2, p) :: st) t g Q = (hkJK p = 6 ∧ Xp 84 d 27 ls ((0, g p 7) :: st) t g Q) := xr_getI (idx := 37) (ci := 6) (k := 7) (by decide +kernel) (by decide +kernel) (by decide +kernel)
theorem x_84_27 : Xp 84 d 27 ls ((0, a) :: (2, p) :: st) t g Q = ((hkJK p = 100 ∧ 0 ≤ a ∧ a < jL p) ∧ Xp 84 d 28 ls ((0, g p a) :: st) t g Q) := Xp_chk (i := .iaload) (len := 1) (by decide +kernel) rfl
theorem x_84_28 : Xp 84 d 28 ls st t g Q = Xp 84 d 30 ls ((0, 48) :: st) t g Q := xr_bi (c := 48) (by decide +kernel) (by decide)
theorem x_84_30 : Xp 84 d 30 ls ((0, b) :: (0, a) :: st) t g Q = ((a < b → Xp 84 d 51 ls st t g Q) ∧ (¬ (a < b) → Xp 84 d 33 ls st t g Q)) := xr_if2 (cd := .lt) (off := 21) (by decide +kernel) (by decide)
theorem x_84_33 : Xp 84 d 33 [(2, x)] st t g Q = Xp 84 d 34 [(2, x)] ((2, x) :: st) t g Q := Xp_go (i := .aload_n 0) (len := 1) (by decide +kernel) rfl
theorem x_84_34 : Xp 84 d 34 ls ((2, p) :: st) t g Q = (hkJK p = 6 ∧ jA p 6 ≤ t ∧ Xp 84 d 37 ls ((2, jR p 6) :: st) t g Q) := xr_getR (idx := 20) (ci := 6) (k := 6) (by decide +kernel) (by decide +kernel) (by decide +kernel)
theorem x_84_37 : Xp 84 d 37 [(2, x)] st t g Q = Xp 84 d 38 [(2, x)] ((2, x) :: st) t g Q := Xp_go (i := .aload_n 0) (len := 1) (by decide +kernel) rfl
theorem x_84_38 : Xp 84 d 38 ls ((2, p) :: st) t g Q = (hkJK p = 6 ∧ Xp 84 d 41 ls ((0, g p 7) :: st) t g Q) := xr_getI (idx := 37) (ci := 6) (k := 7) (by decide +kernel) (by decide +kernel) (by decide +kernel)
theorem x_84_41 : Xp 84 d 41 ls ((0, a) :: (2, p) :: st) t g Q = ((hkJK p = 100 ∧ 0 ≤ a ∧ a < jL p) ∧ Xp 84 d 42 ls ((0, g p a) :: st) t g Q) := Xp_chk (i := .iaload) (len := 1) (by decide +kernel) rfl
theorem x_84_42 : Xp 84 d 42 ls st t g Q = Xp 84 d 44 ls ((0, 57) :: st) t g Q := xr_bi (c := 57) (by decide +kernel) (by decide)
theorem x_84_44 : Xp 84 d 44 ls ((0, b) :: (0, a) :: st) t g Q = ((b < a → Xp 84 d 51 ls st t g Q) ∧ (¬ (b < a) → Xp 84 d 47 ls st t g Q)) := xr_if2 (cd := .gt) (off := 7) (by decide +kernel) (by decide)
theorem x_84_47 : Xp 84 d 47 ls st t g Q = Xp 84 d 48 ls ((0, 1) :: st) t g Q := xr_const (c := 1) (by decide +kernel) (by decide)
theorem x_84_48 : Xp 84 d 48 ls st t g Q = Xp 84 d 52 ls st t g Q := xr_goto (off := 4) (by decide +kernel) (by decide)
theorem x_84_51 : Xp 84 d 51 ls st t g Q = Xp 84 d 52 ls ((0, 0) :: st) t g Q := xr_const (c := 0) (by decide +kernel) (by decide)
theorem x_84_52 : Xp 84 d 52 ls [(0, x)] t g Q = ((x = 0 ∨ x = 1) ∧ Q (some (0, x)) t g) := xr_retZ (by decide +kernel) (by decide +kernel)
-- 85: HookBoxes$Reader.readNumber(LHookBoxes$Sum;)V
theorem x_85_0 : Xp 85 d 0 [(2, x), v1, v2, v3] st t g Q = Xp 85 d 1 [(2, x), v1, v2, v3] ((2, x) :: st) t g Q := Xp_go (i := .aload_n 0) (len := 1) (by decide +kernel) rfl
theorem x_85_1 : Xp 85 (d + 1) 1 ls ((2, a0) :: st) t g Q = (hkJK a0 = 6 ∧ hkC8 st ∧ Xp 84 d 0 [(2, a0)] [] t g (fun r t g => Xp 85 (d + 1) 4 ls (hkPush r st) t g Q)) := xr_invV (idx := 107) (y' := 84) (ci := 6) (tg := [2]) (by decide +kernel) (by decide +kernel) (by decide +kernel) (by decide +kernel) rfl rfl rfl
theorem x_85_4 : Xp 85 d 4 ls ((0, a) :: st) t g Q = ((¬ (a = 0) → Xp 85 d 15 ls st t g Q) ∧ (¬ (¬ (a = 0)) → Xp 85 d 7 ls st t g Q)) := xr_if1 (cd := .ne) (off := 11) (by decide +kernel) (by decide)
theorem x_85_7 : Xp 85 d 7 [(2, x), v1, v2, v3] st t g Q = Xp 85 d 8 [(2, x), v1, v2, v3] ((2, x) :: st) t g Q := Xp_go (i := .aload_n 0) (len := 1) (by decide +kernel) rfl
theorem x_85_8 : Xp 85 d 8 [(2, x), v1, v2, v3] st t g Q = Xp 85 d 9 [(2, x), v1, v2, v3] ((2, x) :: st) t g Q := Xp_go (i := .aload_n 0) (len := 1) (by decide +kernel) rfl
theorem x_85_9 : Xp 85 d 9 ls ((2, p) :: st) t g Q = (hkJK p = 6 ∧ Xp 85 d 12 ls ((0, g p 7) :: st) t g Q) := xr_getI (idx := 37) (ci := 6) (k := 7) (by decide +kernel) (by decide +kernel) (by decide +kernel)
theorem x_85_12 : Xp 85 (d + 1) 12 ls ((0, a1) :: (2, a0) :: st) t g Q = (hkJK a0 = 6 ∧ hkC8 st ∧ Xp 82 d 0 [(2, a0), (0, a1)] [] t g (fun r t g => Xp 85 (d + 1) 15 ls (hkPush r st) t g Q)) := xr_invV (idx := 51) (y' := 82) (ci := 6) (tg := [2, 0]) (by decide +kernel) (by decide +kernel) (by decide +kernel) (by decide +kernel) rfl rfl rfl
theorem x_85_15 : Xp 85 d 15 ls st t g Q = Xp 85 d 16 ls ((0, 0) :: st) t g Q := xr_const (c := 0) (by decide +kernel) (by decide)
theorem x_85_16 : Xp 85 d 16 [v0, v1, v2, v3] ((0, x) :: st) t g Q = (hkP1 v1 ∧ Xp 85 d 17 [v0, v1, (0, x), v3] st t g Q) := Xp_chk (i := .istore_n 2) (len := 1) (by decide +kernel) rfl
theorem x_85_17 : Xp 85 d 17 ls st t g Q = Xp 85 d 18 ls ((0, 0) :: st) t g Q := xr_const (c := 0) (by decide +kernel) (by decide)
theorem x_85_18 : Xp 85 d 18 [v0, v1, v2, v3] ((0, x) :: st) t g Q = (hkP1 v2 ∧ Xp 85 d 19 [v0, v1, v2, (0, x)] st t g Q) := Xp_chk (i := .istore_n 3) (len := 1) (by decide +kernel) rfl
theorem x_85_19 : Xp 85 d 19 [v0, v1, v2, (0, x)] st t g Q = Xp 85 d 20 [v0, v1, v2, (0, x)] ((0, x) :: st) t g Q := Xp_go (i := .iload_n 3) (len := 1) (by decide +kernel) rfl
theorem x_85_20 : Xp 85 d 20 ls st t g Q = Xp 85 d 21 ls ((0, 4) :: st) t g Q := xr_const (c := 4) (by decide +kernel) (by decide)
theorem x_85_21 : Xp 85 d 21 ls ((0, b) :: (0, a) :: st) t g Q = ((b ≤ a → Xp 85 d 65 ls st t g Q) ∧ (¬ (b ≤ a) → Xp 85 d 24 ls st t g Q)) := xr_if2 (cd := .ge) (off := 44) (by decide +kernel) (by decide)
theorem x_85_24 : Xp 85 d 24 [(2, x), v1, v2, v3] st t g Q = Xp 85 d 25 [(2, x), v1, v2, v3] ((2, x) :: st) t g Q := Xp_go (i := .aload_n 0) (len := 1) (by decide +kernel) rfl
theorem x_85_25 : Xp 85 (d + 1) 25 ls ((2, a0) :: st) t g Q = (hkJK a0 = 6 ∧ hkC8 st ∧ Xp 84 d 0 [(2, a0)] [] t g (fun r t g => Xp 85 (d + 1) 28 ls (hkPush r st) t g Q)) := xr_invV (idx := 107) (y' := 84) (ci := 6) (tg := [2]) (by decide +kernel) (by decide +kernel) (by decide +kernel) (by decide +kernel) rfl rfl rfl
theorem x_85_28 : Xp 85 d 28 ls ((0, a) :: st) t g Q = ((a = 0 → Xp 85 d 65 ls st t g Q) ∧ (¬ (a = 0) → Xp 85 d 31 ls st t g Q)) := xr_if1 (cd := .eq) (off := 37) (by decide +kernel) (by decide)
theorem x_85_31 : Xp 85 d 31 [v0, v1, (0, x), v3] st t g Q = Xp 85 d 32 [v0, v1, (0, x), v3] ((0, x) :: st) t g Q := Xp_go (i := .iload_n 2) (len := 1) (by decide +kernel) rfl
theorem x_85_32 : Xp 85 d 32 ls st t g Q = Xp 85 d 34 ls ((0, 10) :: st) t g Q := xr_bi (c := 10) (by decide +kernel) (by decide)
theorem x_85_34 : Xp 85 d 34 ls ((0, b) :: (0, a) :: st) t g Q = Xp 85 d 35 ls ((0, hkW (a * b)) :: st) t g Q := Xp_go (i := .imul) (len := 1) (by decide +kernel) rfl
theorem x_85_35 : Xp 85 d 35 [(2, x), v1, v2, v3] st t g Q = Xp 85 d 36 [(2, x), v1, v2, v3] ((2, x) :: st) t g Q := Xp_go (i := .aload_n 0) (len := 1) (by decide +kernel) rfl
theorem x_85_36 : Xp 85 d 36 ls ((2, p) :: st) t g Q = (hkJK p = 6 ∧ jA p 6 ≤ t ∧ Xp 85 d 39 ls ((2, jR p 6) :: st) t g Q) := xr_getR (idx := 20) (ci := 6) (k := 6) (by decide +kernel) (by decide +kernel) (by decide +kernel)
theorem x_85_39 : Xp 85 d 39 [(2, x), v1, v2, v3] st t g Q = Xp 85 d 40 [(2, x), v1, v2, v3] ((2, x) :: st) t g Q := Xp_go (i := .aload_n 0) (len := 1) (by decide +kernel) rfl
theorem x_85_40 : Xp 85 d 40 ls ((2, p) :: st) t g Q = (hkJK p = 6 ∧ Xp 85 d 43 ls ((0, g p 7) :: st) t g Q) := xr_getI (idx := 37) (ci := 6) (k := 7) (by decide +kernel) (by decide +kernel) (by decide +kernel)
theorem x_85_43 : Xp 85 d 43 ls ((0, a) :: (2, p) :: st) t g Q = ((hkJK p = 100 ∧ 0 ≤ a ∧ a < jL p) ∧ Xp 85 d 44 ls ((0, g p a) :: st) t g Q) := Xp_chk (i := .iaload) (len := 1) (by decide +kernel) rfl
theorem x_85_44 : Xp 85 d 44 ls ((0, b) :: (0, a) :: st) t g Q = Xp 85 d 45 ls ((0, hkW (a + b)) :: st) t g Q := Xp_go (i := .iadd) (len := 1) (by decide +kernel) rfl
theorem x_85_45 : Xp 85 d 45 ls st t g Q = Xp 85 d 47 ls ((0, 48) :: st) t g Q := xr_bi (c := 48) (by decide +kernel) (by decide)
theorem x_85_47 : Xp 85 d 47 ls ((0, b) :: (0, a) :: st) t g Q = Xp 85 d 48 ls ((0, hkW (a - b)) :: st) t g Q := Xp_go (i := .isub) (len := 1) (by decide +kernel) rfl
theorem x_85_48 : Xp 85 d 48 [v0, v1, v2, v3] ((0, x) :: st) t g Q = (hkP1 v1 ∧ Xp 85 d 49 [v0, v1, (0, x), v3] st t g Q) := Xp_chk (i := .istore_n 2) (len := 1) (by decide +kernel) rfl
theorem x_85_49 : Xp 85 d 49 [(2, x), v1, v2, v3] st t g Q = Xp 85 d 50 [(2, x), v1, v2, v3] ((2, x) :: st) t g Q := Xp_go (i := .aload_n 0) (len := 1) (by decide +kernel) rfl
theorem x_85_50 : Xp 85 d 50 ls (v :: st) t g Q = (hkP1 v ∧ Xp 85 d 51 ls (v :: v :: st) t g Q) := Xp_chk (i := .dup) (len := 1) (by decide +kernel) rfl
theorem x_85_51 : Xp 85 d 51 ls ((2, p) :: st) t g Q = (hkJK p = 6 ∧ Xp 85 d 54 ls ((0, g p 7) :: st) t g Q) := xr_getI (idx := 37) (ci := 6) (k := 7) (by decide +kernel) (by decide +kernel) (by decide +kernel)
theorem x_85_54 : Xp 85 d 54 ls st t g Q = Xp 85 d 55 ls ((0, 1) :: st) t g Q := xr_const (c := 1) (by decide +kernel) (by decide)
theorem x_85_55 : Xp 85 d 55 ls ((0, b) :: (0, a) :: st) t g Q = Xp 85 d 56 ls ((0, hkW (a + b)) :: st) t g Q := Xp_go (i := .iadd) (len := 1) (by decide +kernel) rfl
theorem x_85_56 : Xp 85 d 56 ls ((0, x) :: (2, p) :: st) t g Q = (hkJK p = 6 ∧ Xp 85 d 59 ls st t (hkSet g p 7 x) Q) := xr_putI (idx := 37) (ci := 6) (k := 7) (by decide +kernel) (by decide +kernel) (by decide +kernel)
theorem x_85_59 : Xp 85 d 59 [v0, v1, v2, (0, x)] st t g Q = (hkP1 v2 ∧ Xp 85 d 62 [v0, v1, v2, (0, hkW (x + 1))] st t g Q) := Xp_chk (i := .iinc 3 (1)) (len := 3) (by decide +kernel) rfl
theorem x_85_62 : Xp 85 d 62 ls st t g Q = Xp 85 d 19 ls st t g Q := xr_goto (off := -43) (by decide +kernel) (by decide)
theorem x_85_65 : Xp 85 d 65 [v0, (2, x), v2, v3] st t g Q = Xp 85 d 66 [v0, (2, x), v2, v3] ((2, x) :: st) t g Q := Xp_go (i := .aload_n 1) (len := 1) (by decide +kernel) rfl
theorem x_85_66 : Xp 85 d 66 ls ((2, p) :: st) t g Q = (hkJK p = 7 ∧ jA p 0 ≤ t ∧ Xp 85 d 69 ls ((2, jR p 0) :: st) t g Q) := xr_getR (idx := 98) (ci := 7) (k := 0) (by decide +kernel) (by decide +kernel) (by decide +kernel)
theorem x_85_69 : Xp 85 d 69 ls st t g Q = Xp 85 d 70 ls ((0, 0) :: st) t g Q := xr_const (c := 0) (by decide +kernel) (by decide)
theorem x_85_70 : Xp 85 d 70 [v0, v1, (0, x), v3] st t g Q = Xp 85 d 71 [v0, v1, (0, x), v3] ((0, x) :: st) t g Q := Xp_go (i := .iload_n 2) (len := 1) (by decide +kernel) rfl
theorem x_85_71 : Xp 85 d 71 ls ((0, x) :: (0, a) :: (2, p) :: st) t g Q = ((hkJK p = 100 ∧ (100 = 102 → x = 0 ∨ x = 1) ∧ 0 ≤ a ∧ a < jL p) ∧ Xp 85 d 72 ls st t (hkSet g p a x) Q) := Xp_chk (i := .iastore) (len := 1) (by decide +kernel) rfl
theorem x_85_72 : Xp 85 d 72 ls [] t g Q = Q none t g := xr_retV (by decide +kernel) (by decide +kernel)
-- 86: HookBoxes$Reader.goesOn()Z
theorem x_86_0 : Xp 86 d 0 [(2, x)] st t g Q = Xp 86 d 1 [(2, x)] ((2, x) :: st) t g Q := Xp_go (i := .aload_n 0) (len := 1) (by decide +kernel) rfl
theorem x_86_1 : Xp 86 d 1 ls ((2, p) :: st) t g Q = (hkJK p = 6 ∧ Xp 86 d 4 ls ((0, g p 2) :: st) t g Q) := xr_getI (idx := 40) (ci := 6) (k := 2) (by decide +kernel) (by decide +kernel) (by decide +kernel)
theorem x_86_4 : Xp 86 d 4 ls st t g Q = Xp 86 d 5 ls ((0, -1) :: st) t g Q := xr_const (c := -1) (by decide +kernel) (by decide)
theorem x_86_5 : Xp 86 d 5 ls ((0, b) :: (0, a) :: st) t g Q = ((¬ (a = b) → Xp 86 d 19 ls st t g Q) ∧ (¬ (¬ (a = b)) → Xp 86 d 8 ls st t g Q)) := xr_if2 (cd := .ne) (off := 14) (by decide +kernel) (by decide)
theorem x_86_8 : Xp 86 d 8 [(2, x)] st t g Q = Xp 86 d 9 [(2, x)] ((2, x) :: st) t g Q := Xp_go (i := .aload_n 0) (len := 1) (by decide +kernel) rfl
theorem x_86_9 : Xp 86 d 9 ls ((2, p) :: st) t g Q = (hkJK p = 6 ∧ Xp 86 d 12 ls ((0, g p 3) :: st) t g Q) := xr_getI (idx := 43) (ci := 6) (k := 3) (by decide +kernel) (by decide +kernel) (by decide +kernel)
theorem x_86_12 : Xp 86 d 12 ls ((0, a) :: st) t g Q = ((¬ (a = 0) → Xp 86 d 19 ls st t g Q) ∧ (¬ (¬ (a = 0)) → Xp 86 d 15 ls st t g Q)) := xr_if1 (cd := .ne) (off := 7) (by decide +kernel) (by decide)
theorem x_86_15 : Xp 86 d 15 ls st t g Q = Xp 86 d 16 ls ((0, 1) :: st) t g Q := xr_const (c := 1) (by decide +kernel) (by decide)
theorem x_86_16 : Xp 86 d 16 ls st t g Q = Xp 86 d 20 ls st t g Q := xr_goto (off := 4) (by decide +kernel) (by decide)
theorem x_86_19 : Xp 86 d 19 ls st t g Q = Xp 86 d 20 ls ((0, 0) :: st) t g Q := xr_const (c := 0) (by decide +kernel) (by decide)
theorem x_86_20 : Xp 86 d 20 ls [(0, x)] t g Q = ((x = 0 ∨ x = 1) ∧ Q (some (0, x)) t g) := xr_retZ (by decide +kernel) (by decide +kernel)
-- 87: HookBoxes$Sum.<init>()V
theorem x_87_0 : Xp 87 d 0 [(2, x)] st t g Q = Xp 87 d 1 [(2, x)] ((2, x) :: st) t g Q := Xp_go (i := .aload_n 0) (len := 1) (by decide +kernel) rfl
theorem x_87_1 : Xp 87 d 1 ls ((2, p) :: st) t g Q = (hkC8 st ∧ Xp 87 d 4 ls st t g Q) := xr_obj (idx := 3) (f := 183) (by decide +kernel) (by decide +kernel) (by decide +kernel) (by decide +kernel)
theorem x_87_4 : Xp 87 d 4 [(2, x)] st t g Q = Xp 87 d 5 [(2, x)] ((2, x) :: st) t g Q := Xp_go (i := .aload_n 0) (len := 1) (by decide +kernel) rfl
theorem x_87_5 : Xp 87 d 5 ls st t g Q = Xp 87 d 8 ls ((0, 280) :: st) t g Q := xr_si (c := 280) (by decide +kernel) (by decide)
theorem x_87_8 : Xp 87 d 8 ls ((0, x) :: st) t g Q = (∃ P z w, hkEV[t]? = some (0, P, z, w) ∧ hkKd P = 100 ∧ x = jL (P : Int) ∧ Xp 87 d 10 ls ((2, (P : Int)) :: st) (t + 1) g Q) := xr_newa (ty := .int) (ci := 100) (by decide +kernel) (by decide) (by decide)
theorem x_87_10 : Xp 87 d 10 ls ((2, z) :: (2, p) :: st) t g Q = (hkJK p = 7 ∧ hkEV[t]? = some (1, p.toNat, 0, z.toNat) ∧ Xp 87 d 13 ls st (t + 1) g Q) := xr_putR (idx := 9) (ci := 7) (k := 0) (by decide +kernel) (by decide +kernel) (by decide +kernel) (by decide +kernel) (by decide +kernel)
theorem x_87_13 : Xp 87 d 13 ls [] t g Q = Q none t g := xr_retV (by decide +kernel) (by decide +kernel)
-- 88: HookBoxes$Sum.clear()V
theorem x_88_0 : Xp 88 d 0 [(2, x)] st t g Q = Xp 88 d 1 [(2, x)] ((2, x) :: st) t g Q := Xp_go (i := .aload_n 0) (len := 1) (by decide +kernel) rfl
theorem x_88_1 : Xp 88 d 1 ls ((2, p) :: st) t g Q = (hkJK p = 7 ∧ jA p 0 ≤ t ∧ Xp 88 d 4 ls ((2, jR p 0) :: st) t g Q) := xr_getR (idx := 9) (ci := 7) (k := 0) (by decide +kernel) (by decide +kernel) (by decide +kernel)
theorem x_88_4 : Xp 88 d 4 ls st t g Q = Xp 88 d 5 ls ((0, 0) :: st) t g Q := xr_const (c := 0) (by decide +kernel) (by decide)
theorem x_88_5 : Xp 88 (d + 1) 5 ls ((0, a1) :: (2, a0) :: st) t g Q = (hkC8 st ∧ Xp 179 d 0 [(2, a0), (0, a1), hkU, hkU] [] t g (fun r t g => Xp 88 (d + 1) 8 ls (hkPush r st) t g Q)) := xr_invS (idx := 15) (y' := 179) (tg := [2, 0]) (by decide +kernel) (by decide +kernel) (by decide +kernel) rfl rfl
theorem x_88_8 : Xp 88 d 8 ls [] t g Q = Q none t g := xr_retV (by decide +kernel) (by decide +kernel)
-- 89: HookBoxes$Sum.filled()I
theorem x_89_0 : Xp 89 d 0 ls st t g Q = Xp 89 d 1 ls ((0, 0) :: st) t g Q := xr_const (c := 0) (by decide +kernel) (by decide)
theorem x_89_1 : Xp 89 d 1 [v0, v1, v2] ((0, x) :: st) t g Q = (hkP1 v0 ∧ Xp 89 d 2 [v0, (0, x), v2] st t g Q) := Xp_chk (i := .istore_n 1) (len := 1) (by decide +kernel) rfl
theorem x_89_2 : Xp 89 d 2 ls st t g Q = Xp 89 d 3 ls ((0, 0) :: st) t g Q := xr_const (c := 0) (by decide +kernel) (by decide)
theorem x_89_3 : Xp 89 d 3 [v0, v1, v2] ((0, x) :: st) t g Q = (hkP1 v1 ∧ Xp 89 d 4 [v0, v1, (0, x)] st t g Q) := Xp_chk (i := .istore_n 2) (len := 1) (by decide +kernel) rfl
theorem x_89_4 : Xp 89 d 4 [v0, v1, (0, x)] st t g Q = Xp 89 d 5 [v0, v1, (0, x)] ((0, x) :: st) t g Q := Xp_go (i := .iload_n 2) (len := 1) (by decide +kernel) rfl
theorem x_89_5 : Xp 89 d 5 ls st t g Q = Xp 89 d 8 ls ((0, 280) :: st) t g Q := xr_si (c := 280) (by decide +kernel) (by decide)
theorem x_89_8 : Xp 89 d 8 ls ((0, b) :: (0, a) :: st) t g Q = ((b ≤ a → Xp 89 d 29 ls st t g Q) ∧ (¬ (b ≤ a) → Xp 89 d 11 ls st t g Q)) := xr_if2 (cd := .ge) (off := 21) (by decide +kernel) (by decide)
theorem x_89_11 : Xp 89 d 11 [(2, x), v1, v2] st t g Q = Xp 89 d 12 [(2, x), v1, v2] ((2, x) :: st) t g Q := Xp_go (i := .aload_n 0) (len := 1) (by decide +kernel) rfl
theorem x_89_12 : Xp 89 d 12 ls ((2, p) :: st) t g Q = (hkJK p = 7 ∧ jA p 0 ≤ t ∧ Xp 89 d 15 ls ((2, jR p 0) :: st) t g Q) := xr_getR (idx := 9) (ci := 7) (k := 0) (by decide +kernel) (by decide +kernel) (by decide +kernel)
theorem x_89_15 : Xp 89 d 15 [v0, v1, (0, x)] st t g Q = Xp 89 d 16 [v0, v1, (0, x)] ((0, x) :: st) t g Q := Xp_go (i := .iload_n 2) (len := 1) (by decide +kernel) rfl
theorem x_89_16 : Xp 89 d 16 ls ((0, a) :: (2, p) :: st) t g Q = ((hkJK p = 100 ∧ 0 ≤ a ∧ a < jL p) ∧ Xp 89 d 17 ls ((0, g p a) :: st) t g Q) := Xp_chk (i := .iaload) (len := 1) (by decide +kernel) rfl
theorem x_89_17 : Xp 89 d 17 ls ((0, a) :: st) t g Q = ((a = 0 → Xp 89 d 23 ls st t g Q) ∧ (¬ (a = 0) → Xp 89 d 20 ls st t g Q)) := xr_if1 (cd := .eq) (off := 6) (by decide +kernel) (by decide)
theorem x_89_20 : Xp 89 d 20 [v0, (0, x), v2] st t g Q = (hkP1 v0 ∧ Xp 89 d 23 [v0, (0, hkW (x + 1)), v2] st t g Q) := Xp_chk (i := .iinc 1 (1)) (len := 3) (by decide +kernel) rfl
theorem x_89_23 : Xp 89 d 23 [v0, v1, (0, x)] st t g Q = (hkP1 v1 ∧ Xp 89 d 26 [v0, v1, (0, hkW (x + 1))] st t g Q) := Xp_chk (i := .iinc 2 (1)) (len := 3) (by decide +kernel) rfl
theorem x_89_26 : Xp 89 d 26 ls st t g Q = Xp 89 d 4 ls st t g Q := xr_goto (off := -22) (by decide +kernel) (by decide)
theorem x_89_29 : Xp 89 d 29 [v0, (0, x), v2] st t g Q = Xp 89 d 30 [v0, (0, x), v2] ((0, x) :: st) t g Q := Xp_go (i := .iload_n 1) (len := 1) (by decide +kernel) rfl
theorem x_89_30 : Xp 89 d 30 ls [(0, x)] t g Q = Q (some (0, x)) t g := xr_retI (by decide +kernel) (by decide +kernel)
-- 90: HookBoxes$Sum.become(LHookBoxes$Sum;)V
theorem x_90_0 : Xp 90 d 0 [v0, (2, x)] st t g Q = Xp 90 d 1 [v0, (2, x)] ((2, x) :: st) t g Q := Xp_go (i := .aload_n 1) (len := 1) (by decide +kernel) rfl
theorem x_90_1 : Xp 90 d 1 ls ((2, p) :: st) t g Q = (hkJK p = 7 ∧ jA p 0 ≤ t ∧ Xp 90 d 4 ls ((2, jR p 0) :: st) t g Q) := xr_getR (idx := 9) (ci := 7) (k := 0) (by decide +kernel) (by decide +kernel) (by decide +kernel)
theorem x_90_4 : Xp 90 d 4 ls st t g Q = Xp 90 d 5 ls ((0, 0) :: st) t g Q := xr_const (c := 0) (by decide +kernel) (by decide)
theorem x_90_5 : Xp 90 d 5 [(2, x), v1] st t g Q = Xp 90 d 6 [(2, x), v1] ((2, x) :: st) t g Q := Xp_go (i := .aload_n 0) (len := 1) (by decide +kernel) rfl
theorem x_90_6 : Xp 90 d 6 ls ((2, p) :: st) t g Q = (hkJK p = 7 ∧ jA p 0 ≤ t ∧ Xp 90 d 9 ls ((2, jR p 0) :: st) t g Q) := xr_getR (idx := 9) (ci := 7) (k := 0) (by decide +kernel) (by decide +kernel) (by decide +kernel)
theorem x_90_9 : Xp 90 d 9 ls st t g Q = Xp 90 d 10 ls ((0, 0) :: st) t g Q := xr_const (c := 0) (by decide +kernel) (by decide)
theorem x_90_10 : Xp 90 d 10 ls st t g Q = Xp 90 d 13 ls ((0, 280) :: st) t g Q := xr_si (c := 280) (by decide +kernel) (by decide)
theorem x_90_13 : Xp 90 d 13 ls ((0, z) :: (0, b) :: (2, q) :: (0, a) :: (2, p) :: st) t g Q = ((hkJK p = 100 ∧ hkJK q = 100 ∧ 0 ≤ a ∧ 0 ≤ b ∧ 0 ≤ z ∧ a + z ≤ jL p ∧ b + z ≤ jL q) ∧ hkC8 st ∧ Xp 90 d 16 ls st t (hkCpy g p a q b z) Q) := xr_copy (idx := 21) (f := 999) (by decide +kernel) (by decide +kernel) (by decide +kernel)
theorem x_90_16 : Xp 90 d 16 ls [] t g Q = Q none t g := xr_retV (by decide +kernel) (by decide +kernel)
-- 91: HookBoxes$Sum.added(LHookBoxes$Sum;I)Z
theorem x_91_0 : Xp 91 d 0 ls st t g Q = Xp 91 d 1 ls ((0, 1) :: st) t g Q := xr_const (c := 1) (by decide +kernel) (by decide)
theorem x_91_1 : Xp 91 d 1 [v0, v1, v2, v3, v4] ((0, x) :: st) t g Q = (hkP1 v2 ∧ Xp 91 d 2 [v0, v1, v2, (0, x), v4] st t g Q) := Xp_chk (i := .istore_n 3) (len := 1) (by decide +kernel) rfl
theorem x_91_2 : Xp 91 d 2 ls st t g Q = Xp 91 d 3 ls ((0, 0) :: st) t g Q := xr_const (c := 0) (by decide +kernel) (by decide)
theorem x_91_3 : Xp 91 d 3 [v0, v1, v2, v3, v4] ((0, x) :: st) t g Q = (hkP1 v3 ∧ Xp 91 d 5 [v0, v1, v2, v3, (0, x)] st t g Q) := Xp_chk (i := .istore 4) (len := 2) (by decide +kernel) rfl
theorem x_91_5 : Xp 91 d 5 [v0, v1, v2, v3, (0, x)] st t g Q = Xp 91 d 7 [v0, v1, v2, v3, (0, x)] ((0, x) :: st) t g Q := Xp_go (i := .iload 4) (len := 2) (by decide +kernel) rfl
theorem x_91_7 : Xp 91 d 7 ls st t g Q = Xp 91 d 10 ls ((0, 280) :: st) t g Q := xr_si (c := 280) (by decide +kernel) (by decide)
theorem x_91_10 : Xp 91 d 10 ls ((0, b) :: (0, a) :: st) t g Q = ((b ≤ a → Xp 91 d 61 ls st t g Q) ∧ (¬ (b ≤ a) → Xp 91 d 13 ls st t g Q)) := xr_if2 (cd := .ge) (off := 51) (by decide +kernel) (by decide)
theorem x_91_13 : Xp 91 d 13 [(2, x), v1, v2, v3, v4] st t g Q = Xp 91 d 14 [(2, x), v1, v2, v3, v4] ((2, x) :: st) t g Q := Xp_go (i := .aload_n 0) (len := 1) (by decide +kernel) rfl
theorem x_91_14 : Xp 91 d 14 ls ((2, p) :: st) t g Q = (hkJK p = 7 ∧ jA p 0 ≤ t ∧ Xp 91 d 17 ls ((2, jR p 0) :: st) t g Q) := xr_getR (idx := 9) (ci := 7) (k := 0) (by decide +kernel) (by decide +kernel) (by decide +kernel)
theorem x_91_17 : Xp 91 d 17 [v0, v1, v2, v3, (0, x)] st t g Q = Xp 91 d 19 [v0, v1, v2, v3, (0, x)] ((0, x) :: st) t g Q := Xp_go (i := .iload 4) (len := 2) (by decide +kernel) rfl
theorem x_91_19 : Xp 91 d 19 ls (v :: w :: st) t g Q = ((hkP1 v ∧ hkP1 w) ∧ Xp 91 d 20 ls (v :: w :: v :: w :: st) t g Q) := Xp_chk (i := .dup2) (len := 1) (by decide +kernel) rfl
theorem x_91_20 : Xp 91 d 20 ls ((0, a) :: (2, p) :: st) t g Q = ((hkJK p = 100 ∧ 0 ≤ a ∧ a < jL p) ∧ Xp 91 d 21 ls ((0, g p a) :: st) t g Q) := Xp_chk (i := .iaload) (len := 1) (by decide +kernel) rfl
theorem x_91_21 : Xp 91 d 21 [v0, v1, (0, x), v3, v4] st t g Q = Xp 91 d 22 [v0, v1, (0, x), v3, v4] ((0, x) :: st) t g Q := Xp_go (i := .iload_n 2) (len := 1) (by decide +kernel) rfl
theorem x_91_22 : Xp 91 d 22 [v0, (2, x), v2, v3, v4] st t g Q = Xp 91 d 23 [v0, (2, x), v2, v3, v4] ((2, x) :: st) t g Q := Xp_go (i := .aload_n 1) (len := 1) (by decide +kernel) rfl
theorem x_91_23 : Xp 91 d 23 ls ((2, p) :: st) t g Q = (hkJK p = 7 ∧ jA p 0 ≤ t ∧ Xp 91 d 26 ls ((2, jR p 0) :: st) t g Q) := xr_getR (idx := 9) (ci := 7) (k := 0) (by decide +kernel) (by decide +kernel) (by decide +kernel)
theorem x_91_26 : Xp 91 d 26 [v0, v1, v2, v3, (0, x)] st t g Q = Xp 91 d 28 [v0, v1, v2, v3, (0, x)] ((0, x) :: st) t g Q := Xp_go (i := .iload 4) (len := 2) (by decide +kernel) rfl
theorem x_91_28 : Xp 91 d 28 ls ((0, a) :: (2, p) :: st) t g Q = ((hkJK p = 100 ∧ 0 ≤ a ∧ a < jL p) ∧ Xp 91 d 29 ls ((0, g p a) :: st) t g Q) := Xp_chk (i := .iaload) (len := 1) (by decide +kernel) rfl
theorem x_91_29 : Xp 91 d 29 ls ((0, b) :: (0, a) :: st) t g Q = Xp 91 d 30 ls ((0, hkW (a * b)) :: st) t g Q := Xp_go (i := .imul) (len := 1) (by decide +kernel) rfl
theorem x_91_30 : Xp 91 d 30 ls ((0, b) :: (0, a) :: st) t g Q = Xp 91 d 31 ls ((0, hkW (a + b)) :: st) t g Q := Xp_go (i := .iadd) (len := 1) (by decide +kernel) rfl
theorem x_91_31 : Xp 91 d 31 ls ((0, x) :: (0, a) :: (2, p) :: st) t g Q = ((hkJK p = 100 ∧ (100 = 102 → x = 0 ∨ x = 1) ∧ 0 ≤ a ∧ a < jL p) ∧ Xp 91 d 32 ls st t (hkSet g p a x) Q) := Xp_chk (i := .iastore) (len := 1) (by decide +kernel) rfl
theorem x_91_32 : Xp 91 d 32 [v0, v1, v2, (0, x), v4] st t g Q = Xp 91 d 33 [v0, v1, v2, (0, x), v4] ((0, x) :: st) t g Q := Xp_go (i := .iload_n 3) (len := 1) (by decide +kernel) rfl
theorem x_91_33 : Xp 91 d 33 [(2, x), v1, v2, v3, v4] st t g Q = Xp 91 d 34 [(2, x), v1, v2, v3, v4] ((2, x) :: st) t g Q := Xp_go (i := .aload_n 0) (len := 1) (by decide +kernel) rfl
theorem x_91_34 : Xp 91 d 34 ls ((2, p) :: st) t g Q = (hkJK p = 7 ∧ jA p 0 ≤ t ∧ Xp 91 d 37 ls ((2, jR p 0) :: st) t g Q) := xr_getR (idx := 9) (ci := 7) (k := 0) (by decide +kernel) (by decide +kernel) (by decide +kernel)
theorem x_91_37 : Xp 91 d 37 [v0, v1, v2, v3, (0, x)] st t g Q = Xp 91 d 39 [v0, v1, v2, v3, (0, x)] ((0, x) :: st) t g Q := Xp_go (i := .iload 4) (len := 2) (by decide +kernel) rfl
theorem x_91_39 : Xp 91 d 39 ls ((0, a) :: (2, p) :: st) t g Q = ((hkJK p = 100 ∧ 0 ≤ a ∧ a < jL p) ∧ Xp 91 d 40 ls ((0, g p a) :: st) t g Q) := Xp_chk (i := .iaload) (len := 1) (by decide +kernel) rfl
theorem x_91_40 : Xp 91 (d + 1) 40 ls ((0, a0) :: st) t g Q = (hkC8 st ∧ Xp 178 d 0 [(0, a0)] [] t g (fun r t g => Xp 91 (d + 1) 43 ls (hkPush r st) t g Q)) := xr_invS (idx := 27) (y' := 178) (tg := [0]) (by decide +kernel) (by decide +kernel) (by decide +kernel) rfl rfl
theorem x_91_43 : Xp 91 d 43 ls st t g Q = Xp 91 d 45 ls ((0, 1000000) :: st) t g Q := xr_ldc (idx := 33) (by decide +kernel) (by decide +kernel)
theorem x_91_45 : Xp 91 d 45 ls ((0, b) :: (0, a) :: st) t g Q = ((b < a → Xp 91 d 52 ls st t g Q) ∧ (¬ (b < a) → Xp 91 d 48 ls st t g Q)) := xr_if2 (cd := .gt) (off := 7) (by decide +kernel) (by decide)
theorem x_91_48 : Xp 91 d 48 ls st t g Q = Xp 91 d 49 ls ((0, 1) :: st) t g Q := xr_const (c := 1) (by decide +kernel) (by decide)
theorem x_91_49 : Xp 91 d 49 ls st t g Q = Xp 91 d 53 ls st t g Q := xr_goto (off := 4) (by decide +kernel) (by decide)
theorem x_91_52 : Xp 91 d 52 ls st t g Q = Xp 91 d 53 ls ((0, 0) :: st) t g Q := xr_const (c := 0) (by decide +kernel) (by decide)
theorem x_91_53 : Xp 91 d 53 ls ((0, b) :: (0, a) :: st) t g Q = Xp 91 d 54 ls ((0, hkAnd a b) :: st) t g Q := Xp_go (i := .iand) (len := 1) (by decide +kernel) rfl
theorem x_91_54 : Xp 91 d 54 [v0, v1, v2, v3, v4] ((0, x) :: st) t g Q = (hkP1 v2 ∧ Xp 91 d 55 [v0, v1, v2, (0, x), v4] st t g Q) := Xp_chk (i := .istore_n 3) (len := 1) (by decide +kernel) rfl
theorem x_91_55 : Xp 91 d 55 [v0, v1, v2, v3, (0, x)] st t g Q = (hkP1 v3 ∧ Xp 91 d 58 [v0, v1, v2, v3, (0, hkW (x + 1))] st t g Q) := Xp_chk (i := .iinc 4 (1)) (len := 3) (by decide +kernel) rfl
theorem x_91_58 : Xp 91 d 58 ls st t g Q = Xp 91 d 5 ls st t g Q := xr_goto (off := -53) (by decide +kernel) (by decide)
theorem x_91_61 : Xp 91 d 61 [v0, v1, v2, (0, x), v4] st t g Q = Xp 91 d 62 [v0, v1, v2, (0, x), v4] ((0, x) :: st) t g Q := Xp_go (i := .iload_n 3) (len := 1) (by decide +kernel) rfl
theorem x_91_62 : Xp 91 d 62 ls [(0, x)] t g Q = ((x = 0 ∨ x = 1) ∧ Q (some (0, x)) t g) := xr_retZ (by decide +kernel) (by decide +kernel)
-- 92: HookBoxes$Walker.<init>(LHookBoxes$Box;LHookBoxes$Products;)V
theorem x_92_0 : Xp 92 d 0 [(2, x), v1, v2] st t g Q = Xp 92 d 1 [(2, x), v1, v2] ((2, x) :: st) t g Q := Xp_go (i := .aload_n 0) (len := 1) (by decide +kernel) rfl
theorem x_92_1 : Xp 92 d 1 ls ((2, p) :: st) t g Q = (hkC8 st ∧ Xp 92 d 4 ls st t g Q) := xr_obj (idx := 3) (f := 183) (by decide +kernel) (by decide +kernel) (by decide +kernel) (by decide +kernel)
theorem x_92_4 : Xp 92 d 4 [(2, x), v1, v2] st t g Q = Xp 92 d 5 [(2, x), v1, v2] ((2, x) :: st) t g Q := Xp_go (i := .aload_n 0) (len := 1) (by decide +kernel) rfl
theorem x_92_5 : Xp 92 d 5 [v0, (2, x), v2] st t g Q = Xp 92 d 6 [v0, (2, x), v2] ((2, x) :: st) t g Q := Xp_go (i := .aload_n 1) (len := 1) (by decide +kernel) rfl
theorem x_92_6 : Xp 92 d 6 ls ((2, z) :: (2, p) :: st) t g Q = (hkJK p = 8 ∧ hkEV[t]? = some (1, p.toNat, 2, z.toNat) ∧ Xp 92 d 9 ls st (t + 1) g Q) := xr_putR (idx := 9) (ci := 8) (k := 2) (by decide +kernel) (by decide +kernel) (by decide +kernel) (by decide +kernel) (by decide +kernel)
theorem x_92_9 : Xp 92 d 9 [(2, x), v1, v2] st t g Q = Xp 92 d 10 [(2, x), v1, v2] ((2, x) :: st) t g Q := Xp_go (i := .aload_n 0) (len := 1) (by decide +kernel) rfl
theorem x_92_10 : Xp 92 d 10 [v0, v1, (2, x)] st t g Q = Xp 92 d 11 [v0, v1, (2, x)] ((2, x) :: st) t g Q := Xp_go (i := .aload_n 2) (len := 1) (by decide +kernel) rfl
theorem x_92_11 : Xp 92 d 11 ls ((2, z) :: (2, p) :: st) t g Q = (hkJK p = 8 ∧ hkEV[t]? = some (1, p.toNat, 3, z.toNat) ∧ Xp 92 d 14 ls st (t + 1) g Q) := xr_putR (idx := 15) (ci := 8) (k := 3) (by decide +kernel) (by decide +kernel) (by decide +kernel) (by decide +kernel) (by decide +kernel)
theorem x_92_14 : Xp 92 d 14 ls [] t g Q = Q none t g := xr_retV (by decide +kernel) (by decide +kernel)
-- 93: HookBoxes$Walker.walk(II)V
theorem x_93_0 : Xp 93 d 0 [(2, x), v1, v2, v3, v4, v5, v6] st t g Q = Xp 93 d 1 [(2, x), v1, v2, v3, v4, v5, v6] ((2, x) :: st) t g Q := Xp_go (i := .aload_n 0) (len := 1) (by decide +kernel) rfl
theorem x_93_1 : Xp 93 d 1 ls st t g Q = Xp 93 d 2 ls ((0, 0) :: st) t g Q := xr_const (c := 0) (by decide +kernel) (by decide)
theorem x_93_2 : Xp 93 d 2 ls ((0, x) :: (2, p) :: st) t g Q = (hkJK p = 8 ∧ Xp 93 d 5 ls st t (hkSet g p 0 x) Q) := xr_putI (idx := 19) (ci := 8) (k := 0) (by decide +kernel) (by decide +kernel) (by decide +kernel)
theorem x_93_5 : Xp 93 d 5 [(2, x), v1, v2, v3, v4, v5, v6] st t g Q = Xp 93 d 6 [(2, x), v1, v2, v3, v4, v5, v6] ((2, x) :: st) t g Q := Xp_go (i := .aload_n 0) (len := 1) (by decide +kernel) rfl
theorem x_93_6 : Xp 93 d 6 ls st t g Q = Xp 93 d 7 ls ((0, 0) :: st) t g Q := xr_const (c := 0) (by decide +kernel) (by decide)
theorem x_93_7 : Xp 93 d 7 ls ((0, x) :: (2, p) :: st) t g Q = (hkJK p = 8 ∧ Xp 93 d 10 ls st t (hkSet g p 1 x) Q) := xr_putI (idx := 23) (ci := 8) (k := 1) (by decide +kernel) (by decide +kernel) (by decide +kernel)
theorem x_93_10 : Xp 93 d 10 [v0, (0, x), v2, v3, v4, v5, v6] st t g Q = Xp 93 d 11 [v0, (0, x), v2, v3, v4, v5, v6] ((0, x) :: st) t g Q := Xp_go (i := .iload_n 1) (len := 1) (by decide +kernel) rfl
theorem x_93_11 : Xp 93 d 11 [v0, v1, v2, v3, v4, v5, v6] ((0, x) :: st) t g Q = (hkP1 v2 ∧ Xp 93 d 12 [v0, v1, v2, (0, x), v4, v5, v6] st t g Q) := Xp_chk (i := .istore_n 3) (len := 1) (by decide +kernel) rfl
theorem x_93_12 : Xp 93 d 12 ls st t g Q = Xp 93 d 13 ls ((0, 0) :: st) t g Q := xr_const (c := 0) (by decide +kernel) (by decide)
theorem x_93_13 : Xp 93 d 13 [v0, v1, v2, v3, v4, v5, v6] ((0, x) :: st) t g Q = (hkP1 v3 ∧ Xp 93 d 15 [v0, v1, v2, v3, (0, x), v5, v6] st t g Q) := Xp_chk (i := .istore 4) (len := 2) (by decide +kernel) rfl
theorem x_93_15 : Xp 93 d 15 [v0, v1, v2, v3, (0, x), v5, v6] st t g Q = Xp 93 d 17 [v0, v1, v2, v3, (0, x), v5, v6] ((0, x) :: st) t g Q := Xp_go (i := .iload 4) (len := 2) (by decide +kernel) rfl
theorem x_93_17 : Xp 93 d 17 [v0, v1, (0, x), v3, v4, v5, v6] st t g Q = Xp 93 d 18 [v0, v1, (0, x), v3, v4, v5, v6] ((0, x) :: st) t g Q := Xp_go (i := .iload_n 2) (len := 1) (by decide +kernel) rfl
theorem x_93_18 : Xp 93 d 18 ls ((0, b) :: (0, a) :: st) t g Q = ((b ≤ a → Xp 93 d 101 ls st t g Q) ∧ (¬ (b ≤ a) → Xp 93 d 21 ls st t g Q)) := xr_if2 (cd := .ge) (off := 83) (by decide +kernel) (by decide)
theorem x_93_21 : Xp 93 d 21 [v0, v1, v2, (0, x), v4, v5, v6] st t g Q = Xp 93 d 22 [v0, v1, v2, (0, x), v4, v5, v6] ((0, x) :: st) t g Q := Xp_go (i := .iload_n 3) (len := 1) (by decide +kernel) rfl
theorem x_93_22 : Xp 93 d 22 ls st t g Q = Xp 93 d 24 ls ((0, 1103515245) :: st) t g Q := xr_ldc (idx := 26) (by decide +kernel) (by decide +kernel)
theorem x_93_24 : Xp 93 d 24 ls ((0, b) :: (0, a) :: st) t g Q = Xp 93 d 25 ls ((0, hkW (a * b)) :: st) t g Q := Xp_go (i := .imul) (len := 1) (by decide +kernel) rfl
theorem x_93_25 : Xp 93 d 25 ls st t g Q = Xp 93 d 28 ls ((0, 12345) :: st) t g Q := xr_si (c := 12345) (by decide +kernel) (by decide)
theorem x_93_28 : Xp 93 d 28 ls ((0, b) :: (0, a) :: st) t g Q = Xp 93 d 29 ls ((0, hkW (a + b)) :: st) t g Q := Xp_go (i := .iadd) (len := 1) (by decide +kernel) rfl
theorem x_93_29 : Xp 93 d 29 [v0, v1, v2, v3, v4, v5, v6] ((0, x) :: st) t g Q = (hkP1 v2 ∧ Xp 93 d 30 [v0, v1, v2, (0, x), v4, v5, v6] st t g Q) := Xp_chk (i := .istore_n 3) (len := 1) (by decide +kernel) rfl
theorem x_93_30 : Xp 93 d 30 [v0, v1, v2, (0, x), v4, v5, v6] st t g Q = Xp 93 d 31 [v0, v1, v2, (0, x), v4, v5, v6] ((0, x) :: st) t g Q := Xp_go (i := .iload_n 3) (len := 1) (by decide +kernel) rfl
theorem x_93_31 : Xp 93 d 31 ls st t g Q = Xp 93 d 33 ls ((0, 9) :: st) t g Q := xr_bi (c := 9) (by decide +kernel) (by decide)
theorem x_93_33 : Xp 93 d 33 ls ((0, b) :: (0, a) :: st) t g Q = Xp 93 d 34 ls ((0, hkUsh a b) :: st) t g Q := Xp_go (i := .iushr) (len := 1) (by decide +kernel) rfl
theorem x_93_34 : Xp 93 d 34 [(2, x), v1, v2, v3, v4, v5, v6] st t g Q = Xp 93 d 35 [(2, x), v1, v2, v3, v4, v5, v6] ((2, x) :: st) t g Q := Xp_go (i := .aload_n 0) (len := 1) (by decide +kernel) rfl
theorem x_93_35 : Xp 93 d 35 ls ((2, p) :: st) t g Q = (hkJK p = 8 ∧ jA p 2 ≤ t ∧ Xp 93 d 38 ls ((2, jR p 2) :: st) t g Q) := xr_getR (idx := 9) (ci := 8) (k := 2) (by decide +kernel) (by decide +kernel) (by decide +kernel)
theorem x_93_38 : Xp 93 d 38 ls ((2, p) :: st) t g Q = (hkJK p = 1 ∧ Xp 93 d 41 ls ((0, g p 3) :: st) t g Q) := xr_getI (idx := 27) (ci := 1) (k := 3) (by decide +kernel) (by decide +kernel) (by decide +kernel)
theorem x_93_41 : Xp 93 d 41 ls ((0, b) :: (0, a) :: st) t g Q = (b ≠ 0 ∧ Xp 93 d 42 ls ((0, a.tmod b) :: st) t g Q) := Xp_chk (i := .irem) (len := 1) (by decide +kernel) rfl
theorem x_93_42 : Xp 93 d 42 [v0, v1, v2, v3, v4, v5, v6] ((0, x) :: st) t g Q = (hkP1 v4 ∧ Xp 93 d 44 [v0, v1, v2, v3, v4, (0, x), v6] st t g Q) := Xp_chk (i := .istore 5) (len := 2) (by decide +kernel) rfl
theorem x_93_44 : Xp 93 d 44 [(2, x), v1, v2, v3, v4, v5, v6] st t g Q = Xp 93 d 45 [(2, x), v1, v2, v3, v4, v5, v6] ((2, x) :: st) t g Q := Xp_go (i := .aload_n 0) (len := 1) (by decide +kernel) rfl
theorem x_93_45 : Xp 93 d 45 ls ((2, p) :: st) t g Q = (hkJK p = 8 ∧ jA p 3 ≤ t ∧ Xp 93 d 48 ls ((2, jR p 3) :: st) t g Q) := xr_getR (idx := 15) (ci := 8) (k := 3) (by decide +kernel) (by decide +kernel) (by decide +kernel)
theorem x_93_48 : Xp 93 d 48 [(2, x), v1, v2, v3, v4, v5, v6] st t g Q = Xp 93 d 49 [(2, x), v1, v2, v3, v4, v5, v6] ((2, x) :: st) t g Q := Xp_go (i := .aload_n 0) (len := 1) (by decide +kernel) rfl
theorem x_93_49 : Xp 93 d 49 ls ((2, p) :: st) t g Q = (hkJK p = 8 ∧ Xp 93 d 52 ls ((0, g p 0) :: st) t g Q) := xr_getI (idx := 19) (ci := 8) (k := 0) (by decide +kernel) (by decide +kernel) (by decide +kernel)
theorem x_93_52 : Xp 93 d 52 [v0, v1, v2, v3, v4, (0, x), v6] st t g Q = Xp 93 d 54 [v0, v1, v2, v3, v4, (0, x), v6] ((0, x) :: st) t g Q := Xp_go (i := .iload 5) (len := 2) (by decide +kernel) rfl
theorem x_93_54 : Xp 93 (d + 1) 54 ls ((0, a2) :: (0, a1) :: (2, a0) :: st) t g Q = (hkJK a0 = 3 ∧ hkC8 st ∧ Xp 59 d 0 [(2, a0), (0, a1), (0, a2), hkU, hkU, hkU] [] t g (fun r t g => Xp 93 (d + 1) 57 ls (hkPush r st) t g Q)) := xr_invV (idx := 32) (y' := 59) (ci := 3) (tg := [2, 0, 0]) (by decide +kernel) (by decide +kernel) (by decide +kernel) (by decide +kernel) rfl rfl rfl
theorem x_93_57 : Xp 93 d 57 [v0, v1, v2, v3, v4, v5, v6] ((0, x) :: st) t g Q = (hkP1 v5 ∧ Xp 93 d 59 [v0, v1, v2, v3, v4, v5, (0, x)] st t g Q) := Xp_chk (i := .istore 6) (len := 2) (by decide +kernel) rfl
theorem x_93_59 : Xp 93 d 59 [v0, v1, v2, v3, v4, v5, (0, x)] st t g Q = Xp 93 d 61 [v0, v1, v2, v3, v4, v5, (0, x)] ((0, x) :: st) t g Q := Xp_go (i := .iload 6) (len := 2) (by decide +kernel) rfl
theorem x_93_61 : Xp 93 d 61 ls st t g Q = Xp 93 d 62 ls ((0, -1) :: st) t g Q := xr_const (c := -1) (by decide +kernel) (by decide)
theorem x_93_62 : Xp 93 d 62 ls ((0, b) :: (0, a) :: st) t g Q = ((a = b → Xp 93 d 95 ls st t g Q) ∧ (¬ (a = b) → Xp 93 d 65 ls st t g Q)) := xr_if2 (cd := .eq) (off := 33) (by decide +kernel) (by decide)
theorem x_93_65 : Xp 93 d 65 [(2, x), v1, v2, v3, v4, v5, v6] st t g Q = Xp 93 d 66 [(2, x), v1, v2, v3, v4, v5, v6] ((2, x) :: st) t g Q := Xp_go (i := .aload_n 0) (len := 1) (by decide +kernel) rfl
theorem x_93_66 : Xp 93 d 66 ls (v :: st) t g Q = (hkP1 v ∧ Xp 93 d 67 ls (v :: v :: st) t g Q) := Xp_chk (i := .dup) (len := 1) (by decide +kernel) rfl
theorem x_93_67 : Xp 93 d 67 ls ((2, p) :: st) t g Q = (hkJK p = 8 ∧ Xp 93 d 70 ls ((0, g p 1) :: st) t g Q) := xr_getI (idx := 23) (ci := 8) (k := 1) (by decide +kernel) (by decide +kernel) (by decide +kernel)
theorem x_93_70 : Xp 93 d 70 [(2, x), v1, v2, v3, v4, v5, v6] st t g Q = Xp 93 d 71 [(2, x), v1, v2, v3, v4, v5, v6] ((2, x) :: st) t g Q := Xp_go (i := .aload_n 0) (len := 1) (by decide +kernel) rfl
theorem x_93_71 : Xp 93 d 71 ls ((2, p) :: st) t g Q = (hkJK p = 8 ∧ jA p 3 ≤ t ∧ Xp 93 d 74 ls ((2, jR p 3) :: st) t g Q) := xr_getR (idx := 15) (ci := 8) (k := 3) (by decide +kernel) (by decide +kernel) (by decide +kernel)
theorem x_93_74 : Xp 93 d 74 [(2, x), v1, v2, v3, v4, v5, v6] st t g Q = Xp 93 d 75 [(2, x), v1, v2, v3, v4, v5, v6] ((2, x) :: st) t g Q := Xp_go (i := .aload_n 0) (len := 1) (by decide +kernel) rfl
theorem x_93_75 : Xp 93 d 75 ls ((2, p) :: st) t g Q = (hkJK p = 8 ∧ Xp 93 d 78 ls ((0, g p 0) :: st) t g Q) := xr_getI (idx := 19) (ci := 8) (k := 0) (by decide +kernel) (by decide +kernel) (by decide +kernel)
theorem x_93_78 : Xp 93 d 78 [v0, v1, v2, v3, v4, (0, x), v6] st t g Q = Xp 93 d 80 [v0, v1, v2, v3, v4, (0, x), v6] ((0, x) :: st) t g Q := Xp_go (i := .iload 5) (len := 2) (by decide +kernel) rfl
theorem x_93_80 : Xp 93 d 80 [v0, v1, v2, v3, v4, v5, (0, x)] st t g Q = Xp 93 d 82 [v0, v1, v2, v3, v4, v5, (0, x)] ((0, x) :: st) t g Q := Xp_go (i := .iload 6) (len := 2) (by decide +kernel) rfl
theorem x_93_82 : Xp 93 (d + 1) 82 ls ((0, a3) :: (0, a2) :: (0, a1) :: (2, a0) :: st) t g Q = (hkJK a0 = 3 ∧ hkC8 st ∧ Xp 57 d 0 [(2, a0), (0, a1), (0, a2), (0, a3)] [] t g (fun r t g => Xp 93 (d + 1) 85 ls (hkPush r st) t g Q)) := xr_invV (idx := 38) (y' := 57) (ci := 3) (tg := [2, 0, 0, 0]) (by decide +kernel) (by decide +kernel) (by decide +kernel) (by decide +kernel) rfl rfl rfl
theorem x_93_85 : Xp 93 d 85 ls ((0, b) :: (0, a) :: st) t g Q = Xp 93 d 86 ls ((0, hkW (a + b)) :: st) t g Q := Xp_go (i := .iadd) (len := 1) (by decide +kernel) rfl
theorem x_93_86 : Xp 93 d 86 ls ((0, x) :: (2, p) :: st) t g Q = (hkJK p = 8 ∧ Xp 93 d 89 ls st t (hkSet g p 1 x) Q) := xr_putI (idx := 23) (ci := 8) (k := 1) (by decide +kernel) (by decide +kernel) (by decide +kernel)
theorem x_93_89 : Xp 93 d 89 [(2, x), v1, v2, v3, v4, v5, v6] st t g Q = Xp 93 d 90 [(2, x), v1, v2, v3, v4, v5, v6] ((2, x) :: st) t g Q := Xp_go (i := .aload_n 0) (len := 1) (by decide +kernel) rfl
theorem x_93_90 : Xp 93 d 90 [v0, v1, v2, v3, v4, v5, (0, x)] st t g Q = Xp 93 d 92 [v0, v1, v2, v3, v4, v5, (0, x)] ((0, x) :: st) t g Q := Xp_go (i := .iload 6) (len := 2) (by decide +kernel) rfl
theorem x_93_92 : Xp 93 d 92 ls ((0, x) :: (2, p) :: st) t g Q = (hkJK p = 8 ∧ Xp 93 d 95 ls st t (hkSet g p 0 x) Q) := xr_putI (idx := 19) (ci := 8) (k := 0) (by decide +kernel) (by decide +kernel) (by decide +kernel)
theorem x_93_95 : Xp 93 d 95 [v0, v1, v2, v3, (0, x), v5, v6] st t g Q = (hkP1 v3 ∧ Xp 93 d 98 [v0, v1, v2, v3, (0, hkW (x + 1)), v5, v6] st t g Q) := Xp_chk (i := .iinc 4 (1)) (len := 3) (by decide +kernel) rfl
theorem x_93_98 : Xp 93 d 98 ls st t g Q = Xp 93 d 15 ls st t g Q := xr_goto (off := -83) (by decide +kernel) (by decide)
theorem x_93_101 : Xp 93 d 101 ls [] t g Q = Q none t g := xr_retV (by decide +kernel) (by decide +kernel)
-- 94: HookBoxes$Sheet.<init>()V
theorem x_94_0 : Xp 94 d 0 [(2, x)] st t g Q = Xp 94 d 1 [(2, x)] ((2, x) :: st) t g Q := Xp_go (i := .aload_n 0) (len := 1) (by decide +kernel) rfl
theorem x_94_1 : Xp 94 d 1 ls ((2, p) :: st) t g Q = (hkC8 st ∧ Xp 94 d 4 ls st t g Q) := xr_obj (idx := 3) (f := 183) (by decide +kernel) (by decide +kernel) (by decide +kernel) (by decide +kernel)
theorem x_94_4 : Xp 94 d 4 [(2, x)] st t g Q = Xp 94 d 5 [(2, x)] ((2, x) :: st) t g Q := Xp_go (i := .aload_n 0) (len := 1) (by decide +kernel) rfl
theorem x_94_5 : Xp 94 d 5 ls st t g Q = Xp 94 d 6 ls ((0, -1) :: st) t g Q := xr_const (c := -1) (by decide +kernel) (by decide)
theorem x_94_6 : Xp 94 d 6 ls ((0, x) :: (2, p) :: st) t g Q = (hkJK p = 9 ∧ Xp 94 d 9 ls st t (hkSet g p 0 x) Q) := xr_putI (idx := 9) (ci := 9) (k := 0) (by decide +kernel) (by decide +kernel) (by decide +kernel)
theorem x_94_9 : Xp 94 d 9 [(2, x)] st t g Q = Xp 94 d 10 [(2, x)] ((2, x) :: st) t g Q := Xp_go (i := .aload_n 0) (len := 1) (by decide +kernel) rfl
theorem x_94_10 : Xp 94 d 10 ls st t g Q = Xp 94 d 12 ls ((0, 40) :: st) t g Q := xr_bi (c := 40) (by decide +kernel) (by decide)
theorem x_94_12 : Xp 94 d 12 ls ((0, x) :: st) t g Q = (∃ P z w, hkEV[t]? = some (0, P, z, w) ∧ hkKd P = 100 ∧ x = jL (P : Int) ∧ Xp 94 d 14 ls ((2, (P : Int)) :: st) (t + 1) g Q) := xr_newa (ty := .int) (ci := 100) (by decide +kernel) (by decide) (by decide)
theorem x_94_14 : Xp 94 d 14 ls ((2, z) :: (2, p) :: st) t g Q = (hkJK p = 9 ∧ hkEV[t]? = some (1, p.toNat, 2, z.toNat) ∧ Xp 94 d 17 ls st (t + 1) g Q) := xr_putR (idx := 15) (ci := 9) (k := 2) (by decide +kernel) (by decide +kernel) (by decide +kernel) (by decide +kernel) (by decide +kernel)
theorem x_94_17 : Xp 94 d 17 ls [] t g Q = Q none t g := xr_retV (by decide +kernel) (by decide +kernel)
-- 95: HookBoxes$Sheet.isMissing()Z
theorem x_95_0 : Xp 95 d 0 [(2, x)] st t g Q = Xp 95 d 1 [(2, x)] ((2, x) :: st) t g Q := Xp_go (i := .aload_n 0) (len := 1) (by decide +kernel) rfl
theorem x_95_1 : Xp 95 d 1 ls ((2, p) :: st) t g Q = (hkJK p = 9 ∧ Xp 95 d 4 ls ((0, g p 0) :: st) t g Q) := xr_getI (idx := 9) (ci := 9) (k := 0) (by decide +kernel) (by decide +kernel) (by decide +kernel)
theorem x_95_4 : Xp 95 d 4 ls st t g Q = Xp 95 d 5 ls ((0, -1) :: st) t g Q := xr_const (c := -1) (by decide +kernel) (by decide)
theorem x_95_5 : Xp 95 d 5 ls ((0, b) :: (0, a) :: st) t g Q = ((¬ (a = b) → Xp 95 d 12 ls st t g Q) ∧ (¬ (¬ (a = b)) → Xp 95 d 8 ls st t g Q)) := xr_if2 (cd := .ne) (off := 7) (by decide +kernel) (by decide)
theorem x_95_8 : Xp 95 d 8 ls st t g Q = Xp 95 d 9 ls ((0, 1) :: st) t g Q := xr_const (c := 1) (by decide +kernel) (by decide)
theorem x_95_9 : Xp 95 d 9 ls st t g Q = Xp 95 d 13 ls st t g Q := xr_goto (off := 4) (by decide +kernel) (by decide)
theorem x_95_12 : Xp 95 d 12 ls st t g Q = Xp 95 d 13 ls ((0, 0) :: st) t g Q := xr_const (c := 0) (by decide +kernel) (by decide)
theorem x_95_13 : Xp 95 d 13 ls [(0, x)] t g Q = ((x = 0 ∨ x = 1) ∧ Q (some (0, x)) t g) := xr_retZ (by decide +kernel) (by decide +kernel)
-- 96: HookBoxes$Sheet.tellsRows()Z
theorem x_96_0 : Xp 96 d 0 ls st t g Q = Xp 96 d 2 ls ((0, 20) :: st) t g Q := xr_bi (c := 20) (by decide +kernel) (by decide)
theorem x_96_2 : Xp 96 d 2 [v0, v1, v2] ((0, x) :: st) t g Q = (hkP1 v0 ∧ Xp 96 d 3 [v0, (0, x), v2] st t g Q) := Xp_chk (i := .istore_n 1) (len := 1) (by decide +kernel) rfl
theorem x_96_3 : Xp 96 d 3 ls st t g Q = Xp 96 d 4 ls ((0, 0) :: st) t g Q := xr_const (c := 0) (by decide +kernel) (by decide)
theorem x_96_4 : Xp 96 d 4 [v0, v1, v2] ((0, x) :: st) t g Q = (hkP1 v1 ∧ Xp 96 d 5 [v0, v1, (0, x)] st t g Q) := Xp_chk (i := .istore_n 2) (len := 1) (by decide +kernel) rfl
theorem x_96_5 : Xp 96 d 5 [v0, v1, (0, x)] st t g Q = Xp 96 d 6 [v0, v1, (0, x)] ((0, x) :: st) t g Q := Xp_go (i := .iload_n 2) (len := 1) (by decide +kernel) rfl
theorem x_96_6 : Xp 96 d 6 [(2, x), v1, v2] st t g Q = Xp 96 d 7 [(2, x), v1, v2] ((2, x) :: st) t g Q := Xp_go (i := .aload_n 0) (len := 1) (by decide +kernel) rfl
theorem x_96_7 : Xp 96 d 7 ls ((2, p) :: st) t g Q = (hkJK p = 9 ∧ Xp 96 d 10 ls ((0, g p 1) :: st) t g Q) := xr_getI (idx := 19) (ci := 9) (k := 1) (by decide +kernel) (by decide +kernel) (by decide +kernel)
theorem x_96_10 : Xp 96 d 10 ls ((0, b) :: (0, a) :: st) t g Q = ((b ≤ a → Xp 96 d 47 ls st t g Q) ∧ (¬ (b ≤ a) → Xp 96 d 13 ls st t g Q)) := xr_if2 (cd := .ge) (off := 37) (by decide +kernel) (by decide)
theorem x_96_13 : Xp 96 d 13 [(2, x), v1, v2] st t g Q = Xp 96 d 14 [(2, x), v1, v2] ((2, x) :: st) t g Q := Xp_go (i := .aload_n 0) (len := 1) (by decide +kernel) rfl
theorem x_96_14 : Xp 96 d 14 ls ((2, p) :: st) t g Q = (hkJK p = 9 ∧ jA p 2 ≤ t ∧ Xp 96 d 17 ls ((2, jR p 2) :: st) t g Q) := xr_getR (idx := 15) (ci := 9) (k := 2) (by decide +kernel) (by decide +kernel) (by decide +kernel)
theorem x_96_17 : Xp 96 d 17 [v0, v1, (0, x)] st t g Q = Xp 96 d 18 [v0, v1, (0, x)] ((0, x) :: st) t g Q := Xp_go (i := .iload_n 2) (len := 1) (by decide +kernel) rfl
theorem x_96_18 : Xp 96 d 18 ls ((0, a) :: (2, p) :: st) t g Q = ((hkJK p = 100 ∧ 0 ≤ a ∧ a < jL p) ∧ Xp 96 d 19 ls ((0, g p a) :: st) t g Q) := Xp_chk (i := .iaload) (len := 1) (by decide +kernel) rfl
theorem x_96_19 : Xp 96 d 19 ls ((0, a) :: st) t g Q = ((a < 0 → Xp 96 d 32 ls st t g Q) ∧ (¬ (a < 0) → Xp 96 d 22 ls st t g Q)) := xr_if1 (cd := .lt) (off := 13) (by decide +kernel) (by decide)
theorem x_96_22 : Xp 96 d 22 [(2, x), v1, v2] st t g Q = Xp 96 d 23 [(2, x), v1, v2] ((2, x) :: st) t g Q := Xp_go (i := .aload_n 0) (len := 1) (by decide +kernel) rfl
theorem x_96_23 : Xp 96 d 23 ls ((2, p) :: st) t g Q = (hkJK p = 9 ∧ jA p 2 ≤ t ∧ Xp 96 d 26 ls ((2, jR p 2) :: st) t g Q) := xr_getR (idx := 15) (ci := 9) (k := 2) (by decide +kernel) (by decide +kernel) (by decide +kernel)
theorem x_96_26 : Xp 96 d 26 [v0, v1, (0, x)] st t g Q = Xp 96 d 27 [v0, v1, (0, x)] ((0, x) :: st) t g Q := Xp_go (i := .iload_n 2) (len := 1) (by decide +kernel) rfl
theorem x_96_27 : Xp 96 d 27 ls ((0, a) :: (2, p) :: st) t g Q = ((hkJK p = 100 ∧ 0 ≤ a ∧ a < jL p) ∧ Xp 96 d 28 ls ((0, g p a) :: st) t g Q) := Xp_chk (i := .iaload) (len := 1) (by decide +kernel) rfl
theorem x_96_28 : Xp 96 d 28 [v0, (0, x), v2] st t g Q = Xp 96 d 29 [v0, (0, x), v2] ((0, x) :: st) t g Q := Xp_go (i := .iload_n 1) (len := 1) (by decide +kernel) rfl
theorem x_96_29 : Xp 96 d 29 ls ((0, b) :: (0, a) :: st) t g Q = ((a ≤ b → Xp 96 d 34 ls st t g Q) ∧ (¬ (a ≤ b) → Xp 96 d 32 ls st t g Q)) := xr_if2 (cd := .le) (off := 5) (by decide +kernel) (by decide)
theorem x_96_32 : Xp 96 d 32 ls st t g Q = Xp 96 d 33 ls ((0, 0) :: st) t g Q := xr_const (c := 0) (by decide +kernel) (by decide)
theorem x_96_33 : Xp 96 d 33 ls [(0, x)] t g Q = ((x = 0 ∨ x = 1) ∧ Q (some (0, x)) t g) := xr_retZ (by decide +kernel) (by decide +kernel)
theorem x_96_34 : Xp 96 d 34 [(2, x), v1, v2] st t g Q = Xp 96 d 35 [(2, x), v1, v2] ((2, x) :: st) t g Q := Xp_go (i := .aload_n 0) (len := 1) (by decide +kernel) rfl
theorem x_96_35 : Xp 96 d 35 ls ((2, p) :: st) t g Q = (hkJK p = 9 ∧ jA p 2 ≤ t ∧ Xp 96 d 38 ls ((2, jR p 2) :: st) t g Q) := xr_getR (idx := 15) (ci := 9) (k := 2) (by decide +kernel) (by decide +kernel) (by decide +kernel)
theorem x_96_38 : Xp 96 d 38 [v0, v1, (0, x)] st t g Q = Xp 96 d 39 [v0, v1, (0, x)] ((0, x) :: st) t g Q := Xp_go (i := .iload_n 2) (len := 1) (by decide +kernel) rfl
theorem x_96_39 : Xp 96 d 39 ls ((0, a) :: (2, p) :: st) t g Q = ((hkJK p = 100 ∧ 0 ≤ a ∧ a < jL p) ∧ Xp 96 d 40 ls ((0, g p a) :: st) t g Q) := Xp_chk (i := .iaload) (len := 1) (by decide +kernel) rfl
theorem x_96_40 : Xp 96 d 40 [v0, v1, v2] ((0, x) :: st) t g Q = (hkP1 v0 ∧ Xp 96 d 41 [v0, (0, x), v2] st t g Q) := Xp_chk (i := .istore_n 1) (len := 1) (by decide +kernel) rfl
theorem x_96_41 : Xp 96 d 41 [v0, v1, (0, x)] st t g Q = (hkP1 v1 ∧ Xp 96 d 44 [v0, v1, (0, hkW (x + 1))] st t g Q) := Xp_chk (i := .iinc 2 (1)) (len := 3) (by decide +kernel) rfl
theorem x_96_44 : Xp 96 d 44 ls st t g Q = Xp 96 d 5 ls st t g Q := xr_goto (off := -39) (by decide +kernel) (by decide)
theorem x_96_47 : Xp 96 d 47 ls st t g Q = Xp 96 d 48 ls ((0, 1) :: st) t g Q := xr_const (c := 1) (by decide +kernel) (by decide)
theorem x_96_48 : Xp 96 d 48 ls [(0, x)] t g Q = ((x = 0 ∨ x = 1) ∧ Q (some (0, x)) t g) := xr_retZ (by decide +kernel) (by decide +kernel)
-- 97: HookBoxes$Sheet.become(II)V
theorem x_97_0 : Xp 97 d 0 [(2, x), v1, v2] st t g Q = Xp 97 d 1 [(2, x), v1, v2] ((2, x) :: st) t g Q := Xp_go (i := .aload_n 0) (len := 1) (by decide +kernel) rfl
theorem x_97_1 : Xp 97 d 1 [v0, (0, x), v2] st t g Q = Xp 97 d 2 [v0, (0, x), v2] ((0, x) :: st) t g Q := Xp_go (i := .iload_n 1) (len := 1) (by decide +kernel) rfl
theorem x_97_2 : Xp 97 d 2 ls ((0, x) :: (2, p) :: st) t g Q = (hkJK p = 9 ∧ Xp 97 d 5 ls st t (hkSet g p 0 x) Q) := xr_putI (idx := 9) (ci := 9) (k := 0) (by decide +kernel) (by decide +kernel) (by decide +kernel)
theorem x_97_5 : Xp 97 d 5 [(2, x), v1, v2] st t g Q = Xp 97 d 6 [(2, x), v1, v2] ((2, x) :: st) t g Q := Xp_go (i := .aload_n 0) (len := 1) (by decide +kernel) rfl
theorem x_97_6 : Xp 97 d 6 [v0, v1, (0, x)] st t g Q = Xp 97 d 7 [v0, v1, (0, x)] ((0, x) :: st) t g Q := Xp_go (i := .iload_n 2) (len := 1) (by decide +kernel) rfl
theorem x_97_7 : Xp 97 d 7 ls ((0, x) :: (2, p) :: st) t g Q = (hkJK p = 9 ∧ Xp 97 d 10 ls st t (hkSet g p 1 x) Q) := xr_putI (idx := 19) (ci := 9) (k := 1) (by decide +kernel) (by decide +kernel) (by decide +kernel)
theorem x_97_10 : Xp 97 d 10 [(2, x), v1, v2] st t g Q = Xp 97 d 11 [(2, x), v1, v2] ((2, x) :: st) t g Q := Xp_go (i := .aload_n 0) (len := 1) (by decide +kernel) rfl
theorem x_97_11 : Xp 97 d 11 ls ((2, p) :: st) t g Q = (hkJK p = 9 ∧ jA p 2 ≤ t ∧ Xp 97 d 14 ls ((2, jR p 2) :: st) t g Q) := xr_getR (idx := 15) (ci := 9) (k := 2) (by decide +kernel) (by decide +kernel) (by decide +kernel)
theorem x_97_14 : Xp 97 d 14 ls st t g Q = Xp 97 d 15 ls ((0, 0) :: st) t g Q := xr_const (c := 0) (by decide +kernel) (by decide)
theorem x_97_15 : Xp 97 (d + 1) 15 ls ((0, a1) :: (2, a0) :: st) t g Q = (hkC8 st ∧ Xp 179 d 0 [(2, a0), (0, a1), hkU, hkU] [] t g (fun r t g => Xp 97 (d + 1) 18 ls (hkPush r st) t g Q)) := xr_invS (idx := 22) (y' := 179) (tg := [2, 0]) (by decide +kernel) (by decide +kernel) (by decide +kernel) rfl rfl
theorem x_97_18 : Xp 97 d 18 ls [] t g Q = Q none t g := xr_retV (by decide +kernel) (by decide +kernel)
-- 98: HookBoxes$Sheet.set(II)V
theorem x_98_0 : Xp 98 d 0 [(2, x), v1, v2] st t g Q = Xp 98 d 1 [(2, x), v1, v2] ((2, x) :: st) t g Q := Xp_go (i := .aload_n 0) (len := 1) (by decide +kernel) rfl
theorem x_98_1 : Xp 98 d 1 [v0, (0, x), v2] st t g Q = Xp 98 d 2 [v0, (0, x), v2] ((0, x) :: st) t g Q := Xp_go (i := .iload_n 1) (len := 1) (by decide +kernel) rfl
theorem x_98_2 : Xp 98 (d + 1) 2 ls ((0, a1) :: (2, a0) :: st) t g Q = (hkJK a0 = 9 ∧ hkC8 st ∧ Xp 99 d 0 [(2, a0), (0, a1)] [] t g (fun r t g => Xp 98 (d + 1) 5 ls (hkPush r st) t g Q)) := xr_invV (idx := 28) (y' := 99) (ci := 9) (tg := [2, 0]) (by decide +kernel) (by decide +kernel) (by decide +kernel) (by decide +kernel) rfl rfl rfl
theorem x_98_5 : Xp 98 d 5 ls ((0, a) :: st) t g Q = ((a = 0 → Xp 98 d 27 ls st t g Q) ∧ (¬ (a = 0) → Xp 98 d 8 ls st t g Q)) := xr_if1 (cd := .eq) (off := 22) (by decide +kernel) (by decide)
theorem x_98_8 : Xp 98 d 8 [(2, x), v1, v2] st t g Q = Xp 98 d 9 [(2, x), v1, v2] ((2, x) :: st) t g Q := Xp_go (i := .aload_n 0) (len := 1) (by decide +kernel) rfl
theorem x_98_9 : Xp 98 d 9 ls ((2, p) :: st) t g Q = (hkJK p = 9 ∧ jA p 2 ≤ t ∧ Xp 98 d 12 ls ((2, jR p 2) :: st) t g Q) := xr_getR (idx := 15) (ci := 9) (k := 2) (by decide +kernel) (by decide +kernel) (by decide +kernel)
theorem x_98_12 : Xp 98 d 12 [v0, (0, x), v2] st t g Q = Xp 98 d 13 [v0, (0, x), v2] ((0, x) :: st) t g Q := Xp_go (i := .iload_n 1) (len := 1) (by decide +kernel) rfl
theorem x_98_13 : Xp 98 d 13 [(2, x), v1, v2] st t g Q = Xp 98 d 14 [(2, x), v1, v2] ((2, x) :: st) t g Q := Xp_go (i := .aload_n 0) (len := 1) (by decide +kernel) rfl
theorem x_98_14 : Xp 98 d 14 ls ((2, p) :: st) t g Q = (hkJK p = 9 ∧ Xp 98 d 17 ls ((0, g p 0) :: st) t g Q) := xr_getI (idx := 9) (ci := 9) (k := 0) (by decide +kernel) (by decide +kernel) (by decide +kernel)
theorem x_98_17 : Xp 98 d 17 ls ((0, a) :: st) t g Q = ((¬ (a = 0) → Xp 98 d 25 ls st t g Q) ∧ (¬ (¬ (a = 0)) → Xp 98 d 20 ls st t g Q)) := xr_if1 (cd := .ne) (off := 8) (by decide +kernel) (by decide)
theorem x_98_20 : Xp 98 d 20 [v0, v1, (0, x)] st t g Q = Xp 98 d 21 [v0, v1, (0, x)] ((0, x) :: st) t g Q := Xp_go (i := .iload_n 2) (len := 1) (by decide +kernel) rfl
theorem x_98_21 : Xp 98 d 21 ls ((0, a) :: st) t g Q = Xp 98 d 22 ls ((0, Int.bmod a 65536) :: st) t g Q := Xp_go (i := .i2s) (len := 1) (by decide +kernel) rfl
theorem x_98_22 : Xp 98 d 22 ls st t g Q = Xp 98 d 26 ls st t g Q := xr_goto (off := 4) (by decide +kernel) (by decide)
theorem x_98_25 : Xp 98 d 25 [v0, v1, (0, x)] st t g Q = Xp 98 d 26 [v0, v1, (0, x)] ((0, x) :: st) t g Q := Xp_go (i := .iload_n 2) (len := 1) (by decide +kernel) rfl
theorem x_98_26 : Xp 98 d 26 ls ((0, x) :: (0, a) :: (2, p) :: st) t g Q = ((hkJK p = 100 ∧ (100 = 102 → x = 0 ∨ x = 1) ∧ 0 ≤ a ∧ a < jL p) ∧ Xp 98 d 27 ls st t (hkSet g p a x) Q) := Xp_chk (i := .iastore) (len := 1) (by decide +kernel) rfl
theorem x_98_27 : Xp 98 d 27 ls [] t g Q = Q none t g := xr_retV (by decide +kernel) (by decide +kernel)
-- 99: HookBoxes$Sheet.hasItem(I)Z
theorem x_99_0 : Xp 99 d 0 [v0, (0, x)] st t g Q = Xp 99 d 1 [v0, (0, x)] ((0, x) :: st) t g Q := Xp_go (i := .iload_n 1) (len := 1) (by decide +kernel) rfl
theorem x_99_1 : Xp 99 d 1 ls ((0, a) :: st) t g Q = ((a < 0 → Xp 99 d 16 ls st t g Q) ∧ (¬ (a < 0) → Xp 99 d 4 ls st t g Q)) := xr_if1 (cd := .lt) (off := 15) (by decide +kernel) (by decide)
theorem x_99_4 : Xp 99 d 4 [v0, (0, x)] st t g Q = Xp 99 d 5 [v0, (0, x)] ((0, x) :: st) t g Q := Xp_go (i := .iload_n 1) (len := 1) (by decide +kernel) rfl
theorem x_99_5 : Xp 99 d 5 [(2, x), v1] st t g Q = Xp 99 d 6 [(2, x), v1] ((2, x) :: st) t g Q := Xp_go (i := .aload_n 0) (len := 1) (by decide +kernel) rfl
theorem x_99_6 : Xp 99 d 6 ls ((2, p) :: st) t g Q = (hkJK p = 9 ∧ Xp 99 d 9 ls ((0, g p 1) :: st) t g Q) := xr_getI (idx := 19) (ci := 9) (k := 1) (by decide +kernel) (by decide +kernel) (by decide +kernel)
theorem x_99_9 : Xp 99 d 9 ls ((0, b) :: (0, a) :: st) t g Q = ((b ≤ a → Xp 99 d 16 ls st t g Q) ∧ (¬ (b ≤ a) → Xp 99 d 12 ls st t g Q)) := xr_if2 (cd := .ge) (off := 7) (by decide +kernel) (by decide)
theorem x_99_12 : Xp 99 d 12 ls st t g Q = Xp 99 d 13 ls ((0, 1) :: st) t g Q := xr_const (c := 1) (by decide +kernel) (by decide)
theorem x_99_13 : Xp 99 d 13 ls st t g Q = Xp 99 d 17 ls st t g Q := xr_goto (off := 4) (by decide +kernel) (by decide)
theorem x_99_16 : Xp 99 d 16 ls st t g Q = Xp 99 d 17 ls ((0, 0) :: st) t g Q := xr_const (c := 0) (by decide +kernel) (by decide)
theorem x_99_17 : Xp 99 d 17 ls [(0, x)] t g Q = ((x = 0 ∨ x = 1) ∧ Q (some (0, x)) t g) := xr_retZ (by decide +kernel) (by decide +kernel)
-- 100: HookBoxes$Sheet.hasStretch(II)Z
theorem x_100_0 : Xp 100 d 0 [v0, v1, (0, x)] st t g Q = Xp 100 d 1 [v0, v1, (0, x)] ((0, x) :: st) t g Q := Xp_go (i := .iload_n 2) (len := 1) (by decide +kernel) rfl
theorem x_100_1 : Xp 100 d 1 ls ((0, a) :: st) t g Q = ((a < 0 → Xp 100 d 30 ls st t g Q) ∧ (¬ (a < 0) → Xp 100 d 4 ls st t g Q)) := xr_if1 (cd := .lt) (off := 29) (by decide +kernel) (by decide)
theorem x_100_4 : Xp 100 d 4 [v0, v1, (0, x)] st t g Q = Xp 100 d 5 [v0, v1, (0, x)] ((0, x) :: st) t g Q := Xp_go (i := .iload_n 2) (len := 1) (by decide +kernel) rfl
theorem x_100_5 : Xp 100 d 5 [(2, x), v1, v2] st t g Q = Xp 100 d 6 [(2, x), v1, v2] ((2, x) :: st) t g Q := Xp_go (i := .aload_n 0) (len := 1) (by decide +kernel) rfl
theorem x_100_6 : Xp 100 d 6 ls ((2, p) :: st) t g Q = (hkJK p = 9 ∧ Xp 100 d 9 ls ((0, g p 1) :: st) t g Q) := xr_getI (idx := 19) (ci := 9) (k := 1) (by decide +kernel) (by decide +kernel) (by decide +kernel)
theorem x_100_9 : Xp 100 d 9 ls ((0, b) :: (0, a) :: st) t g Q = ((b < a → Xp 100 d 30 ls st t g Q) ∧ (¬ (b < a) → Xp 100 d 12 ls st t g Q)) := xr_if2 (cd := .gt) (off := 21) (by decide +kernel) (by decide)
theorem x_100_12 : Xp 100 d 12 [v0, (0, x), v2] st t g Q = Xp 100 d 13 [v0, (0, x), v2] ((0, x) :: st) t g Q := Xp_go (i := .iload_n 1) (len := 1) (by decide +kernel) rfl
theorem x_100_13 : Xp 100 d 13 ls ((0, a) :: st) t g Q = ((a < 0 → Xp 100 d 30 ls st t g Q) ∧ (¬ (a < 0) → Xp 100 d 16 ls st t g Q)) := xr_if1 (cd := .lt) (off := 17) (by decide +kernel) (by decide)
theorem x_100_16 : Xp 100 d 16 [v0, (0, x), v2] st t g Q = Xp 100 d 17 [v0, (0, x), v2] ((0, x) :: st) t g Q := Xp_go (i := .iload_n 1) (len := 1) (by decide +kernel) rfl
theorem x_100_17 : Xp 100 d 17 [(2, x), v1, v2] st t g Q = Xp 100 d 18 [(2, x), v1, v2] ((2, x) :: st) t g Q := Xp_go (i := .aload_n 0) (len := 1) (by decide +kernel) rfl
theorem x_100_18 : Xp 100 d 18 ls ((2, p) :: st) t g Q = (hkJK p = 9 ∧ Xp 100 d 21 ls ((0, g p 1) :: st) t g Q) := xr_getI (idx := 19) (ci := 9) (k := 1) (by decide +kernel) (by decide +kernel) (by decide +kernel)
theorem x_100_21 : Xp 100 d 21 [v0, v1, (0, x)] st t g Q = Xp 100 d 22 [v0, v1, (0, x)] ((0, x) :: st) t g Q := Xp_go (i := .iload_n 2) (len := 1) (by decide +kernel) rfl
theorem x_100_22 : Xp 100 d 22 ls ((0, b) :: (0, a) :: st) t g Q = Xp 100 d 23 ls ((0, hkW (a - b)) :: st) t g Q := Xp_go (i := .isub) (len := 1) (by decide +kernel) rfl
theorem x_100_23 : Xp 100 d 23 ls ((0, b) :: (0, a) :: st) t g Q = ((b < a → Xp 100 d 30 ls st t g Q) ∧ (¬ (b < a) → Xp 100 d 26 ls st t g Q)) := xr_if2 (cd := .gt) (off := 7) (by decide +kernel) (by decide)
theorem x_100_26 : Xp 100 d 26 ls st t g Q = Xp 100 d 27 ls ((0, 1) :: st) t g Q := xr_const (c := 1) (by decide +kernel) (by decide)
theorem x_100_27 : Xp 100 d 27 ls st t g Q = Xp 100 d 31 ls st t g Q := xr_goto (off := 4) (by decide +kernel) (by decide)
theorem x_100_30 : Xp 100 d 30 ls st t g Q = Xp 100 d 31 ls ((0, 0) :: st) t g Q := xr_const (c := 0) (by decide +kernel) (by decide)
theorem x_100_31 : Xp 100 d 31 ls [(0, x)] t g Q = ((x = 0 ∨ x = 1) ∧ Q (some (0, x)) t g) := xr_retZ (by decide +kernel) (by decide +kernel)
end XROWS
