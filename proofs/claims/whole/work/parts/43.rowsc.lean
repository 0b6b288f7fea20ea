/-! rows of HookBoxes (by program: wip/whole/gen_rows.py) -/
section XROWS
variable {d t : Nat} {ls st : List hkV} {g : hkG} {Q : Option hkV → Nat → hkG → Prop} {v w v0 v1 v2 v3 v4 v5 v6 v7 v8 v9 v10 v11 v12 v13 v14 v15 : hkV} {a b x z p q a0 a1 a2 a3 a4 a5 a6 : Int}
-- 0: HookBoxes.<init>()V
theorem x_0_0 : Xp 0 d 0 [(2, x), v1] st t g Q = Xp 0 d 1 [(2, x), v1] ((2, x) :: st) t g Q := Xp_go (i := .aload_n 0) (len := 1) (by decide +kernel) rfl
theorem x_0_1 : Xp 0 d 1 ls ((2, p) :: st) t g Q = (hkC8 st ∧ Xp 0 d 4 ls st t g Q) := xr_obj (idx := 5) (f := 183) (by decide +kernel) (by decide +kernel) (by decide +kernel) (by decide +kernel)
theorem x_0_4 : Xp 0 d 4 [(2, x), v1] st t g Q = Xp 0 d 5 [(2, x), v1] ((2, x) :: st) t g Q := Xp_go (i := .aload_n 0) (len := 1) (by decide +kernel) rfl
theorem x_0_5 : Xp 0 d 5 ls st t g Q = (∃ P z w, hkEV[t]? = some (0, P, z, w) ∧ hkKd P = 1 ∧ Xp 0 d 8 ls ((2, (P : Int)) :: st) (t + 1) g Q) := xr_new (idx := 11) (ci := 1) (by decide +kernel) (by decide +kernel) (by decide)
theorem x_0_8 : Xp 0 d 8 ls (v :: st) t g Q = (hkP1 v ∧ Xp 0 d 9 ls (v :: v :: st) t g Q) := Xp_chk (i := .dup) (len := 1) (by decide +kernel) rfl
theorem x_0_9 : Xp 0 (d + 1) 9 ls ((2, a0) :: st) t g Q = (hkC8 st ∧ Xp 33 d 0 [(2, a0)] [] t g (fun r t g => Xp 0 (d + 1) 12 ls (hkPush r st) t g Q)) := xr_invP (idx := 13) (y' := 33) (tg := [2]) (by decide +kernel) (by decide +kernel) (by decide +kernel) rfl rfl
theorem x_0_12 : Xp 0 d 12 ls ((2, z) :: (2, p) :: st) t g Q = (hkJK p = 0 ∧ hkEV[t]? = some (1, p.toNat, 0, z.toNat) ∧ Xp 0 d 15 ls st (t + 1) g Q) := xr_putR (idx := 14) (ci := 0) (k := 0) (by decide +kernel) (by decide +kernel) (by decide +kernel) (by decide +kernel) (by decide +kernel)
theorem x_0_15 : Xp 0 d 15 [(2, x), v1] st t g Q = Xp 0 d 16 [(2, x), v1] ((2, x) :: st) t g Q := Xp_go (i := .aload_n 0) (len := 1) (by decide +kernel) rfl
theorem x_0_16 : Xp 0 d 16 ls st t g Q = (∃ P z w, hkEV[t]? = some (0, P, z, w) ∧ hkKd P = 2 ∧ Xp 0 d 19 ls ((2, (P : Int)) :: st) (t + 1) g Q) := xr_new (idx := 18) (ci := 2) (by decide +kernel) (by decide +kernel) (by decide)
theorem x_0_19 : Xp 0 d 19 ls (v :: st) t g Q = (hkP1 v ∧ Xp 0 d 20 ls (v :: v :: st) t g Q) := Xp_chk (i := .dup) (len := 1) (by decide +kernel) rfl
theorem x_0_20 : Xp 0 d 20 [(2, x), v1] st t g Q = Xp 0 d 21 [(2, x), v1] ((2, x) :: st) t g Q := Xp_go (i := .aload_n 0) (len := 1) (by decide +kernel) rfl
theorem x_0_21 : Xp 0 d 21 ls ((2, p) :: st) t g Q = (hkJK p = 0 ∧ jA p 0 ≤ t ∧ Xp 0 d 24 ls ((2, jR p 0) :: st) t g Q) := xr_getR (idx := 14) (ci := 0) (k := 0) (by decide +kernel) (by decide +kernel) (by decide +kernel)
theorem x_0_24 : Xp 0 (d + 1) 24 ls ((2, a1) :: (2, a0) :: st) t g Q = (hkC8 st ∧ Xp 48 d 0 [(2, a0), (2, a1)] [] t g (fun r t g => Xp 0 (d + 1) 27 ls (hkPush r st) t g Q)) := xr_invP (idx := 20) (y' := 48) (tg := [2, 2]) (by decide +kernel) (by decide +kernel) (by decide +kernel) rfl rfl
theorem x_0_27 : Xp 0 d 27 ls ((2, z) :: (2, p) :: st) t g Q = (hkJK p = 0 ∧ hkEV[t]? = some (1, p.toNat, 1, z.toNat) ∧ Xp 0 d 30 ls st (t + 1) g Q) := xr_putR (idx := 23) (ci := 0) (k := 1) (by decide +kernel) (by decide +kernel) (by decide +kernel) (by decide +kernel) (by decide +kernel)
theorem x_0_30 : Xp 0 d 30 [(2, x), v1] st t g Q = Xp 0 d 31 [(2, x), v1] ((2, x) :: st) t g Q := Xp_go (i := .aload_n 0) (len := 1) (by decide +kernel) rfl
theorem x_0_31 : Xp 0 d 31 ls st t g Q = (∃ P z w, hkEV[t]? = some (0, P, z, w) ∧ hkKd P = 3 ∧ Xp 0 d 34 ls ((2, (P : Int)) :: st) (t + 1) g Q) := xr_new (idx := 27) (ci := 3) (by decide +kernel) (by decide +kernel) (by decide)
theorem x_0_34 : Xp 0 d 34 ls (v :: st) t g Q = (hkP1 v ∧ Xp 0 d 35 ls (v :: v :: st) t g Q) := Xp_chk (i := .dup) (len := 1) (by decide +kernel) rfl
theorem x_0_35 : Xp 0 d 35 [(2, x), v1] st t g Q = Xp 0 d 36 [(2, x), v1] ((2, x) :: st) t g Q := Xp_go (i := .aload_n 0) (len := 1) (by decide +kernel) rfl
theorem x_0_36 : Xp 0 d 36 ls ((2, p) :: st) t g Q = (hkJK p = 0 ∧ jA p 0 ≤ t ∧ Xp 0 d 39 ls ((2, jR p 0) :: st) t g Q) := xr_getR (idx := 14) (ci := 0) (k := 0) (by decide +kernel) (by decide +kernel) (by decide +kernel)
theorem x_0_39 : Xp 0 d 39 [(2, x), v1] st t g Q = Xp 0 d 40 [(2, x), v1] ((2, x) :: st) t g Q := Xp_go (i := .aload_n 0) (len := 1) (by decide +kernel) rfl
theorem x_0_40 : Xp 0 d 40 ls ((2, p) :: st) t g Q = (hkJK p = 0 ∧ jA p 1 ≤ t ∧ Xp 0 d 43 ls ((2, jR p 1) :: st) t g Q) := xr_getR (idx := 23) (ci := 0) (k := 1) (by decide +kernel) (by decide +kernel) (by decide +kernel)
theorem x_0_43 : Xp 0 (d + 1) 43 ls ((2, a2) :: (2, a1) :: (2, a0) :: st) t g Q = (hkC8 st ∧ Xp 50 d 0 [(2, a0), (2, a1), (2, a2)] [] t g (fun r t g => Xp 0 (d + 1) 46 ls (hkPush r st) t g Q)) := xr_invP (idx := 29) (y' := 50) (tg := [2, 2, 2]) (by decide +kernel) (by decide +kernel) (by decide +kernel) rfl rfl
theorem x_0_46 : Xp 0 d 46 ls ((2, z) :: (2, p) :: st) t g Q = (hkJK p = 0 ∧ hkEV[t]? = some (1, p.toNat, 2, z.toNat) ∧ Xp 0 d 49 ls st (t + 1) g Q) := xr_putR (idx := 32) (ci := 0) (k := 2) (by decide +kernel) (by decide +kernel) (by decide +kernel) (by decide +kernel) (by decide +kernel)
theorem x_0_49 : Xp 0 d 49 [(2, x), v1] st t g Q = Xp 0 d 50 [(2, x), v1] ((2, x) :: st) t g Q := Xp_go (i := .aload_n 0) (len := 1) (by decide +kernel) rfl
theorem x_0_50 : Xp 0 d 50 ls st t g Q = (∃ P z w, hkEV[t]? = some (0, P, z, w) ∧ hkKd P = 4 ∧ Xp 0 d 53 ls ((2, (P : Int)) :: st) (t + 1) g Q) := xr_new (idx := 36) (ci := 4) (by decide +kernel) (by decide +kernel) (by decide)
theorem x_0_53 : Xp 0 d 53 ls (v :: st) t g Q = (hkP1 v ∧ Xp 0 d 54 ls (v :: v :: st) t g Q) := Xp_chk (i := .dup) (len := 1) (by decide +kernel) rfl
theorem x_0_54 : Xp 0 d 54 [(2, x), v1] st t g Q = Xp 0 d 55 [(2, x), v1] ((2, x) :: st) t g Q := Xp_go (i := .aload_n 0) (len := 1) (by decide +kernel) rfl
theorem x_0_55 : Xp 0 d 55 ls ((2, p) :: st) t g Q = (hkJK p = 0 ∧ jA p 0 ≤ t ∧ Xp 0 d 58 ls ((2, jR p 0) :: st) t g Q) := xr_getR (idx := 14) (ci := 0) (k := 0) (by decide +kernel) (by decide +kernel) (by decide +kernel)
theorem x_0_58 : Xp 0 (d + 1) 58 ls ((2, a1) :: (2, a0) :: st) t g Q = (hkC8 st ∧ Xp 60 d 0 [(2, a0), (2, a1)] [] t g (fun r t g => Xp 0 (d + 1) 61 ls (hkPush r st) t g Q)) := xr_invP (idx := 38) (y' := 60) (tg := [2, 2]) (by decide +kernel) (by decide +kernel) (by decide +kernel) rfl rfl
theorem x_0_61 : Xp 0 d 61 ls ((2, z) :: (2, p) :: st) t g Q = (hkJK p = 0 ∧ hkEV[t]? = some (1, p.toNat, 3, z.toNat) ∧ Xp 0 d 64 ls st (t + 1) g Q) := xr_putR (idx := 39) (ci := 0) (k := 3) (by decide +kernel) (by decide +kernel) (by decide +kernel) (by decide +kernel) (by decide +kernel)
theorem x_0_64 : Xp 0 d 64 [(2, x), v1] st t g Q = Xp 0 d 65 [(2, x), v1] ((2, x) :: st) t g Q := Xp_go (i := .aload_n 0) (len := 1) (by decide +kernel) rfl
theorem x_0_65 : Xp 0 d 65 ls st t g Q = (∃ P z w, hkEV[t]? = some (0, P, z, w) ∧ hkKd P = 5 ∧ Xp 0 d 68 ls ((2, (P : Int)) :: st) (t + 1) g Q) := xr_new (idx := 43) (ci := 5) (by decide +kernel) (by decide +kernel) (by decide)
theorem x_0_68 : Xp 0 d 68 ls (v :: st) t g Q = (hkP1 v ∧ Xp 0 d 69 ls (v :: v :: st) t g Q) := Xp_chk (i := .dup) (len := 1) (by decide +kernel) rfl
theorem x_0_69 : Xp 0 d 69 [(2, x), v1] st t g Q = Xp 0 d 70 [(2, x), v1] ((2, x) :: st) t g Q := Xp_go (i := .aload_n 0) (len := 1) (by decide +kernel) rfl
theorem x_0_70 : Xp 0 d 70 ls ((2, p) :: st) t g Q = (hkJK p = 0 ∧ jA p 0 ≤ t ∧ Xp 0 d 73 ls ((2, jR p 0) :: st) t g Q) := xr_getR (idx := 14) (ci := 0) (k := 0) (by decide +kernel) (by decide +kernel) (by decide +kernel)
theorem x_0_73 : Xp 0 d 73 [(2, x), v1] st t g Q = Xp 0 d 74 [(2, x), v1] ((2, x) :: st) t g Q := Xp_go (i := .aload_n 0) (len := 1) (by decide +kernel) rfl
theorem x_0_74 : Xp 0 d 74 ls ((2, p) :: st) t g Q = (hkJK p = 0 ∧ jA p 2 ≤ t ∧ Xp 0 d 77 ls ((2, jR p 2) :: st) t g Q) := xr_getR (idx := 32) (ci := 0) (k := 2) (by decide +kernel) (by decide +kernel) (by decide +kernel)
theorem x_0_77 : Xp 0 (d + 1) 77 ls ((2, a2) :: (2, a1) :: (2, a0) :: st) t g Q = (hkC8 st ∧ Xp 70 d 0 [(2, a0), (2, a1), (2, a2)] [] t g (fun r t g => Xp 0 (d + 1) 80 ls (hkPush r st) t g Q)) := xr_invP (idx := 45) (y' := 70) (tg := [2, 2, 2]) (by decide +kernel) (by decide +kernel) (by decide +kernel) rfl rfl
theorem x_0_80 : Xp 0 d 80 ls ((2, z) :: (2, p) :: st) t g Q = (hkJK p = 0 ∧ hkEV[t]? = some (1, p.toNat, 4, z.toNat) ∧ Xp 0 d 83 ls st (t + 1) g Q) := xr_putR (idx := 48) (ci := 0) (k := 4) (by decide +kernel) (by decide +kernel) (by decide +kernel) (by decide +kernel) (by decide +kernel)
theorem x_0_83 : Xp 0 d 83 [(2, x), v1] st t g Q = Xp 0 d 84 [(2, x), v1] ((2, x) :: st) t g Q := Xp_go (i := .aload_n 0) (len := 1) (by decide +kernel) rfl
theorem x_0_84 : Xp 0 d 84 ls st t g Q = (∃ P z w, hkEV[t]? = some (0, P, z, w) ∧ hkKd P = 6 ∧ Xp 0 d 87 ls ((2, (P : Int)) :: st) (t + 1) g Q) := xr_new (idx := 52) (ci := 6) (by decide +kernel) (by decide +kernel) (by decide)
theorem x_0_87 : Xp 0 d 87 ls (v :: st) t g Q = (hkP1 v ∧ Xp 0 d 88 ls (v :: v :: st) t g Q) := Xp_chk (i := .dup) (len := 1) (by decide +kernel) rfl
theorem x_0_88 : Xp 0 d 88 [(2, x), v1] st t g Q = Xp 0 d 89 [(2, x), v1] ((2, x) :: st) t g Q := Xp_go (i := .aload_n 0) (len := 1) (by decide +kernel) rfl
theorem x_0_89 : Xp 0 d 89 ls ((2, p) :: st) t g Q = (hkJK p = 0 ∧ jA p 0 ≤ t ∧ Xp 0 d 92 ls ((2, jR p 0) :: st) t g Q) := xr_getR (idx := 14) (ci := 0) (k := 0) (by decide +kernel) (by decide +kernel) (by decide +kernel)
theorem x_0_92 : Xp 0 d 92 [(2, x), v1] st t g Q = Xp 0 d 93 [(2, x), v1] ((2, x) :: st) t g Q := Xp_go (i := .aload_n 0) (len := 1) (by decide +kernel) rfl
theorem x_0_93 : Xp 0 d 93 ls ((2, p) :: st) t g Q = (hkJK p = 0 ∧ jA p 4 ≤ t ∧ Xp 0 d 96 ls ((2, jR p 4) :: st) t g Q) := xr_getR (idx := 48) (ci := 0) (k := 4) (by decide +kernel) (by decide +kernel) (by decide +kernel)
theorem x_0_96 : Xp 0 (d + 1) 96 ls ((2, a2) :: (2, a1) :: (2, a0) :: st) t g Q = (hkC8 st ∧ Xp 74 d 0 [(2, a0), (2, a1), (2, a2), hkU] [] t g (fun r t g => Xp 0 (d + 1) 99 ls (hkPush r st) t g Q)) := xr_invP (idx := 54) (y' := 74) (tg := [2, 2, 2]) (by decide +kernel) (by decide +kernel) (by decide +kernel) rfl rfl
theorem x_0_99 : Xp 0 d 99 ls ((2, z) :: (2, p) :: st) t g Q = (hkJK p = 0 ∧ hkEV[t]? = some (1, p.toNat, 5, z.toNat) ∧ Xp 0 d 102 ls st (t + 1) g Q) := xr_putR (idx := 57) (ci := 0) (k := 5) (by decide +kernel) (by decide +kernel) (by decide +kernel) (by decide +kernel) (by decide +kernel)
theorem x_0_102 : Xp 0 d 102 [(2, x), v1] st t g Q = Xp 0 d 103 [(2, x), v1] ((2, x) :: st) t g Q := Xp_go (i := .aload_n 0) (len := 1) (by decide +kernel) rfl
theorem x_0_103 : Xp 0 d 103 ls st t g Q = (∃ P z w, hkEV[t]? = some (0, P, z, w) ∧ hkKd P = 8 ∧ Xp 0 d 106 ls ((2, (P : Int)) :: st) (t + 1) g Q) := xr_new (idx := 61) (ci := 8) (by decide +kernel) (by decide +kernel) (by decide)
theorem x_0_106 : Xp 0 d 106 ls (v :: st) t g Q = (hkP1 v ∧ Xp 0 d 107 ls (v :: v :: st) t g Q) := Xp_chk (i := .dup) (len := 1) (by decide +kernel) rfl
theorem x_0_107 : Xp 0 d 107 [(2, x), v1] st t g Q = Xp 0 d 108 [(2, x), v1] ((2, x) :: st) t g Q := Xp_go (i := .aload_n 0) (len := 1) (by decide +kernel) rfl
theorem x_0_108 : Xp 0 d 108 ls ((2, p) :: st) t g Q = (hkJK p = 0 ∧ jA p 0 ≤ t ∧ Xp 0 d 111 ls ((2, jR p 0) :: st) t g Q) := xr_getR (idx := 14) (ci := 0) (k := 0) (by decide +kernel) (by decide +kernel) (by decide +kernel)
theorem x_0_111 : Xp 0 d 111 [(2, x), v1] st t g Q = Xp 0 d 112 [(2, x), v1] ((2, x) :: st) t g Q := Xp_go (i := .aload_n 0) (len := 1) (by decide +kernel) rfl
theorem x_0_112 : Xp 0 d 112 ls ((2, p) :: st) t g Q = (hkJK p = 0 ∧ jA p 2 ≤ t ∧ Xp 0 d 115 ls ((2, jR p 2) :: st) t g Q) := xr_getR (idx := 32) (ci := 0) (k := 2) (by decide +kernel) (by decide +kernel) (by decide +kernel)
theorem x_0_115 : Xp 0 (d + 1) 115 ls ((2, a2) :: (2, a1) :: (2, a0) :: st) t g Q = (hkC8 st ∧ Xp 92 d 0 [(2, a0), (2, a1), (2, a2)] [] t g (fun r t g => Xp 0 (d + 1) 118 ls (hkPush r st) t g Q)) := xr_invP (idx := 63) (y' := 92) (tg := [2, 2, 2]) (by decide +kernel) (by decide +kernel) (by decide +kernel) rfl rfl
theorem x_0_118 : Xp 0 d 118 ls ((2, z) :: (2, p) :: st) t g Q = (hkJK p = 0 ∧ hkEV[t]? = some (1, p.toNat, 6, z.toNat) ∧ Xp 0 d 121 ls st (t + 1) g Q) := xr_putR (idx := 64) (ci := 0) (k := 6) (by decide +kernel) (by decide +kernel) (by decide +kernel) (by decide +kernel) (by decide +kernel)
theorem x_0_121 : Xp 0 d 121 [(2, x), v1] st t g Q = Xp 0 d 122 [(2, x), v1] ((2, x) :: st) t g Q := Xp_go (i := .aload_n 0) (len := 1) (by decide +kernel) rfl
theorem x_0_122 : Xp 0 d 122 ls st t g Q = (∃ P z w, hkEV[t]? = some (0, P, z, w) ∧ hkKd P = 7 ∧ Xp 0 d 125 ls ((2, (P : Int)) :: st) (t + 1) g Q) := xr_new (idx := 68) (ci := 7) (by decide +kernel) (by decide +kernel) (by decide)
theorem x_0_125 : Xp 0 d 125 ls (v :: st) t g Q = (hkP1 v ∧ Xp 0 d 126 ls (v :: v :: st) t g Q) := Xp_chk (i := .dup) (len := 1) (by decide +kernel) rfl
theorem x_0_126 : Xp 0 (d + 1) 126 ls ((2, a0) :: st) t g Q = (hkC8 st ∧ Xp 87 d 0 [(2, a0)] [] t g (fun r t g => Xp 0 (d + 1) 129 ls (hkPush r st) t g Q)) := xr_invP (idx := 70) (y' := 87) (tg := [2]) (by decide +kernel) (by decide +kernel) (by decide +kernel) rfl rfl
theorem x_0_129 : Xp 0 d 129 ls ((2, z) :: (2, p) :: st) t g Q = (hkJK p = 0 ∧ hkEV[t]? = some (1, p.toNat, 7, z.toNat) ∧ Xp 0 d 132 ls st (t + 1) g Q) := xr_putR (idx := 71) (ci := 0) (k := 7) (by decide +kernel) (by decide +kernel) (by decide +kernel) (by decide +kernel) (by decide +kernel)
theorem x_0_132 : Xp 0 d 132 [(2, x), v1] st t g Q = Xp 0 d 133 [(2, x), v1] ((2, x) :: st) t g Q := Xp_go (i := .aload_n 0) (len := 1) (by decide +kernel) rfl
theorem x_0_133 : Xp 0 d 133 ls st t g Q = (∃ P z w, hkEV[t]? = some (0, P, z, w) ∧ hkKd P = 7 ∧ Xp 0 d 136 ls ((2, (P : Int)) :: st) (t + 1) g Q) := xr_new (idx := 68) (ci := 7) (by decide +kernel) (by decide +kernel) (by decide)
theorem x_0_136 : Xp 0 d 136 ls (v :: st) t g Q = (hkP1 v ∧ Xp 0 d 137 ls (v :: v :: st) t g Q) := Xp_chk (i := .dup) (len := 1) (by decide +kernel) rfl
theorem x_0_137 : Xp 0 (d + 1) 137 ls ((2, a0) :: st) t g Q = (hkC8 st ∧ Xp 87 d 0 [(2, a0)] [] t g (fun r t g => Xp 0 (d + 1) 140 ls (hkPush r st) t g Q)) := xr_invP (idx := 70) (y' := 87) (tg := [2]) (by decide +kernel) (by decide +kernel) (by decide +kernel) rfl rfl
theorem x_0_140 : Xp 0 d 140 ls ((2, z) :: (2, p) :: st) t g Q = (hkJK p = 0 ∧ hkEV[t]? = some (1, p.toNat, 8, z.toNat) ∧ Xp 0 d 143 ls st (t + 1) g Q) := xr_putR (idx := 75) (ci := 0) (k := 8) (by decide +kernel) (by decide +kernel) (by decide +kernel) (by decide +kernel) (by decide +kernel)
theorem x_0_143 : Xp 0 d 143 [(2, x), v1] st t g Q = Xp 0 d 144 [(2, x), v1] ((2, x) :: st) t g Q := Xp_go (i := .aload_n 0) (len := 1) (by decide +kernel) rfl
theorem x_0_144 : Xp 0 d 144 ls st t g Q = (∃ P z w, hkEV[t]? = some (0, P, z, w) ∧ hkKd P = 7 ∧ Xp 0 d 147 ls ((2, (P : Int)) :: st) (t + 1) g Q) := xr_new (idx := 68) (ci := 7) (by decide +kernel) (by decide +kernel) (by decide)
theorem x_0_147 : Xp 0 d 147 ls (v :: st) t g Q = (hkP1 v ∧ Xp 0 d 148 ls (v :: v :: st) t g Q) := Xp_chk (i := .dup) (len := 1) (by decide +kernel) rfl
theorem x_0_148 : Xp 0 (d + 1) 148 ls ((2, a0) :: st) t g Q = (hkC8 st ∧ Xp 87 d 0 [(2, a0)] [] t g (fun r t g => Xp 0 (d + 1) 151 ls (hkPush r st) t g Q)) := xr_invP (idx := 70) (y' := 87) (tg := [2]) (by decide +kernel) (by decide +kernel) (by decide +kernel) rfl rfl
theorem x_0_151 : Xp 0 d 151 ls ((2, z) :: (2, p) :: st) t g Q = (hkJK p = 0 ∧ hkEV[t]? = some (1, p.toNat, 9, z.toNat) ∧ Xp 0 d 154 ls st (t + 1) g Q) := xr_putR (idx := 78) (ci := 0) (k := 9) (by decide +kernel) (by decide +kernel) (by decide +kernel) (by decide +kernel) (by decide +kernel)
theorem x_0_154 : Xp 0 d 154 [(2, x), v1] st t g Q = Xp 0 d 155 [(2, x), v1] ((2, x) :: st) t g Q := Xp_go (i := .aload_n 0) (len := 1) (by decide +kernel) rfl
theorem x_0_155 : Xp 0 d 155 ls st t g Q = Xp 0 d 156 ls ((0, 4) :: st) t g Q := xr_const (c := 4) (by decide +kernel) (by decide)
theorem x_0_156 : Xp 0 d 156 ls ((0, x) :: st) t g Q = (∃ P z w, hkEV[t]? = some (0, P, z, w) ∧ hkKd P = 104 ∧ x = jL (P : Int) ∧ Xp 0 d 159 ls ((2, (P : Int)) :: st) (t + 1) g Q) := xr_newq (idx := 81) (f := 9) (ci := 104) (by decide +kernel) (by decide +kernel) (by decide)
theorem x_0_159 : Xp 0 d 159 ls ((2, z) :: (2, p) :: st) t g Q = (hkJK p = 0 ∧ hkEV[t]? = some (1, p.toNat, 12, z.toNat) ∧ Xp 0 d 162 ls st (t + 1) g Q) := xr_putR (idx := 83) (ci := 0) (k := 12) (by decide +kernel) (by decide +kernel) (by decide +kernel) (by decide +kernel) (by decide +kernel)
theorem x_0_162 : Xp 0 d 162 ls st t g Q = Xp 0 d 163 ls ((0, 0) :: st) t g Q := xr_const (c := 0) (by decide +kernel) (by decide)
theorem x_0_163 : Xp 0 d 163 [v0, v1] ((0, x) :: st) t g Q = (hkP1 v0 ∧ Xp 0 d 164 [v0, (0, x)] st t g Q) := Xp_chk (i := .istore_n 1) (len := 1) (by decide +kernel) rfl
theorem x_0_164 : Xp 0 d 164 [v0, (0, x)] st t g Q = Xp 0 d 165 [v0, (0, x)] ((0, x) :: st) t g Q := Xp_go (i := .iload_n 1) (len := 1) (by decide +kernel) rfl
theorem x_0_165 : Xp 0 d 165 ls st t g Q = Xp 0 d 166 ls ((0, 4) :: st) t g Q := xr_const (c := 4) (by decide +kernel) (by decide)
theorem x_0_166 : Xp 0 d 166 ls ((0, b) :: (0, a) :: st) t g Q = ((b ≤ a → Xp 0 d 188 ls st t g Q) ∧ (¬ (b ≤ a) → Xp 0 d 169 ls st t g Q)) := xr_if2 (cd := .ge) (off := 22) (by decide +kernel) (by decide)
theorem x_0_169 : Xp 0 d 169 [(2, x), v1] st t g Q = Xp 0 d 170 [(2, x), v1] ((2, x) :: st) t g Q := Xp_go (i := .aload_n 0) (len := 1) (by decide +kernel) rfl
theorem x_0_170 : Xp 0 d 170 ls ((2, p) :: st) t g Q = (hkJK p = 0 ∧ jA p 12 ≤ t ∧ Xp 0 d 173 ls ((2, jR p 12) :: st) t g Q) := xr_getR (idx := 83) (ci := 0) (k := 12) (by decide +kernel) (by decide +kernel) (by decide +kernel)
theorem x_0_173 : Xp 0 d 173 [v0, (0, x)] st t g Q = Xp 0 d 174 [v0, (0, x)] ((0, x) :: st) t g Q := Xp_go (i := .iload_n 1) (len := 1) (by decide +kernel) rfl
theorem x_0_174 : Xp 0 d 174 ls st t g Q = (∃ P z w, hkEV[t]? = some (0, P, z, w) ∧ hkKd P = 9 ∧ Xp 0 d 177 ls ((2, (P : Int)) :: st) (t + 1) g Q) := xr_new (idx := 81) (ci := 9) (by decide +kernel) (by decide +kernel) (by decide)
theorem x_0_177 : Xp 0 d 177 ls (v :: st) t g Q = (hkP1 v ∧ Xp 0 d 178 ls (v :: v :: st) t g Q) := Xp_chk (i := .dup) (len := 1) (by decide +kernel) rfl
theorem x_0_178 : Xp 0 (d + 1) 178 ls ((2, a0) :: st) t g Q = (hkC8 st ∧ Xp 94 d 0 [(2, a0)] [] t g (fun r t g => Xp 0 (d + 1) 181 ls (hkPush r st) t g Q)) := xr_invP (idx := 87) (y' := 94) (tg := [2]) (by decide +kernel) (by decide +kernel) (by decide +kernel) rfl rfl
theorem x_0_181 : Xp 0 d 181 ls ((2, z) :: (0, a) :: (2, p) :: st) t g Q = ((((hkJK p = 103 ∧ hkJK z = 7) ∨ (hkJK p = 104 ∧ hkJK z = 9)) ∧ 0 ≤ a ∧ a < jL p ∧ hkEV[t]? = some (1, p.toNat, a.toNat, z.toNat)) ∧ Xp 0 d 182 ls st (t + 1) g Q) := Xp_chk (i := .aastore) (len := 1) (by decide +kernel) rfl
theorem x_0_182 : Xp 0 d 182 [v0, (0, x)] st t g Q = (hkP1 v0 ∧ Xp 0 d 185 [v0, (0, hkW (x + 1))] st t g Q) := Xp_chk (i := .iinc 1 (1)) (len := 3) (by decide +kernel) rfl
theorem x_0_185 : Xp 0 d 185 ls st t g Q = Xp 0 d 164 ls st t g Q := xr_goto (off := -21) (by decide +kernel) (by decide)
theorem x_0_188 : Xp 0 d 188 ls [] t g Q = Q none t g := xr_retV (by decide +kernel) (by decide +kernel)
-- 1: HookBoxes.box(II)I
theorem x_1_0 : Xp 1 d 0 [v0, (0, x), v2] st t g Q = Xp 1 d 1 [v0, (0, x), v2] ((0, x) :: st) t g Q := Xp_go (i := .iload_n 1) (len := 1) (by decide +kernel) rfl
theorem x_1_1 : Xp 1 d 1 ls st t g Q = Xp 1 d 2 ls ((0, 1) :: st) t g Q := xr_const (c := 1) (by decide +kernel) (by decide)
theorem x_1_2 : Xp 1 d 2 ls st t g Q = Xp 1 d 3 ls ((0, 4) :: st) t g Q := xr_const (c := 4) (by decide +kernel) (by decide)
theorem x_1_3 : Xp 1 (d + 1) 3 ls ((0, a2) :: (0, a1) :: (0, a0) :: st) t g Q = (hkC8 st ∧ Xp 2 d 0 [(0, a0), (0, a1), (0, a2)] [] t g (fun r t g => Xp 1 (d + 1) 6 ls (hkPush r st) t g Q)) := xr_invS (idx := 88) (y' := 2) (tg := [0, 0, 0]) (by decide +kernel) (by decide +kernel) (by decide +kernel) rfl rfl
theorem x_1_6 : Xp 1 d 6 ls ((0, a) :: st) t g Q = ((¬ (a = 0) → Xp 1 d 21 ls st t g Q) ∧ (¬ (¬ (a = 0)) → Xp 1 d 9 ls st t g Q)) := xr_if1 (cd := .ne) (off := 15) (by decide +kernel) (by decide)
theorem x_1_9 : Xp 1 d 9 [v0, v1, (0, x)] st t g Q = Xp 1 d 10 [v0, v1, (0, x)] ((0, x) :: st) t g Q := Xp_go (i := .iload_n 2) (len := 1) (by decide +kernel) rfl
theorem x_1_10 : Xp 1 d 10 [v0, (0, x), v2] st t g Q = Xp 1 d 11 [v0, (0, x), v2] ((0, x) :: st) t g Q := Xp_go (i := .iload_n 1) (len := 1) (by decide +kernel) rfl
theorem x_1_11 : Xp 1 d 11 ls st t g Q = Xp 1 d 12 ls ((0, 1) :: st) t g Q := xr_const (c := 1) (by decide +kernel) (by decide)
theorem x_1_12 : Xp 1 d 12 ls ((0, b) :: (0, a) :: st) t g Q = Xp 1 d 13 ls ((0, hkW (a + b)) :: st) t g Q := Xp_go (i := .iadd) (len := 1) (by decide +kernel) rfl
theorem x_1_13 : Xp 1 d 13 ls st t g Q = Xp 1 d 15 ls ((0, 7) :: st) t g Q := xr_bi (c := 7) (by decide +kernel) (by decide)
theorem x_1_15 : Xp 1 (d + 1) 15 ls ((0, a2) :: (0, a1) :: (0, a0) :: st) t g Q = (hkC8 st ∧ Xp 2 d 0 [(0, a0), (0, a1), (0, a2)] [] t g (fun r t g => Xp 1 (d + 1) 18 ls (hkPush r st) t g Q)) := xr_invS (idx := 88) (y' := 2) (tg := [0, 0, 0]) (by decide +kernel) (by decide +kernel) (by decide +kernel) rfl rfl
theorem x_1_18 : Xp 1 d 18 ls ((0, a) :: st) t g Q = ((a = 0 → Xp 1 d 24 ls st t g Q) ∧ (¬ (a = 0) → Xp 1 d 21 ls st t g Q)) := xr_if1 (cd := .eq) (off := 6) (by decide +kernel) (by decide)
theorem x_1_21 : Xp 1 d 21 ls st t g Q = Xp 1 d 23 ls ((0, -2) :: st) t g Q := xr_bi (c := -2) (by decide +kernel) (by decide)
theorem x_1_23 : Xp 1 d 23 ls [(0, x)] t g Q = Q (some (0, x)) t g := xr_retI (by decide +kernel) (by decide +kernel)
theorem x_1_24 : Xp 1 d 24 [(2, x), v1, v2] st t g Q = Xp 1 d 25 [(2, x), v1, v2] ((2, x) :: st) t g Q := Xp_go (i := .aload_n 0) (len := 1) (by decide +kernel) rfl
theorem x_1_25 : Xp 1 d 25 [v0, (0, x), v2] st t g Q = Xp 1 d 26 [v0, (0, x), v2] ((0, x) :: st) t g Q := Xp_go (i := .iload_n 1) (len := 1) (by decide +kernel) rfl
theorem x_1_26 : Xp 1 d 26 [v0, v1, (0, x)] st t g Q = Xp 1 d 27 [v0, v1, (0, x)] ((0, x) :: st) t g Q := Xp_go (i := .iload_n 2) (len := 1) (by decide +kernel) rfl
theorem x_1_27 : Xp 1 (d + 1) 27 ls ((0, a2) :: (0, a1) :: (2, a0) :: st) t g Q = (hkJK a0 = 0 ∧ hkC8 st ∧ Xp 3 d 0 [(2, a0), (0, a1), (0, a2)] [] t g (fun r t g => Xp 1 (d + 1) 30 ls (hkPush r st) t g Q)) := xr_invV (idx := 92) (y' := 3) (ci := 0) (tg := [2, 0, 0]) (by decide +kernel) (by decide +kernel) (by decide +kernel) (by decide +kernel) rfl rfl rfl
theorem x_1_30 : Xp 1 d 30 [(2, x), v1, v2] st t g Q = Xp 1 d 31 [(2, x), v1, v2] ((2, x) :: st) t g Q := Xp_go (i := .aload_n 0) (len := 1) (by decide +kernel) rfl
theorem x_1_31 : Xp 1 d 31 ls ((2, p) :: st) t g Q = (hkJK p = 0 ∧ jA p 7 ≤ t ∧ Xp 1 d 34 ls ((2, jR p 7) :: st) t g Q) := xr_getR (idx := 71) (ci := 0) (k := 7) (by decide +kernel) (by decide +kernel) (by decide +kernel)
theorem x_1_34 : Xp 1 (d + 1) 34 ls ((2, a0) :: st) t g Q = (hkJK a0 = 7 ∧ hkC8 st ∧ Xp 88 d 0 [(2, a0)] [] t g (fun r t g => Xp 1 (d + 1) 37 ls (hkPush r st) t g Q)) := xr_invV (idx := 96) (y' := 88) (ci := 7) (tg := [2]) (by decide +kernel) (by decide +kernel) (by decide +kernel) (by decide +kernel) rfl rfl rfl
theorem x_1_37 : Xp 1 d 37 [(2, x), v1, v2] st t g Q = Xp 1 d 38 [(2, x), v1, v2] ((2, x) :: st) t g Q := Xp_go (i := .aload_n 0) (len := 1) (by decide +kernel) rfl
theorem x_1_38 : Xp 1 d 38 ls ((2, p) :: st) t g Q = (hkJK p = 0 ∧ jA p 0 ≤ t ∧ Xp 1 d 41 ls ((2, jR p 0) :: st) t g Q) := xr_getR (idx := 14) (ci := 0) (k := 0) (by decide +kernel) (by decide +kernel) (by decide +kernel)
theorem x_1_41 : Xp 1 d 41 ls ((2, p) :: st) t g Q = (hkJK p = 1 ∧ Xp 1 d 44 ls ((0, g p 3) :: st) t g Q) := xr_getI (idx := 99) (ci := 1) (k := 3) (by decide +kernel) (by decide +kernel) (by decide +kernel)
theorem x_1_44 : Xp 1 d 44 ls [(0, x)] t g Q = Q (some (0, x)) t g := xr_retI (by decide +kernel) (by decide +kernel)
-- 2: HookBoxes.isOff(III)Z
theorem x_2_0 : Xp 2 d 0 [(0, x), v1, v2] st t g Q = Xp 2 d 1 [(0, x), v1, v2] ((0, x) :: st) t g Q := Xp_go (i := .iload_n 0) (len := 1) (by decide +kernel) rfl
theorem x_2_1 : Xp 2 d 1 [v0, (0, x), v2] st t g Q = Xp 2 d 2 [v0, (0, x), v2] ((0, x) :: st) t g Q := Xp_go (i := .iload_n 1) (len := 1) (by decide +kernel) rfl
theorem x_2_2 : Xp 2 d 2 ls ((0, b) :: (0, a) :: st) t g Q = ((a < b → Xp 2 d 10 ls st t g Q) ∧ (¬ (a < b) → Xp 2 d 5 ls st t g Q)) := xr_if2 (cd := .lt) (off := 8) (by decide +kernel) (by decide)
theorem x_2_5 : Xp 2 d 5 [(0, x), v1, v2] st t g Q = Xp 2 d 6 [(0, x), v1, v2] ((0, x) :: st) t g Q := Xp_go (i := .iload_n 0) (len := 1) (by decide +kernel) rfl
theorem x_2_6 : Xp 2 d 6 [v0, v1, (0, x)] st t g Q = Xp 2 d 7 [v0, v1, (0, x)] ((0, x) :: st) t g Q := Xp_go (i := .iload_n 2) (len := 1) (by decide +kernel) rfl
theorem x_2_7 : Xp 2 d 7 ls ((0, b) :: (0, a) :: st) t g Q = ((a ≤ b → Xp 2 d 14 ls st t g Q) ∧ (¬ (a ≤ b) → Xp 2 d 10 ls st t g Q)) := xr_if2 (cd := .le) (off := 7) (by decide +kernel) (by decide)
theorem x_2_10 : Xp 2 d 10 ls st t g Q = Xp 2 d 11 ls ((0, 1) :: st) t g Q := xr_const (c := 1) (by decide +kernel) (by decide)
theorem x_2_11 : Xp 2 d 11 ls st t g Q = Xp 2 d 15 ls st t g Q := xr_goto (off := 4) (by decide +kernel) (by decide)
theorem x_2_14 : Xp 2 d 14 ls st t g Q = Xp 2 d 15 ls ((0, 0) :: st) t g Q := xr_const (c := 0) (by decide +kernel) (by decide)
theorem x_2_15 : Xp 2 d 15 ls [(0, x)] t g Q = ((x = 0 ∨ x = 1) ∧ Q (some (0, x)) t g) := xr_retZ (by decide +kernel) (by decide +kernel)
-- 3: HookBoxes.changeBox(II)V
theorem x_3_0 : Xp 3 d 0 [v0, (0, x), v2] st t g Q = Xp 3 d 1 [v0, (0, x), v2] ((0, x) :: st) t g Q := Xp_go (i := .iload_n 1) (len := 1) (by decide +kernel) rfl
theorem x_3_1 : Xp 3 d 1 [(2, x), v1, v2] st t g Q = Xp 3 d 2 [(2, x), v1, v2] ((2, x) :: st) t g Q := Xp_go (i := .aload_n 0) (len := 1) (by decide +kernel) rfl
theorem x_3_2 : Xp 3 d 2 ls ((2, p) :: st) t g Q = (hkJK p = 0 ∧ jA p 0 ≤ t ∧ Xp 3 d 5 ls ((2, jR p 0) :: st) t g Q) := xr_getR (idx := 14) (ci := 0) (k := 0) (by decide +kernel) (by decide +kernel) (by decide +kernel)
theorem x_3_5 : Xp 3 d 5 ls ((2, p) :: st) t g Q = (hkJK p = 1 ∧ Xp 3 d 8 ls ((0, g p 0) :: st) t g Q) := xr_getI (idx := 107) (ci := 1) (k := 0) (by decide +kernel) (by decide +kernel) (by decide +kernel)
theorem x_3_8 : Xp 3 d 8 ls ((0, b) :: (0, a) :: st) t g Q = ((¬ (a = b) → Xp 3 d 22 ls st t g Q) ∧ (¬ (¬ (a = b)) → Xp 3 d 11 ls st t g Q)) := xr_if2 (cd := .ne) (off := 14) (by decide +kernel) (by decide)
theorem x_3_11 : Xp 3 d 11 [v0, v1, (0, x)] st t g Q = Xp 3 d 12 [v0, v1, (0, x)] ((0, x) :: st) t g Q := Xp_go (i := .iload_n 2) (len := 1) (by decide +kernel) rfl
theorem x_3_12 : Xp 3 d 12 [(2, x), v1, v2] st t g Q = Xp 3 d 13 [(2, x), v1, v2] ((2, x) :: st) t g Q := Xp_go (i := .aload_n 0) (len := 1) (by decide +kernel) rfl
theorem x_3_13 : Xp 3 d 13 ls ((2, p) :: st) t g Q = (hkJK p = 0 ∧ jA p 0 ≤ t ∧ Xp 3 d 16 ls ((2, jR p 0) :: st) t g Q) := xr_getR (idx := 14) (ci := 0) (k := 0) (by decide +kernel) (by decide +kernel) (by decide +kernel)
theorem x_3_16 : Xp 3 d 16 ls ((2, p) :: st) t g Q = (hkJK p = 1 ∧ Xp 3 d 19 ls ((0, g p 1) :: st) t g Q) := xr_getI (idx := 246) (ci := 1) (k := 1) (by decide +kernel) (by decide +kernel) (by decide +kernel)
theorem x_3_19 : Xp 3 d 19 ls ((0, b) :: (0, a) :: st) t g Q = ((a = b → Xp 3 d 45 ls st t g Q) ∧ (¬ (a = b) → Xp 3 d 22 ls st t g Q)) := xr_if2 (cd := .eq) (off := 26) (by decide +kernel) (by decide)
theorem x_3_22 : Xp 3 d 22 [(2, x), v1, v2] st t g Q = Xp 3 d 23 [(2, x), v1, v2] ((2, x) :: st) t g Q := Xp_go (i := .aload_n 0) (len := 1) (by decide +kernel) rfl
theorem x_3_23 : Xp 3 d 23 ls ((2, p) :: st) t g Q = (hkJK p = 0 ∧ jA p 0 ≤ t ∧ Xp 3 d 26 ls ((2, jR p 0) :: st) t g Q) := xr_getR (idx := 14) (ci := 0) (k := 0) (by decide +kernel) (by decide +kernel) (by decide +kernel)
theorem x_3_26 : Xp 3 d 26 [v0, (0, x), v2] st t g Q = Xp 3 d 27 [v0, (0, x), v2] ((0, x) :: st) t g Q := Xp_go (i := .iload_n 1) (len := 1) (by decide +kernel) rfl
theorem x_3_27 : Xp 3 d 27 [v0, v1, (0, x)] st t g Q = Xp 3 d 28 [v0, v1, (0, x)] ((0, x) :: st) t g Q := Xp_go (i := .iload_n 2) (len := 1) (by decide +kernel) rfl
theorem x_3_28 : Xp 3 (d + 1) 28 ls ((0, a2) :: (0, a1) :: (2, a0) :: st) t g Q = (hkJK a0 = 1 ∧ hkC8 st ∧ Xp 34 d 0 [(2, a0), (0, a1), (0, a2), hkU] [] t g (fun r t g => Xp 3 (d + 1) 31 ls (hkPush r st) t g Q)) := xr_invV (idx := 273) (y' := 34) (ci := 1) (tg := [2, 0, 0]) (by decide +kernel) (by decide +kernel) (by decide +kernel) (by decide +kernel) rfl rfl rfl
theorem x_3_31 : Xp 3 d 31 [(2, x), v1, v2] st t g Q = Xp 3 d 32 [(2, x), v1, v2] ((2, x) :: st) t g Q := Xp_go (i := .aload_n 0) (len := 1) (by decide +kernel) rfl
theorem x_3_32 : Xp 3 d 32 ls ((2, p) :: st) t g Q = (hkJK p = 0 ∧ jA p 2 ≤ t ∧ Xp 3 d 35 ls ((2, jR p 2) :: st) t g Q) := xr_getR (idx := 32) (ci := 0) (k := 2) (by decide +kernel) (by decide +kernel) (by decide +kernel)
theorem x_3_35 : Xp 3 (d + 1) 35 ls ((2, a0) :: st) t g Q = (hkJK a0 = 3 ∧ hkC8 st ∧ Xp 51 d 0 [(2, a0), hkU, hkU] [] t g (fun r t g => Xp 3 (d + 1) 38 ls (hkPush r st) t g Q)) := xr_invV (idx := 274) (y' := 51) (ci := 3) (tg := [2]) (by decide +kernel) (by decide +kernel) (by decide +kernel) (by decide +kernel) rfl rfl rfl
theorem x_3_38 : Xp 3 d 38 [(2, x), v1, v2] st t g Q = Xp 3 d 39 [(2, x), v1, v2] ((2, x) :: st) t g Q := Xp_go (i := .aload_n 0) (len := 1) (by decide +kernel) rfl
theorem x_3_39 : Xp 3 d 39 ls ((2, p) :: st) t g Q = (hkJK p = 0 ∧ jA p 3 ≤ t ∧ Xp 3 d 42 ls ((2, jR p 3) :: st) t g Q) := xr_getR (idx := 39) (ci := 0) (k := 3) (by decide +kernel) (by decide +kernel) (by decide +kernel)
theorem x_3_42 : Xp 3 (d + 1) 42 ls ((2, a0) :: st) t g Q = (hkJK a0 = 4 ∧ hkC8 st ∧ Xp 61 d 0 [(2, a0)] [] t g (fun r t g => Xp 3 (d + 1) 45 ls (hkPush r st) t g Q)) := xr_invV (idx := 277) (y' := 61) (ci := 4) (tg := [2]) (by decide +kernel) (by decide +kernel) (by decide +kernel) (by decide +kernel) rfl rfl rfl
theorem x_3_45 : Xp 3 d 45 ls [] t g Q = Q none t g := xr_retV (by decide +kernel) (by decide +kernel)
-- 4: HookBoxes.row(II)I
theorem x_4_0 : Xp 4 d 0 [(2, x), v1, v2] st t g Q = Xp 4 d 1 [(2, x), v1, v2] ((2, x) :: st) t g Q := Xp_go (i := .aload_n 0) (len := 1) (by decide +kernel) rfl
theorem x_4_1 : Xp 4 d 1 ls ((2, p) :: st) t g Q = (hkJK p = 0 ∧ jA p 0 ≤ t ∧ Xp 4 d 4 ls ((2, jR p 0) :: st) t g Q) := xr_getR (idx := 14) (ci := 0) (k := 0) (by decide +kernel) (by decide +kernel) (by decide +kernel)
theorem x_4_4 : Xp 4 d 4 [v0, (0, x), v2] st t g Q = Xp 4 d 5 [v0, (0, x), v2] ((0, x) :: st) t g Q := Xp_go (i := .iload_n 1) (len := 1) (by decide +kernel) rfl
theorem x_4_5 : Xp 4 (d + 1) 5 ls ((0, a1) :: (2, a0) :: st) t g Q = (hkJK a0 = 1 ∧ hkC8 st ∧ Xp 39 d 0 [(2, a0), (0, a1)] [] t g (fun r t g => Xp 4 (d + 1) 8 ls (hkPush r st) t g Q)) := xr_invV (idx := 103) (y' := 39) (ci := 1) (tg := [2, 0]) (by decide +kernel) (by decide +kernel) (by decide +kernel) (by decide +kernel) rfl rfl rfl
theorem x_4_8 : Xp 4 d 8 ls ((0, a) :: st) t g Q = ((a = 0 → Xp 4 d 28 ls st t g Q) ∧ (¬ (a = 0) → Xp 4 d 11 ls st t g Q)) := xr_if1 (cd := .eq) (off := 20) (by decide +kernel) (by decide)
theorem x_4_11 : Xp 4 d 11 [v0, v1, (0, x)] st t g Q = Xp 4 d 12 [v0, v1, (0, x)] ((0, x) :: st) t g Q := Xp_go (i := .iload_n 2) (len := 1) (by decide +kernel) rfl
theorem x_4_12 : Xp 4 d 12 ls st t g Q = Xp 4 d 13 ls ((0, 0) :: st) t g Q := xr_const (c := 0) (by decide +kernel) (by decide)
theorem x_4_13 : Xp 4 d 13 [(2, x), v1, v2] st t g Q = Xp 4 d 14 [(2, x), v1, v2] ((2, x) :: st) t g Q := Xp_go (i := .aload_n 0) (len := 1) (by decide +kernel) rfl
theorem x_4_14 : Xp 4 d 14 ls ((2, p) :: st) t g Q = (hkJK p = 0 ∧ jA p 0 ≤ t ∧ Xp 4 d 17 ls ((2, jR p 0) :: st) t g Q) := xr_getR (idx := 14) (ci := 0) (k := 0) (by decide +kernel) (by decide +kernel) (by decide +kernel)
theorem x_4_17 : Xp 4 d 17 ls ((2, p) :: st) t g Q = (hkJK p = 1 ∧ Xp 4 d 20 ls ((0, g p 0) :: st) t g Q) := xr_getI (idx := 107) (ci := 1) (k := 0) (by decide +kernel) (by decide +kernel) (by decide +kernel)
theorem x_4_20 : Xp 4 d 20 ls st t g Q = Xp 4 d 21 ls ((0, 1) :: st) t g Q := xr_const (c := 1) (by decide +kernel) (by decide)
theorem x_4_21 : Xp 4 d 21 ls ((0, b) :: (0, a) :: st) t g Q = Xp 4 d 22 ls ((0, hkW (a - b)) :: st) t g Q := Xp_go (i := .isub) (len := 1) (by decide +kernel) rfl
theorem x_4_22 : Xp 4 (d + 1) 22 ls ((0, a2) :: (0, a1) :: (0, a0) :: st) t g Q = (hkC8 st ∧ Xp 2 d 0 [(0, a0), (0, a1), (0, a2)] [] t g (fun r t g => Xp 4 (d + 1) 25 ls (hkPush r st) t g Q)) := xr_invS (idx := 88) (y' := 2) (tg := [0, 0, 0]) (by decide +kernel) (by decide +kernel) (by decide +kernel) rfl rfl
theorem x_4_25 : Xp 4 d 25 ls ((0, a) :: st) t g Q = ((a = 0 → Xp 4 d 31 ls st t g Q) ∧ (¬ (a = 0) → Xp 4 d 28 ls st t g Q)) := xr_if1 (cd := .eq) (off := 6) (by decide +kernel) (by decide)
theorem x_4_28 : Xp 4 d 28 ls st t g Q = Xp 4 d 30 ls ((0, -2) :: st) t g Q := xr_bi (c := -2) (by decide +kernel) (by decide)
theorem x_4_30 : Xp 4 d 30 ls [(0, x)] t g Q = Q (some (0, x)) t g := xr_retI (by decide +kernel) (by decide +kernel)
theorem x_4_31 : Xp 4 d 31 [(2, x), v1, v2] st t g Q = Xp 4 d 32 [(2, x), v1, v2] ((2, x) :: st) t g Q := Xp_go (i := .aload_n 0) (len := 1) (by decide +kernel) rfl
theorem x_4_32 : Xp 4 d 32 ls ((2, p) :: st) t g Q = (hkJK p = 0 ∧ jA p 0 ≤ t ∧ Xp 4 d 35 ls ((2, jR p 0) :: st) t g Q) := xr_getR (idx := 14) (ci := 0) (k := 0) (by decide +kernel) (by decide +kernel) (by decide +kernel)
theorem x_4_35 : Xp 4 d 35 ls ((2, p) :: st) t g Q = (hkJK p = 1 ∧ jA p 4 ≤ t ∧ Xp 4 d 38 ls ((2, jR p 4) :: st) t g Q) := xr_getR (idx := 110) (ci := 1) (k := 4) (by decide +kernel) (by decide +kernel) (by decide +kernel)
theorem x_4_38 : Xp 4 d 38 [v0, (0, x), v2] st t g Q = Xp 4 d 39 [v0, (0, x), v2] ((0, x) :: st) t g Q := Xp_go (i := .iload_n 1) (len := 1) (by decide +kernel) rfl
theorem x_4_39 : Xp 4 d 39 ls st t g Q = Xp 4 d 40 ls ((0, 4) :: st) t g Q := xr_const (c := 4) (by decide +kernel) (by decide)
theorem x_4_40 : Xp 4 d 40 ls ((0, b) :: (0, a) :: st) t g Q = Xp 4 d 41 ls ((0, hkW (a * b)) :: st) t g Q := Xp_go (i := .imul) (len := 1) (by decide +kernel) rfl
theorem x_4_41 : Xp 4 d 41 [v0, v1, (0, x)] st t g Q = Xp 4 d 42 [v0, v1, (0, x)] ((0, x) :: st) t g Q := Xp_go (i := .iload_n 2) (len := 1) (by decide +kernel) rfl
theorem x_4_42 : Xp 4 d 42 ls ((0, b) :: (0, a) :: st) t g Q = Xp 4 d 43 ls ((0, hkW (a + b)) :: st) t g Q := Xp_go (i := .iadd) (len := 1) (by decide +kernel) rfl
theorem x_4_43 : Xp 4 d 43 ls ((0, a) :: (2, p) :: st) t g Q = ((hkJK p = 100 ∧ 0 ≤ a ∧ a < jL p) ∧ Xp 4 d 44 ls ((0, g p a) :: st) t g Q) := Xp_chk (i := .iaload) (len := 1) (by decide +kernel) rfl
theorem x_4_44 : Xp 4 d 44 ls [(0, x)] t g Q = Q (some (0, x)) t g := xr_retI (by decide +kernel) (by decide +kernel)
-- 5: HookBoxes.number(I)I
theorem x_5_0 : Xp 5 d 0 [v0, (0, x)] st t g Q = Xp 5 d 1 [v0, (0, x)] ((0, x) :: st) t g Q := Xp_go (i := .iload_n 1) (len := 1) (by decide +kernel) rfl
theorem x_5_1 : Xp 5 d 1 ls ((0, a) :: st) t g Q = ((0 ≤ a → Xp 5 d 9 ls st t g Q) ∧ (¬ (0 ≤ a) → Xp 5 d 4 ls st t g Q)) := xr_if1 (cd := .ge) (off := 8) (by decide +kernel) (by decide)
theorem x_5_4 : Xp 5 d 4 ls st t g Q = Xp 5 d 6 ls ((0, -2) :: st) t g Q := xr_bi (c := -2) (by decide +kernel) (by decide)
theorem x_5_6 : Xp 5 d 6 ls st t g Q = Xp 5 d 17 ls st t g Q := xr_goto (off := 11) (by decide +kernel) (by decide)
theorem x_5_9 : Xp 5 d 9 [(2, x), v1] st t g Q = Xp 5 d 10 [(2, x), v1] ((2, x) :: st) t g Q := Xp_go (i := .aload_n 0) (len := 1) (by decide +kernel) rfl
theorem x_5_10 : Xp 5 d 10 ls ((2, p) :: st) t g Q = (hkJK p = 0 ∧ jA p 0 ≤ t ∧ Xp 5 d 13 ls ((2, jR p 0) :: st) t g Q) := xr_getR (idx := 14) (ci := 0) (k := 0) (by decide +kernel) (by decide +kernel) (by decide +kernel)
theorem x_5_13 : Xp 5 d 13 [v0, (0, x)] st t g Q = Xp 5 d 14 [v0, (0, x)] ((0, x) :: st) t g Q := Xp_go (i := .iload_n 1) (len := 1) (by decide +kernel) rfl
theorem x_5_14 : Xp 5 (d + 1) 14 ls ((0, a1) :: (2, a0) :: st) t g Q = (hkJK a0 = 1 ∧ hkC8 st ∧ Xp 40 d 0 [(2, a0), (0, a1), hkU, hkU, hkU, hkU, hkU, hkU] [] t g (fun r t g => Xp 5 (d + 1) 17 ls (hkPush r st) t g Q)) := xr_invV (idx := 114) (y' := 40) (ci := 1) (tg := [2, 0]) (by decide +kernel) (by decide +kernel) (by decide +kernel) (by decide +kernel) rfl rfl rfl
theorem x_5_17 : Xp 5 d 17 ls [(0, x)] t g Q = Q (some (0, x)) t g := xr_retI (by decide +kernel) (by decide +kernel)
-- 6: HookBoxes.of(II)I
theorem x_6_0 : Xp 6 d 0 [(2, x), v1, v2] st t g Q = Xp 6 d 1 [(2, x), v1, v2] ((2, x) :: st) t g Q := Xp_go (i := .aload_n 0) (len := 1) (by decide +kernel) rfl
theorem x_6_1 : Xp 6 d 1 ls ((2, p) :: st) t g Q = (hkJK p = 0 ∧ jA p 0 ≤ t ∧ Xp 6 d 4 ls ((2, jR p 0) :: st) t g Q) := xr_getR (idx := 14) (ci := 0) (k := 0) (by decide +kernel) (by decide +kernel) (by decide +kernel)
theorem x_6_4 : Xp 6 d 4 [v0, (0, x), v2] st t g Q = Xp 6 d 5 [v0, (0, x), v2] ((0, x) :: st) t g Q := Xp_go (i := .iload_n 1) (len := 1) (by decide +kernel) rfl
theorem x_6_5 : Xp 6 (d + 1) 5 ls ((0, a1) :: (2, a0) :: st) t g Q = (hkJK a0 = 1 ∧ hkC8 st ∧ Xp 39 d 0 [(2, a0), (0, a1)] [] t g (fun r t g => Xp 6 (d + 1) 8 ls (hkPush r st) t g Q)) := xr_invV (idx := 103) (y' := 39) (ci := 1) (tg := [2, 0]) (by decide +kernel) (by decide +kernel) (by decide +kernel) (by decide +kernel) rfl rfl rfl
theorem x_6_8 : Xp 6 d 8 ls ((0, a) :: st) t g Q = ((¬ (a = 0) → Xp 6 d 14 ls st t g Q) ∧ (¬ (¬ (a = 0)) → Xp 6 d 11 ls st t g Q)) := xr_if1 (cd := .ne) (off := 6) (by decide +kernel) (by decide)
theorem x_6_11 : Xp 6 d 11 ls st t g Q = Xp 6 d 13 ls ((0, -2) :: st) t g Q := xr_bi (c := -2) (by decide +kernel) (by decide)
theorem x_6_13 : Xp 6 d 13 ls [(0, x)] t g Q = Q (some (0, x)) t g := xr_retI (by decide +kernel) (by decide +kernel)
theorem x_6_14 : Xp 6 d 14 [v0, v1, (0, x)] st t g Q = Xp 6 d 15 [v0, v1, (0, x)] ((0, x) :: st) t g Q := Xp_go (i := .iload_n 2) (len := 1) (by decide +kernel) rfl
theorem x_6_15_f : hkFetch 6 15 = some (.tableswitch (106) (0) (6) #[41, 51, 60, 69, 79, 88, 97], 41) := by decide +kernel
theorem x_6_15_k0 : Xp 6 d 15 ls ((0, 0) :: st) t g Q = Xp 6 d 56 ls st t g Q := xr_sw x_6_15_f (off := 41) (by decide +kernel) (by decide)
theorem x_6_15_k1 : Xp 6 d 15 ls ((0, 1) :: st) t g Q = Xp 6 d 66 ls st t g Q := xr_sw x_6_15_f (off := 51) (by decide +kernel) (by decide)
theorem x_6_15_k2 : Xp 6 d 15 ls ((0, 2) :: st) t g Q = Xp 6 d 75 ls st t g Q := xr_sw x_6_15_f (off := 60) (by decide +kernel) (by decide)
theorem x_6_15_k3 : Xp 6 d 15 ls ((0, 3) :: st) t g Q = Xp 6 d 84 ls st t g Q := xr_sw x_6_15_f (off := 69) (by decide +kernel) (by decide)
theorem x_6_15_k4 : Xp 6 d 15 ls ((0, 4) :: st) t g Q = Xp 6 d 94 ls st t g Q := xr_sw x_6_15_f (off := 79) (by decide +kernel) (by decide)
theorem x_6_15_k5 : Xp 6 d 15 ls ((0, 5) :: st) t g Q = Xp 6 d 103 ls st t g Q := xr_sw x_6_15_f (off := 88) (by decide +kernel) (by decide)
theorem x_6_15_k6 : Xp 6 d 15 ls ((0, 6) :: st) t g Q = Xp 6 d 112 ls st t g Q := xr_sw x_6_15_f (off := 97) (by decide +kernel) (by decide)
theorem x_6_15_d (h : a < 0 ∨ 6 < a) : Xp 6 d 15 ls ((0, a) :: st) t g Q = Xp 6 d 121 ls st t g Q := xr_swd x_6_15_f h (by decide)
theorem x_6_56 : Xp 6 d 56 [(2, x), v1, v2] st t g Q = Xp 6 d 57 [(2, x), v1, v2] ((2, x) :: st) t g Q := Xp_go (i := .aload_n 0) (len := 1) (by decide +kernel) rfl
theorem x_6_57 : Xp 6 d 57 ls ((2, p) :: st) t g Q = (hkJK p = 0 ∧ jA p 0 ≤ t ∧ Xp 6 d 60 ls ((2, jR p 0) :: st) t g Q) := xr_getR (idx := 14) (ci := 0) (k := 0) (by decide +kernel) (by decide +kernel) (by decide +kernel)
theorem x_6_60 : Xp 6 d 60 ls ((2, p) :: st) t g Q = (hkJK p = 1 ∧ jA p 5 ≤ t ∧ Xp 6 d 63 ls ((2, jR p 5) :: st) t g Q) := xr_getR (idx := 118) (ci := 1) (k := 5) (by decide +kernel) (by decide +kernel) (by decide +kernel)
theorem x_6_63 : Xp 6 d 63 [v0, (0, x), v2] st t g Q = Xp 6 d 64 [v0, (0, x), v2] ((0, x) :: st) t g Q := Xp_go (i := .iload_n 1) (len := 1) (by decide +kernel) rfl
theorem x_6_64 : Xp 6 d 64 ls ((0, a) :: (2, p) :: st) t g Q = ((hkJK p = 100 ∧ 0 ≤ a ∧ a < jL p) ∧ Xp 6 d 65 ls ((0, g p a) :: st) t g Q) := Xp_chk (i := .iaload) (len := 1) (by decide +kernel) rfl
theorem x_6_65 : Xp 6 d 65 ls [(0, x)] t g Q = Q (some (0, x)) t g := xr_retI (by decide +kernel) (by decide +kernel)
theorem x_6_66 : Xp 6 d 66 [(2, x), v1, v2] st t g Q = Xp 6 d 67 [(2, x), v1, v2] ((2, x) :: st) t g Q := Xp_go (i := .aload_n 0) (len := 1) (by decide +kernel) rfl
theorem x_6_67 : Xp 6 d 67 ls ((2, p) :: st) t g Q = (hkJK p = 0 ∧ jA p 0 ≤ t ∧ Xp 6 d 70 ls ((2, jR p 0) :: st) t g Q) := xr_getR (idx := 14) (ci := 0) (k := 0) (by decide +kernel) (by decide +kernel) (by decide +kernel)
theorem x_6_70 : Xp 6 d 70 [v0, (0, x), v2] st t g Q = Xp 6 d 71 [v0, (0, x), v2] ((0, x) :: st) t g Q := Xp_go (i := .iload_n 1) (len := 1) (by decide +kernel) rfl
theorem x_6_71 : Xp 6 (d + 1) 71 ls ((0, a1) :: (2, a0) :: st) t g Q = (hkJK a0 = 1 ∧ hkC8 st ∧ Xp 41 d 0 [(2, a0), (0, a1), hkU, hkU] [] t g (fun r t g => Xp 6 (d + 1) 74 ls (hkPush r st) t g Q)) := xr_invV (idx := 121) (y' := 41) (ci := 1) (tg := [2, 0]) (by decide +kernel) (by decide +kernel) (by decide +kernel) (by decide +kernel) rfl rfl rfl
theorem x_6_74 : Xp 6 d 74 ls [(0, x)] t g Q = Q (some (0, x)) t g := xr_retI (by decide +kernel) (by decide +kernel)
theorem x_6_75 : Xp 6 d 75 [(2, x), v1, v2] st t g Q = Xp 6 d 76 [(2, x), v1, v2] ((2, x) :: st) t g Q := Xp_go (i := .aload_n 0) (len := 1) (by decide +kernel) rfl
theorem x_6_76 : Xp 6 d 76 ls ((2, p) :: st) t g Q = (hkJK p = 0 ∧ jA p 0 ≤ t ∧ Xp 6 d 79 ls ((2, jR p 0) :: st) t g Q) := xr_getR (idx := 14) (ci := 0) (k := 0) (by decide +kernel) (by decide +kernel) (by decide +kernel)
theorem x_6_79 : Xp 6 d 79 [v0, (0, x), v2] st t g Q = Xp 6 d 80 [v0, (0, x), v2] ((0, x) :: st) t g Q := Xp_go (i := .iload_n 1) (len := 1) (by decide +kernel) rfl
theorem x_6_80 : Xp 6 (d + 1) 80 ls ((0, a1) :: (2, a0) :: st) t g Q = (hkJK a0 = 1 ∧ hkC8 st ∧ Xp 42 d 0 [(2, a0), (0, a1), hkU, hkU] [] t g (fun r t g => Xp 6 (d + 1) 83 ls (hkPush r st) t g Q)) := xr_invV (idx := 124) (y' := 42) (ci := 1) (tg := [2, 0]) (by decide +kernel) (by decide +kernel) (by decide +kernel) (by decide +kernel) rfl rfl rfl
theorem x_6_83 : Xp 6 d 83 ls [(0, x)] t g Q = Q (some (0, x)) t g := xr_retI (by decide +kernel) (by decide +kernel)
theorem x_6_84 : Xp 6 d 84 [(2, x), v1, v2] st t g Q = Xp 6 d 85 [(2, x), v1, v2] ((2, x) :: st) t g Q := Xp_go (i := .aload_n 0) (len := 1) (by decide +kernel) rfl
theorem x_6_85 : Xp 6 d 85 ls ((2, p) :: st) t g Q = (hkJK p = 0 ∧ jA p 0 ≤ t ∧ Xp 6 d 88 ls ((2, jR p 0) :: st) t g Q) := xr_getR (idx := 14) (ci := 0) (k := 0) (by decide +kernel) (by decide +kernel) (by decide +kernel)
theorem x_6_88 : Xp 6 d 88 ls ((2, p) :: st) t g Q = (hkJK p = 1 ∧ jA p 6 ≤ t ∧ Xp 6 d 91 ls ((2, jR p 6) :: st) t g Q) := xr_getR (idx := 127) (ci := 1) (k := 6) (by decide +kernel) (by decide +kernel) (by decide +kernel)
theorem x_6_91 : Xp 6 d 91 [v0, (0, x), v2] st t g Q = Xp 6 d 92 [v0, (0, x), v2] ((0, x) :: st) t g Q := Xp_go (i := .iload_n 1) (len := 1) (by decide +kernel) rfl
theorem x_6_92 : Xp 6 d 92 ls ((0, a) :: (2, p) :: st) t g Q = ((hkJK p = 100 ∧ 0 ≤ a ∧ a < jL p) ∧ Xp 6 d 93 ls ((0, g p a) :: st) t g Q) := Xp_chk (i := .iaload) (len := 1) (by decide +kernel) rfl
theorem x_6_93 : Xp 6 d 93 ls [(0, x)] t g Q = Q (some (0, x)) t g := xr_retI (by decide +kernel) (by decide +kernel)
theorem x_6_94 : Xp 6 d 94 [(2, x), v1, v2] st t g Q = Xp 6 d 95 [(2, x), v1, v2] ((2, x) :: st) t g Q := Xp_go (i := .aload_n 0) (len := 1) (by decide +kernel) rfl
theorem x_6_95 : Xp 6 d 95 ls ((2, p) :: st) t g Q = (hkJK p = 0 ∧ jA p 0 ≤ t ∧ Xp 6 d 98 ls ((2, jR p 0) :: st) t g Q) := xr_getR (idx := 14) (ci := 0) (k := 0) (by decide +kernel) (by decide +kernel) (by decide +kernel)
theorem x_6_98 : Xp 6 d 98 [v0, (0, x), v2] st t g Q = Xp 6 d 99 [v0, (0, x), v2] ((0, x) :: st) t g Q := Xp_go (i := .iload_n 1) (len := 1) (by decide +kernel) rfl
theorem x_6_99 : Xp 6 (d + 1) 99 ls ((0, a1) :: (2, a0) :: st) t g Q = (hkJK a0 = 1 ∧ hkC8 st ∧ Xp 43 d 0 [(2, a0), (0, a1)] [] t g (fun r t g => Xp 6 (d + 1) 102 ls (hkPush r st) t g Q)) := xr_invV (idx := 130) (y' := 43) (ci := 1) (tg := [2, 0]) (by decide +kernel) (by decide +kernel) (by decide +kernel) (by decide +kernel) rfl rfl rfl
theorem x_6_102 : Xp 6 d 102 ls [(0, x)] t g Q = Q (some (0, x)) t g := xr_retI (by decide +kernel) (by decide +kernel)
theorem x_6_103 : Xp 6 d 103 [(2, x), v1, v2] st t g Q = Xp 6 d 104 [(2, x), v1, v2] ((2, x) :: st) t g Q := Xp_go (i := .aload_n 0) (len := 1) (by decide +kernel) rfl
theorem x_6_104 : Xp 6 d 104 ls ((2, p) :: st) t g Q = (hkJK p = 0 ∧ jA p 0 ≤ t ∧ Xp 6 d 107 ls ((2, jR p 0) :: st) t g Q) := xr_getR (idx := 14) (ci := 0) (k := 0) (by decide +kernel) (by decide +kernel) (by decide +kernel)
theorem x_6_107 : Xp 6 d 107 [v0, (0, x), v2] st t g Q = Xp 6 d 108 [v0, (0, x), v2] ((0, x) :: st) t g Q := Xp_go (i := .iload_n 1) (len := 1) (by decide +kernel) rfl
theorem x_6_108 : Xp 6 (d + 1) 108 ls ((0, a1) :: (2, a0) :: st) t g Q = (hkJK a0 = 1 ∧ hkC8 st ∧ Xp 45 d 0 [(2, a0), (0, a1), hkU] [] t g (fun r t g => Xp 6 (d + 1) 111 ls (hkPush r st) t g Q)) := xr_invV (idx := 133) (y' := 45) (ci := 1) (tg := [2, 0]) (by decide +kernel) (by decide +kernel) (by decide +kernel) (by decide +kernel) rfl rfl rfl
theorem x_6_111 : Xp 6 d 111 ls [(0, x)] t g Q = Q (some (0, x)) t g := xr_retI (by decide +kernel) (by decide +kernel)
theorem x_6_112 : Xp 6 d 112 [(2, x), v1, v2] st t g Q = Xp 6 d 113 [(2, x), v1, v2] ((2, x) :: st) t g Q := Xp_go (i := .aload_n 0) (len := 1) (by decide +kernel) rfl
theorem x_6_113 : Xp 6 d 113 ls ((2, p) :: st) t g Q = (hkJK p = 0 ∧ jA p 0 ≤ t ∧ Xp 6 d 116 ls ((2, jR p 0) :: st) t g Q) := xr_getR (idx := 14) (ci := 0) (k := 0) (by decide +kernel) (by decide +kernel) (by decide +kernel)
theorem x_6_116 : Xp 6 d 116 [v0, (0, x), v2] st t g Q = Xp 6 d 117 [v0, (0, x), v2] ((0, x) :: st) t g Q := Xp_go (i := .iload_n 1) (len := 1) (by decide +kernel) rfl
theorem x_6_117 : Xp 6 (d + 1) 117 ls ((0, a1) :: (2, a0) :: st) t g Q = (hkJK a0 = 1 ∧ hkC8 st ∧ Xp 47 d 0 [(2, a0), (0, a1)] [] t g (fun r t g => Xp 6 (d + 1) 120 ls (hkPush r st) t g Q)) := xr_invV (idx := 136) (y' := 47) (ci := 1) (tg := [2, 0]) (by decide +kernel) (by decide +kernel) (by decide +kernel) (by decide +kernel) rfl rfl rfl
theorem x_6_120 : Xp 6 d 120 ls [(0, x)] t g Q = Q (some (0, x)) t g := xr_retI (by decide +kernel) (by decide +kernel)
theorem x_6_121 : Xp 6 d 121 ls st t g Q = Xp 6 d 123 ls ((0, -2) :: st) t g Q := xr_bi (c := -2) (by decide +kernel) (by decide)
theorem x_6_123 : Xp 6 d 123 ls [(0, x)] t g Q = Q (some (0, x)) t g := xr_retI (by decide +kernel) (by decide +kernel)
-- 7: HookBoxes.kinds(I)I
theorem x_7_0 : Xp 7 d 0 [v0, (0, x), v2, v3] st t g Q = Xp 7 d 1 [v0, (0, x), v2, v3] ((0, x) :: st) t g Q := Xp_go (i := .iload_n 1) (len := 1) (by decide +kernel) rfl
theorem x_7_1 : Xp 7 d 1 ls st t g Q = Xp 7 d 2 ls ((0, 0) :: st) t g Q := xr_const (c := 0) (by decide +kernel) (by decide)
theorem x_7_2 : Xp 7 d 2 ls st t g Q = Xp 7 d 3 ls ((0, 5) :: st) t g Q := xr_const (c := 5) (by decide +kernel) (by decide)
theorem x_7_3 : Xp 7 (d + 1) 3 ls ((0, a2) :: (0, a1) :: (0, a0) :: st) t g Q = (hkC8 st ∧ Xp 2 d 0 [(0, a0), (0, a1), (0, a2)] [] t g (fun r t g => Xp 7 (d + 1) 6 ls (hkPush r st) t g Q)) := xr_invS (idx := 88) (y' := 2) (tg := [0, 0, 0]) (by decide +kernel) (by decide +kernel) (by decide +kernel) rfl rfl
theorem x_7_6 : Xp 7 d 6 ls ((0, a) :: st) t g Q = ((a = 0 → Xp 7 d 12 ls st t g Q) ∧ (¬ (a = 0) → Xp 7 d 9 ls st t g Q)) := xr_if1 (cd := .eq) (off := 6) (by decide +kernel) (by decide)
theorem x_7_9 : Xp 7 d 9 ls st t g Q = Xp 7 d 11 ls ((0, -2) :: st) t g Q := xr_bi (c := -2) (by decide +kernel) (by decide)
theorem x_7_11 : Xp 7 d 11 ls [(0, x)] t g Q = Q (some (0, x)) t g := xr_retI (by decide +kernel) (by decide +kernel)
theorem x_7_12 : Xp 7 d 12 ls st t g Q = Xp 7 d 13 ls ((0, 0) :: st) t g Q := xr_const (c := 0) (by decide +kernel) (by decide)
theorem x_7_13 : Xp 7 d 13 [v0, v1, v2, v3] ((0, x) :: st) t g Q = (hkP1 v1 ∧ Xp 7 d 14 [v0, v1, (0, x), v3] st t g Q) := Xp_chk (i := .istore_n 2) (len := 1) (by decide +kernel) rfl
theorem x_7_14 : Xp 7 d 14 ls st t g Q = Xp 7 d 15 ls ((0, 0) :: st) t g Q := xr_const (c := 0) (by decide +kernel) (by decide)
theorem x_7_15 : Xp 7 d 15 [v0, v1, v2, v3] ((0, x) :: st) t g Q = (hkP1 v2 ∧ Xp 7 d 16 [v0, v1, v2, (0, x)] st t g Q) := Xp_chk (i := .istore_n 3) (len := 1) (by decide +kernel) rfl
theorem x_7_16 : Xp 7 d 16 [v0, v1, v2, (0, x)] st t g Q = Xp 7 d 17 [v0, v1, v2, (0, x)] ((0, x) :: st) t g Q := Xp_go (i := .iload_n 3) (len := 1) (by decide +kernel) rfl
theorem x_7_17 : Xp 7 d 17 [(2, x), v1, v2, v3] st t g Q = Xp 7 d 18 [(2, x), v1, v2, v3] ((2, x) :: st) t g Q := Xp_go (i := .aload_n 0) (len := 1) (by decide +kernel) rfl
theorem x_7_18 : Xp 7 d 18 ls ((2, p) :: st) t g Q = (hkJK p = 0 ∧ jA p 0 ≤ t ∧ Xp 7 d 21 ls ((2, jR p 0) :: st) t g Q) := xr_getR (idx := 14) (ci := 0) (k := 0) (by decide +kernel) (by decide +kernel) (by decide +kernel)
theorem x_7_21 : Xp 7 d 21 ls ((2, p) :: st) t g Q = (hkJK p = 1 ∧ Xp 7 d 24 ls ((0, g p 3) :: st) t g Q) := xr_getI (idx := 99) (ci := 1) (k := 3) (by decide +kernel) (by decide +kernel) (by decide +kernel)
theorem x_7_24 : Xp 7 d 24 ls ((0, b) :: (0, a) :: st) t g Q = ((b ≤ a → Xp 7 d 48 ls st t g Q) ∧ (¬ (b ≤ a) → Xp 7 d 27 ls st t g Q)) := xr_if2 (cd := .ge) (off := 24) (by decide +kernel) (by decide)
theorem x_7_27 : Xp 7 d 27 [(2, x), v1, v2, v3] st t g Q = Xp 7 d 28 [(2, x), v1, v2, v3] ((2, x) :: st) t g Q := Xp_go (i := .aload_n 0) (len := 1) (by decide +kernel) rfl
theorem x_7_28 : Xp 7 d 28 ls ((2, p) :: st) t g Q = (hkJK p = 0 ∧ jA p 0 ≤ t ∧ Xp 7 d 31 ls ((2, jR p 0) :: st) t g Q) := xr_getR (idx := 14) (ci := 0) (k := 0) (by decide +kernel) (by decide +kernel) (by decide +kernel)
theorem x_7_31 : Xp 7 d 31 [v0, v1, v2, (0, x)] st t g Q = Xp 7 d 32 [v0, v1, v2, (0, x)] ((0, x) :: st) t g Q := Xp_go (i := .iload_n 3) (len := 1) (by decide +kernel) rfl
theorem x_7_32 : Xp 7 (d + 1) 32 ls ((0, a1) :: (2, a0) :: st) t g Q = (hkJK a0 = 1 ∧ hkC8 st ∧ Xp 42 d 0 [(2, a0), (0, a1), hkU, hkU] [] t g (fun r t g => Xp 7 (d + 1) 35 ls (hkPush r st) t g Q)) := xr_invV (idx := 124) (y' := 42) (ci := 1) (tg := [2, 0]) (by decide +kernel) (by decide +kernel) (by decide +kernel) (by decide +kernel) rfl rfl rfl
theorem x_7_35 : Xp 7 d 35 [v0, (0, x), v2, v3] st t g Q = Xp 7 d 36 [v0, (0, x), v2, v3] ((0, x) :: st) t g Q := Xp_go (i := .iload_n 1) (len := 1) (by decide +kernel) rfl
theorem x_7_36 : Xp 7 d 36 ls ((0, b) :: (0, a) :: st) t g Q = ((¬ (a = b) → Xp 7 d 42 ls st t g Q) ∧ (¬ (¬ (a = b)) → Xp 7 d 39 ls st t g Q)) := xr_if2 (cd := .ne) (off := 6) (by decide +kernel) (by decide)
theorem x_7_39 : Xp 7 d 39 [v0, v1, (0, x), v3] st t g Q = (hkP1 v1 ∧ Xp 7 d 42 [v0, v1, (0, hkW (x + 1)), v3] st t g Q) := Xp_chk (i := .iinc 2 (1)) (len := 3) (by decide +kernel) rfl
theorem x_7_42 : Xp 7 d 42 [v0, v1, v2, (0, x)] st t g Q = (hkP1 v2 ∧ Xp 7 d 45 [v0, v1, v2, (0, hkW (x + 1))] st t g Q) := Xp_chk (i := .iinc 3 (1)) (len := 3) (by decide +kernel) rfl
theorem x_7_45 : Xp 7 d 45 ls st t g Q = Xp 7 d 16 ls st t g Q := xr_goto (off := -29) (by decide +kernel) (by decide)
theorem x_7_48 : Xp 7 d 48 [v0, v1, (0, x), v3] st t g Q = Xp 7 d 49 [v0, v1, (0, x), v3] ((0, x) :: st) t g Q := Xp_go (i := .iload_n 2) (len := 1) (by decide +kernel) rfl
theorem x_7_49 : Xp 7 d 49 ls [(0, x)] t g Q = Q (some (0, x)) t g := xr_retI (by decide +kernel) (by decide +kernel)
-- 8: HookBoxes.times(IIII)I
theorem x_8_0 : Xp 8 d 0 [(2, x), v1, v2, v3, v4, v5] st t g Q = Xp 8 d 1 [(2, x), v1, v2, v3, v4, v5] ((2, x) :: st) t g Q := Xp_go (i := .aload_n 0) (len := 1) (by decide +kernel) rfl
theorem x_8_1 : Xp 8 d 1 ls ((2, p) :: st) t g Q = (hkJK p = 0 ∧ jA p 0 ≤ t ∧ Xp 8 d 4 ls ((2, jR p 0) :: st) t g Q) := xr_getR (idx := 14) (ci := 0) (k := 0) (by decide +kernel) (by decide +kernel) (by decide +kernel)
theorem x_8_4 : Xp 8 d 4 [v0, (0, x), v2, v3, v4, v5] st t g Q = Xp 8 d 5 [v0, (0, x), v2, v3, v4, v5] ((0, x) :: st) t g Q := Xp_go (i := .iload_n 1) (len := 1) (by decide +kernel) rfl
theorem x_8_5 : Xp 8 (d + 1) 5 ls ((0, a1) :: (2, a0) :: st) t g Q = (hkJK a0 = 1 ∧ hkC8 st ∧ Xp 39 d 0 [(2, a0), (0, a1)] [] t g (fun r t g => Xp 8 (d + 1) 8 ls (hkPush r st) t g Q)) := xr_invV (idx := 103) (y' := 39) (ci := 1) (tg := [2, 0]) (by decide +kernel) (by decide +kernel) (by decide +kernel) (by decide +kernel) rfl rfl rfl
theorem x_8_8 : Xp 8 d 8 ls ((0, a) :: st) t g Q = ((a = 0 → Xp 8 d 43 ls st t g Q) ∧ (¬ (a = 0) → Xp 8 d 11 ls st t g Q)) := xr_if1 (cd := .eq) (off := 35) (by decide +kernel) (by decide)
theorem x_8_11 : Xp 8 d 11 [(2, x), v1, v2, v3, v4, v5] st t g Q = Xp 8 d 12 [(2, x), v1, v2, v3, v4, v5] ((2, x) :: st) t g Q := Xp_go (i := .aload_n 0) (len := 1) (by decide +kernel) rfl
theorem x_8_12 : Xp 8 d 12 ls ((2, p) :: st) t g Q = (hkJK p = 0 ∧ jA p 0 ≤ t ∧ Xp 8 d 15 ls ((2, jR p 0) :: st) t g Q) := xr_getR (idx := 14) (ci := 0) (k := 0) (by decide +kernel) (by decide +kernel) (by decide +kernel)
theorem x_8_15 : Xp 8 d 15 [v0, v1, (0, x), v3, v4, v5] st t g Q = Xp 8 d 16 [v0, v1, (0, x), v3, v4, v5] ((0, x) :: st) t g Q := Xp_go (i := .iload_n 2) (len := 1) (by decide +kernel) rfl
theorem x_8_16 : Xp 8 (d + 1) 16 ls ((0, a1) :: (2, a0) :: st) t g Q = (hkJK a0 = 1 ∧ hkC8 st ∧ Xp 39 d 0 [(2, a0), (0, a1)] [] t g (fun r t g => Xp 8 (d + 1) 19 ls (hkPush r st) t g Q)) := xr_invV (idx := 103) (y' := 39) (ci := 1) (tg := [2, 0]) (by decide +kernel) (by decide +kernel) (by decide +kernel) (by decide +kernel) rfl rfl rfl
theorem x_8_19 : Xp 8 d 19 ls ((0, a) :: st) t g Q = ((a = 0 → Xp 8 d 43 ls st t g Q) ∧ (¬ (a = 0) → Xp 8 d 22 ls st t g Q)) := xr_if1 (cd := .eq) (off := 24) (by decide +kernel) (by decide)
theorem x_8_22 : Xp 8 d 22 [(2, x), v1, v2, v3, v4, v5] st t g Q = Xp 8 d 23 [(2, x), v1, v2, v3, v4, v5] ((2, x) :: st) t g Q := Xp_go (i := .aload_n 0) (len := 1) (by decide +kernel) rfl
theorem x_8_23 : Xp 8 d 23 ls ((2, p) :: st) t g Q = (hkJK p = 0 ∧ jA p 0 ≤ t ∧ Xp 8 d 26 ls ((2, jR p 0) :: st) t g Q) := xr_getR (idx := 14) (ci := 0) (k := 0) (by decide +kernel) (by decide +kernel) (by decide +kernel)
theorem x_8_26 : Xp 8 d 26 [v0, v1, v2, (0, x), v4, v5] st t g Q = Xp 8 d 27 [v0, v1, v2, (0, x), v4, v5] ((0, x) :: st) t g Q := Xp_go (i := .iload_n 3) (len := 1) (by decide +kernel) rfl
theorem x_8_27 : Xp 8 (d + 1) 27 ls ((0, a1) :: (2, a0) :: st) t g Q = (hkJK a0 = 1 ∧ hkC8 st ∧ Xp 39 d 0 [(2, a0), (0, a1)] [] t g (fun r t g => Xp 8 (d + 1) 30 ls (hkPush r st) t g Q)) := xr_invV (idx := 103) (y' := 39) (ci := 1) (tg := [2, 0]) (by decide +kernel) (by decide +kernel) (by decide +kernel) (by decide +kernel) rfl rfl rfl
theorem x_8_30 : Xp 8 d 30 ls ((0, a) :: st) t g Q = ((a = 0 → Xp 8 d 43 ls st t g Q) ∧ (¬ (a = 0) → Xp 8 d 33 ls st t g Q)) := xr_if1 (cd := .eq) (off := 13) (by decide +kernel) (by decide)
theorem x_8_33 : Xp 8 d 33 [v0, v1, v2, v3, (0, x), v5] st t g Q = Xp 8 d 35 [v0, v1, v2, v3, (0, x), v5] ((0, x) :: st) t g Q := Xp_go (i := .iload 4) (len := 2) (by decide +kernel) rfl
theorem x_8_35 : Xp 8 d 35 ls st t g Q = Xp 8 d 36 ls ((0, 0) :: st) t g Q := xr_const (c := 0) (by decide +kernel) (by decide)
theorem x_8_36 : Xp 8 d 36 ls st t g Q = Xp 8 d 37 ls ((0, 1) :: st) t g Q := xr_const (c := 1) (by decide +kernel) (by decide)
theorem x_8_37 : Xp 8 (d + 1) 37 ls ((0, a2) :: (0, a1) :: (0, a0) :: st) t g Q = (hkC8 st ∧ Xp 2 d 0 [(0, a0), (0, a1), (0, a2)] [] t g (fun r t g => Xp 8 (d + 1) 40 ls (hkPush r st) t g Q)) := xr_invS (idx := 88) (y' := 2) (tg := [0, 0, 0]) (by decide +kernel) (by decide +kernel) (by decide +kernel) rfl rfl
theorem x_8_40 : Xp 8 d 40 ls ((0, a) :: st) t g Q = ((a = 0 → Xp 8 d 46 ls st t g Q) ∧ (¬ (a = 0) → Xp 8 d 43 ls st t g Q)) := xr_if1 (cd := .eq) (off := 6) (by decide +kernel) (by decide)
theorem x_8_43 : Xp 8 d 43 ls st t g Q = Xp 8 d 45 ls ((0, -2) :: st) t g Q := xr_bi (c := -2) (by decide +kernel) (by decide)
theorem x_8_45 : Xp 8 d 45 ls [(0, x)] t g Q = Q (some (0, x)) t g := xr_retI (by decide +kernel) (by decide +kernel)
theorem x_8_46 : Xp 8 d 46 [(2, x), v1, v2, v3, v4, v5] st t g Q = Xp 8 d 47 [(2, x), v1, v2, v3, v4, v5] ((2, x) :: st) t g Q := Xp_go (i := .aload_n 0) (len := 1) (by decide +kernel) rfl
theorem x_8_47 : Xp 8 d 47 ls ((2, p) :: st) t g Q = (hkJK p = 0 ∧ jA p 2 ≤ t ∧ Xp 8 d 50 ls ((2, jR p 2) :: st) t g Q) := xr_getR (idx := 32) (ci := 0) (k := 2) (by decide +kernel) (by decide +kernel) (by decide +kernel)
theorem x_8_50 : Xp 8 d 50 [v0, (0, x), v2, v3, v4, v5] st t g Q = Xp 8 d 51 [v0, (0, x), v2, v3, v4, v5] ((0, x) :: st) t g Q := Xp_go (i := .iload_n 1) (len := 1) (by decide +kernel) rfl
theorem x_8_51 : Xp 8 d 51 [v0, v1, (0, x), v3, v4, v5] st t g Q = Xp 8 d 52 [v0, v1, (0, x), v3, v4, v5] ((0, x) :: st) t g Q := Xp_go (i := .iload_n 2) (len := 1) (by decide +kernel) rfl
theorem x_8_52 : Xp 8 d 52 [v0, v1, v2, (0, x), v4, v5] st t g Q = Xp 8 d 53 [v0, v1, v2, (0, x), v4, v5] ((0, x) :: st) t g Q := Xp_go (i := .iload_n 3) (len := 1) (by decide +kernel) rfl
theorem x_8_53 : Xp 8 (d + 1) 53 ls ((0, a3) :: (0, a2) :: (0, a1) :: (2, a0) :: st) t g Q = (hkJK a0 = 3 ∧ hkC8 st ∧ Xp 53 d 0 [(2, a0), (0, a1), (0, a2), (0, a3)] [] t g (fun r t g => Xp 8 (d + 1) 56 ls (hkPush r st) t g Q)) := xr_invV (idx := 139) (y' := 53) (ci := 3) (tg := [2, 0, 0, 0]) (by decide +kernel) (by decide +kernel) (by decide +kernel) (by decide +kernel) rfl rfl rfl
theorem x_8_56 : Xp 8 d 56 [v0, v1, v2, v3, v4, v5] ((0, x) :: st) t g Q = (hkP1 v4 ∧ Xp 8 d 58 [v0, v1, v2, v3, v4, (0, x)] st t g Q) := Xp_chk (i := .istore 5) (len := 2) (by decide +kernel) rfl
theorem x_8_58 : Xp 8 d 58 [v0, v1, v2, v3, (0, x), v5] st t g Q = Xp 8 d 60 [v0, v1, v2, v3, (0, x), v5] ((0, x) :: st) t g Q := Xp_go (i := .iload 4) (len := 2) (by decide +kernel) rfl
theorem x_8_60 : Xp 8 d 60 ls ((0, a) :: st) t g Q = ((¬ (a = 0) → Xp 8 d 66 ls st t g Q) ∧ (¬ (¬ (a = 0)) → Xp 8 d 63 ls st t g Q)) := xr_if1 (cd := .ne) (off := 6) (by decide +kernel) (by decide)
theorem x_8_63 : Xp 8 d 63 [v0, v1, v2, v3, v4, (0, x)] st t g Q = Xp 8 d 65 [v0, v1, v2, v3, v4, (0, x)] ((0, x) :: st) t g Q := Xp_go (i := .iload 5) (len := 2) (by decide +kernel) rfl
theorem x_8_65 : Xp 8 d 65 ls [(0, x)] t g Q = Q (some (0, x)) t g := xr_retI (by decide +kernel) (by decide +kernel)
theorem x_8_66 : Xp 8 d 66 [v0, v1, v2, v3, v4, (0, x)] st t g Q = Xp 8 d 68 [v0, v1, v2, v3, v4, (0, x)] ((0, x) :: st) t g Q := Xp_go (i := .iload 5) (len := 2) (by decide +kernel) rfl
theorem x_8_68 : Xp 8 d 68 ls ((0, a) :: st) t g Q = ((¬ (a = 0) → Xp 8 d 75 ls st t g Q) ∧ (¬ (¬ (a = 0)) → Xp 8 d 71 ls st t g Q)) := xr_if1 (cd := .ne) (off := 7) (by decide +kernel) (by decide)
theorem x_8_71 : Xp 8 d 71 ls st t g Q = Xp 8 d 72 ls ((0, -1) :: st) t g Q := xr_const (c := -1) (by decide +kernel) (by decide)
theorem x_8_72 : Xp 8 d 72 ls st t g Q = Xp 8 d 85 ls st t g Q := xr_goto (off := 13) (by decide +kernel) (by decide)
theorem x_8_75 : Xp 8 d 75 [(2, x), v1, v2, v3, v4, v5] st t g Q = Xp 8 d 76 [(2, x), v1, v2, v3, v4, v5] ((2, x) :: st) t g Q := Xp_go (i := .aload_n 0) (len := 1) (by decide +kernel) rfl
theorem x_8_76 : Xp 8 d 76 ls ((2, p) :: st) t g Q = (hkJK p = 0 ∧ jA p 2 ≤ t ∧ Xp 8 d 79 ls ((2, jR p 2) :: st) t g Q) := xr_getR (idx := 32) (ci := 0) (k := 2) (by decide +kernel) (by decide +kernel) (by decide +kernel)
theorem x_8_79 : Xp 8 d 79 [v0, (0, x), v2, v3, v4, v5] st t g Q = Xp 8 d 80 [v0, (0, x), v2, v3, v4, v5] ((0, x) :: st) t g Q := Xp_go (i := .iload_n 1) (len := 1) (by decide +kernel) rfl
theorem x_8_80 : Xp 8 d 80 [v0, v1, (0, x), v3, v4, v5] st t g Q = Xp 8 d 81 [v0, v1, (0, x), v3, v4, v5] ((0, x) :: st) t g Q := Xp_go (i := .iload_n 2) (len := 1) (by decide +kernel) rfl
theorem x_8_81 : Xp 8 d 81 [v0, v1, v2, (0, x), v4, v5] st t g Q = Xp 8 d 82 [v0, v1, v2, (0, x), v4, v5] ((0, x) :: st) t g Q := Xp_go (i := .iload_n 3) (len := 1) (by decide +kernel) rfl
theorem x_8_82 : Xp 8 (d + 1) 82 ls ((0, a3) :: (0, a2) :: (0, a1) :: (2, a0) :: st) t g Q = (hkJK a0 = 3 ∧ hkC8 st ∧ Xp 57 d 0 [(2, a0), (0, a1), (0, a2), (0, a3)] [] t g (fun r t g => Xp 8 (d + 1) 85 ls (hkPush r st) t g Q)) := xr_invV (idx := 143) (y' := 57) (ci := 3) (tg := [2, 0, 0, 0]) (by decide +kernel) (by decide +kernel) (by decide +kernel) (by decide +kernel) rfl rfl rfl
theorem x_8_85 : Xp 8 d 85 ls [(0, x)] t g Q = Q (some (0, x)) t g := xr_retI (by decide +kernel) (by decide +kernel)
-- 9: HookBoxes.turns(III)I
theorem x_9_0 : Xp 9 d 0 [(2, x), v1, v2, v3, v4, v5, v6, v7, v8, v9, v10] st t g Q = Xp 9 d 1 [(2, x), v1, v2, v3, v4, v5, v6, v7, v8, v9, v10] ((2, x) :: st) t g Q := Xp_go (i := .aload_n 0) (len := 1) (by decide +kernel) rfl
theorem x_9_1 : Xp 9 d 1 ls ((2, p) :: st) t g Q = (hkJK p = 0 ∧ jA p 0 ≤ t ∧ Xp 9 d 4 ls ((2, jR p 0) :: st) t g Q) := xr_getR (idx := 14) (ci := 0) (k := 0) (by decide +kernel) (by decide +kernel) (by decide +kernel)
theorem x_9_4 : Xp 9 d 4 [v0, (0, x), v2, v3, v4, v5, v6, v7, v8, v9, v10] st t g Q = Xp 9 d 5 [v0, (0, x), v2, v3, v4, v5, v6, v7, v8, v9, v10] ((0, x) :: st) t g Q := Xp_go (i := .iload_n 1) (len := 1) (by decide +kernel) rfl
theorem x_9_5 : Xp 9 (d + 1) 5 ls ((0, a1) :: (2, a0) :: st) t g Q = (hkJK a0 = 1 ∧ hkC8 st ∧ Xp 39 d 0 [(2, a0), (0, a1)] [] t g (fun r t g => Xp 9 (d + 1) 8 ls (hkPush r st) t g Q)) := xr_invV (idx := 103) (y' := 39) (ci := 1) (tg := [2, 0]) (by decide +kernel) (by decide +kernel) (by decide +kernel) (by decide +kernel) rfl rfl rfl
theorem x_9_8 : Xp 9 d 8 ls ((0, a) :: st) t g Q = ((a = 0 → Xp 9 d 31 ls st t g Q) ∧ (¬ (a = 0) → Xp 9 d 11 ls st t g Q)) := xr_if1 (cd := .eq) (off := 23) (by decide +kernel) (by decide)
theorem x_9_11 : Xp 9 d 11 [(2, x), v1, v2, v3, v4, v5, v6, v7, v8, v9, v10] st t g Q = Xp 9 d 12 [(2, x), v1, v2, v3, v4, v5, v6, v7, v8, v9, v10] ((2, x) :: st) t g Q := Xp_go (i := .aload_n 0) (len := 1) (by decide +kernel) rfl
theorem x_9_12 : Xp 9 d 12 ls ((2, p) :: st) t g Q = (hkJK p = 0 ∧ jA p 0 ≤ t ∧ Xp 9 d 15 ls ((2, jR p 0) :: st) t g Q) := xr_getR (idx := 14) (ci := 0) (k := 0) (by decide +kernel) (by decide +kernel) (by decide +kernel)
theorem x_9_15 : Xp 9 d 15 [v0, v1, (0, x), v3, v4, v5, v6, v7, v8, v9, v10] st t g Q = Xp 9 d 16 [v0, v1, (0, x), v3, v4, v5, v6, v7, v8, v9, v10] ((0, x) :: st) t g Q := Xp_go (i := .iload_n 2) (len := 1) (by decide +kernel) rfl
theorem x_9_16 : Xp 9 (d + 1) 16 ls ((0, a1) :: (2, a0) :: st) t g Q = (hkJK a0 = 1 ∧ hkC8 st ∧ Xp 39 d 0 [(2, a0), (0, a1)] [] t g (fun r t g => Xp 9 (d + 1) 19 ls (hkPush r st) t g Q)) := xr_invV (idx := 103) (y' := 39) (ci := 1) (tg := [2, 0]) (by decide +kernel) (by decide +kernel) (by decide +kernel) (by decide +kernel) rfl rfl rfl
theorem x_9_19 : Xp 9 d 19 ls ((0, a) :: st) t g Q = ((a = 0 → Xp 9 d 31 ls st t g Q) ∧ (¬ (a = 0) → Xp 9 d 22 ls st t g Q)) := xr_if1 (cd := .eq) (off := 12) (by decide +kernel) (by decide)
theorem x_9_22 : Xp 9 d 22 [v0, v1, v2, (0, x), v4, v5, v6, v7, v8, v9, v10] st t g Q = Xp 9 d 23 [v0, v1, v2, (0, x), v4, v5, v6, v7, v8, v9, v10] ((0, x) :: st) t g Q := Xp_go (i := .iload_n 3) (len := 1) (by decide +kernel) rfl
theorem x_9_23 : Xp 9 d 23 ls st t g Q = Xp 9 d 24 ls ((0, 0) :: st) t g Q := xr_const (c := 0) (by decide +kernel) (by decide)
theorem x_9_24 : Xp 9 d 24 ls st t g Q = Xp 9 d 25 ls ((0, 3) :: st) t g Q := xr_const (c := 3) (by decide +kernel) (by decide)
theorem x_9_25 : Xp 9 (d + 1) 25 ls ((0, a2) :: (0, a1) :: (0, a0) :: st) t g Q = (hkC8 st ∧ Xp 2 d 0 [(0, a0), (0, a1), (0, a2)] [] t g (fun r t g => Xp 9 (d + 1) 28 ls (hkPush r st) t g Q)) := xr_invS (idx := 88) (y' := 2) (tg := [0, 0, 0]) (by decide +kernel) (by decide +kernel) (by decide +kernel) rfl rfl
theorem x_9_28 : Xp 9 d 28 ls ((0, a) :: st) t g Q = ((a = 0 → Xp 9 d 34 ls st t g Q) ∧ (¬ (a = 0) → Xp 9 d 31 ls st t g Q)) := xr_if1 (cd := .eq) (off := 6) (by decide +kernel) (by decide)
theorem x_9_31 : Xp 9 d 31 ls st t g Q = Xp 9 d 33 ls ((0, -2) :: st) t g Q := xr_bi (c := -2) (by decide +kernel) (by decide)
theorem x_9_33 : Xp 9 d 33 ls [(0, x)] t g Q = Q (some (0, x)) t g := xr_retI (by decide +kernel) (by decide +kernel)
theorem x_9_34 : Xp 9 d 34 ls st t g Q = Xp 9 d 35 ls ((0, -1) :: st) t g Q := xr_const (c := -1) (by decide +kernel) (by decide)
theorem x_9_35 : Xp 9 d 35 [v0, v1, v2, v3, v4, v5, v6, v7, v8, v9, v10] ((0, x) :: st) t g Q = (hkP1 v3 ∧ Xp 9 d 37 [v0, v1, v2, v3, (0, x), v5, v6, v7, v8, v9, v10] st t g Q) := Xp_chk (i := .istore 4) (len := 2) (by decide +kernel) rfl
theorem x_9_37 : Xp 9 d 37 ls st t g Q = Xp 9 d 38 ls ((0, -1) :: st) t g Q := xr_const (c := -1) (by decide +kernel) (by decide)
theorem x_9_38 : Xp 9 d 38 [v0, v1, v2, v3, v4, v5, v6, v7, v8, v9, v10] ((0, x) :: st) t g Q = (hkP1 v4 ∧ Xp 9 d 40 [v0, v1, v2, v3, v4, (0, x), v6, v7, v8, v9, v10] st t g Q) := Xp_chk (i := .istore 5) (len := 2) (by decide +kernel) rfl
theorem x_9_40 : Xp 9 d 40 ls st t g Q = Xp 9 d 41 ls ((0, 0) :: st) t g Q := xr_const (c := 0) (by decide +kernel) (by decide)
theorem x_9_41 : Xp 9 d 41 [v0, v1, v2, v3, v4, v5, v6, v7, v8, v9, v10] ((0, x) :: st) t g Q = (hkP1 v5 ∧ Xp 9 d 43 [v0, v1, v2, v3, v4, v5, (0, x), v7, v8, v9, v10] st t g Q) := Xp_chk (i := .istore 6) (len := 2) (by decide +kernel) rfl
theorem x_9_43 : Xp 9 d 43 ls st t g Q = Xp 9 d 44 ls ((0, 0) :: st) t g Q := xr_const (c := 0) (by decide +kernel) (by decide)
theorem x_9_44 : Xp 9 d 44 [v0, v1, v2, v3, v4, v5, v6, v7, v8, v9, v10] ((0, x) :: st) t g Q = (hkP1 v6 ∧ Xp 9 d 46 [v0, v1, v2, v3, v4, v5, v6, (0, x), v8, v9, v10] st t g Q) := Xp_chk (i := .istore 7) (len := 2) (by decide +kernel) rfl
theorem x_9_46 : Xp 9 d 46 ls st t g Q = Xp 9 d 47 ls ((0, 0) :: st) t g Q := xr_const (c := 0) (by decide +kernel) (by decide)
theorem x_9_47 : Xp 9 d 47 [v0, v1, v2, v3, v4, v5, v6, v7, v8, v9, v10] ((0, x) :: st) t g Q = (hkP1 v7 ∧ Xp 9 d 49 [v0, v1, v2, v3, v4, v5, v6, v7, (0, x), v9, v10] st t g Q) := Xp_chk (i := .istore 8) (len := 2) (by decide +kernel) rfl
theorem x_9_49 : Xp 9 d 49 [v0, v1, v2, v3, v4, v5, v6, v7, (0, x), v9, v10] st t g Q = Xp 9 d 51 [v0, v1, v2, v3, v4, v5, v6, v7, (0, x), v9, v10] ((0, x) :: st) t g Q := Xp_go (i := .iload 8) (len := 2) (by decide +kernel) rfl
theorem x_9_51 : Xp 9 d 51 [(2, x), v1, v2, v3, v4, v5, v6, v7, v8, v9, v10] st t g Q = Xp 9 d 52 [(2, x), v1, v2, v3, v4, v5, v6, v7, v8, v9, v10] ((2, x) :: st) t g Q := Xp_go (i := .aload_n 0) (len := 1) (by decide +kernel) rfl
theorem x_9_52 : Xp 9 d 52 ls ((2, p) :: st) t g Q = (hkJK p = 0 ∧ jA p 0 ≤ t ∧ Xp 9 d 55 ls ((2, jR p 0) :: st) t g Q) := xr_getR (idx := 14) (ci := 0) (k := 0) (by decide +kernel) (by decide +kernel) (by decide +kernel)
theorem x_9_55 : Xp 9 d 55 ls ((2, p) :: st) t g Q = (hkJK p = 1 ∧ Xp 9 d 58 ls ((0, g p 3) :: st) t g Q) := xr_getI (idx := 99) (ci := 1) (k := 3) (by decide +kernel) (by decide +kernel) (by decide +kernel)
theorem x_9_58 : Xp 9 d 58 ls ((0, b) :: (0, a) :: st) t g Q = ((b ≤ a → Xp 9 d 136 ls st t g Q) ∧ (¬ (b ≤ a) → Xp 9 d 61 ls st t g Q)) := xr_if2 (cd := .ge) (off := 78) (by decide +kernel) (by decide)
theorem x_9_61 : Xp 9 d 61 [(2, x), v1, v2, v3, v4, v5, v6, v7, v8, v9, v10] st t g Q = Xp 9 d 62 [(2, x), v1, v2, v3, v4, v5, v6, v7, v8, v9, v10] ((2, x) :: st) t g Q := Xp_go (i := .aload_n 0) (len := 1) (by decide +kernel) rfl
theorem x_9_62 : Xp 9 d 62 ls ((2, p) :: st) t g Q = (hkJK p = 0 ∧ jA p 2 ≤ t ∧ Xp 9 d 65 ls ((2, jR p 2) :: st) t g Q) := xr_getR (idx := 32) (ci := 0) (k := 2) (by decide +kernel) (by decide +kernel) (by decide +kernel)
theorem x_9_65 : Xp 9 d 65 [v0, (0, x), v2, v3, v4, v5, v6, v7, v8, v9, v10] st t g Q = Xp 9 d 66 [v0, (0, x), v2, v3, v4, v5, v6, v7, v8, v9, v10] ((0, x) :: st) t g Q := Xp_go (i := .iload_n 1) (len := 1) (by decide +kernel) rfl
theorem x_9_66 : Xp 9 d 66 [v0, v1, (0, x), v3, v4, v5, v6, v7, v8, v9, v10] st t g Q = Xp 9 d 67 [v0, v1, (0, x), v3, v4, v5, v6, v7, v8, v9, v10] ((0, x) :: st) t g Q := Xp_go (i := .iload_n 2) (len := 1) (by decide +kernel) rfl
theorem x_9_67 : Xp 9 d 67 [v0, v1, v2, v3, v4, v5, v6, v7, (0, x), v9, v10] st t g Q = Xp 9 d 69 [v0, v1, v2, v3, v4, v5, v6, v7, (0, x), v9, v10] ((0, x) :: st) t g Q := Xp_go (i := .iload 8) (len := 2) (by decide +kernel) rfl
theorem x_9_69 : Xp 9 (d + 1) 69 ls ((0, a3) :: (0, a2) :: (0, a1) :: (2, a0) :: st) t g Q = (hkJK a0 = 3 ∧ hkC8 st ∧ Xp 53 d 0 [(2, a0), (0, a1), (0, a2), (0, a3)] [] t g (fun r t g => Xp 9 (d + 1) 72 ls (hkPush r st) t g Q)) := xr_invV (idx := 139) (y' := 53) (ci := 3) (tg := [2, 0, 0, 0]) (by decide +kernel) (by decide +kernel) (by decide +kernel) (by decide +kernel) rfl rfl rfl
theorem x_9_72 : Xp 9 d 72 [v0, v1, v2, v3, v4, v5, v6, v7, v8, v9, v10] ((0, x) :: st) t g Q = (hkP1 v8 ∧ Xp 9 d 74 [v0, v1, v2, v3, v4, v5, v6, v7, v8, (0, x), v10] st t g Q) := Xp_chk (i := .istore 9) (len := 2) (by decide +kernel) rfl
theorem x_9_74 : Xp 9 d 74 [v0, v1, v2, v3, v4, v5, v6, v7, v8, (0, x), v10] st t g Q = Xp 9 d 76 [v0, v1, v2, v3, v4, v5, v6, v7, v8, (0, x), v10] ((0, x) :: st) t g Q := Xp_go (i := .iload 9) (len := 2) (by decide +kernel) rfl
theorem x_9_76 : Xp 9 d 76 ls ((0, a) :: st) t g Q = ((a = 0 → Xp 9 d 130 ls st t g Q) ∧ (¬ (a = 0) → Xp 9 d 79 ls st t g Q)) := xr_if1 (cd := .eq) (off := 54) (by decide +kernel) (by decide)
theorem x_9_79 : Xp 9 d 79 [(2, x), v1, v2, v3, v4, v5, v6, v7, v8, v9, v10] st t g Q = Xp 9 d 80 [(2, x), v1, v2, v3, v4, v5, v6, v7, v8, v9, v10] ((2, x) :: st) t g Q := Xp_go (i := .aload_n 0) (len := 1) (by decide +kernel) rfl
theorem x_9_80 : Xp 9 d 80 ls ((2, p) :: st) t g Q = (hkJK p = 0 ∧ jA p 2 ≤ t ∧ Xp 9 d 83 ls ((2, jR p 2) :: st) t g Q) := xr_getR (idx := 32) (ci := 0) (k := 2) (by decide +kernel) (by decide +kernel) (by decide +kernel)
theorem x_9_83 : Xp 9 d 83 [v0, (0, x), v2, v3, v4, v5, v6, v7, v8, v9, v10] st t g Q = Xp 9 d 84 [v0, (0, x), v2, v3, v4, v5, v6, v7, v8, v9, v10] ((0, x) :: st) t g Q := Xp_go (i := .iload_n 1) (len := 1) (by decide +kernel) rfl
theorem x_9_84 : Xp 9 d 84 [v0, v1, (0, x), v3, v4, v5, v6, v7, v8, v9, v10] st t g Q = Xp 9 d 85 [v0, v1, (0, x), v3, v4, v5, v6, v7, v8, v9, v10] ((0, x) :: st) t g Q := Xp_go (i := .iload_n 2) (len := 1) (by decide +kernel) rfl
theorem x_9_85 : Xp 9 d 85 [v0, v1, v2, v3, v4, v5, v6, v7, (0, x), v9, v10] st t g Q = Xp 9 d 87 [v0, v1, v2, v3, v4, v5, v6, v7, (0, x), v9, v10] ((0, x) :: st) t g Q := Xp_go (i := .iload 8) (len := 2) (by decide +kernel) rfl
theorem x_9_87 : Xp 9 (d + 1) 87 ls ((0, a3) :: (0, a2) :: (0, a1) :: (2, a0) :: st) t g Q = (hkJK a0 = 3 ∧ hkC8 st ∧ Xp 57 d 0 [(2, a0), (0, a1), (0, a2), (0, a3)] [] t g (fun r t g => Xp 9 (d + 1) 90 ls (hkPush r st) t g Q)) := xr_invV (idx := 143) (y' := 57) (ci := 3) (tg := [2, 0, 0, 0]) (by decide +kernel) (by decide +kernel) (by decide +kernel) (by decide +kernel) rfl rfl rfl
theorem x_9_90 : Xp 9 d 90 [v0, v1, v2, v3, v4, v5, v6, v7, v8, v9, v10] ((0, x) :: st) t g Q = (hkP1 v9 ∧ Xp 9 d 92 [v0, v1, v2, v3, v4, v5, v6, v7, v8, v9, (0, x)] st t g Q) := Xp_chk (i := .istore 10) (len := 2) (by decide +kernel) rfl
theorem x_9_92 : Xp 9 d 92 [v0, v1, v2, v3, v4, v5, (0, x), v7, v8, v9, v10] st t g Q = Xp 9 d 94 [v0, v1, v2, v3, v4, v5, (0, x), v7, v8, v9, v10] ((0, x) :: st) t g Q := Xp_go (i := .iload 6) (len := 2) (by decide +kernel) rfl
theorem x_9_94 : Xp 9 d 94 ls ((0, a) :: st) t g Q = ((¬ (a = 0) → Xp 9 d 102 ls st t g Q) ∧ (¬ (¬ (a = 0)) → Xp 9 d 97 ls st t g Q)) := xr_if1 (cd := .ne) (off := 8) (by decide +kernel) (by decide)
theorem x_9_97 : Xp 9 d 97 [v0, v1, v2, v3, v4, v5, v6, v7, v8, v9, (0, x)] st t g Q = Xp 9 d 99 [v0, v1, v2, v3, v4, v5, v6, v7, v8, v9, (0, x)] ((0, x) :: st) t g Q := Xp_go (i := .iload 10) (len := 2) (by decide +kernel) rfl
theorem x_9_99 : Xp 9 d 99 ls st t g Q = Xp 9 d 109 ls st t g Q := xr_goto (off := 10) (by decide +kernel) (by decide)
theorem x_9_102 : Xp 9 d 102 [v0, v1, v2, v3, (0, x), v5, v6, v7, v8, v9, v10] st t g Q = Xp 9 d 104 [v0, v1, v2, v3, (0, x), v5, v6, v7, v8, v9, v10] ((0, x) :: st) t g Q := Xp_go (i := .iload 4) (len := 2) (by decide +kernel) rfl
theorem x_9_104 : Xp 9 d 104 [v0, v1, v2, v3, v4, v5, v6, v7, v8, v9, (0, x)] st t g Q = Xp 9 d 106 [v0, v1, v2, v3, v4, v5, v6, v7, v8, v9, (0, x)] ((0, x) :: st) t g Q := Xp_go (i := .iload 10) (len := 2) (by decide +kernel) rfl
theorem x_9_106 : Xp 9 (d + 1) 106 ls ((0, a1) :: (0, a0) :: st) t g Q = (hkC8 st ∧ Xp 174 d 0 [(0, a0), (0, a1)] [] t g (fun r t g => Xp 9 (d + 1) 109 ls (hkPush r st) t g Q)) := xr_invS (idx := 146) (y' := 174) (tg := [0, 0]) (by decide +kernel) (by decide +kernel) (by decide +kernel) rfl rfl
theorem x_9_109 : Xp 9 d 109 [v0, v1, v2, v3, v4, v5, v6, v7, v8, v9, v10] ((0, x) :: st) t g Q = (hkP1 v3 ∧ Xp 9 d 111 [v0, v1, v2, v3, (0, x), v5, v6, v7, v8, v9, v10] st t g Q) := Xp_chk (i := .istore 4) (len := 2) (by decide +kernel) rfl
theorem x_9_111 : Xp 9 d 111 [v0, v1, v2, v3, v4, (0, x), v6, v7, v8, v9, v10] st t g Q = Xp 9 d 113 [v0, v1, v2, v3, v4, (0, x), v6, v7, v8, v9, v10] ((0, x) :: st) t g Q := Xp_go (i := .iload 5) (len := 2) (by decide +kernel) rfl
theorem x_9_113 : Xp 9 d 113 [v0, v1, v2, v3, v4, v5, v6, v7, v8, v9, (0, x)] st t g Q = Xp 9 d 115 [v0, v1, v2, v3, v4, v5, v6, v7, v8, v9, (0, x)] ((0, x) :: st) t g Q := Xp_go (i := .iload 10) (len := 2) (by decide +kernel) rfl
theorem x_9_115 : Xp 9 (d + 1) 115 ls ((0, a1) :: (0, a0) :: st) t g Q = (hkC8 st ∧ Xp 175 d 0 [(0, a0), (0, a1)] [] t g (fun r t g => Xp 9 (d + 1) 118 ls (hkPush r st) t g Q)) := xr_invS (idx := 152) (y' := 175) (tg := [0, 0]) (by decide +kernel) (by decide +kernel) (by decide +kernel) rfl rfl
theorem x_9_118 : Xp 9 d 118 [v0, v1, v2, v3, v4, v5, v6, v7, v8, v9, v10] ((0, x) :: st) t g Q = (hkP1 v4 ∧ Xp 9 d 120 [v0, v1, v2, v3, v4, (0, x), v6, v7, v8, v9, v10] st t g Q) := Xp_chk (i := .istore 5) (len := 2) (by decide +kernel) rfl
theorem x_9_120 : Xp 9 d 120 [v0, v1, v2, v3, v4, v5, (0, x), v7, v8, v9, v10] st t g Q = (hkP1 v5 ∧ Xp 9 d 123 [v0, v1, v2, v3, v4, v5, (0, hkW (x + 1)), v7, v8, v9, v10] st t g Q) := Xp_chk (i := .iinc 6 (1)) (len := 3) (by decide +kernel) rfl
theorem x_9_123 : Xp 9 d 123 [v0, v1, v2, v3, v4, v5, v6, (0, x), v8, v9, v10] st t g Q = Xp 9 d 125 [v0, v1, v2, v3, v4, v5, v6, (0, x), v8, v9, v10] ((0, x) :: st) t g Q := Xp_go (i := .iload 7) (len := 2) (by decide +kernel) rfl
theorem x_9_125 : Xp 9 d 125 [v0, v1, v2, v3, v4, v5, v6, v7, v8, (0, x), v10] st t g Q = Xp 9 d 127 [v0, v1, v2, v3, v4, v5, v6, v7, v8, (0, x), v10] ((0, x) :: st) t g Q := Xp_go (i := .iload 9) (len := 2) (by decide +kernel) rfl
theorem x_9_127 : Xp 9 d 127 ls ((0, b) :: (0, a) :: st) t g Q = Xp 9 d 128 ls ((0, hkW (a + b)) :: st) t g Q := Xp_go (i := .iadd) (len := 1) (by decide +kernel) rfl
theorem x_9_128 : Xp 9 d 128 [v0, v1, v2, v3, v4, v5, v6, v7, v8, v9, v10] ((0, x) :: st) t g Q = (hkP1 v6 ∧ Xp 9 d 130 [v0, v1, v2, v3, v4, v5, v6, (0, x), v8, v9, v10] st t g Q) := Xp_chk (i := .istore 7) (len := 2) (by decide +kernel) rfl
theorem x_9_130 : Xp 9 d 130 [v0, v1, v2, v3, v4, v5, v6, v7, (0, x), v9, v10] st t g Q = (hkP1 v7 ∧ Xp 9 d 133 [v0, v1, v2, v3, v4, v5, v6, v7, (0, hkW (x + 1)), v9, v10] st t g Q) := Xp_chk (i := .iinc 8 (1)) (len := 3) (by decide +kernel) rfl
theorem x_9_133 : Xp 9 d 133 ls st t g Q = Xp 9 d 49 ls st t g Q := xr_goto (off := -84) (by decide +kernel) (by decide)
theorem x_9_136 : Xp 9 d 136 [v0, v1, v2, (0, x), v4, v5, v6, v7, v8, v9, v10] st t g Q = Xp 9 d 137 [v0, v1, v2, (0, x), v4, v5, v6, v7, v8, v9, v10] ((0, x) :: st) t g Q := Xp_go (i := .iload_n 3) (len := 1) (by decide +kernel) rfl
theorem x_9_137_f : hkFetch 9 137 = some (.tableswitch (36) (0) (2) #[27, 30, 33], 27) := by decide +kernel
theorem x_9_137_k0 : Xp 9 d 137 ls ((0, 0) :: st) t g Q = Xp 9 d 164 ls st t g Q := xr_sw x_9_137_f (off := 27) (by decide +kernel) (by decide)
theorem x_9_137_k1 : Xp 9 d 137 ls ((0, 1) :: st) t g Q = Xp 9 d 167 ls st t g Q := xr_sw x_9_137_f (off := 30) (by decide +kernel) (by decide)
theorem x_9_137_k2 : Xp 9 d 137 ls ((0, 2) :: st) t g Q = Xp 9 d 170 ls st t g Q := xr_sw x_9_137_f (off := 33) (by decide +kernel) (by decide)
theorem x_9_137_d (h : a < 0 ∨ 2 < a) : Xp 9 d 137 ls ((0, a) :: st) t g Q = Xp 9 d 173 ls st t g Q := xr_swd x_9_137_f h (by decide)
theorem x_9_164 : Xp 9 d 164 [v0, v1, v2, v3, (0, x), v5, v6, v7, v8, v9, v10] st t g Q = Xp 9 d 166 [v0, v1, v2, v3, (0, x), v5, v6, v7, v8, v9, v10] ((0, x) :: st) t g Q := Xp_go (i := .iload 4) (len := 2) (by decide +kernel) rfl
theorem x_9_166 : Xp 9 d 166 ls [(0, x)] t g Q = Q (some (0, x)) t g := xr_retI (by decide +kernel) (by decide +kernel)
theorem x_9_167 : Xp 9 d 167 [v0, v1, v2, v3, v4, (0, x), v6, v7, v8, v9, v10] st t g Q = Xp 9 d 169 [v0, v1, v2, v3, v4, (0, x), v6, v7, v8, v9, v10] ((0, x) :: st) t g Q := Xp_go (i := .iload 5) (len := 2) (by decide +kernel) rfl
theorem x_9_169 : Xp 9 d 169 ls [(0, x)] t g Q = Q (some (0, x)) t g := xr_retI (by decide +kernel) (by decide +kernel)
theorem x_9_170 : Xp 9 d 170 [v0, v1, v2, v3, v4, v5, (0, x), v7, v8, v9, v10] st t g Q = Xp 9 d 172 [v0, v1, v2, v3, v4, v5, (0, x), v7, v8, v9, v10] ((0, x) :: st) t g Q := Xp_go (i := .iload 6) (len := 2) (by decide +kernel) rfl
theorem x_9_172 : Xp 9 d 172 ls [(0, x)] t g Q = Q (some (0, x)) t g := xr_retI (by decide +kernel) (by decide +kernel)
theorem x_9_173 : Xp 9 d 173 [v0, v1, v2, v3, v4, v5, v6, (0, x), v8, v9, v10] st t g Q = Xp 9 d 175 [v0, v1, v2, v3, v4, v5, v6, (0, x), v8, v9, v10] ((0, x) :: st) t g Q := Xp_go (i := .iload 7) (len := 2) (by decide +kernel) rfl
theorem x_9_175 : Xp 9 d 175 ls [(0, x)] t g Q = Q (some (0, x)) t g := xr_retI (by decide +kernel) (by decide +kernel)
-- 10: HookBoxes.around(IIII)I
theorem x_10_0 : Xp 10 d 0 [(2, x), v1, v2, v3, v4, v5, v6, v7] st t g Q = Xp 10 d 1 [(2, x), v1, v2, v3, v4, v5, v6, v7] ((2, x) :: st) t g Q := Xp_go (i := .aload_n 0) (len := 1) (by decide +kernel) rfl
theorem x_10_1 : Xp 10 d 1 ls ((2, p) :: st) t g Q = (hkJK p = 0 ∧ jA p 0 ≤ t ∧ Xp 10 d 4 ls ((2, jR p 0) :: st) t g Q) := xr_getR (idx := 14) (ci := 0) (k := 0) (by decide +kernel) (by decide +kernel) (by decide +kernel)
theorem x_10_4 : Xp 10 d 4 [v0, (0, x), v2, v3, v4, v5, v6, v7] st t g Q = Xp 10 d 5 [v0, (0, x), v2, v3, v4, v5, v6, v7] ((0, x) :: st) t g Q := Xp_go (i := .iload_n 1) (len := 1) (by decide +kernel) rfl
theorem x_10_5 : Xp 10 (d + 1) 5 ls ((0, a1) :: (2, a0) :: st) t g Q = (hkJK a0 = 1 ∧ hkC8 st ∧ Xp 39 d 0 [(2, a0), (0, a1)] [] t g (fun r t g => Xp 10 (d + 1) 8 ls (hkPush r st) t g Q)) := xr_invV (idx := 103) (y' := 39) (ci := 1) (tg := [2, 0]) (by decide +kernel) (by decide +kernel) (by decide +kernel) (by decide +kernel) rfl rfl rfl
theorem x_10_8 : Xp 10 d 8 ls ((0, a) :: st) t g Q = ((a = 0 → Xp 10 d 42 ls st t g Q) ∧ (¬ (a = 0) → Xp 10 d 11 ls st t g Q)) := xr_if1 (cd := .eq) (off := 34) (by decide +kernel) (by decide)
theorem x_10_11 : Xp 10 d 11 [(2, x), v1, v2, v3, v4, v5, v6, v7] st t g Q = Xp 10 d 12 [(2, x), v1, v2, v3, v4, v5, v6, v7] ((2, x) :: st) t g Q := Xp_go (i := .aload_n 0) (len := 1) (by decide +kernel) rfl
theorem x_10_12 : Xp 10 d 12 ls ((2, p) :: st) t g Q = (hkJK p = 0 ∧ jA p 0 ≤ t ∧ Xp 10 d 15 ls ((2, jR p 0) :: st) t g Q) := xr_getR (idx := 14) (ci := 0) (k := 0) (by decide +kernel) (by decide +kernel) (by decide +kernel)
theorem x_10_15 : Xp 10 d 15 [v0, v1, (0, x), v3, v4, v5, v6, v7] st t g Q = Xp 10 d 16 [v0, v1, (0, x), v3, v4, v5, v6, v7] ((0, x) :: st) t g Q := Xp_go (i := .iload_n 2) (len := 1) (by decide +kernel) rfl
theorem x_10_16 : Xp 10 (d + 1) 16 ls ((0, a1) :: (2, a0) :: st) t g Q = (hkJK a0 = 1 ∧ hkC8 st ∧ Xp 39 d 0 [(2, a0), (0, a1)] [] t g (fun r t g => Xp 10 (d + 1) 19 ls (hkPush r st) t g Q)) := xr_invV (idx := 103) (y' := 39) (ci := 1) (tg := [2, 0]) (by decide +kernel) (by decide +kernel) (by decide +kernel) (by decide +kernel) rfl rfl rfl
theorem x_10_19 : Xp 10 d 19 ls ((0, a) :: st) t g Q = ((a = 0 → Xp 10 d 42 ls st t g Q) ∧ (¬ (a = 0) → Xp 10 d 22 ls st t g Q)) := xr_if1 (cd := .eq) (off := 23) (by decide +kernel) (by decide)
theorem x_10_22 : Xp 10 d 22 [v0, v1, v2, (0, x), v4, v5, v6, v7] st t g Q = Xp 10 d 23 [v0, v1, v2, (0, x), v4, v5, v6, v7] ((0, x) :: st) t g Q := Xp_go (i := .iload_n 3) (len := 1) (by decide +kernel) rfl
theorem x_10_23 : Xp 10 d 23 ls st t g Q = Xp 10 d 24 ls ((0, 0) :: st) t g Q := xr_const (c := 0) (by decide +kernel) (by decide)
theorem x_10_24 : Xp 10 d 24 ls st t g Q = Xp 10 d 26 ls ((0, 7) :: st) t g Q := xr_bi (c := 7) (by decide +kernel) (by decide)
theorem x_10_26 : Xp 10 (d + 1) 26 ls ((0, a2) :: (0, a1) :: (0, a0) :: st) t g Q = (hkC8 st ∧ Xp 2 d 0 [(0, a0), (0, a1), (0, a2)] [] t g (fun r t g => Xp 10 (d + 1) 29 ls (hkPush r st) t g Q)) := xr_invS (idx := 88) (y' := 2) (tg := [0, 0, 0]) (by decide +kernel) (by decide +kernel) (by decide +kernel) rfl rfl
theorem x_10_29 : Xp 10 d 29 ls ((0, a) :: st) t g Q = ((¬ (a = 0) → Xp 10 d 42 ls st t g Q) ∧ (¬ (¬ (a = 0)) → Xp 10 d 32 ls st t g Q)) := xr_if1 (cd := .ne) (off := 13) (by decide +kernel) (by decide)
theorem x_10_32 : Xp 10 d 32 [v0, v1, v2, v3, (0, x), v5, v6, v7] st t g Q = Xp 10 d 34 [v0, v1, v2, v3, (0, x), v5, v6, v7] ((0, x) :: st) t g Q := Xp_go (i := .iload 4) (len := 2) (by decide +kernel) rfl
theorem x_10_34 : Xp 10 d 34 ls st t g Q = Xp 10 d 35 ls ((0, 0) :: st) t g Q := xr_const (c := 0) (by decide +kernel) (by decide)
theorem x_10_35 : Xp 10 d 35 ls st t g Q = Xp 10 d 36 ls ((0, 1) :: st) t g Q := xr_const (c := 1) (by decide +kernel) (by decide)
theorem x_10_36 : Xp 10 (d + 1) 36 ls ((0, a2) :: (0, a1) :: (0, a0) :: st) t g Q = (hkC8 st ∧ Xp 2 d 0 [(0, a0), (0, a1), (0, a2)] [] t g (fun r t g => Xp 10 (d + 1) 39 ls (hkPush r st) t g Q)) := xr_invS (idx := 88) (y' := 2) (tg := [0, 0, 0]) (by decide +kernel) (by decide +kernel) (by decide +kernel) rfl rfl
theorem x_10_39 : Xp 10 d 39 ls ((0, a) :: st) t g Q = ((a = 0 → Xp 10 d 45 ls st t g Q) ∧ (¬ (a = 0) → Xp 10 d 42 ls st t g Q)) := xr_if1 (cd := .eq) (off := 6) (by decide +kernel) (by decide)
theorem x_10_42 : Xp 10 d 42 ls st t g Q = Xp 10 d 44 ls ((0, -2) :: st) t g Q := xr_bi (c := -2) (by decide +kernel) (by decide)
theorem x_10_44 : Xp 10 d 44 ls [(0, x)] t g Q = Q (some (0, x)) t g := xr_retI (by decide +kernel) (by decide +kernel)
theorem x_10_45 : Xp 10 d 45 ls st t g Q = Xp 10 d 46 ls ((0, 0) :: st) t g Q := xr_const (c := 0) (by decide +kernel) (by decide)
theorem x_10_46 : Xp 10 d 46 [v0, v1, v2, v3, v4, v5, v6, v7] ((0, x) :: st) t g Q = (hkP1 v4 ∧ Xp 10 d 48 [v0, v1, v2, v3, v4, (0, x), v6, v7] st t g Q) := Xp_chk (i := .istore 5) (len := 2) (by decide +kernel) rfl
theorem x_10_48 : Xp 10 d 48 ls st t g Q = Xp 10 d 49 ls ((0, -1) :: st) t g Q := xr_const (c := -1) (by decide +kernel) (by decide)
theorem x_10_49 : Xp 10 d 49 [v0, v1, v2, v3, v4, v5, v6, v7] ((0, x) :: st) t g Q = (hkP1 v5 ∧ Xp 10 d 51 [v0, v1, v2, v3, v4, v5, (0, x), v7] st t g Q) := Xp_chk (i := .istore 6) (len := 2) (by decide +kernel) rfl
theorem x_10_51 : Xp 10 d 51 ls st t g Q = Xp 10 d 52 ls ((0, 0) :: st) t g Q := xr_const (c := 0) (by decide +kernel) (by decide)
theorem x_10_52 : Xp 10 d 52 [v0, v1, v2, v3, v4, v5, v6, v7] ((0, x) :: st) t g Q = (hkP1 v6 ∧ Xp 10 d 54 [v0, v1, v2, v3, v4, v5, v6, (0, x)] st t g Q) := Xp_chk (i := .istore 7) (len := 2) (by decide +kernel) rfl
theorem x_10_54 : Xp 10 d 54 [v0, v1, v2, v3, v4, v5, v6, (0, x)] st t g Q = Xp 10 d 56 [v0, v1, v2, v3, v4, v5, v6, (0, x)] ((0, x) :: st) t g Q := Xp_go (i := .iload 7) (len := 2) (by decide +kernel) rfl
theorem x_10_56 : Xp 10 d 56 [(2, x), v1, v2, v3, v4, v5, v6, v7] st t g Q = Xp 10 d 57 [(2, x), v1, v2, v3, v4, v5, v6, v7] ((2, x) :: st) t g Q := Xp_go (i := .aload_n 0) (len := 1) (by decide +kernel) rfl
theorem x_10_57 : Xp 10 d 57 ls ((2, p) :: st) t g Q = (hkJK p = 0 ∧ jA p 0 ≤ t ∧ Xp 10 d 60 ls ((2, jR p 0) :: st) t g Q) := xr_getR (idx := 14) (ci := 0) (k := 0) (by decide +kernel) (by decide +kernel) (by decide +kernel)
theorem x_10_60 : Xp 10 d 60 ls ((2, p) :: st) t g Q = (hkJK p = 1 ∧ Xp 10 d 63 ls ((0, g p 3) :: st) t g Q) := xr_getI (idx := 99) (ci := 1) (k := 3) (by decide +kernel) (by decide +kernel) (by decide +kernel)
theorem x_10_63 : Xp 10 d 63 ls ((0, b) :: (0, a) :: st) t g Q = ((b ≤ a → Xp 10 d 114 ls st t g Q) ∧ (¬ (b ≤ a) → Xp 10 d 66 ls st t g Q)) := xr_if2 (cd := .ge) (off := 51) (by decide +kernel) (by decide)
theorem x_10_66 : Xp 10 d 66 [(2, x), v1, v2, v3, v4, v5, v6, v7] st t g Q = Xp 10 d 67 [(2, x), v1, v2, v3, v4, v5, v6, v7] ((2, x) :: st) t g Q := Xp_go (i := .aload_n 0) (len := 1) (by decide +kernel) rfl
theorem x_10_67 : Xp 10 d 67 ls ((2, p) :: st) t g Q = (hkJK p = 0 ∧ jA p 2 ≤ t ∧ Xp 10 d 70 ls ((2, jR p 2) :: st) t g Q) := xr_getR (idx := 32) (ci := 0) (k := 2) (by decide +kernel) (by decide +kernel) (by decide +kernel)
theorem x_10_70 : Xp 10 d 70 [v0, v1, (0, x), v3, v4, v5, v6, v7] st t g Q = Xp 10 d 71 [v0, v1, (0, x), v3, v4, v5, v6, v7] ((0, x) :: st) t g Q := Xp_go (i := .iload_n 2) (len := 1) (by decide +kernel) rfl
theorem x_10_71 : Xp 10 d 71 [v0, v1, v2, v3, v4, v5, v6, (0, x)] st t g Q = Xp 10 d 73 [v0, v1, v2, v3, v4, v5, v6, (0, x)] ((0, x) :: st) t g Q := Xp_go (i := .iload 7) (len := 2) (by decide +kernel) rfl
theorem x_10_73 : Xp 10 d 73 [v0, (0, x), v2, v3, v4, v5, v6, v7] st t g Q = Xp 10 d 74 [v0, (0, x), v2, v3, v4, v5, v6, v7] ((0, x) :: st) t g Q := Xp_go (i := .iload_n 1) (len := 1) (by decide +kernel) rfl
theorem x_10_74 : Xp 10 (d + 1) 74 ls ((0, a3) :: (0, a2) :: (0, a1) :: (2, a0) :: st) t g Q = (hkJK a0 = 3 ∧ hkC8 st ∧ Xp 53 d 0 [(2, a0), (0, a1), (0, a2), (0, a3)] [] t g (fun r t g => Xp 10 (d + 1) 77 ls (hkPush r st) t g Q)) := xr_invV (idx := 139) (y' := 53) (ci := 3) (tg := [2, 0, 0, 0]) (by decide +kernel) (by decide +kernel) (by decide +kernel) (by decide +kernel) rfl rfl rfl
theorem x_10_77 : Xp 10 d 77 ls ((0, a) :: st) t g Q = ((a = 0 → Xp 10 d 108 ls st t g Q) ∧ (¬ (a = 0) → Xp 10 d 80 ls st t g Q)) := xr_if1 (cd := .eq) (off := 31) (by decide +kernel) (by decide)
theorem x_10_80 : Xp 10 d 80 [(2, x), v1, v2, v3, v4, v5, v6, v7] st t g Q = Xp 10 d 81 [(2, x), v1, v2, v3, v4, v5, v6, v7] ((2, x) :: st) t g Q := Xp_go (i := .aload_n 0) (len := 1) (by decide +kernel) rfl
theorem x_10_81 : Xp 10 d 81 ls ((2, p) :: st) t g Q = (hkJK p = 0 ∧ jA p 2 ≤ t ∧ Xp 10 d 84 ls ((2, jR p 2) :: st) t g Q) := xr_getR (idx := 32) (ci := 0) (k := 2) (by decide +kernel) (by decide +kernel) (by decide +kernel)
theorem x_10_84 : Xp 10 d 84 [v0, v1, (0, x), v3, v4, v5, v6, v7] st t g Q = Xp 10 d 85 [v0, v1, (0, x), v3, v4, v5, v6, v7] ((0, x) :: st) t g Q := Xp_go (i := .iload_n 2) (len := 1) (by decide +kernel) rfl
theorem x_10_85 : Xp 10 d 85 [v0, v1, v2, v3, v4, v5, v6, (0, x)] st t g Q = Xp 10 d 87 [v0, v1, v2, v3, v4, v5, v6, (0, x)] ((0, x) :: st) t g Q := Xp_go (i := .iload 7) (len := 2) (by decide +kernel) rfl
theorem x_10_87 : Xp 10 d 87 [v0, (0, x), v2, v3, v4, v5, v6, v7] st t g Q = Xp 10 d 88 [v0, (0, x), v2, v3, v4, v5, v6, v7] ((0, x) :: st) t g Q := Xp_go (i := .iload_n 1) (len := 1) (by decide +kernel) rfl
theorem x_10_88 : Xp 10 (d + 1) 88 ls ((0, a3) :: (0, a2) :: (0, a1) :: (2, a0) :: st) t g Q = (hkJK a0 = 3 ∧ hkC8 st ∧ Xp 57 d 0 [(2, a0), (0, a1), (0, a2), (0, a3)] [] t g (fun r t g => Xp 10 (d + 1) 91 ls (hkPush r st) t g Q)) := xr_invV (idx := 143) (y' := 57) (ci := 3) (tg := [2, 0, 0, 0]) (by decide +kernel) (by decide +kernel) (by decide +kernel) (by decide +kernel) rfl rfl rfl
theorem x_10_91 : Xp 10 d 91 [v0, v1, v2, (0, x), v4, v5, v6, v7] st t g Q = Xp 10 d 92 [v0, v1, v2, (0, x), v4, v5, v6, v7] ((0, x) :: st) t g Q := Xp_go (i := .iload_n 3) (len := 1) (by decide +kernel) rfl
theorem x_10_92 : Xp 10 d 92 ls ((0, b) :: (0, a) :: st) t g Q = ((¬ (a = b) → Xp 10 d 108 ls st t g Q) ∧ (¬ (¬ (a = b)) → Xp 10 d 95 ls st t g Q)) := xr_if2 (cd := .ne) (off := 16) (by decide +kernel) (by decide)
theorem x_10_95 : Xp 10 d 95 [v0, v1, v2, v3, v4, (0, x), v6, v7] st t g Q = (hkP1 v4 ∧ Xp 10 d 98 [v0, v1, v2, v3, v4, (0, hkW (x + 1)), v6, v7] st t g Q) := Xp_chk (i := .iinc 5 (1)) (len := 3) (by decide +kernel) rfl
theorem x_10_98 : Xp 10 d 98 [v0, v1, v2, v3, v4, v5, (0, x), v7] st t g Q = Xp 10 d 100 [v0, v1, v2, v3, v4, v5, (0, x), v7] ((0, x) :: st) t g Q := Xp_go (i := .iload 6) (len := 2) (by decide +kernel) rfl
theorem x_10_100 : Xp 10 d 100 ls st t g Q = Xp 10 d 101 ls ((0, -1) :: st) t g Q := xr_const (c := -1) (by decide +kernel) (by decide)
theorem x_10_101 : Xp 10 d 101 ls ((0, b) :: (0, a) :: st) t g Q = ((¬ (a = b) → Xp 10 d 108 ls st t g Q) ∧ (¬ (¬ (a = b)) → Xp 10 d 104 ls st t g Q)) := xr_if2 (cd := .ne) (off := 7) (by decide +kernel) (by decide)
theorem x_10_104 : Xp 10 d 104 [v0, v1, v2, v3, v4, v5, v6, (0, x)] st t g Q = Xp 10 d 106 [v0, v1, v2, v3, v4, v5, v6, (0, x)] ((0, x) :: st) t g Q := Xp_go (i := .iload 7) (len := 2) (by decide +kernel) rfl
theorem x_10_106 : Xp 10 d 106 [v0, v1, v2, v3, v4, v5, v6, v7] ((0, x) :: st) t g Q = (hkP1 v5 ∧ Xp 10 d 108 [v0, v1, v2, v3, v4, v5, (0, x), v7] st t g Q) := Xp_chk (i := .istore 6) (len := 2) (by decide +kernel) rfl
theorem x_10_108 : Xp 10 d 108 [v0, v1, v2, v3, v4, v5, v6, (0, x)] st t g Q = (hkP1 v6 ∧ Xp 10 d 111 [v0, v1, v2, v3, v4, v5, v6, (0, hkW (x + 1))] st t g Q) := Xp_chk (i := .iinc 7 (1)) (len := 3) (by decide +kernel) rfl
theorem x_10_111 : Xp 10 d 111 ls st t g Q = Xp 10 d 54 ls st t g Q := xr_goto (off := -57) (by decide +kernel) (by decide)
theorem x_10_114 : Xp 10 d 114 [v0, v1, v2, v3, (0, x), v5, v6, v7] st t g Q = Xp 10 d 116 [v0, v1, v2, v3, (0, x), v5, v6, v7] ((0, x) :: st) t g Q := Xp_go (i := .iload 4) (len := 2) (by decide +kernel) rfl
theorem x_10_116 : Xp 10 d 116 ls ((0, a) :: st) t g Q = ((¬ (a = 0) → Xp 10 d 124 ls st t g Q) ∧ (¬ (¬ (a = 0)) → Xp 10 d 119 ls st t g Q)) := xr_if1 (cd := .ne) (off := 8) (by decide +kernel) (by decide)
theorem x_10_119 : Xp 10 d 119 [v0, v1, v2, v3, v4, (0, x), v6, v7] st t g Q = Xp 10 d 121 [v0, v1, v2, v3, v4, (0, x), v6, v7] ((0, x) :: st) t g Q := Xp_go (i := .iload 5) (len := 2) (by decide +kernel) rfl
theorem x_10_121 : Xp 10 d 121 ls st t g Q = Xp 10 d 126 ls st t g Q := xr_goto (off := 5) (by decide +kernel) (by decide)
theorem x_10_124 : Xp 10 d 124 [v0, v1, v2, v3, v4, v5, (0, x), v7] st t g Q = Xp 10 d 126 [v0, v1, v2, v3, v4, v5, (0, x), v7] ((0, x) :: st) t g Q := Xp_go (i := .iload 6) (len := 2) (by decide +kernel) rfl
theorem x_10_126 : Xp 10 d 126 ls [(0, x)] t g Q = Q (some (0, x)) t g := xr_retI (by decide +kernel) (by decide +kernel)
-- 11: HookBoxes.hooks(II)I
theorem x_11_0 : Xp 11 d 0 [v0, (0, x), v2, v3] st t g Q = Xp 11 d 1 [v0, (0, x), v2, v3] ((0, x) :: st) t g Q := Xp_go (i := .iload_n 1) (len := 1) (by decide +kernel) rfl
theorem x_11_1 : Xp 11 (d + 1) 1 ls ((0, a0) :: st) t g Q = (hkC8 st ∧ Xp 12 d 0 [(0, a0)] [] t g (fun r t g => Xp 11 (d + 1) 4 ls (hkPush r st) t g Q)) := xr_invS (idx := 155) (y' := 12) (tg := [0]) (by decide +kernel) (by decide +kernel) (by decide +kernel) rfl rfl
theorem x_11_4 : Xp 11 d 4 ls ((0, a) :: st) t g Q = ((¬ (a = 0) → Xp 11 d 16 ls st t g Q) ∧ (¬ (¬ (a = 0)) → Xp 11 d 7 ls st t g Q)) := xr_if1 (cd := .ne) (off := 12) (by decide +kernel) (by decide)
theorem x_11_7 : Xp 11 d 7 [v0, v1, (0, x), v3] st t g Q = Xp 11 d 8 [v0, v1, (0, x), v3] ((0, x) :: st) t g Q := Xp_go (i := .iload_n 2) (len := 1) (by decide +kernel) rfl
theorem x_11_8 : Xp 11 d 8 ls st t g Q = Xp 11 d 9 ls ((0, 0) :: st) t g Q := xr_const (c := 0) (by decide +kernel) (by decide)
theorem x_11_9 : Xp 11 d 9 ls st t g Q = Xp 11 d 10 ls ((0, 2) :: st) t g Q := xr_const (c := 2) (by decide +kernel) (by decide)
theorem x_11_10 : Xp 11 (d + 1) 10 ls ((0, a2) :: (0, a1) :: (0, a0) :: st) t g Q = (hkC8 st ∧ Xp 2 d 0 [(0, a0), (0, a1), (0, a2)] [] t g (fun r t g => Xp 11 (d + 1) 13 ls (hkPush r st) t g Q)) := xr_invS (idx := 88) (y' := 2) (tg := [0, 0, 0]) (by decide +kernel) (by decide +kernel) (by decide +kernel) rfl rfl
theorem x_11_13 : Xp 11 d 13 ls ((0, a) :: st) t g Q = ((a = 0 → Xp 11 d 20 ls st t g Q) ∧ (¬ (a = 0) → Xp 11 d 16 ls st t g Q)) := xr_if1 (cd := .eq) (off := 7) (by decide +kernel) (by decide)
theorem x_11_16 : Xp 11 d 16 ls st t g Q = Xp 11 d 19 ls ((0, -1000) :: st) t g Q := xr_si (c := -1000) (by decide +kernel) (by decide)
theorem x_11_19 : Xp 11 d 19 ls [(0, x)] t g Q = Q (some (0, x)) t g := xr_retI (by decide +kernel) (by decide +kernel)
theorem x_11_20 : Xp 11 d 20 [(2, x), v1, v2, v3] st t g Q = Xp 11 d 21 [(2, x), v1, v2, v3] ((2, x) :: st) t g Q := Xp_go (i := .aload_n 0) (len := 1) (by decide +kernel) rfl
theorem x_11_21 : Xp 11 d 21 ls ((2, p) :: st) t g Q = (hkJK p = 0 ∧ jA p 12 ≤ t ∧ Xp 11 d 24 ls ((2, jR p 12) :: st) t g Q) := xr_getR (idx := 83) (ci := 0) (k := 12) (by decide +kernel) (by decide +kernel) (by decide +kernel)
theorem x_11_24 : Xp 11 d 24 [v0, (0, x), v2, v3] st t g Q = Xp 11 d 25 [v0, (0, x), v2, v3] ((0, x) :: st) t g Q := Xp_go (i := .iload_n 1) (len := 1) (by decide +kernel) rfl
theorem x_11_25 : Xp 11 d 25 ls ((0, a) :: (2, p) :: st) t g Q = ((103 ≤ hkJK p ∧ hkJK p ≤ 104 ∧ 0 ≤ a ∧ a < jL p ∧ jAi p a ≤ t) ∧ Xp 11 d 26 ls ((2, jRi p a) :: st) t g Q) := Xp_chk (i := .aaload) (len := 1) (by decide +kernel) rfl
theorem x_11_26 : Xp 11 d 26 [v0, v1, v2, v3] ((2, x) :: st) t g Q = (hkP1 v2 ∧ Xp 11 d 27 [v0, v1, v2, (2, x)] st t g Q) := Xp_chk (i := .astore_n 3) (len := 1) (by decide +kernel) rfl
theorem x_11_27 : Xp 11 d 27 [v0, v1, v2, (2, x)] st t g Q = Xp 11 d 28 [v0, v1, v2, (2, x)] ((2, x) :: st) t g Q := Xp_go (i := .aload_n 3) (len := 1) (by decide +kernel) rfl
theorem x_11_28 : Xp 11 (d + 1) 28 ls ((2, a0) :: st) t g Q = (hkJK a0 = 9 ∧ hkC8 st ∧ Xp 95 d 0 [(2, a0)] [] t g (fun r t g => Xp 11 (d + 1) 31 ls (hkPush r st) t g Q)) := xr_invV (idx := 158) (y' := 95) (ci := 9) (tg := [2]) (by decide +kernel) (by decide +kernel) (by decide +kernel) (by decide +kernel) rfl rfl rfl
theorem x_11_31 : Xp 11 d 31 ls ((0, a) :: st) t g Q = ((a = 0 → Xp 11 d 38 ls st t g Q) ∧ (¬ (a = 0) → Xp 11 d 34 ls st t g Q)) := xr_if1 (cd := .eq) (off := 7) (by decide +kernel) (by decide)
theorem x_11_34 : Xp 11 d 34 ls st t g Q = Xp 11 d 37 ls ((0, -1011) :: st) t g Q := xr_si (c := -1011) (by decide +kernel) (by decide)
theorem x_11_37 : Xp 11 d 37 ls [(0, x)] t g Q = Q (some (0, x)) t g := xr_retI (by decide +kernel) (by decide +kernel)
theorem x_11_38 : Xp 11 d 38 [v0, v1, v2, (2, x)] st t g Q = Xp 11 d 39 [v0, v1, v2, (2, x)] ((2, x) :: st) t g Q := Xp_go (i := .aload_n 3) (len := 1) (by decide +kernel) rfl
theorem x_11_39 : Xp 11 d 39 ls ((2, p) :: st) t g Q = (hkJK p = 9 ∧ Xp 11 d 42 ls ((0, g p 1) :: st) t g Q) := xr_getI (idx := 162) (ci := 9) (k := 1) (by decide +kernel) (by decide +kernel) (by decide +kernel)
theorem x_11_42 : Xp 11 d 42 [(2, x), v1, v2, v3] st t g Q = Xp 11 d 43 [(2, x), v1, v2, v3] ((2, x) :: st) t g Q := Xp_go (i := .aload_n 0) (len := 1) (by decide +kernel) rfl
theorem x_11_43 : Xp 11 d 43 ls ((2, p) :: st) t g Q = (hkJK p = 0 ∧ jA p 0 ≤ t ∧ Xp 11 d 46 ls ((2, jR p 0) :: st) t g Q) := xr_getR (idx := 14) (ci := 0) (k := 0) (by decide +kernel) (by decide +kernel) (by decide +kernel)
theorem x_11_46 : Xp 11 d 46 ls ((2, p) :: st) t g Q = (hkJK p = 1 ∧ Xp 11 d 49 ls ((0, g p 0) :: st) t g Q) := xr_getI (idx := 107) (ci := 1) (k := 0) (by decide +kernel) (by decide +kernel) (by decide +kernel)
theorem x_11_49 : Xp 11 d 49 ls ((0, b) :: (0, a) :: st) t g Q = ((¬ (a = b) → Xp 11 d 59 ls st t g Q) ∧ (¬ (¬ (a = b)) → Xp 11 d 52 ls st t g Q)) := xr_if2 (cd := .ne) (off := 10) (by decide +kernel) (by decide)
theorem x_11_52 : Xp 11 d 52 [v0, v1, v2, (2, x)] st t g Q = Xp 11 d 53 [v0, v1, v2, (2, x)] ((2, x) :: st) t g Q := Xp_go (i := .aload_n 3) (len := 1) (by decide +kernel) rfl
theorem x_11_53 : Xp 11 (d + 1) 53 ls ((2, a0) :: st) t g Q = (hkJK a0 = 9 ∧ hkC8 st ∧ Xp 96 d 0 [(2, a0), hkU, hkU] [] t g (fun r t g => Xp 11 (d + 1) 56 ls (hkPush r st) t g Q)) := xr_invV (idx := 165) (y' := 96) (ci := 9) (tg := [2]) (by decide +kernel) (by decide +kernel) (by decide +kernel) (by decide +kernel) rfl rfl rfl
theorem x_11_56 : Xp 11 d 56 ls ((0, a) :: st) t g Q = ((¬ (a = 0) → Xp 11 d 63 ls st t g Q) ∧ (¬ (¬ (a = 0)) → Xp 11 d 59 ls st t g Q)) := xr_if1 (cd := .ne) (off := 7) (by decide +kernel) (by decide)
theorem x_11_59 : Xp 11 d 59 ls st t g Q = Xp 11 d 62 ls ((0, -1000) :: st) t g Q := xr_si (c := -1000) (by decide +kernel) (by decide)
theorem x_11_62 : Xp 11 d 62 ls [(0, x)] t g Q = Q (some (0, x)) t g := xr_retI (by decide +kernel) (by decide +kernel)
theorem x_11_63 : Xp 11 d 63 [(2, x), v1, v2, v3] st t g Q = Xp 11 d 64 [(2, x), v1, v2, v3] ((2, x) :: st) t g Q := Xp_go (i := .aload_n 0) (len := 1) (by decide +kernel) rfl
theorem x_11_64 : Xp 11 d 64 ls ((2, p) :: st) t g Q = (hkJK p = 0 ∧ jA p 1 ≤ t ∧ Xp 11 d 67 ls ((2, jR p 1) :: st) t g Q) := xr_getR (idx := 23) (ci := 0) (k := 1) (by decide +kernel) (by decide +kernel) (by decide +kernel)
theorem x_11_67 : Xp 11 d 67 [v0, v1, v2, (2, x)] st t g Q = Xp 11 d 68 [v0, v1, v2, (2, x)] ((2, x) :: st) t g Q := Xp_go (i := .aload_n 3) (len := 1) (by decide +kernel) rfl
theorem x_11_68 : Xp 11 d 68 ls ((2, p) :: st) t g Q = (hkJK p = 9 ∧ jA p 2 ≤ t ∧ Xp 11 d 71 ls ((2, jR p 2) :: st) t g Q) := xr_getR (idx := 168) (ci := 9) (k := 2) (by decide +kernel) (by decide +kernel) (by decide +kernel)
theorem x_11_71 : Xp 11 (d + 1) 71 ls ((2, a1) :: (2, a0) :: st) t g Q = (hkJK a0 = 2 ∧ hkC8 st ∧ Xp 49 d 0 [(2, a0), (2, a1), hkU, hkU, hkU, hkU, hkU] [] t g (fun r t g => Xp 11 (d + 1) 74 ls (hkPush r st) t g Q)) := xr_invV (idx := 171) (y' := 49) (ci := 2) (tg := [2, 2]) (by decide +kernel) (by decide +kernel) (by decide +kernel) (by decide +kernel) rfl rfl rfl
theorem x_11_74 : Xp 11 d 74 [v0, v1, (0, x), v3] st t g Q = Xp 11 d 75 [v0, v1, (0, x), v3] ((0, x) :: st) t g Q := Xp_go (i := .iload_n 2) (len := 1) (by decide +kernel) rfl
theorem x_11_75 : Xp 11 d 75 ls ((0, a) :: st) t g Q = ((¬ (a = 0) → Xp 11 d 86 ls st t g Q) ∧ (¬ (¬ (a = 0)) → Xp 11 d 78 ls st t g Q)) := xr_if1 (cd := .ne) (off := 11) (by decide +kernel) (by decide)
theorem x_11_78 : Xp 11 d 78 [(2, x), v1, v2, v3] st t g Q = Xp 11 d 79 [(2, x), v1, v2, v3] ((2, x) :: st) t g Q := Xp_go (i := .aload_n 0) (len := 1) (by decide +kernel) rfl
theorem x_11_79 : Xp 11 d 79 ls ((2, p) :: st) t g Q = (hkJK p = 0 ∧ jA p 1 ≤ t ∧ Xp 11 d 82 ls ((2, jR p 1) :: st) t g Q) := xr_getR (idx := 23) (ci := 0) (k := 1) (by decide +kernel) (by decide +kernel) (by decide +kernel)
theorem x_11_82 : Xp 11 d 82 ls ((2, p) :: st) t g Q = (hkJK p = 2 ∧ Xp 11 d 85 ls ((0, g p 0) :: st) t g Q) := xr_getI (idx := 175) (ci := 2) (k := 0) (by decide +kernel) (by decide +kernel) (by decide +kernel)
theorem x_11_85 : Xp 11 d 85 ls [(0, x)] t g Q = Q (some (0, x)) t g := xr_retI (by decide +kernel) (by decide +kernel)
theorem x_11_86 : Xp 11 d 86 [(2, x), v1, v2, v3] st t g Q = Xp 11 d 87 [(2, x), v1, v2, v3] ((2, x) :: st) t g Q := Xp_go (i := .aload_n 0) (len := 1) (by decide +kernel) rfl
theorem x_11_87 : Xp 11 d 87 ls ((2, p) :: st) t g Q = (hkJK p = 0 ∧ jA p 1 ≤ t ∧ Xp 11 d 90 ls ((2, jR p 1) :: st) t g Q) := xr_getR (idx := 23) (ci := 0) (k := 1) (by decide +kernel) (by decide +kernel) (by decide +kernel)
theorem x_11_90 : Xp 11 d 90 ls ((2, p) :: st) t g Q = (hkJK p = 2 ∧ Xp 11 d 93 ls ((0, g p 0) :: st) t g Q) := xr_getI (idx := 175) (ci := 2) (k := 0) (by decide +kernel) (by decide +kernel) (by decide +kernel)
theorem x_11_93 : Xp 11 d 93 ls ((0, a) :: st) t g Q = ((¬ (a = 0) → Xp 11 d 98 ls st t g Q) ∧ (¬ (¬ (a = 0)) → Xp 11 d 96 ls st t g Q)) := xr_if1 (cd := .ne) (off := 5) (by decide +kernel) (by decide)
theorem x_11_96 : Xp 11 d 96 ls st t g Q = Xp 11 d 97 ls ((0, -1) :: st) t g Q := xr_const (c := -1) (by decide +kernel) (by decide)
theorem x_11_97 : Xp 11 d 97 ls [(0, x)] t g Q = Q (some (0, x)) t g := xr_retI (by decide +kernel) (by decide +kernel)
theorem x_11_98 : Xp 11 d 98 [v0, v1, (0, x), v3] st t g Q = Xp 11 d 99 [v0, v1, (0, x), v3] ((0, x) :: st) t g Q := Xp_go (i := .iload_n 2) (len := 1) (by decide +kernel) rfl
theorem x_11_99 : Xp 11 d 99 ls st t g Q = Xp 11 d 100 ls ((0, 1) :: st) t g Q := xr_const (c := 1) (by decide +kernel) (by decide)
theorem x_11_100 : Xp 11 d 100 ls ((0, b) :: (0, a) :: st) t g Q = ((¬ (a = b) → Xp 11 d 113 ls st t g Q) ∧ (¬ (¬ (a = b)) → Xp 11 d 103 ls st t g Q)) := xr_if2 (cd := .ne) (off := 13) (by decide +kernel) (by decide)
theorem x_11_103 : Xp 11 d 103 [(2, x), v1, v2, v3] st t g Q = Xp 11 d 104 [(2, x), v1, v2, v3] ((2, x) :: st) t g Q := Xp_go (i := .aload_n 0) (len := 1) (by decide +kernel) rfl
theorem x_11_104 : Xp 11 d 104 ls ((2, p) :: st) t g Q = (hkJK p = 0 ∧ jA p 1 ≤ t ∧ Xp 11 d 107 ls ((2, jR p 1) :: st) t g Q) := xr_getR (idx := 23) (ci := 0) (k := 1) (by decide +kernel) (by decide +kernel) (by decide +kernel)
theorem x_11_107 : Xp 11 d 107 ls ((2, p) :: st) t g Q = (hkJK p = 2 ∧ Xp 11 d 110 ls ((0, g p 1) :: st) t g Q) := xr_getI (idx := 178) (ci := 2) (k := 1) (by decide +kernel) (by decide +kernel) (by decide +kernel)
theorem x_11_110 : Xp 11 d 110 ls st t g Q = Xp 11 d 120 ls st t g Q := xr_goto (off := 10) (by decide +kernel) (by decide)
theorem x_11_113 : Xp 11 d 113 [(2, x), v1, v2, v3] st t g Q = Xp 11 d 114 [(2, x), v1, v2, v3] ((2, x) :: st) t g Q := Xp_go (i := .aload_n 0) (len := 1) (by decide +kernel) rfl
theorem x_11_114 : Xp 11 d 114 ls ((2, p) :: st) t g Q = (hkJK p = 0 ∧ jA p 1 ≤ t ∧ Xp 11 d 117 ls ((2, jR p 1) :: st) t g Q) := xr_getR (idx := 23) (ci := 0) (k := 1) (by decide +kernel) (by decide +kernel) (by decide +kernel)
theorem x_11_117 : Xp 11 d 117 ls ((2, p) :: st) t g Q = (hkJK p = 2 ∧ Xp 11 d 120 ls ((0, g p 2) :: st) t g Q) := xr_getI (idx := 181) (ci := 2) (k := 2) (by decide +kernel) (by decide +kernel) (by decide +kernel)
theorem x_11_120 : Xp 11 d 120 ls [(0, x)] t g Q = Q (some (0, x)) t g := xr_retI (by decide +kernel) (by decide +kernel)
-- 12: HookBoxes.isNoSheet(I)Z
theorem x_12_0 : Xp 12 d 0 [(0, x)] st t g Q = Xp 12 d 1 [(0, x)] ((0, x) :: st) t g Q := Xp_go (i := .iload_n 0) (len := 1) (by decide +kernel) rfl
theorem x_12_1 : Xp 12 d 1 ls st t g Q = Xp 12 d 2 ls ((0, 0) :: st) t g Q := xr_const (c := 0) (by decide +kernel) (by decide)
theorem x_12_2 : Xp 12 d 2 ls st t g Q = Xp 12 d 3 ls ((0, 3) :: st) t g Q := xr_const (c := 3) (by decide +kernel) (by decide)
theorem x_12_3 : Xp 12 (d + 1) 3 ls ((0, a2) :: (0, a1) :: (0, a0) :: st) t g Q = (hkC8 st ∧ Xp 2 d 0 [(0, a0), (0, a1), (0, a2)] [] t g (fun r t g => Xp 12 (d + 1) 6 ls (hkPush r st) t g Q)) := xr_invS (idx := 88) (y' := 2) (tg := [0, 0, 0]) (by decide +kernel) (by decide +kernel) (by decide +kernel) rfl rfl
theorem x_12_6 : Xp 12 d 6 ls [(0, x)] t g Q = ((x = 0 ∨ x = 1) ∧ Q (some (0, x)) t g) := xr_retZ (by decide +kernel) (by decide +kernel)
-- 13: HookBoxes.roots(III)I
theorem x_13_0 : Xp 13 d 0 [(2, x), v1, v2, v3] st t g Q = Xp 13 d 1 [(2, x), v1, v2, v3] ((2, x) :: st) t g Q := Xp_go (i := .aload_n 0) (len := 1) (by decide +kernel) rfl
theorem x_13_1 : Xp 13 d 1 ls ((2, p) :: st) t g Q = (hkJK p = 0 ∧ jA p 0 ≤ t ∧ Xp 13 d 4 ls ((2, jR p 0) :: st) t g Q) := xr_getR (idx := 14) (ci := 0) (k := 0) (by decide +kernel) (by decide +kernel) (by decide +kernel)
theorem x_13_4 : Xp 13 d 4 [v0, (0, x), v2, v3] st t g Q = Xp 13 d 5 [v0, (0, x), v2, v3] ((0, x) :: st) t g Q := Xp_go (i := .iload_n 1) (len := 1) (by decide +kernel) rfl
theorem x_13_5 : Xp 13 (d + 1) 5 ls ((0, a1) :: (2, a0) :: st) t g Q = (hkJK a0 = 1 ∧ hkC8 st ∧ Xp 39 d 0 [(2, a0), (0, a1)] [] t g (fun r t g => Xp 13 (d + 1) 8 ls (hkPush r st) t g Q)) := xr_invV (idx := 103) (y' := 39) (ci := 1) (tg := [2, 0]) (by decide +kernel) (by decide +kernel) (by decide +kernel) (by decide +kernel) rfl rfl rfl
theorem x_13_8 : Xp 13 d 8 ls ((0, a) :: st) t g Q = ((a = 0 → Xp 13 d 33 ls st t g Q) ∧ (¬ (a = 0) → Xp 13 d 11 ls st t g Q)) := xr_if1 (cd := .eq) (off := 25) (by decide +kernel) (by decide)
theorem x_13_11 : Xp 13 d 11 [(2, x), v1, v2, v3] st t g Q = Xp 13 d 12 [(2, x), v1, v2, v3] ((2, x) :: st) t g Q := Xp_go (i := .aload_n 0) (len := 1) (by decide +kernel) rfl
theorem x_13_12 : Xp 13 d 12 ls ((2, p) :: st) t g Q = (hkJK p = 0 ∧ jA p 0 ≤ t ∧ Xp 13 d 15 ls ((2, jR p 0) :: st) t g Q) := xr_getR (idx := 14) (ci := 0) (k := 0) (by decide +kernel) (by decide +kernel) (by decide +kernel)
theorem x_13_15 : Xp 13 d 15 [v0, v1, (0, x), v3] st t g Q = Xp 13 d 16 [v0, v1, (0, x), v3] ((0, x) :: st) t g Q := Xp_go (i := .iload_n 2) (len := 1) (by decide +kernel) rfl
theorem x_13_16 : Xp 13 (d + 1) 16 ls ((0, a1) :: (2, a0) :: st) t g Q = (hkJK a0 = 1 ∧ hkC8 st ∧ Xp 39 d 0 [(2, a0), (0, a1)] [] t g (fun r t g => Xp 13 (d + 1) 19 ls (hkPush r st) t g Q)) := xr_invV (idx := 103) (y' := 39) (ci := 1) (tg := [2, 0]) (by decide +kernel) (by decide +kernel) (by decide +kernel) (by decide +kernel) rfl rfl rfl
theorem x_13_19 : Xp 13 d 19 ls ((0, a) :: st) t g Q = ((a = 0 → Xp 13 d 33 ls st t g Q) ∧ (¬ (a = 0) → Xp 13 d 22 ls st t g Q)) := xr_if1 (cd := .eq) (off := 14) (by decide +kernel) (by decide)
theorem x_13_22 : Xp 13 d 22 [(2, x), v1, v2, v3] st t g Q = Xp 13 d 23 [(2, x), v1, v2, v3] ((2, x) :: st) t g Q := Xp_go (i := .aload_n 0) (len := 1) (by decide +kernel) rfl
theorem x_13_23 : Xp 13 d 23 ls ((2, p) :: st) t g Q = (hkJK p = 0 ∧ jA p 0 ≤ t ∧ Xp 13 d 26 ls ((2, jR p 0) :: st) t g Q) := xr_getR (idx := 14) (ci := 0) (k := 0) (by decide +kernel) (by decide +kernel) (by decide +kernel)
theorem x_13_26 : Xp 13 d 26 [v0, v1, v2, (0, x)] st t g Q = Xp 13 d 27 [v0, v1, v2, (0, x)] ((0, x) :: st) t g Q := Xp_go (i := .iload_n 3) (len := 1) (by decide +kernel) rfl
theorem x_13_27 : Xp 13 (d + 1) 27 ls ((0, a1) :: (2, a0) :: st) t g Q = (hkJK a0 = 1 ∧ hkC8 st ∧ Xp 39 d 0 [(2, a0), (0, a1)] [] t g (fun r t g => Xp 13 (d + 1) 30 ls (hkPush r st) t g Q)) := xr_invV (idx := 103) (y' := 39) (ci := 1) (tg := [2, 0]) (by decide +kernel) (by decide +kernel) (by decide +kernel) (by decide +kernel) rfl rfl rfl
theorem x_13_30 : Xp 13 d 30 ls ((0, a) :: st) t g Q = ((¬ (a = 0) → Xp 13 d 36 ls st t g Q) ∧ (¬ (¬ (a = 0)) → Xp 13 d 33 ls st t g Q)) := xr_if1 (cd := .ne) (off := 6) (by decide +kernel) (by decide)
theorem x_13_33 : Xp 13 d 33 ls st t g Q = Xp 13 d 35 ls ((0, -2) :: st) t g Q := xr_bi (c := -2) (by decide +kernel) (by decide)
theorem x_13_35 : Xp 13 d 35 ls [(0, x)] t g Q = Q (some (0, x)) t g := xr_retI (by decide +kernel) (by decide +kernel)
theorem x_13_36 : Xp 13 d 36 [(2, x), v1, v2, v3] st t g Q = Xp 13 d 37 [(2, x), v1, v2, v3] ((2, x) :: st) t g Q := Xp_go (i := .aload_n 0) (len := 1) (by decide +kernel) rfl
theorem x_13_37 : Xp 13 d 37 ls ((2, p) :: st) t g Q = (hkJK p = 0 ∧ jA p 3 ≤ t ∧ Xp 13 d 40 ls ((2, jR p 3) :: st) t g Q) := xr_getR (idx := 39) (ci := 0) (k := 3) (by decide +kernel) (by decide +kernel) (by decide +kernel)
theorem x_13_40 : Xp 13 d 40 ls ((2, p) :: st) t g Q = (hkJK p = 4 ∧ jA p 0 ≤ t ∧ Xp 13 d 43 ls ((2, jR p 0) :: st) t g Q) := xr_getR (idx := 184) (ci := 4) (k := 0) (by decide +kernel) (by decide +kernel) (by decide +kernel)
theorem x_13_43 : Xp 13 d 43 ls st t g Q = Xp 13 d 44 ls ((0, 0) :: st) t g Q := xr_const (c := 0) (by decide +kernel) (by decide)
theorem x_13_44 : Xp 13 d 44 [v0, (0, x), v2, v3] st t g Q = Xp 13 d 45 [v0, (0, x), v2, v3] ((0, x) :: st) t g Q := Xp_go (i := .iload_n 1) (len := 1) (by decide +kernel) rfl
theorem x_13_45 : Xp 13 d 45 ls ((0, x) :: (0, a) :: (2, p) :: st) t g Q = ((hkJK p = 100 ∧ (100 = 102 → x = 0 ∨ x = 1) ∧ 0 ≤ a ∧ a < jL p) ∧ Xp 13 d 46 ls st t (hkSet g p a x) Q) := Xp_chk (i := .iastore) (len := 1) (by decide +kernel) rfl
theorem x_13_46 : Xp 13 d 46 [(2, x), v1, v2, v3] st t g Q = Xp 13 d 47 [(2, x), v1, v2, v3] ((2, x) :: st) t g Q := Xp_go (i := .aload_n 0) (len := 1) (by decide +kernel) rfl
theorem x_13_47 : Xp 13 d 47 ls ((2, p) :: st) t g Q = (hkJK p = 0 ∧ jA p 3 ≤ t ∧ Xp 13 d 50 ls ((2, jR p 3) :: st) t g Q) := xr_getR (idx := 39) (ci := 0) (k := 3) (by decide +kernel) (by decide +kernel) (by decide +kernel)
theorem x_13_50 : Xp 13 d 50 ls ((2, p) :: st) t g Q = (hkJK p = 4 ∧ jA p 0 ≤ t ∧ Xp 13 d 53 ls ((2, jR p 0) :: st) t g Q) := xr_getR (idx := 184) (ci := 4) (k := 0) (by decide +kernel) (by decide +kernel) (by decide +kernel)
theorem x_13_53 : Xp 13 d 53 ls st t g Q = Xp 13 d 54 ls ((0, 1) :: st) t g Q := xr_const (c := 1) (by decide +kernel) (by decide)
theorem x_13_54 : Xp 13 d 54 [v0, v1, (0, x), v3] st t g Q = Xp 13 d 55 [v0, v1, (0, x), v3] ((0, x) :: st) t g Q := Xp_go (i := .iload_n 2) (len := 1) (by decide +kernel) rfl
theorem x_13_55 : Xp 13 d 55 ls ((0, x) :: (0, a) :: (2, p) :: st) t g Q = ((hkJK p = 100 ∧ (100 = 102 → x = 0 ∨ x = 1) ∧ 0 ≤ a ∧ a < jL p) ∧ Xp 13 d 56 ls st t (hkSet g p a x) Q) := Xp_chk (i := .iastore) (len := 1) (by decide +kernel) rfl
theorem x_13_56 : Xp 13 d 56 [(2, x), v1, v2, v3] st t g Q = Xp 13 d 57 [(2, x), v1, v2, v3] ((2, x) :: st) t g Q := Xp_go (i := .aload_n 0) (len := 1) (by decide +kernel) rfl
theorem x_13_57 : Xp 13 d 57 ls ((2, p) :: st) t g Q = (hkJK p = 0 ∧ jA p 3 ≤ t ∧ Xp 13 d 60 ls ((2, jR p 3) :: st) t g Q) := xr_getR (idx := 39) (ci := 0) (k := 3) (by decide +kernel) (by decide +kernel) (by decide +kernel)
theorem x_13_60 : Xp 13 d 60 ls st t g Q = Xp 13 d 61 ls ((0, 2) :: st) t g Q := xr_const (c := 2) (by decide +kernel) (by decide)
theorem x_13_61 : Xp 13 d 61 [v0, v1, v2, (0, x)] st t g Q = Xp 13 d 62 [v0, v1, v2, (0, x)] ((0, x) :: st) t g Q := Xp_go (i := .iload_n 3) (len := 1) (by decide +kernel) rfl
theorem x_13_62 : Xp 13 (d + 1) 62 ls ((0, a2) :: (0, a1) :: (2, a0) :: st) t g Q = (hkJK a0 = 4 ∧ hkC8 st ∧ Xp 62 d 0 [(2, a0), (0, a1), (0, a2), hkU, hkU] [] t g (fun r t g => Xp 13 (d + 1) 65 ls (hkPush r st) t g Q)) := xr_invV (idx := 187) (y' := 62) (ci := 4) (tg := [2, 0, 0]) (by decide +kernel) (by decide +kernel) (by decide +kernel) (by decide +kernel) rfl rfl rfl
theorem x_13_65 : Xp 13 d 65 ls [(0, x)] t g Q = Q (some (0, x)) t g := xr_retI (by decide +kernel) (by decide +kernel)
-- 14: HookBoxes.rootsOf(II)I
theorem x_14_0 : Xp 14 d 0 [v0, (0, x), v2, v3, v4] st t g Q = Xp 14 d 1 [v0, (0, x), v2, v3, v4] ((0, x) :: st) t g Q := Xp_go (i := .iload_n 1) (len := 1) (by decide +kernel) rfl
theorem x_14_1 : Xp 14 (d + 1) 1 ls ((0, a0) :: st) t g Q = (hkC8 st ∧ Xp 12 d 0 [(0, a0)] [] t g (fun r t g => Xp 14 (d + 1) 4 ls (hkPush r st) t g Q)) := xr_invS (idx := 155) (y' := 12) (tg := [0]) (by decide +kernel) (by decide +kernel) (by decide +kernel) rfl rfl
theorem x_14_4 : Xp 14 d 4 ls ((0, a) :: st) t g Q = ((¬ (a = 0) → Xp 14 d 18 ls st t g Q) ∧ (¬ (¬ (a = 0)) → Xp 14 d 7 ls st t g Q)) := xr_if1 (cd := .ne) (off := 14) (by decide +kernel) (by decide)
theorem x_14_7 : Xp 14 d 7 [(2, x), v1, v2, v3, v4] st t g Q = Xp 14 d 8 [(2, x), v1, v2, v3, v4] ((2, x) :: st) t g Q := Xp_go (i := .aload_n 0) (len := 1) (by decide +kernel) rfl
theorem x_14_8 : Xp 14 d 8 ls ((2, p) :: st) t g Q = (hkJK p = 0 ∧ jA p 0 ≤ t ∧ Xp 14 d 11 ls ((2, jR p 0) :: st) t g Q) := xr_getR (idx := 14) (ci := 0) (k := 0) (by decide +kernel) (by decide +kernel) (by decide +kernel)
theorem x_14_11 : Xp 14 d 11 [v0, v1, (0, x), v3, v4] st t g Q = Xp 14 d 12 [v0, v1, (0, x), v3, v4] ((0, x) :: st) t g Q := Xp_go (i := .iload_n 2) (len := 1) (by decide +kernel) rfl
theorem x_14_12 : Xp 14 (d + 1) 12 ls ((0, a1) :: (2, a0) :: st) t g Q = (hkJK a0 = 1 ∧ hkC8 st ∧ Xp 39 d 0 [(2, a0), (0, a1)] [] t g (fun r t g => Xp 14 (d + 1) 15 ls (hkPush r st) t g Q)) := xr_invV (idx := 103) (y' := 39) (ci := 1) (tg := [2, 0]) (by decide +kernel) (by decide +kernel) (by decide +kernel) (by decide +kernel) rfl rfl rfl
theorem x_14_15 : Xp 14 d 15 ls ((0, a) :: st) t g Q = ((¬ (a = 0) → Xp 14 d 21 ls st t g Q) ∧ (¬ (¬ (a = 0)) → Xp 14 d 18 ls st t g Q)) := xr_if1 (cd := .ne) (off := 6) (by decide +kernel) (by decide)
theorem x_14_18 : Xp 14 d 18 ls st t g Q = Xp 14 d 20 ls ((0, -2) :: st) t g Q := xr_bi (c := -2) (by decide +kernel) (by decide)
theorem x_14_20 : Xp 14 d 20 ls [(0, x)] t g Q = Q (some (0, x)) t g := xr_retI (by decide +kernel) (by decide +kernel)
theorem x_14_21 : Xp 14 d 21 [(2, x), v1, v2, v3, v4] st t g Q = Xp 14 d 22 [(2, x), v1, v2, v3, v4] ((2, x) :: st) t g Q := Xp_go (i := .aload_n 0) (len := 1) (by decide +kernel) rfl
theorem x_14_22 : Xp 14 d 22 ls ((2, p) :: st) t g Q = (hkJK p = 0 ∧ jA p 12 ≤ t ∧ Xp 14 d 25 ls ((2, jR p 12) :: st) t g Q) := xr_getR (idx := 83) (ci := 0) (k := 12) (by decide +kernel) (by decide +kernel) (by decide +kernel)
theorem x_14_25 : Xp 14 d 25 [v0, (0, x), v2, v3, v4] st t g Q = Xp 14 d 26 [v0, (0, x), v2, v3, v4] ((0, x) :: st) t g Q := Xp_go (i := .iload_n 1) (len := 1) (by decide +kernel) rfl
theorem x_14_26 : Xp 14 d 26 ls ((0, a) :: (2, p) :: st) t g Q = ((103 ≤ hkJK p ∧ hkJK p ≤ 104 ∧ 0 ≤ a ∧ a < jL p ∧ jAi p a ≤ t) ∧ Xp 14 d 27 ls ((2, jRi p a) :: st) t g Q) := Xp_chk (i := .aaload) (len := 1) (by decide +kernel) rfl
theorem x_14_27 : Xp 14 d 27 [v0, v1, v2, v3, v4] ((2, x) :: st) t g Q = (hkP1 v2 ∧ Xp 14 d 28 [v0, v1, v2, (2, x), v4] st t g Q) := Xp_chk (i := .astore_n 3) (len := 1) (by decide +kernel) rfl
theorem x_14_28 : Xp 14 d 28 [v0, v1, v2, (2, x), v4] st t g Q = Xp 14 d 29 [v0, v1, v2, (2, x), v4] ((2, x) :: st) t g Q := Xp_go (i := .aload_n 3) (len := 1) (by decide +kernel) rfl
theorem x_14_29 : Xp 14 (d + 1) 29 ls ((2, a0) :: st) t g Q = (hkJK a0 = 9 ∧ hkC8 st ∧ Xp 95 d 0 [(2, a0)] [] t g (fun r t g => Xp 14 (d + 1) 32 ls (hkPush r st) t g Q)) := xr_invV (idx := 158) (y' := 95) (ci := 9) (tg := [2]) (by decide +kernel) (by decide +kernel) (by decide +kernel) (by decide +kernel) rfl rfl rfl
theorem x_14_32 : Xp 14 d 32 ls ((0, a) :: st) t g Q = ((a = 0 → Xp 14 d 38 ls st t g Q) ∧ (¬ (a = 0) → Xp 14 d 35 ls st t g Q)) := xr_if1 (cd := .eq) (off := 6) (by decide +kernel) (by decide)
theorem x_14_35 : Xp 14 d 35 ls st t g Q = Xp 14 d 37 ls ((0, -11) :: st) t g Q := xr_bi (c := -11) (by decide +kernel) (by decide)
theorem x_14_37 : Xp 14 d 37 ls [(0, x)] t g Q = Q (some (0, x)) t g := xr_retI (by decide +kernel) (by decide +kernel)
theorem x_14_38 : Xp 14 d 38 [v0, v1, v2, (2, x), v4] st t g Q = Xp 14 d 39 [v0, v1, v2, (2, x), v4] ((2, x) :: st) t g Q := Xp_go (i := .aload_n 3) (len := 1) (by decide +kernel) rfl
theorem x_14_39 : Xp 14 d 39 ls ((2, p) :: st) t g Q = (hkJK p = 9 ∧ Xp 14 d 42 ls ((0, g p 1) :: st) t g Q) := xr_getI (idx := 162) (ci := 9) (k := 1) (by decide +kernel) (by decide +kernel) (by decide +kernel)
theorem x_14_42 : Xp 14 d 42 ls st t g Q = Xp 14 d 44 ls ((0, 8) :: st) t g Q := xr_bi (c := 8) (by decide +kernel) (by decide)
theorem x_14_44 : Xp 14 d 44 ls ((0, b) :: (0, a) :: st) t g Q = ((a ≤ b → Xp 14 d 50 ls st t g Q) ∧ (¬ (a ≤ b) → Xp 14 d 47 ls st t g Q)) := xr_if2 (cd := .le) (off := 6) (by decide +kernel) (by decide)
theorem x_14_47 : Xp 14 d 47 ls st t g Q = Xp 14 d 49 ls ((0, -2) :: st) t g Q := xr_bi (c := -2) (by decide +kernel) (by decide)
theorem x_14_49 : Xp 14 d 49 ls [(0, x)] t g Q = Q (some (0, x)) t g := xr_retI (by decide +kernel) (by decide +kernel)
theorem x_14_50 : Xp 14 d 50 ls st t g Q = Xp 14 d 51 ls ((0, 0) :: st) t g Q := xr_const (c := 0) (by decide +kernel) (by decide)
theorem x_14_51 : Xp 14 d 51 [v0, v1, v2, v3, v4] ((0, x) :: st) t g Q = (hkP1 v3 ∧ Xp 14 d 53 [v0, v1, v2, v3, (0, x)] st t g Q) := Xp_chk (i := .istore 4) (len := 2) (by decide +kernel) rfl
theorem x_14_53 : Xp 14 d 53 [v0, v1, v2, v3, (0, x)] st t g Q = Xp 14 d 55 [v0, v1, v2, v3, (0, x)] ((0, x) :: st) t g Q := Xp_go (i := .iload 4) (len := 2) (by decide +kernel) rfl
theorem x_14_55 : Xp 14 d 55 [v0, v1, v2, (2, x), v4] st t g Q = Xp 14 d 56 [v0, v1, v2, (2, x), v4] ((2, x) :: st) t g Q := Xp_go (i := .aload_n 3) (len := 1) (by decide +kernel) rfl
theorem x_14_56 : Xp 14 d 56 ls ((2, p) :: st) t g Q = (hkJK p = 9 ∧ Xp 14 d 59 ls ((0, g p 1) :: st) t g Q) := xr_getI (idx := 162) (ci := 9) (k := 1) (by decide +kernel) (by decide +kernel) (by decide +kernel)
theorem x_14_59 : Xp 14 d 59 ls ((0, b) :: (0, a) :: st) t g Q = ((b ≤ a → Xp 14 d 105 ls st t g Q) ∧ (¬ (b ≤ a) → Xp 14 d 62 ls st t g Q)) := xr_if2 (cd := .ge) (off := 46) (by decide +kernel) (by decide)
theorem x_14_62 : Xp 14 d 62 [(2, x), v1, v2, v3, v4] st t g Q = Xp 14 d 63 [(2, x), v1, v2, v3, v4] ((2, x) :: st) t g Q := Xp_go (i := .aload_n 0) (len := 1) (by decide +kernel) rfl
theorem x_14_63 : Xp 14 d 63 ls ((2, p) :: st) t g Q = (hkJK p = 0 ∧ jA p 0 ≤ t ∧ Xp 14 d 66 ls ((2, jR p 0) :: st) t g Q) := xr_getR (idx := 14) (ci := 0) (k := 0) (by decide +kernel) (by decide +kernel) (by decide +kernel)
theorem x_14_66 : Xp 14 d 66 [v0, v1, v2, (2, x), v4] st t g Q = Xp 14 d 67 [v0, v1, v2, (2, x), v4] ((2, x) :: st) t g Q := Xp_go (i := .aload_n 3) (len := 1) (by decide +kernel) rfl
theorem x_14_67 : Xp 14 d 67 ls ((2, p) :: st) t g Q = (hkJK p = 9 ∧ jA p 2 ≤ t ∧ Xp 14 d 70 ls ((2, jR p 2) :: st) t g Q) := xr_getR (idx := 168) (ci := 9) (k := 2) (by decide +kernel) (by decide +kernel) (by decide +kernel)
theorem x_14_70 : Xp 14 d 70 [v0, v1, v2, v3, (0, x)] st t g Q = Xp 14 d 72 [v0, v1, v2, v3, (0, x)] ((0, x) :: st) t g Q := Xp_go (i := .iload 4) (len := 2) (by decide +kernel) rfl
theorem x_14_72 : Xp 14 d 72 ls ((0, a) :: (2, p) :: st) t g Q = ((hkJK p = 100 ∧ 0 ≤ a ∧ a < jL p) ∧ Xp 14 d 73 ls ((0, g p a) :: st) t g Q) := Xp_chk (i := .iaload) (len := 1) (by decide +kernel) rfl
theorem x_14_73 : Xp 14 (d + 1) 73 ls ((0, a1) :: (2, a0) :: st) t g Q = (hkJK a0 = 1 ∧ hkC8 st ∧ Xp 39 d 0 [(2, a0), (0, a1)] [] t g (fun r t g => Xp 14 (d + 1) 76 ls (hkPush r st) t g Q)) := xr_invV (idx := 103) (y' := 39) (ci := 1) (tg := [2, 0]) (by decide +kernel) (by decide +kernel) (by decide +kernel) (by decide +kernel) rfl rfl rfl
theorem x_14_76 : Xp 14 d 76 ls ((0, a) :: st) t g Q = ((¬ (a = 0) → Xp 14 d 82 ls st t g Q) ∧ (¬ (¬ (a = 0)) → Xp 14 d 79 ls st t g Q)) := xr_if1 (cd := .ne) (off := 6) (by decide +kernel) (by decide)
theorem x_14_79 : Xp 14 d 79 ls st t g Q = Xp 14 d 81 ls ((0, -3) :: st) t g Q := xr_bi (c := -3) (by decide +kernel) (by decide)
theorem x_14_81 : Xp 14 d 81 ls [(0, x)] t g Q = Q (some (0, x)) t g := xr_retI (by decide +kernel) (by decide +kernel)
theorem x_14_82 : Xp 14 d 82 [(2, x), v1, v2, v3, v4] st t g Q = Xp 14 d 83 [(2, x), v1, v2, v3, v4] ((2, x) :: st) t g Q := Xp_go (i := .aload_n 0) (len := 1) (by decide +kernel) rfl
theorem x_14_83 : Xp 14 d 83 ls ((2, p) :: st) t g Q = (hkJK p = 0 ∧ jA p 3 ≤ t ∧ Xp 14 d 86 ls ((2, jR p 3) :: st) t g Q) := xr_getR (idx := 39) (ci := 0) (k := 3) (by decide +kernel) (by decide +kernel) (by decide +kernel)
theorem x_14_86 : Xp 14 d 86 ls ((2, p) :: st) t g Q = (hkJK p = 4 ∧ jA p 0 ≤ t ∧ Xp 14 d 89 ls ((2, jR p 0) :: st) t g Q) := xr_getR (idx := 184) (ci := 4) (k := 0) (by decide +kernel) (by decide +kernel) (by decide +kernel)
theorem x_14_89 : Xp 14 d 89 [v0, v1, v2, v3, (0, x)] st t g Q = Xp 14 d 91 [v0, v1, v2, v3, (0, x)] ((0, x) :: st) t g Q := Xp_go (i := .iload 4) (len := 2) (by decide +kernel) rfl
theorem x_14_91 : Xp 14 d 91 [v0, v1, v2, (2, x), v4] st t g Q = Xp 14 d 92 [v0, v1, v2, (2, x), v4] ((2, x) :: st) t g Q := Xp_go (i := .aload_n 3) (len := 1) (by decide +kernel) rfl
theorem x_14_92 : Xp 14 d 92 ls ((2, p) :: st) t g Q = (hkJK p = 9 ∧ jA p 2 ≤ t ∧ Xp 14 d 95 ls ((2, jR p 2) :: st) t g Q) := xr_getR (idx := 168) (ci := 9) (k := 2) (by decide +kernel) (by decide +kernel) (by decide +kernel)
theorem x_14_95 : Xp 14 d 95 [v0, v1, v2, v3, (0, x)] st t g Q = Xp 14 d 97 [v0, v1, v2, v3, (0, x)] ((0, x) :: st) t g Q := Xp_go (i := .iload 4) (len := 2) (by decide +kernel) rfl
theorem x_14_97 : Xp 14 d 97 ls ((0, a) :: (2, p) :: st) t g Q = ((hkJK p = 100 ∧ 0 ≤ a ∧ a < jL p) ∧ Xp 14 d 98 ls ((0, g p a) :: st) t g Q) := Xp_chk (i := .iaload) (len := 1) (by decide +kernel) rfl
theorem x_14_98 : Xp 14 d 98 ls ((0, x) :: (0, a) :: (2, p) :: st) t g Q = ((hkJK p = 100 ∧ (100 = 102 → x = 0 ∨ x = 1) ∧ 0 ≤ a ∧ a < jL p) ∧ Xp 14 d 99 ls st t (hkSet g p a x) Q) := Xp_chk (i := .iastore) (len := 1) (by decide +kernel) rfl
theorem x_14_99 : Xp 14 d 99 [v0, v1, v2, v3, (0, x)] st t g Q = (hkP1 v3 ∧ Xp 14 d 102 [v0, v1, v2, v3, (0, hkW (x + 1))] st t g Q) := Xp_chk (i := .iinc 4 (1)) (len := 3) (by decide +kernel) rfl
theorem x_14_102 : Xp 14 d 102 ls st t g Q = Xp 14 d 53 ls st t g Q := xr_goto (off := -49) (by decide +kernel) (by decide)
theorem x_14_105 : Xp 14 d 105 [(2, x), v1, v2, v3, v4] st t g Q = Xp 14 d 106 [(2, x), v1, v2, v3, v4] ((2, x) :: st) t g Q := Xp_go (i := .aload_n 0) (len := 1) (by decide +kernel) rfl
theorem x_14_106 : Xp 14 d 106 ls ((2, p) :: st) t g Q = (hkJK p = 0 ∧ jA p 3 ≤ t ∧ Xp 14 d 109 ls ((2, jR p 3) :: st) t g Q) := xr_getR (idx := 39) (ci := 0) (k := 3) (by decide +kernel) (by decide +kernel) (by decide +kernel)
theorem x_14_109 : Xp 14 d 109 [v0, v1, v2, (2, x), v4] st t g Q = Xp 14 d 110 [v0, v1, v2, (2, x), v4] ((2, x) :: st) t g Q := Xp_go (i := .aload_n 3) (len := 1) (by decide +kernel) rfl
theorem x_14_110 : Xp 14 d 110 ls ((2, p) :: st) t g Q = (hkJK p = 9 ∧ Xp 14 d 113 ls ((0, g p 1) :: st) t g Q) := xr_getI (idx := 162) (ci := 9) (k := 1) (by decide +kernel) (by decide +kernel) (by decide +kernel)
theorem x_14_113 : Xp 14 d 113 [v0, v1, (0, x), v3, v4] st t g Q = Xp 14 d 114 [v0, v1, (0, x), v3, v4] ((0, x) :: st) t g Q := Xp_go (i := .iload_n 2) (len := 1) (by decide +kernel) rfl
theorem x_14_114 : Xp 14 (d + 1) 114 ls ((0, a2) :: (0, a1) :: (2, a0) :: st) t g Q = (hkJK a0 = 4 ∧ hkC8 st ∧ Xp 62 d 0 [(2, a0), (0, a1), (0, a2), hkU, hkU] [] t g (fun r t g => Xp 14 (d + 1) 117 ls (hkPush r st) t g Q)) := xr_invV (idx := 187) (y' := 62) (ci := 4) (tg := [2, 0, 0]) (by decide +kernel) (by decide +kernel) (by decide +kernel) (by decide +kernel) rfl rfl rfl
theorem x_14_117 : Xp 14 d 117 ls [(0, x)] t g Q = Q (some (0, x)) t g := xr_retI (by decide +kernel) (by decide +kernel)
-- 15: HookBoxes.term(II)I
theorem x_15_0 : Xp 15 d 0 [v0, (0, x), v2] st t g Q = Xp 15 d 1 [v0, (0, x), v2] ((0, x) :: st) t g Q := Xp_go (i := .iload_n 1) (len := 1) (by decide +kernel) rfl
theorem x_15_1 : Xp 15 d 1 ls st t g Q = Xp 15 d 2 ls ((0, 0) :: st) t g Q := xr_const (c := 0) (by decide +kernel) (by decide)
theorem x_15_2 : Xp 15 d 2 ls st t g Q = Xp 15 d 4 ls ((0, 7) :: st) t g Q := xr_bi (c := 7) (by decide +kernel) (by decide)
theorem x_15_4 : Xp 15 (d + 1) 4 ls ((0, a2) :: (0, a1) :: (0, a0) :: st) t g Q = (hkC8 st ∧ Xp 2 d 0 [(0, a0), (0, a1), (0, a2)] [] t g (fun r t g => Xp 15 (d + 1) 7 ls (hkPush r st) t g Q)) := xr_invS (idx := 88) (y' := 2) (tg := [0, 0, 0]) (by decide +kernel) (by decide +kernel) (by decide +kernel) rfl rfl
theorem x_15_7 : Xp 15 d 7 ls ((0, a) :: st) t g Q = ((¬ (a = 0) → Xp 15 d 21 ls st t g Q) ∧ (¬ (¬ (a = 0)) → Xp 15 d 10 ls st t g Q)) := xr_if1 (cd := .ne) (off := 14) (by decide +kernel) (by decide)
theorem x_15_10 : Xp 15 d 10 [(2, x), v1, v2] st t g Q = Xp 15 d 11 [(2, x), v1, v2] ((2, x) :: st) t g Q := Xp_go (i := .aload_n 0) (len := 1) (by decide +kernel) rfl
theorem x_15_11 : Xp 15 d 11 ls ((2, p) :: st) t g Q = (hkJK p = 0 ∧ jA p 0 ≤ t ∧ Xp 15 d 14 ls ((2, jR p 0) :: st) t g Q) := xr_getR (idx := 14) (ci := 0) (k := 0) (by decide +kernel) (by decide +kernel) (by decide +kernel)
theorem x_15_14 : Xp 15 d 14 [v0, v1, (0, x)] st t g Q = Xp 15 d 15 [v0, v1, (0, x)] ((0, x) :: st) t g Q := Xp_go (i := .iload_n 2) (len := 1) (by decide +kernel) rfl
theorem x_15_15 : Xp 15 (d + 1) 15 ls ((0, a1) :: (2, a0) :: st) t g Q = (hkJK a0 = 1 ∧ hkC8 st ∧ Xp 39 d 0 [(2, a0), (0, a1)] [] t g (fun r t g => Xp 15 (d + 1) 18 ls (hkPush r st) t g Q)) := xr_invV (idx := 103) (y' := 39) (ci := 1) (tg := [2, 0]) (by decide +kernel) (by decide +kernel) (by decide +kernel) (by decide +kernel) rfl rfl rfl
theorem x_15_18 : Xp 15 d 18 ls ((0, a) :: st) t g Q = ((¬ (a = 0) → Xp 15 d 25 ls st t g Q) ∧ (¬ (¬ (a = 0)) → Xp 15 d 21 ls st t g Q)) := xr_if1 (cd := .ne) (off := 7) (by decide +kernel) (by decide)
theorem x_15_21 : Xp 15 d 21 ls st t g Q = Xp 15 d 22 ls ((0, 0) :: st) t g Q := xr_const (c := 0) (by decide +kernel) (by decide)
theorem x_15_22 : Xp 15 d 22 ls st t g Q = Xp 15 d 39 ls st t g Q := xr_goto (off := 17) (by decide +kernel) (by decide)
theorem x_15_25 : Xp 15 d 25 [(2, x), v1, v2] st t g Q = Xp 15 d 26 [(2, x), v1, v2] ((2, x) :: st) t g Q := Xp_go (i := .aload_n 0) (len := 1) (by decide +kernel) rfl
theorem x_15_26 : Xp 15 d 26 ls ((2, p) :: st) t g Q = (hkJK p = 0 ∧ jA p 7 ≤ t ∧ Xp 15 d 29 ls ((2, jR p 7) :: st) t g Q) := xr_getR (idx := 71) (ci := 0) (k := 7) (by decide +kernel) (by decide +kernel) (by decide +kernel)
theorem x_15_29 : Xp 15 d 29 ls ((2, p) :: st) t g Q = (hkJK p = 7 ∧ jA p 0 ≤ t ∧ Xp 15 d 32 ls ((2, jR p 0) :: st) t g Q) := xr_getR (idx := 189) (ci := 7) (k := 0) (by decide +kernel) (by decide +kernel) (by decide +kernel)
theorem x_15_32 : Xp 15 d 32 [v0, (0, x), v2] st t g Q = Xp 15 d 33 [v0, (0, x), v2] ((0, x) :: st) t g Q := Xp_go (i := .iload_n 1) (len := 1) (by decide +kernel) rfl
theorem x_15_33 : Xp 15 d 33 ls st t g Q = Xp 15 d 35 ls ((0, 35) :: st) t g Q := xr_bi (c := 35) (by decide +kernel) (by decide)
theorem x_15_35 : Xp 15 d 35 ls ((0, b) :: (0, a) :: st) t g Q = Xp 15 d 36 ls ((0, hkW (a * b)) :: st) t g Q := Xp_go (i := .imul) (len := 1) (by decide +kernel) rfl
theorem x_15_36 : Xp 15 d 36 [v0, v1, (0, x)] st t g Q = Xp 15 d 37 [v0, v1, (0, x)] ((0, x) :: st) t g Q := Xp_go (i := .iload_n 2) (len := 1) (by decide +kernel) rfl
theorem x_15_37 : Xp 15 d 37 ls ((0, b) :: (0, a) :: st) t g Q = Xp 15 d 38 ls ((0, hkW (a + b)) :: st) t g Q := Xp_go (i := .iadd) (len := 1) (by decide +kernel) rfl
theorem x_15_38 : Xp 15 d 38 ls ((0, a) :: (2, p) :: st) t g Q = ((hkJK p = 100 ∧ 0 ≤ a ∧ a < jL p) ∧ Xp 15 d 39 ls ((0, g p a) :: st) t g Q) := Xp_chk (i := .iaload) (len := 1) (by decide +kernel) rfl
theorem x_15_39 : Xp 15 d 39 ls [(0, x)] t g Q = Q (some (0, x)) t g := xr_retI (by decide +kernel) (by decide +kernel)
-- 16: HookBoxes.scaled(III)J
theorem x_16_0 : Xp 16 d 0 [v0, (0, x), v2, v3, v4, v5] st t g Q = Xp 16 d 1 [v0, (0, x), v2, v3, v4, v5] ((0, x) :: st) t g Q := Xp_go (i := .iload_n 1) (len := 1) (by decide +kernel) rfl
theorem x_16_1 : Xp 16 d 1 ls st t g Q = Xp 16 d 2 ls ((0, 0) :: st) t g Q := xr_const (c := 0) (by decide +kernel) (by decide)
theorem x_16_2 : Xp 16 d 2 ls st t g Q = Xp 16 d 4 ls ((0, 7) :: st) t g Q := xr_bi (c := 7) (by decide +kernel) (by decide)
theorem x_16_4 : Xp 16 (d + 1) 4 ls ((0, a2) :: (0, a1) :: (0, a0) :: st) t g Q = (hkC8 st ∧ Xp 2 d 0 [(0, a0), (0, a1), (0, a2)] [] t g (fun r t g => Xp 16 (d + 1) 7 ls (hkPush r st) t g Q)) := xr_invS (idx := 88) (y' := 2) (tg := [0, 0, 0]) (by decide +kernel) (by decide +kernel) (by decide +kernel) rfl rfl
theorem x_16_7 : Xp 16 d 7 ls ((0, a) :: st) t g Q = ((¬ (a = 0) → Xp 16 d 21 ls st t g Q) ∧ (¬ (¬ (a = 0)) → Xp 16 d 10 ls st t g Q)) := xr_if1 (cd := .ne) (off := 14) (by decide +kernel) (by decide)
theorem x_16_10 : Xp 16 d 10 [(2, x), v1, v2, v3, v4, v5] st t g Q = Xp 16 d 11 [(2, x), v1, v2, v3, v4, v5] ((2, x) :: st) t g Q := Xp_go (i := .aload_n 0) (len := 1) (by decide +kernel) rfl
theorem x_16_11 : Xp 16 d 11 ls ((2, p) :: st) t g Q = (hkJK p = 0 ∧ jA p 0 ≤ t ∧ Xp 16 d 14 ls ((2, jR p 0) :: st) t g Q) := xr_getR (idx := 14) (ci := 0) (k := 0) (by decide +kernel) (by decide +kernel) (by decide +kernel)
theorem x_16_14 : Xp 16 d 14 [v0, v1, (0, x), v3, v4, v5] st t g Q = Xp 16 d 15 [v0, v1, (0, x), v3, v4, v5] ((0, x) :: st) t g Q := Xp_go (i := .iload_n 2) (len := 1) (by decide +kernel) rfl
theorem x_16_15 : Xp 16 (d + 1) 15 ls ((0, a1) :: (2, a0) :: st) t g Q = (hkJK a0 = 1 ∧ hkC8 st ∧ Xp 39 d 0 [(2, a0), (0, a1)] [] t g (fun r t g => Xp 16 (d + 1) 18 ls (hkPush r st) t g Q)) := xr_invV (idx := 103) (y' := 39) (ci := 1) (tg := [2, 0]) (by decide +kernel) (by decide +kernel) (by decide +kernel) (by decide +kernel) rfl rfl rfl
theorem x_16_18 : Xp 16 d 18 ls ((0, a) :: st) t g Q = ((¬ (a = 0) → Xp 16 d 25 ls st t g Q) ∧ (¬ (¬ (a = 0)) → Xp 16 d 21 ls st t g Q)) := xr_if1 (cd := .ne) (off := 7) (by decide +kernel) (by decide)
theorem x_16_21 : Xp 16 d 21 ls st t g Q = Xp 16 d 24 ls ((1, -9223372036854775808) :: st) t g Q := xr_ldc2 (idx := 192) (by decide +kernel) (by decide +kernel)
theorem x_16_24 : Xp 16 d 24 ls [(1, x)] t g Q = Q (some (1, x)) t g := xr_retL (by decide +kernel) (by decide +kernel)
theorem x_16_25 : Xp 16 d 25 [(2, x), v1, v2, v3, v4, v5] st t g Q = Xp 16 d 26 [(2, x), v1, v2, v3, v4, v5] ((2, x) :: st) t g Q := Xp_go (i := .aload_n 0) (len := 1) (by decide +kernel) rfl
theorem x_16_26 : Xp 16 d 26 ls ((2, p) :: st) t g Q = (hkJK p = 0 ∧ jA p 7 ≤ t ∧ Xp 16 d 29 ls ((2, jR p 7) :: st) t g Q) := xr_getR (idx := 71) (ci := 0) (k := 7) (by decide +kernel) (by decide +kernel) (by decide +kernel)
theorem x_16_29 : Xp 16 d 29 ls ((2, p) :: st) t g Q = (hkJK p = 7 ∧ jA p 0 ≤ t ∧ Xp 16 d 32 ls ((2, jR p 0) :: st) t g Q) := xr_getR (idx := 189) (ci := 7) (k := 0) (by decide +kernel) (by decide +kernel) (by decide +kernel)
theorem x_16_32 : Xp 16 d 32 [v0, (0, x), v2, v3, v4, v5] st t g Q = Xp 16 d 33 [v0, (0, x), v2, v3, v4, v5] ((0, x) :: st) t g Q := Xp_go (i := .iload_n 1) (len := 1) (by decide +kernel) rfl
theorem x_16_33 : Xp 16 d 33 ls st t g Q = Xp 16 d 35 ls ((0, 35) :: st) t g Q := xr_bi (c := 35) (by decide +kernel) (by decide)
theorem x_16_35 : Xp 16 d 35 ls ((0, b) :: (0, a) :: st) t g Q = Xp 16 d 36 ls ((0, hkW (a * b)) :: st) t g Q := Xp_go (i := .imul) (len := 1) (by decide +kernel) rfl
theorem x_16_36 : Xp 16 d 36 [v0, v1, (0, x), v3, v4, v5] st t g Q = Xp 16 d 37 [v0, v1, (0, x), v3, v4, v5] ((0, x) :: st) t g Q := Xp_go (i := .iload_n 2) (len := 1) (by decide +kernel) rfl
theorem x_16_37 : Xp 16 d 37 ls ((0, b) :: (0, a) :: st) t g Q = Xp 16 d 38 ls ((0, hkW (a + b)) :: st) t g Q := Xp_go (i := .iadd) (len := 1) (by decide +kernel) rfl
theorem x_16_38 : Xp 16 d 38 ls ((0, a) :: (2, p) :: st) t g Q = ((hkJK p = 100 ∧ 0 ≤ a ∧ a < jL p) ∧ Xp 16 d 39 ls ((0, g p a) :: st) t g Q) := Xp_chk (i := .iaload) (len := 1) (by decide +kernel) rfl
theorem x_16_39 : Xp 16 d 39 ls ((0, a) :: st) t g Q = Xp 16 d 40 ls ((1, a) :: st) t g Q := Xp_go (i := .i2l) (len := 1) (by decide +kernel) rfl
theorem x_16_40 : Xp 16 d 40 [v0, v1, v2, (0, x), v4, v5] st t g Q = Xp 16 d 41 [v0, v1, v2, (0, x), v4, v5] ((0, x) :: st) t g Q := Xp_go (i := .iload_n 3) (len := 1) (by decide +kernel) rfl
theorem x_16_41 : Xp 16 d 41 ls ((0, a) :: st) t g Q = Xp 16 d 42 ls ((1, a) :: st) t g Q := Xp_go (i := .i2l) (len := 1) (by decide +kernel) rfl
theorem x_16_42 : Xp 16 d 42 ls ((1, b) :: (1, a) :: st) t g Q = Xp 16 d 43 ls ((1, hkL (a * b)) :: st) t g Q := Xp_go (i := .lmul) (len := 1) (by decide +kernel) rfl
theorem x_16_43 : Xp 16 d 43 [v0, v1, v2, v3, v4, v5] ((1, x) :: st) t g Q = (hkP1 v3 ∧ Xp 16 d 45 [v0, v1, v2, v3, (1, x), hkU] st t g Q) := Xp_chk (i := .lstore 4) (len := 2) (by decide +kernel) rfl
theorem x_16_45 : Xp 16 d 45 [v0, v1, v2, v3, (1, x), v5] st t g Q = Xp 16 d 47 [v0, v1, v2, v3, (1, x), v5] ((1, x) :: st) t g Q := Xp_go (i := .lload 4) (len := 2) (by decide +kernel) rfl
theorem x_16_47 : Xp 16 d 47 [v0, v1, v2, v3, (1, x), v5] st t g Q = Xp 16 d 49 [v0, v1, v2, v3, (1, x), v5] ((1, x) :: st) t g Q := Xp_go (i := .lload 4) (len := 2) (by decide +kernel) rfl
theorem x_16_49 : Xp 16 d 49 ls ((1, a) :: st) t g Q = Xp 16 d 50 ls ((0, hkW a) :: st) t g Q := Xp_go (i := .l2i) (len := 1) (by decide +kernel) rfl
theorem x_16_50 : Xp 16 d 50 ls ((0, a) :: st) t g Q = Xp 16 d 51 ls ((1, a) :: st) t g Q := Xp_go (i := .i2l) (len := 1) (by decide +kernel) rfl
theorem x_16_51 : Xp 16 d 51 ls ((1, b) :: (1, a) :: st) t g Q = Xp 16 d 52 ls ((0, hkCmp a b) :: st) t g Q := Xp_go (i := .lcmp) (len := 1) (by decide +kernel) rfl
theorem x_16_52 : Xp 16 d 52 ls ((0, a) :: st) t g Q = ((¬ (a = 0) → Xp 16 d 60 ls st t g Q) ∧ (¬ (¬ (a = 0)) → Xp 16 d 55 ls st t g Q)) := xr_if1 (cd := .ne) (off := 8) (by decide +kernel) (by decide)
theorem x_16_55 : Xp 16 d 55 [v0, v1, v2, v3, (1, x), v5] st t g Q = Xp 16 d 57 [v0, v1, v2, v3, (1, x), v5] ((1, x) :: st) t g Q := Xp_go (i := .lload 4) (len := 2) (by decide +kernel) rfl
theorem x_16_57 : Xp 16 d 57 ls st t g Q = Xp 16 d 63 ls st t g Q := xr_goto (off := 6) (by decide +kernel) (by decide)
theorem x_16_60 : Xp 16 d 60 ls st t g Q = Xp 16 d 63 ls ((1, -9223372036854775808) :: st) t g Q := xr_ldc2 (idx := 192) (by decide +kernel) (by decide +kernel)
theorem x_16_63 : Xp 16 d 63 ls [(1, x)] t g Q = Q (some (1, x)) t g := xr_retL (by decide +kernel) (by decide +kernel)
-- 17: HookBoxes.multiply(I)I
theorem x_17_0 : Xp 17 d 0 [(2, x), v1] st t g Q = Xp 17 d 1 [(2, x), v1] ((2, x) :: st) t g Q := Xp_go (i := .aload_n 0) (len := 1) (by decide +kernel) rfl
theorem x_17_1 : Xp 17 d 1 ls ((2, p) :: st) t g Q = (hkJK p = 0 ∧ jA p 0 ≤ t ∧ Xp 17 d 4 ls ((2, jR p 0) :: st) t g Q) := xr_getR (idx := 14) (ci := 0) (k := 0) (by decide +kernel) (by decide +kernel) (by decide +kernel)
theorem x_17_4 : Xp 17 d 4 [v0, (0, x)] st t g Q = Xp 17 d 5 [v0, (0, x)] ((0, x) :: st) t g Q := Xp_go (i := .iload_n 1) (len := 1) (by decide +kernel) rfl
theorem x_17_5 : Xp 17 (d + 1) 5 ls ((0, a1) :: (2, a0) :: st) t g Q = (hkJK a0 = 1 ∧ hkC8 st ∧ Xp 39 d 0 [(2, a0), (0, a1)] [] t g (fun r t g => Xp 17 (d + 1) 8 ls (hkPush r st) t g Q)) := xr_invV (idx := 103) (y' := 39) (ci := 1) (tg := [2, 0]) (by decide +kernel) (by decide +kernel) (by decide +kernel) (by decide +kernel) rfl rfl rfl
theorem x_17_8 : Xp 17 d 8 ls ((0, a) :: st) t g Q = ((¬ (a = 0) → Xp 17 d 14 ls st t g Q) ∧ (¬ (¬ (a = 0)) → Xp 17 d 11 ls st t g Q)) := xr_if1 (cd := .ne) (off := 6) (by decide +kernel) (by decide)
theorem x_17_11 : Xp 17 d 11 ls st t g Q = Xp 17 d 13 ls ((0, -2) :: st) t g Q := xr_bi (c := -2) (by decide +kernel) (by decide)
theorem x_17_13 : Xp 17 d 13 ls [(0, x)] t g Q = Q (some (0, x)) t g := xr_retI (by decide +kernel) (by decide +kernel)
theorem x_17_14 : Xp 17 d 14 [(2, x), v1] st t g Q = Xp 17 d 15 [(2, x), v1] ((2, x) :: st) t g Q := Xp_go (i := .aload_n 0) (len := 1) (by decide +kernel) rfl
theorem x_17_15 : Xp 17 d 15 ls ((2, p) :: st) t g Q = (hkJK p = 0 ∧ jA p 8 ≤ t ∧ Xp 17 d 18 ls ((2, jR p 8) :: st) t g Q) := xr_getR (idx := 75) (ci := 0) (k := 8) (by decide +kernel) (by decide +kernel) (by decide +kernel)
theorem x_17_18 : Xp 17 (d + 1) 18 ls ((2, a0) :: st) t g Q = (hkJK a0 = 7 ∧ hkC8 st ∧ Xp 88 d 0 [(2, a0)] [] t g (fun r t g => Xp 17 (d + 1) 21 ls (hkPush r st) t g Q)) := xr_invV (idx := 96) (y' := 88) (ci := 7) (tg := [2]) (by decide +kernel) (by decide +kernel) (by decide +kernel) (by decide +kernel) rfl rfl rfl
theorem x_17_21 : Xp 17 d 21 [(2, x), v1] st t g Q = Xp 17 d 22 [(2, x), v1] ((2, x) :: st) t g Q := Xp_go (i := .aload_n 0) (len := 1) (by decide +kernel) rfl
theorem x_17_22 : Xp 17 d 22 ls ((2, p) :: st) t g Q = (hkJK p = 0 ∧ jA p 8 ≤ t ∧ Xp 17 d 25 ls ((2, jR p 8) :: st) t g Q) := xr_getR (idx := 75) (ci := 0) (k := 8) (by decide +kernel) (by decide +kernel) (by decide +kernel)
theorem x_17_25 : Xp 17 d 25 ls ((2, p) :: st) t g Q = (hkJK p = 7 ∧ jA p 0 ≤ t ∧ Xp 17 d 28 ls ((2, jR p 0) :: st) t g Q) := xr_getR (idx := 189) (ci := 7) (k := 0) (by decide +kernel) (by decide +kernel) (by decide +kernel)
theorem x_17_28 : Xp 17 d 28 [v0, (0, x)] st t g Q = Xp 17 d 29 [v0, (0, x)] ((0, x) :: st) t g Q := Xp_go (i := .iload_n 1) (len := 1) (by decide +kernel) rfl
theorem x_17_29 : Xp 17 d 29 ls st t g Q = Xp 17 d 30 ls ((0, 1) :: st) t g Q := xr_const (c := 1) (by decide +kernel) (by decide)
theorem x_17_30 : Xp 17 d 30 ls ((0, x) :: (0, a) :: (2, p) :: st) t g Q = ((hkJK p = 100 ∧ (100 = 102 → x = 0 ∨ x = 1) ∧ 0 ≤ a ∧ a < jL p) ∧ Xp 17 d 31 ls st t (hkSet g p a x) Q) := Xp_chk (i := .iastore) (len := 1) (by decide +kernel) rfl
theorem x_17_31 : Xp 17 d 31 [(2, x), v1] st t g Q = Xp 17 d 32 [(2, x), v1] ((2, x) :: st) t g Q := Xp_go (i := .aload_n 0) (len := 1) (by decide +kernel) rfl
theorem x_17_32 : Xp 17 d 32 ls ((2, p) :: st) t g Q = (hkJK p = 0 ∧ jA p 4 ≤ t ∧ Xp 17 d 35 ls ((2, jR p 4) :: st) t g Q) := xr_getR (idx := 48) (ci := 0) (k := 4) (by decide +kernel) (by decide +kernel) (by decide +kernel)
theorem x_17_35 : Xp 17 d 35 [(2, x), v1] st t g Q = Xp 17 d 36 [(2, x), v1] ((2, x) :: st) t g Q := Xp_go (i := .aload_n 0) (len := 1) (by decide +kernel) rfl
theorem x_17_36 : Xp 17 d 36 ls ((2, p) :: st) t g Q = (hkJK p = 0 ∧ jA p 7 ≤ t ∧ Xp 17 d 39 ls ((2, jR p 7) :: st) t g Q) := xr_getR (idx := 71) (ci := 0) (k := 7) (by decide +kernel) (by decide +kernel) (by decide +kernel)
theorem x_17_39 : Xp 17 d 39 [(2, x), v1] st t g Q = Xp 17 d 40 [(2, x), v1] ((2, x) :: st) t g Q := Xp_go (i := .aload_n 0) (len := 1) (by decide +kernel) rfl
theorem x_17_40 : Xp 17 d 40 ls ((2, p) :: st) t g Q = (hkJK p = 0 ∧ jA p 8 ≤ t ∧ Xp 17 d 43 ls ((2, jR p 8) :: st) t g Q) := xr_getR (idx := 75) (ci := 0) (k := 8) (by decide +kernel) (by decide +kernel) (by decide +kernel)
theorem x_17_43 : Xp 17 (d + 1) 43 ls ((2, a2) :: (2, a1) :: (2, a0) :: st) t g Q = (hkJK a0 = 5 ∧ hkC8 st ∧ Xp 71 d 0 [(2, a0), (2, a1), (2, a2), hkU, hkU, hkU] [] t g (fun r t g => Xp 17 (d + 1) 46 ls (hkPush r st) t g Q)) := xr_invV (idx := 194) (y' := 71) (ci := 5) (tg := [2, 2, 2]) (by decide +kernel) (by decide +kernel) (by decide +kernel) (by decide +kernel) rfl rfl rfl
theorem x_17_46 : Xp 17 d 46 ls ((0, a) :: st) t g Q = ((a = 0 → Xp 17 d 59 ls st t g Q) ∧ (¬ (a = 0) → Xp 17 d 49 ls st t g Q)) := xr_if1 (cd := .eq) (off := 13) (by decide +kernel) (by decide)
theorem x_17_49 : Xp 17 d 49 [(2, x), v1] st t g Q = Xp 17 d 50 [(2, x), v1] ((2, x) :: st) t g Q := Xp_go (i := .aload_n 0) (len := 1) (by decide +kernel) rfl
theorem x_17_50 : Xp 17 d 50 ls ((2, p) :: st) t g Q = (hkJK p = 0 ∧ jA p 7 ≤ t ∧ Xp 17 d 53 ls ((2, jR p 7) :: st) t g Q) := xr_getR (idx := 71) (ci := 0) (k := 7) (by decide +kernel) (by decide +kernel) (by decide +kernel)
theorem x_17_53 : Xp 17 (d + 1) 53 ls ((2, a0) :: st) t g Q = (hkJK a0 = 7 ∧ hkC8 st ∧ Xp 89 d 0 [(2, a0), hkU, hkU] [] t g (fun r t g => Xp 17 (d + 1) 56 ls (hkPush r st) t g Q)) := xr_invV (idx := 198) (y' := 89) (ci := 7) (tg := [2]) (by decide +kernel) (by decide +kernel) (by decide +kernel) (by decide +kernel) rfl rfl rfl
theorem x_17_56 : Xp 17 d 56 ls st t g Q = Xp 17 d 61 ls st t g Q := xr_goto (off := 5) (by decide +kernel) (by decide)
theorem x_17_59 : Xp 17 d 59 ls st t g Q = Xp 17 d 61 ls ((0, -3) :: st) t g Q := xr_bi (c := -3) (by decide +kernel) (by decide)
theorem x_17_61 : Xp 17 d 61 ls [(0, x)] t g Q = Q (some (0, x)) t g := xr_retI (by decide +kernel) (by decide +kernel)
-- 18: HookBoxes.feed(IIIIII)I
theorem x_18_0 : Xp 18 d 0 [v0, (0, x), v2, v3, v4, v5, v6, v7] st t g Q = Xp 18 d 1 [v0, (0, x), v2, v3, v4, v5, v6, v7] ((0, x) :: st) t g Q := Xp_go (i := .iload_n 1) (len := 1) (by decide +kernel) rfl
theorem x_18_1 : Xp 18 d 1 ls st t g Q = Xp 18 d 2 ls ((0, 1) :: st) t g Q := xr_const (c := 1) (by decide +kernel) (by decide)
theorem x_18_2 : Xp 18 d 2 ls st t g Q = Xp 18 d 3 ls ((0, 5) :: st) t g Q := xr_const (c := 5) (by decide +kernel) (by decide)
theorem x_18_3 : Xp 18 (d + 1) 3 ls ((0, a2) :: (0, a1) :: (0, a0) :: st) t g Q = (hkC8 st ∧ Xp 2 d 0 [(0, a0), (0, a1), (0, a2)] [] t g (fun r t g => Xp 18 (d + 1) 6 ls (hkPush r st) t g Q)) := xr_invS (idx := 88) (y' := 2) (tg := [0, 0, 0]) (by decide +kernel) (by decide +kernel) (by decide +kernel) rfl rfl
theorem x_18_6 : Xp 18 d 6 ls ((0, a) :: st) t g Q = ((¬ (a = 0) → Xp 18 d 47 ls st t g Q) ∧ (¬ (¬ (a = 0)) → Xp 18 d 9 ls st t g Q)) := xr_if1 (cd := .ne) (off := 41) (by decide +kernel) (by decide)
theorem x_18_9 : Xp 18 d 9 [v0, v1, (0, x), v3, v4, v5, v6, v7] st t g Q = Xp 18 d 10 [v0, v1, (0, x), v3, v4, v5, v6, v7] ((0, x) :: st) t g Q := Xp_go (i := .iload_n 2) (len := 1) (by decide +kernel) rfl
theorem x_18_10 : Xp 18 (d + 1) 10 ls ((0, a0) :: st) t g Q = (hkC8 st ∧ Xp 19 d 0 [(0, a0)] [] t g (fun r t g => Xp 18 (d + 1) 13 ls (hkPush r st) t g Q)) := xr_invS (idx := 202) (y' := 19) (tg := [0]) (by decide +kernel) (by decide +kernel) (by decide +kernel) rfl rfl
theorem x_18_13 : Xp 18 d 13 ls ((0, a) :: st) t g Q = ((¬ (a = 0) → Xp 18 d 47 ls st t g Q) ∧ (¬ (¬ (a = 0)) → Xp 18 d 16 ls st t g Q)) := xr_if1 (cd := .ne) (off := 34) (by decide +kernel) (by decide)
theorem x_18_16 : Xp 18 d 16 [v0, v1, v2, (0, x), v4, v5, v6, v7] st t g Q = Xp 18 d 17 [v0, v1, v2, (0, x), v4, v5, v6, v7] ((0, x) :: st) t g Q := Xp_go (i := .iload_n 3) (len := 1) (by decide +kernel) rfl
theorem x_18_17 : Xp 18 (d + 1) 17 ls ((0, a0) :: st) t g Q = (hkC8 st ∧ Xp 19 d 0 [(0, a0)] [] t g (fun r t g => Xp 18 (d + 1) 20 ls (hkPush r st) t g Q)) := xr_invS (idx := 202) (y' := 19) (tg := [0]) (by decide +kernel) (by decide +kernel) (by decide +kernel) rfl rfl
theorem x_18_20 : Xp 18 d 20 ls ((0, a) :: st) t g Q = ((¬ (a = 0) → Xp 18 d 47 ls st t g Q) ∧ (¬ (¬ (a = 0)) → Xp 18 d 23 ls st t g Q)) := xr_if1 (cd := .ne) (off := 27) (by decide +kernel) (by decide)
theorem x_18_23 : Xp 18 d 23 [v0, v1, v2, v3, (0, x), v5, v6, v7] st t g Q = Xp 18 d 25 [v0, v1, v2, v3, (0, x), v5, v6, v7] ((0, x) :: st) t g Q := Xp_go (i := .iload 4) (len := 2) (by decide +kernel) rfl
theorem x_18_25 : Xp 18 (d + 1) 25 ls ((0, a0) :: st) t g Q = (hkC8 st ∧ Xp 19 d 0 [(0, a0)] [] t g (fun r t g => Xp 18 (d + 1) 28 ls (hkPush r st) t g Q)) := xr_invS (idx := 202) (y' := 19) (tg := [0]) (by decide +kernel) (by decide +kernel) (by decide +kernel) rfl rfl
theorem x_18_28 : Xp 18 d 28 ls ((0, a) :: st) t g Q = ((¬ (a = 0) → Xp 18 d 47 ls st t g Q) ∧ (¬ (¬ (a = 0)) → Xp 18 d 31 ls st t g Q)) := xr_if1 (cd := .ne) (off := 19) (by decide +kernel) (by decide)
theorem x_18_31 : Xp 18 d 31 [v0, v1, v2, v3, v4, (0, x), v6, v7] st t g Q = Xp 18 d 33 [v0, v1, v2, v3, v4, (0, x), v6, v7] ((0, x) :: st) t g Q := Xp_go (i := .iload 5) (len := 2) (by decide +kernel) rfl
theorem x_18_33 : Xp 18 (d + 1) 33 ls ((0, a0) :: st) t g Q = (hkC8 st ∧ Xp 19 d 0 [(0, a0)] [] t g (fun r t g => Xp 18 (d + 1) 36 ls (hkPush r st) t g Q)) := xr_invS (idx := 202) (y' := 19) (tg := [0]) (by decide +kernel) (by decide +kernel) (by decide +kernel) rfl rfl
theorem x_18_36 : Xp 18 d 36 ls ((0, a) :: st) t g Q = ((¬ (a = 0) → Xp 18 d 47 ls st t g Q) ∧ (¬ (¬ (a = 0)) → Xp 18 d 39 ls st t g Q)) := xr_if1 (cd := .ne) (off := 11) (by decide +kernel) (by decide)
theorem x_18_39 : Xp 18 d 39 [v0, v1, v2, v3, v4, v5, (0, x), v7] st t g Q = Xp 18 d 41 [v0, v1, v2, v3, v4, v5, (0, x), v7] ((0, x) :: st) t g Q := Xp_go (i := .iload 6) (len := 2) (by decide +kernel) rfl
theorem x_18_41 : Xp 18 (d + 1) 41 ls ((0, a0) :: st) t g Q = (hkC8 st ∧ Xp 19 d 0 [(0, a0)] [] t g (fun r t g => Xp 18 (d + 1) 44 ls (hkPush r st) t g Q)) := xr_invS (idx := 202) (y' := 19) (tg := [0]) (by decide +kernel) (by decide +kernel) (by decide +kernel) rfl rfl
theorem x_18_44 : Xp 18 d 44 ls ((0, a) :: st) t g Q = ((a = 0 → Xp 18 d 50 ls st t g Q) ∧ (¬ (a = 0) → Xp 18 d 47 ls st t g Q)) := xr_if1 (cd := .eq) (off := 6) (by decide +kernel) (by decide)
theorem x_18_47 : Xp 18 d 47 ls st t g Q = Xp 18 d 49 ls ((0, -2) :: st) t g Q := xr_bi (c := -2) (by decide +kernel) (by decide)
theorem x_18_49 : Xp 18 d 49 ls [(0, x)] t g Q = Q (some (0, x)) t g := xr_retI (by decide +kernel) (by decide +kernel)
theorem x_18_50 : Xp 18 d 50 [v0, (0, x), v2, v3, v4, v5, v6, v7] st t g Q = Xp 18 d 51 [v0, (0, x), v2, v3, v4, v5, v6, v7] ((0, x) :: st) t g Q := Xp_go (i := .iload_n 1) (len := 1) (by decide +kernel) rfl
theorem x_18_51 : Xp 18 d 51 ls st t g Q = Xp 18 d 53 ls ((0, 60) :: st) t g Q := xr_bi (c := 60) (by decide +kernel) (by decide)
theorem x_18_53 : Xp 18 d 53 [(2, x), v1, v2, v3, v4, v5, v6, v7] st t g Q = Xp 18 d 54 [(2, x), v1, v2, v3, v4, v5, v6, v7] ((2, x) :: st) t g Q := Xp_go (i := .aload_n 0) (len := 1) (by decide +kernel) rfl
theorem x_18_54 : Xp 18 d 54 ls ((2, p) :: st) t g Q = (hkJK p = 0 ∧ jA p 5 ≤ t ∧ Xp 18 d 57 ls ((2, jR p 5) :: st) t g Q) := xr_getR (idx := 57) (ci := 0) (k := 5) (by decide +kernel) (by decide +kernel) (by decide +kernel)
theorem x_18_57 : Xp 18 d 57 ls ((2, p) :: st) t g Q = (hkJK p = 6 ∧ Xp 18 d 60 ls ((0, g p 0) :: st) t g Q) := xr_getI (idx := 205) (ci := 6) (k := 0) (by decide +kernel) (by decide +kernel) (by decide +kernel)
theorem x_18_60 : Xp 18 d 60 ls ((0, b) :: (0, a) :: st) t g Q = Xp 18 d 61 ls ((0, hkW (a - b)) :: st) t g Q := Xp_go (i := .isub) (len := 1) (by decide +kernel) rfl
theorem x_18_61 : Xp 18 d 61 ls ((0, b) :: (0, a) :: st) t g Q = ((a ≤ b → Xp 18 d 67 ls st t g Q) ∧ (¬ (a ≤ b) → Xp 18 d 64 ls st t g Q)) := xr_if2 (cd := .le) (off := 6) (by decide +kernel) (by decide)
theorem x_18_64 : Xp 18 d 64 ls st t g Q = Xp 18 d 66 ls ((0, -4) :: st) t g Q := xr_bi (c := -4) (by decide +kernel) (by decide)
theorem x_18_66 : Xp 18 d 66 ls [(0, x)] t g Q = Q (some (0, x)) t g := xr_retI (by decide +kernel) (by decide +kernel)
theorem x_18_67 : Xp 18 d 67 ls st t g Q = Xp 18 d 68 ls ((0, 0) :: st) t g Q := xr_const (c := 0) (by decide +kernel) (by decide)
theorem x_18_68 : Xp 18 d 68 [v0, v1, v2, v3, v4, v5, v6, v7] ((0, x) :: st) t g Q = (hkP1 v6 ∧ Xp 18 d 70 [v0, v1, v2, v3, v4, v5, v6, (0, x)] st t g Q) := Xp_chk (i := .istore 7) (len := 2) (by decide +kernel) rfl
theorem x_18_70 : Xp 18 d 70 [v0, v1, v2, v3, v4, v5, v6, (0, x)] st t g Q = Xp 18 d 72 [v0, v1, v2, v3, v4, v5, v6, (0, x)] ((0, x) :: st) t g Q := Xp_go (i := .iload 7) (len := 2) (by decide +kernel) rfl
theorem x_18_72 : Xp 18 d 72 [v0, (0, x), v2, v3, v4, v5, v6, v7] st t g Q = Xp 18 d 73 [v0, (0, x), v2, v3, v4, v5, v6, v7] ((0, x) :: st) t g Q := Xp_go (i := .iload_n 1) (len := 1) (by decide +kernel) rfl
theorem x_18_73 : Xp 18 d 73 ls ((0, b) :: (0, a) :: st) t g Q = ((b ≤ a → Xp 18 d 169 ls st t g Q) ∧ (¬ (b ≤ a) → Xp 18 d 76 ls st t g Q)) := xr_if2 (cd := .ge) (off := 96) (by decide +kernel) (by decide)
theorem x_18_76 : Xp 18 d 76 [v0, v1, v2, v3, v4, v5, v6, (0, x)] st t g Q = Xp 18 d 78 [v0, v1, v2, v3, v4, v5, v6, (0, x)] ((0, x) :: st) t g Q := Xp_go (i := .iload 7) (len := 2) (by decide +kernel) rfl
theorem x_18_78_f : hkFetch 18 78 = some (.tableswitch (76) (0) (3) #[30, 41, 52, 64], 30) := by decide +kernel
theorem x_18_78_k0 : Xp 18 d 78 ls ((0, 0) :: st) t g Q = Xp 18 d 108 ls st t g Q := xr_sw x_18_78_f (off := 30) (by decide +kernel) (by decide)
theorem x_18_78_k1 : Xp 18 d 78 ls ((0, 1) :: st) t g Q = Xp 18 d 119 ls st t g Q := xr_sw x_18_78_f (off := 41) (by decide +kernel) (by decide)
theorem x_18_78_k2 : Xp 18 d 78 ls ((0, 2) :: st) t g Q = Xp 18 d 130 ls st t g Q := xr_sw x_18_78_f (off := 52) (by decide +kernel) (by decide)
theorem x_18_78_k3 : Xp 18 d 78 ls ((0, 3) :: st) t g Q = Xp 18 d 142 ls st t g Q := xr_sw x_18_78_f (off := 64) (by decide +kernel) (by decide)
theorem x_18_78_d (h : a < 0 ∨ 3 < a) : Xp 18 d 78 ls ((0, a) :: st) t g Q = Xp 18 d 154 ls st t g Q := xr_swd x_18_78_f h (by decide)
theorem x_18_108 : Xp 18 d 108 [(2, x), v1, v2, v3, v4, v5, v6, v7] st t g Q = Xp 18 d 109 [(2, x), v1, v2, v3, v4, v5, v6, v7] ((2, x) :: st) t g Q := Xp_go (i := .aload_n 0) (len := 1) (by decide +kernel) rfl
theorem x_18_109 : Xp 18 d 109 ls ((2, p) :: st) t g Q = (hkJK p = 0 ∧ jA p 5 ≤ t ∧ Xp 18 d 112 ls ((2, jR p 5) :: st) t g Q) := xr_getR (idx := 57) (ci := 0) (k := 5) (by decide +kernel) (by decide +kernel) (by decide +kernel)
theorem x_18_112 : Xp 18 d 112 [v0, v1, (0, x), v3, v4, v5, v6, v7] st t g Q = Xp 18 d 113 [v0, v1, (0, x), v3, v4, v5, v6, v7] ((0, x) :: st) t g Q := Xp_go (i := .iload_n 2) (len := 1) (by decide +kernel) rfl
theorem x_18_113 : Xp 18 (d + 1) 113 ls ((0, a1) :: (2, a0) :: st) t g Q = (hkJK a0 = 6 ∧ hkC8 st ∧ Xp 75 d 0 [(2, a0), (0, a1)] [] t g (fun r t g => Xp 18 (d + 1) 116 ls (hkPush r st) t g Q)) := xr_invV (idx := 206) (y' := 75) (ci := 6) (tg := [2, 0]) (by decide +kernel) (by decide +kernel) (by decide +kernel) (by decide +kernel) rfl rfl rfl
theorem x_18_116 : Xp 18 d 116 ls st t g Q = Xp 18 d 163 ls st t g Q := xr_goto (off := 47) (by decide +kernel) (by decide)
theorem x_18_119 : Xp 18 d 119 [(2, x), v1, v2, v3, v4, v5, v6, v7] st t g Q = Xp 18 d 120 [(2, x), v1, v2, v3, v4, v5, v6, v7] ((2, x) :: st) t g Q := Xp_go (i := .aload_n 0) (len := 1) (by decide +kernel) rfl
theorem x_18_120 : Xp 18 d 120 ls ((2, p) :: st) t g Q = (hkJK p = 0 ∧ jA p 5 ≤ t ∧ Xp 18 d 123 ls ((2, jR p 5) :: st) t g Q) := xr_getR (idx := 57) (ci := 0) (k := 5) (by decide +kernel) (by decide +kernel) (by decide +kernel)
theorem x_18_123 : Xp 18 d 123 [v0, v1, v2, (0, x), v4, v5, v6, v7] st t g Q = Xp 18 d 124 [v0, v1, v2, (0, x), v4, v5, v6, v7] ((0, x) :: st) t g Q := Xp_go (i := .iload_n 3) (len := 1) (by decide +kernel) rfl
theorem x_18_124 : Xp 18 (d + 1) 124 ls ((0, a1) :: (2, a0) :: st) t g Q = (hkJK a0 = 6 ∧ hkC8 st ∧ Xp 75 d 0 [(2, a0), (0, a1)] [] t g (fun r t g => Xp 18 (d + 1) 127 ls (hkPush r st) t g Q)) := xr_invV (idx := 206) (y' := 75) (ci := 6) (tg := [2, 0]) (by decide +kernel) (by decide +kernel) (by decide +kernel) (by decide +kernel) rfl rfl rfl
theorem x_18_127 : Xp 18 d 127 ls st t g Q = Xp 18 d 163 ls st t g Q := xr_goto (off := 36) (by decide +kernel) (by decide)
theorem x_18_130 : Xp 18 d 130 [(2, x), v1, v2, v3, v4, v5, v6, v7] st t g Q = Xp 18 d 131 [(2, x), v1, v2, v3, v4, v5, v6, v7] ((2, x) :: st) t g Q := Xp_go (i := .aload_n 0) (len := 1) (by decide +kernel) rfl
theorem x_18_131 : Xp 18 d 131 ls ((2, p) :: st) t g Q = (hkJK p = 0 ∧ jA p 5 ≤ t ∧ Xp 18 d 134 ls ((2, jR p 5) :: st) t g Q) := xr_getR (idx := 57) (ci := 0) (k := 5) (by decide +kernel) (by decide +kernel) (by decide +kernel)
theorem x_18_134 : Xp 18 d 134 [v0, v1, v2, v3, (0, x), v5, v6, v7] st t g Q = Xp 18 d 136 [v0, v1, v2, v3, (0, x), v5, v6, v7] ((0, x) :: st) t g Q := Xp_go (i := .iload 4) (len := 2) (by decide +kernel) rfl
theorem x_18_136 : Xp 18 (d + 1) 136 ls ((0, a1) :: (2, a0) :: st) t g Q = (hkJK a0 = 6 ∧ hkC8 st ∧ Xp 75 d 0 [(2, a0), (0, a1)] [] t g (fun r t g => Xp 18 (d + 1) 139 ls (hkPush r st) t g Q)) := xr_invV (idx := 206) (y' := 75) (ci := 6) (tg := [2, 0]) (by decide +kernel) (by decide +kernel) (by decide +kernel) (by decide +kernel) rfl rfl rfl
theorem x_18_139 : Xp 18 d 139 ls st t g Q = Xp 18 d 163 ls st t g Q := xr_goto (off := 24) (by decide +kernel) (by decide)
theorem x_18_142 : Xp 18 d 142 [(2, x), v1, v2, v3, v4, v5, v6, v7] st t g Q = Xp 18 d 143 [(2, x), v1, v2, v3, v4, v5, v6, v7] ((2, x) :: st) t g Q := Xp_go (i := .aload_n 0) (len := 1) (by decide +kernel) rfl
theorem x_18_143 : Xp 18 d 143 ls ((2, p) :: st) t g Q = (hkJK p = 0 ∧ jA p 5 ≤ t ∧ Xp 18 d 146 ls ((2, jR p 5) :: st) t g Q) := xr_getR (idx := 57) (ci := 0) (k := 5) (by decide +kernel) (by decide +kernel) (by decide +kernel)
theorem x_18_146 : Xp 18 d 146 [v0, v1, v2, v3, v4, (0, x), v6, v7] st t g Q = Xp 18 d 148 [v0, v1, v2, v3, v4, (0, x), v6, v7] ((0, x) :: st) t g Q := Xp_go (i := .iload 5) (len := 2) (by decide +kernel) rfl
theorem x_18_148 : Xp 18 (d + 1) 148 ls ((0, a1) :: (2, a0) :: st) t g Q = (hkJK a0 = 6 ∧ hkC8 st ∧ Xp 75 d 0 [(2, a0), (0, a1)] [] t g (fun r t g => Xp 18 (d + 1) 151 ls (hkPush r st) t g Q)) := xr_invV (idx := 206) (y' := 75) (ci := 6) (tg := [2, 0]) (by decide +kernel) (by decide +kernel) (by decide +kernel) (by decide +kernel) rfl rfl rfl
theorem x_18_151 : Xp 18 d 151 ls st t g Q = Xp 18 d 163 ls st t g Q := xr_goto (off := 12) (by decide +kernel) (by decide)
theorem x_18_154 : Xp 18 d 154 [(2, x), v1, v2, v3, v4, v5, v6, v7] st t g Q = Xp 18 d 155 [(2, x), v1, v2, v3, v4, v5, v6, v7] ((2, x) :: st) t g Q := Xp_go (i := .aload_n 0) (len := 1) (by decide +kernel) rfl
theorem x_18_155 : Xp 18 d 155 ls ((2, p) :: st) t g Q = (hkJK p = 0 ∧ jA p 5 ≤ t ∧ Xp 18 d 158 ls ((2, jR p 5) :: st) t g Q) := xr_getR (idx := 57) (ci := 0) (k := 5) (by decide +kernel) (by decide +kernel) (by decide +kernel)
theorem x_18_158 : Xp 18 d 158 [v0, v1, v2, v3, v4, v5, (0, x), v7] st t g Q = Xp 18 d 160 [v0, v1, v2, v3, v4, v5, (0, x), v7] ((0, x) :: st) t g Q := Xp_go (i := .iload 6) (len := 2) (by decide +kernel) rfl
theorem x_18_160 : Xp 18 (d + 1) 160 ls ((0, a1) :: (2, a0) :: st) t g Q = (hkJK a0 = 6 ∧ hkC8 st ∧ Xp 75 d 0 [(2, a0), (0, a1)] [] t g (fun r t g => Xp 18 (d + 1) 163 ls (hkPush r st) t g Q)) := xr_invV (idx := 206) (y' := 75) (ci := 6) (tg := [2, 0]) (by decide +kernel) (by decide +kernel) (by decide +kernel) (by decide +kernel) rfl rfl rfl
theorem x_18_163 : Xp 18 d 163 [v0, v1, v2, v3, v4, v5, v6, (0, x)] st t g Q = (hkP1 v6 ∧ Xp 18 d 166 [v0, v1, v2, v3, v4, v5, v6, (0, hkW (x + 1))] st t g Q) := Xp_chk (i := .iinc 7 (1)) (len := 3) (by decide +kernel) rfl
theorem x_18_166 : Xp 18 d 166 ls st t g Q = Xp 18 d 70 ls st t g Q := xr_goto (off := -96) (by decide +kernel) (by decide)
theorem x_18_169 : Xp 18 d 169 [(2, x), v1, v2, v3, v4, v5, v6, v7] st t g Q = Xp 18 d 170 [(2, x), v1, v2, v3, v4, v5, v6, v7] ((2, x) :: st) t g Q := Xp_go (i := .aload_n 0) (len := 1) (by decide +kernel) rfl
theorem x_18_170 : Xp 18 d 170 ls ((2, p) :: st) t g Q = (hkJK p = 0 ∧ jA p 5 ≤ t ∧ Xp 18 d 173 ls ((2, jR p 5) :: st) t g Q) := xr_getR (idx := 57) (ci := 0) (k := 5) (by decide +kernel) (by decide +kernel) (by decide +kernel)
theorem x_18_173 : Xp 18 d 173 ls ((2, p) :: st) t g Q = (hkJK p = 6 ∧ Xp 18 d 176 ls ((0, g p 0) :: st) t g Q) := xr_getI (idx := 205) (ci := 6) (k := 0) (by decide +kernel) (by decide +kernel) (by decide +kernel)
theorem x_18_176 : Xp 18 d 176 ls [(0, x)] t g Q = Q (some (0, x)) t g := xr_retI (by decide +kernel) (by decide +kernel)
-- 19: HookBoxes.isNoByte(I)Z
theorem x_19_0 : Xp 19 d 0 [(0, x)] st t g Q = Xp 19 d 1 [(0, x)] ((0, x) :: st) t g Q := Xp_go (i := .iload_n 0) (len := 1) (by decide +kernel) rfl
theorem x_19_1 : Xp 19 d 1 ls st t g Q = Xp 19 d 2 ls ((0, 0) :: st) t g Q := xr_const (c := 0) (by decide +kernel) (by decide)
theorem x_19_2 : Xp 19 d 2 ls st t g Q = Xp 19 d 5 ls ((0, 255) :: st) t g Q := xr_si (c := 255) (by decide +kernel) (by decide)
theorem x_19_5 : Xp 19 (d + 1) 5 ls ((0, a2) :: (0, a1) :: (0, a0) :: st) t g Q = (hkC8 st ∧ Xp 2 d 0 [(0, a0), (0, a1), (0, a2)] [] t g (fun r t g => Xp 19 (d + 1) 8 ls (hkPush r st) t g Q)) := xr_invS (idx := 88) (y' := 2) (tg := [0, 0, 0]) (by decide +kernel) (by decide +kernel) (by decide +kernel) rfl rfl
theorem x_19_8 : Xp 19 d 8 ls [(0, x)] t g Q = ((x = 0 ∨ x = 1) ∧ Q (some (0, x)) t g) := xr_retZ (by decide +kernel) (by decide +kernel)
-- 20: HookBoxes.read()I
theorem x_20_0 : Xp 20 d 0 [(2, x)] st t g Q = Xp 20 d 1 [(2, x)] ((2, x) :: st) t g Q := Xp_go (i := .aload_n 0) (len := 1) (by decide +kernel) rfl
theorem x_20_1 : Xp 20 d 1 ls ((2, p) :: st) t g Q = (hkJK p = 0 ∧ jA p 5 ≤ t ∧ Xp 20 d 4 ls ((2, jR p 5) :: st) t g Q) := xr_getR (idx := 57) (ci := 0) (k := 5) (by decide +kernel) (by decide +kernel) (by decide +kernel)
theorem x_20_4 : Xp 20 (d + 1) 4 ls ((2, a0) :: st) t g Q = (hkJK a0 = 6 ∧ hkC8 st ∧ Xp 76 d 0 [(2, a0), hkU] [] t g (fun r t g => Xp 20 (d + 1) 7 ls (hkPush r st) t g Q)) := xr_invV (idx := 210) (y' := 76) (ci := 6) (tg := [2]) (by decide +kernel) (by decide +kernel) (by decide +kernel) (by decide +kernel) rfl rfl rfl
theorem x_20_7 : Xp 20 d 7 [(2, x)] st t g Q = Xp 20 d 8 [(2, x)] ((2, x) :: st) t g Q := Xp_go (i := .aload_n 0) (len := 1) (by decide +kernel) rfl
theorem x_20_8 : Xp 20 d 8 ls ((2, p) :: st) t g Q = (hkJK p = 0 ∧ jA p 5 ≤ t ∧ Xp 20 d 11 ls ((2, jR p 5) :: st) t g Q) := xr_getR (idx := 57) (ci := 0) (k := 5) (by decide +kernel) (by decide +kernel) (by decide +kernel)
theorem x_20_11 : Xp 20 d 11 ls ((2, p) :: st) t g Q = (hkJK p = 6 ∧ Xp 20 d 14 ls ((0, g p 2) :: st) t g Q) := xr_getI (idx := 213) (ci := 6) (k := 2) (by decide +kernel) (by decide +kernel) (by decide +kernel)
theorem x_20_14 : Xp 20 d 14 ls st t g Q = Xp 20 d 15 ls ((0, -1) :: st) t g Q := xr_const (c := -1) (by decide +kernel) (by decide)
theorem x_20_15 : Xp 20 d 15 ls ((0, b) :: (0, a) :: st) t g Q = ((a = b → Xp 20 d 29 ls st t g Q) ∧ (¬ (a = b) → Xp 20 d 18 ls st t g Q)) := xr_if2 (cd := .eq) (off := 14) (by decide +kernel) (by decide)
theorem x_20_18 : Xp 20 d 18 ls st t g Q = Xp 20 d 20 ls ((0, -100) :: st) t g Q := xr_bi (c := -100) (by decide +kernel) (by decide)
theorem x_20_20 : Xp 20 d 20 [(2, x)] st t g Q = Xp 20 d 21 [(2, x)] ((2, x) :: st) t g Q := Xp_go (i := .aload_n 0) (len := 1) (by decide +kernel) rfl
theorem x_20_21 : Xp 20 d 21 ls ((2, p) :: st) t g Q = (hkJK p = 0 ∧ jA p 5 ≤ t ∧ Xp 20 d 24 ls ((2, jR p 5) :: st) t g Q) := xr_getR (idx := 57) (ci := 0) (k := 5) (by decide +kernel) (by decide +kernel) (by decide +kernel)
theorem x_20_24 : Xp 20 d 24 ls ((2, p) :: st) t g Q = (hkJK p = 6 ∧ Xp 20 d 27 ls ((0, g p 2) :: st) t g Q) := xr_getI (idx := 213) (ci := 6) (k := 2) (by decide +kernel) (by decide +kernel) (by decide +kernel)
theorem x_20_27 : Xp 20 d 27 ls ((0, b) :: (0, a) :: st) t g Q = Xp 20 d 28 ls ((0, hkW (a - b)) :: st) t g Q := Xp_go (i := .isub) (len := 1) (by decide +kernel) rfl
theorem x_20_28 : Xp 20 d 28 ls [(0, x)] t g Q = Q (some (0, x)) t g := xr_retI (by decide +kernel) (by decide +kernel)
theorem x_20_29 : Xp 20 d 29 [(2, x)] st t g Q = Xp 20 d 30 [(2, x)] ((2, x) :: st) t g Q := Xp_go (i := .aload_n 0) (len := 1) (by decide +kernel) rfl
theorem x_20_30 : Xp 20 d 30 ls ((2, p) :: st) t g Q = (hkJK p = 0 ∧ jA p 5 ≤ t ∧ Xp 20 d 33 ls ((2, jR p 5) :: st) t g Q) := xr_getR (idx := 57) (ci := 0) (k := 5) (by decide +kernel) (by decide +kernel) (by decide +kernel)
theorem x_20_33 : Xp 20 d 33 ls ((2, p) :: st) t g Q = (hkJK p = 6 ∧ Xp 20 d 36 ls ((0, g p 3) :: st) t g Q) := xr_getI (idx := 216) (ci := 6) (k := 3) (by decide +kernel) (by decide +kernel) (by decide +kernel)
theorem x_20_36 : Xp 20 d 36 ls ((0, a) :: st) t g Q = ((a = 0 → Xp 20 d 42 ls st t g Q) ∧ (¬ (a = 0) → Xp 20 d 39 ls st t g Q)) := xr_if1 (cd := .eq) (off := 6) (by decide +kernel) (by decide)
theorem x_20_39 : Xp 20 d 39 ls st t g Q = Xp 20 d 41 ls ((0, -3) :: st) t g Q := xr_bi (c := -3) (by decide +kernel) (by decide)
theorem x_20_41 : Xp 20 d 41 ls [(0, x)] t g Q = Q (some (0, x)) t g := xr_retI (by decide +kernel) (by decide +kernel)
theorem x_20_42 : Xp 20 d 42 [(2, x)] st t g Q = Xp 20 d 43 [(2, x)] ((2, x) :: st) t g Q := Xp_go (i := .aload_n 0) (len := 1) (by decide +kernel) rfl
theorem x_20_43 : Xp 20 d 43 ls ((2, p) :: st) t g Q = (hkJK p = 0 ∧ jA p 7 ≤ t ∧ Xp 20 d 46 ls ((2, jR p 7) :: st) t g Q) := xr_getR (idx := 71) (ci := 0) (k := 7) (by decide +kernel) (by decide +kernel) (by decide +kernel)
theorem x_20_46 : Xp 20 d 46 [(2, x)] st t g Q = Xp 20 d 47 [(2, x)] ((2, x) :: st) t g Q := Xp_go (i := .aload_n 0) (len := 1) (by decide +kernel) rfl
theorem x_20_47 : Xp 20 d 47 ls ((2, p) :: st) t g Q = (hkJK p = 0 ∧ jA p 5 ≤ t ∧ Xp 20 d 50 ls ((2, jR p 5) :: st) t g Q) := xr_getR (idx := 57) (ci := 0) (k := 5) (by decide +kernel) (by decide +kernel) (by decide +kernel)
theorem x_20_50 : Xp 20 d 50 ls ((2, p) :: st) t g Q = (hkJK p = 6 ∧ jA p 4 ≤ t ∧ Xp 20 d 53 ls ((2, jR p 4) :: st) t g Q) := xr_getR (idx := 220) (ci := 6) (k := 4) (by decide +kernel) (by decide +kernel) (by decide +kernel)
theorem x_20_53 : Xp 20 d 53 ls st t g Q = Xp 20 d 54 ls ((0, 0) :: st) t g Q := xr_const (c := 0) (by decide +kernel) (by decide)
theorem x_20_54 : Xp 20 d 54 ls ((0, a) :: (2, p) :: st) t g Q = ((103 ≤ hkJK p ∧ hkJK p ≤ 104 ∧ 0 ≤ a ∧ a < jL p ∧ jAi p a ≤ t) ∧ Xp 20 d 55 ls ((2, jRi p a) :: st) t g Q) := Xp_chk (i := .aaload) (len := 1) (by decide +kernel) rfl
theorem x_20_55 : Xp 20 (d + 1) 55 ls ((2, a1) :: (2, a0) :: st) t g Q = (hkJK a0 = 7 ∧ hkC8 st ∧ Xp 90 d 0 [(2, a0), (2, a1)] [] t g (fun r t g => Xp 20 (d + 1) 58 ls (hkPush r st) t g Q)) := xr_invV (idx := 224) (y' := 90) (ci := 7) (tg := [2, 2]) (by decide +kernel) (by decide +kernel) (by decide +kernel) (by decide +kernel) rfl rfl rfl
theorem x_20_58 : Xp 20 d 58 [(2, x)] st t g Q = Xp 20 d 59 [(2, x)] ((2, x) :: st) t g Q := Xp_go (i := .aload_n 0) (len := 1) (by decide +kernel) rfl
theorem x_20_59 : Xp 20 d 59 ls ((2, p) :: st) t g Q = (hkJK p = 0 ∧ jA p 7 ≤ t ∧ Xp 20 d 62 ls ((2, jR p 7) :: st) t g Q) := xr_getR (idx := 71) (ci := 0) (k := 7) (by decide +kernel) (by decide +kernel) (by decide +kernel)
theorem x_20_62 : Xp 20 (d + 1) 62 ls ((2, a0) :: st) t g Q = (hkJK a0 = 7 ∧ hkC8 st ∧ Xp 89 d 0 [(2, a0), hkU, hkU] [] t g (fun r t g => Xp 20 (d + 1) 65 ls (hkPush r st) t g Q)) := xr_invV (idx := 198) (y' := 89) (ci := 7) (tg := [2]) (by decide +kernel) (by decide +kernel) (by decide +kernel) (by decide +kernel) rfl rfl rfl
theorem x_20_65 : Xp 20 d 65 ls [(0, x)] t g Q = Q (some (0, x)) t g := xr_retI (by decide +kernel) (by decide +kernel)
-- 21: HookBoxes.drawn(III)I
theorem x_21_0 : Xp 21 d 0 [v0, v1, (0, x), v3] st t g Q = Xp 21 d 1 [v0, v1, (0, x), v3] ((0, x) :: st) t g Q := Xp_go (i := .iload_n 2) (len := 1) (by decide +kernel) rfl
theorem x_21_1 : Xp 21 d 1 ls st t g Q = Xp 21 d 2 ls ((0, 0) :: st) t g Q := xr_const (c := 0) (by decide +kernel) (by decide)
theorem x_21_2 : Xp 21 d 2 ls st t g Q = Xp 21 d 4 ls ((0, 40) :: st) t g Q := xr_bi (c := 40) (by decide +kernel) (by decide)
theorem x_21_4 : Xp 21 (d + 1) 4 ls ((0, a2) :: (0, a1) :: (0, a0) :: st) t g Q = (hkC8 st ∧ Xp 2 d 0 [(0, a0), (0, a1), (0, a2)] [] t g (fun r t g => Xp 21 (d + 1) 7 ls (hkPush r st) t g Q)) := xr_invS (idx := 88) (y' := 2) (tg := [0, 0, 0]) (by decide +kernel) (by decide +kernel) (by decide +kernel) rfl rfl
theorem x_21_7 : Xp 21 d 7 ls ((0, a) :: st) t g Q = ((¬ (a = 0) → Xp 21 d 19 ls st t g Q) ∧ (¬ (¬ (a = 0)) → Xp 21 d 10 ls st t g Q)) := xr_if1 (cd := .ne) (off := 12) (by decide +kernel) (by decide)
theorem x_21_10 : Xp 21 d 10 [v0, v1, v2, (0, x)] st t g Q = Xp 21 d 11 [v0, v1, v2, (0, x)] ((0, x) :: st) t g Q := Xp_go (i := .iload_n 3) (len := 1) (by decide +kernel) rfl
theorem x_21_11 : Xp 21 d 11 ls st t g Q = Xp 21 d 12 ls ((0, 0) :: st) t g Q := xr_const (c := 0) (by decide +kernel) (by decide)
theorem x_21_12 : Xp 21 d 12 ls st t g Q = Xp 21 d 13 ls ((0, 1) :: st) t g Q := xr_const (c := 1) (by decide +kernel) (by decide)
theorem x_21_13 : Xp 21 (d + 1) 13 ls ((0, a2) :: (0, a1) :: (0, a0) :: st) t g Q = (hkC8 st ∧ Xp 2 d 0 [(0, a0), (0, a1), (0, a2)] [] t g (fun r t g => Xp 21 (d + 1) 16 ls (hkPush r st) t g Q)) := xr_invS (idx := 88) (y' := 2) (tg := [0, 0, 0]) (by decide +kernel) (by decide +kernel) (by decide +kernel) rfl rfl
theorem x_21_16 : Xp 21 d 16 ls ((0, a) :: st) t g Q = ((a = 0 → Xp 21 d 22 ls st t g Q) ∧ (¬ (a = 0) → Xp 21 d 19 ls st t g Q)) := xr_if1 (cd := .eq) (off := 6) (by decide +kernel) (by decide)
theorem x_21_19 : Xp 21 d 19 ls st t g Q = Xp 21 d 21 ls ((0, -2) :: st) t g Q := xr_bi (c := -2) (by decide +kernel) (by decide)
theorem x_21_21 : Xp 21 d 21 ls [(0, x)] t g Q = Q (some (0, x)) t g := xr_retI (by decide +kernel) (by decide +kernel)
theorem x_21_22 : Xp 21 d 22 [(2, x), v1, v2, v3] st t g Q = Xp 21 d 23 [(2, x), v1, v2, v3] ((2, x) :: st) t g Q := Xp_go (i := .aload_n 0) (len := 1) (by decide +kernel) rfl
theorem x_21_23 : Xp 21 d 23 ls ((2, p) :: st) t g Q = (hkJK p = 0 ∧ jA p 6 ≤ t ∧ Xp 21 d 26 ls ((2, jR p 6) :: st) t g Q) := xr_getR (idx := 64) (ci := 0) (k := 6) (by decide +kernel) (by decide +kernel) (by decide +kernel)
theorem x_21_26 : Xp 21 d 26 [v0, (0, x), v2, v3] st t g Q = Xp 21 d 27 [v0, (0, x), v2, v3] ((0, x) :: st) t g Q := Xp_go (i := .iload_n 1) (len := 1) (by decide +kernel) rfl
theorem x_21_27 : Xp 21 d 27 [v0, v1, (0, x), v3] st t g Q = Xp 21 d 28 [v0, v1, (0, x), v3] ((0, x) :: st) t g Q := Xp_go (i := .iload_n 2) (len := 1) (by decide +kernel) rfl
theorem x_21_28 : Xp 21 (d + 1) 28 ls ((0, a2) :: (0, a1) :: (2, a0) :: st) t g Q = (hkJK a0 = 8 ∧ hkC8 st ∧ Xp 93 d 0 [(2, a0), (0, a1), (0, a2), hkU, hkU, hkU, hkU] [] t g (fun r t g => Xp 21 (d + 1) 31 ls (hkPush r st) t g Q)) := xr_invV (idx := 228) (y' := 93) (ci := 8) (tg := [2, 0, 0]) (by decide +kernel) (by decide +kernel) (by decide +kernel) (by decide +kernel) rfl rfl rfl
theorem x_21_31 : Xp 21 d 31 [v0, v1, v2, (0, x)] st t g Q = Xp 21 d 32 [v0, v1, v2, (0, x)] ((0, x) :: st) t g Q := Xp_go (i := .iload_n 3) (len := 1) (by decide +kernel) rfl
theorem x_21_32 : Xp 21 d 32 ls ((0, a) :: st) t g Q = ((¬ (a = 0) → Xp 21 d 45 ls st t g Q) ∧ (¬ (¬ (a = 0)) → Xp 21 d 35 ls st t g Q)) := xr_if1 (cd := .ne) (off := 13) (by decide +kernel) (by decide)
theorem x_21_35 : Xp 21 d 35 [(2, x), v1, v2, v3] st t g Q = Xp 21 d 36 [(2, x), v1, v2, v3] ((2, x) :: st) t g Q := Xp_go (i := .aload_n 0) (len := 1) (by decide +kernel) rfl
theorem x_21_36 : Xp 21 d 36 ls ((2, p) :: st) t g Q = (hkJK p = 0 ∧ jA p 6 ≤ t ∧ Xp 21 d 39 ls ((2, jR p 6) :: st) t g Q) := xr_getR (idx := 64) (ci := 0) (k := 6) (by decide +kernel) (by decide +kernel) (by decide +kernel)
theorem x_21_39 : Xp 21 d 39 ls ((2, p) :: st) t g Q = (hkJK p = 8 ∧ Xp 21 d 42 ls ((0, g p 0) :: st) t g Q) := xr_getI (idx := 231) (ci := 8) (k := 0) (by decide +kernel) (by decide +kernel) (by decide +kernel)
theorem x_21_42 : Xp 21 d 42 ls st t g Q = Xp 21 d 52 ls st t g Q := xr_goto (off := 10) (by decide +kernel) (by decide)
theorem x_21_45 : Xp 21 d 45 [(2, x), v1, v2, v3] st t g Q = Xp 21 d 46 [(2, x), v1, v2, v3] ((2, x) :: st) t g Q := Xp_go (i := .aload_n 0) (len := 1) (by decide +kernel) rfl
theorem x_21_46 : Xp 21 d 46 ls ((2, p) :: st) t g Q = (hkJK p = 0 ∧ jA p 6 ≤ t ∧ Xp 21 d 49 ls ((2, jR p 6) :: st) t g Q) := xr_getR (idx := 64) (ci := 0) (k := 6) (by decide +kernel) (by decide +kernel) (by decide +kernel)
theorem x_21_49 : Xp 21 d 49 ls ((2, p) :: st) t g Q = (hkJK p = 8 ∧ Xp 21 d 52 ls ((0, g p 1) :: st) t g Q) := xr_getI (idx := 234) (ci := 8) (k := 1) (by decide +kernel) (by decide +kernel) (by decide +kernel)
theorem x_21_52 : Xp 21 d 52 ls [(0, x)] t g Q = Q (some (0, x)) t g := xr_retI (by decide +kernel) (by decide +kernel)
-- 22: HookBoxes.chance(IIIII)I
theorem x_22_0 : Xp 22 d 0 [v0, v1, (0, x), v3, v4, v5, v6, v7] st t g Q = Xp 22 d 1 [v0, v1, (0, x), v3, v4, v5, v6, v7] ((0, x) :: st) t g Q := Xp_go (i := .iload_n 2) (len := 1) (by decide +kernel) rfl
theorem x_22_1 : Xp 22 d 1 ls st t g Q = Xp 22 d 2 ls ((0, 1) :: st) t g Q := xr_const (c := 1) (by decide +kernel) (by decide)
theorem x_22_2 : Xp 22 d 2 ls st t g Q = Xp 22 d 4 ls ((0, 20) :: st) t g Q := xr_bi (c := 20) (by decide +kernel) (by decide)
theorem x_22_4 : Xp 22 (d + 1) 4 ls ((0, a2) :: (0, a1) :: (0, a0) :: st) t g Q = (hkC8 st ∧ Xp 2 d 0 [(0, a0), (0, a1), (0, a2)] [] t g (fun r t g => Xp 22 (d + 1) 7 ls (hkPush r st) t g Q)) := xr_invS (idx := 88) (y' := 2) (tg := [0, 0, 0]) (by decide +kernel) (by decide +kernel) (by decide +kernel) rfl rfl
theorem x_22_7 : Xp 22 d 7 ls ((0, a) :: st) t g Q = ((¬ (a = 0) → Xp 22 d 35 ls st t g Q) ∧ (¬ (¬ (a = 0)) → Xp 22 d 10 ls st t g Q)) := xr_if1 (cd := .ne) (off := 28) (by decide +kernel) (by decide)
theorem x_22_10 : Xp 22 d 10 [v0, v1, v2, (0, x), v4, v5, v6, v7] st t g Q = Xp 22 d 11 [v0, v1, v2, (0, x), v4, v5, v6, v7] ((0, x) :: st) t g Q := Xp_go (i := .iload_n 3) (len := 1) (by decide +kernel) rfl
theorem x_22_11 : Xp 22 d 11 ls st t g Q = Xp 22 d 12 ls ((0, 0) :: st) t g Q := xr_const (c := 0) (by decide +kernel) (by decide)
theorem x_22_12 : Xp 22 d 12 ls st t g Q = Xp 22 d 14 ls ((0, 40) :: st) t g Q := xr_bi (c := 40) (by decide +kernel) (by decide)
theorem x_22_14 : Xp 22 (d + 1) 14 ls ((0, a2) :: (0, a1) :: (0, a0) :: st) t g Q = (hkC8 st ∧ Xp 2 d 0 [(0, a0), (0, a1), (0, a2)] [] t g (fun r t g => Xp 22 (d + 1) 17 ls (hkPush r st) t g Q)) := xr_invS (idx := 88) (y' := 2) (tg := [0, 0, 0]) (by decide +kernel) (by decide +kernel) (by decide +kernel) rfl rfl
theorem x_22_17 : Xp 22 d 17 ls ((0, a) :: st) t g Q = ((¬ (a = 0) → Xp 22 d 35 ls st t g Q) ∧ (¬ (¬ (a = 0)) → Xp 22 d 20 ls st t g Q)) := xr_if1 (cd := .ne) (off := 18) (by decide +kernel) (by decide)
theorem x_22_20 : Xp 22 d 20 [v0, v1, v2, v3, (0, x), v5, v6, v7] st t g Q = Xp 22 d 22 [v0, v1, v2, v3, (0, x), v5, v6, v7] ((0, x) :: st) t g Q := Xp_go (i := .iload 4) (len := 2) (by decide +kernel) rfl
theorem x_22_22 : Xp 22 d 22 ls ((0, a) :: st) t g Q = ((a < 0 → Xp 22 d 35 ls st t g Q) ∧ (¬ (a < 0) → Xp 22 d 25 ls st t g Q)) := xr_if1 (cd := .lt) (off := 13) (by decide +kernel) (by decide)
theorem x_22_25 : Xp 22 d 25 [v0, v1, v2, v3, v4, (0, x), v6, v7] st t g Q = Xp 22 d 27 [v0, v1, v2, v3, v4, (0, x), v6, v7] ((0, x) :: st) t g Q := Xp_go (i := .iload 5) (len := 2) (by decide +kernel) rfl
theorem x_22_27 : Xp 22 d 27 ls st t g Q = Xp 22 d 28 ls ((0, 0) :: st) t g Q := xr_const (c := 0) (by decide +kernel) (by decide)
theorem x_22_28 : Xp 22 d 28 ls st t g Q = Xp 22 d 29 ls ((0, 1) :: st) t g Q := xr_const (c := 1) (by decide +kernel) (by decide)
theorem x_22_29 : Xp 22 (d + 1) 29 ls ((0, a2) :: (0, a1) :: (0, a0) :: st) t g Q = (hkC8 st ∧ Xp 2 d 0 [(0, a0), (0, a1), (0, a2)] [] t g (fun r t g => Xp 22 (d + 1) 32 ls (hkPush r st) t g Q)) := xr_invS (idx := 88) (y' := 2) (tg := [0, 0, 0]) (by decide +kernel) (by decide +kernel) (by decide +kernel) rfl rfl
theorem x_22_32 : Xp 22 d 32 ls ((0, a) :: st) t g Q = ((a = 0 → Xp 22 d 38 ls st t g Q) ∧ (¬ (a = 0) → Xp 22 d 35 ls st t g Q)) := xr_if1 (cd := .eq) (off := 6) (by decide +kernel) (by decide)
theorem x_22_35 : Xp 22 d 35 ls st t g Q = Xp 22 d 37 ls ((0, -2) :: st) t g Q := xr_bi (c := -2) (by decide +kernel) (by decide)
theorem x_22_37 : Xp 22 d 37 ls [(0, x)] t g Q = Q (some (0, x)) t g := xr_retI (by decide +kernel) (by decide +kernel)
theorem x_22_38 : Xp 22 d 38 ls st t g Q = Xp 22 d 39 ls ((0, 0) :: st) t g Q := xr_const (c := 0) (by decide +kernel) (by decide)
theorem x_22_39 : Xp 22 d 39 [v0, v1, v2, v3, v4, v5, v6, v7] ((0, x) :: st) t g Q = (hkP1 v5 ∧ Xp 22 d 41 [v0, v1, v2, v3, v4, v5, (0, x), v7] st t g Q) := Xp_chk (i := .istore 6) (len := 2) (by decide +kernel) rfl
theorem x_22_41 : Xp 22 d 41 ls st t g Q = Xp 22 d 42 ls ((0, 0) :: st) t g Q := xr_const (c := 0) (by decide +kernel) (by decide)
theorem x_22_42 : Xp 22 d 42 [v0, v1, v2, v3, v4, v5, v6, v7] ((0, x) :: st) t g Q = (hkP1 v6 ∧ Xp 22 d 44 [v0, v1, v2, v3, v4, v5, v6, (0, x)] st t g Q) := Xp_chk (i := .istore 7) (len := 2) (by decide +kernel) rfl
theorem x_22_44 : Xp 22 d 44 [v0, v1, v2, v3, v4, v5, v6, (0, x)] st t g Q = Xp 22 d 46 [v0, v1, v2, v3, v4, v5, v6, (0, x)] ((0, x) :: st) t g Q := Xp_go (i := .iload 7) (len := 2) (by decide +kernel) rfl
theorem x_22_46 : Xp 22 d 46 [v0, v1, (0, x), v3, v4, v5, v6, v7] st t g Q = Xp 22 d 47 [v0, v1, (0, x), v3, v4, v5, v6, v7] ((0, x) :: st) t g Q := Xp_go (i := .iload_n 2) (len := 1) (by decide +kernel) rfl
theorem x_22_47 : Xp 22 d 47 ls ((0, b) :: (0, a) :: st) t g Q = ((b ≤ a → Xp 22 d 83 ls st t g Q) ∧ (¬ (b ≤ a) → Xp 22 d 50 ls st t g Q)) := xr_if2 (cd := .ge) (off := 36) (by decide +kernel) (by decide)
theorem x_22_50 : Xp 22 d 50 [(2, x), v1, v2, v3, v4, v5, v6, v7] st t g Q = Xp 22 d 51 [(2, x), v1, v2, v3, v4, v5, v6, v7] ((2, x) :: st) t g Q := Xp_go (i := .aload_n 0) (len := 1) (by decide +kernel) rfl
theorem x_22_51 : Xp 22 d 51 ls ((2, p) :: st) t g Q = (hkJK p = 0 ∧ jA p 6 ≤ t ∧ Xp 22 d 54 ls ((2, jR p 6) :: st) t g Q) := xr_getR (idx := 64) (ci := 0) (k := 6) (by decide +kernel) (by decide +kernel) (by decide +kernel)
theorem x_22_54 : Xp 22 d 54 [v0, (0, x), v2, v3, v4, v5, v6, v7] st t g Q = Xp 22 d 55 [v0, (0, x), v2, v3, v4, v5, v6, v7] ((0, x) :: st) t g Q := Xp_go (i := .iload_n 1) (len := 1) (by decide +kernel) rfl
theorem x_22_55 : Xp 22 d 55 [v0, v1, v2, v3, v4, v5, v6, (0, x)] st t g Q = Xp 22 d 57 [v0, v1, v2, v3, v4, v5, v6, (0, x)] ((0, x) :: st) t g Q := Xp_go (i := .iload 7) (len := 2) (by decide +kernel) rfl
theorem x_22_57 : Xp 22 d 57 ls ((0, b) :: (0, a) :: st) t g Q = Xp 22 d 58 ls ((0, hkW (a + b)) :: st) t g Q := Xp_go (i := .iadd) (len := 1) (by decide +kernel) rfl
theorem x_22_58 : Xp 22 d 58 [v0, v1, v2, (0, x), v4, v5, v6, v7] st t g Q = Xp 22 d 59 [v0, v1, v2, (0, x), v4, v5, v6, v7] ((0, x) :: st) t g Q := Xp_go (i := .iload_n 3) (len := 1) (by decide +kernel) rfl
theorem x_22_59 : Xp 22 (d + 1) 59 ls ((0, a2) :: (0, a1) :: (2, a0) :: st) t g Q = (hkJK a0 = 8 ∧ hkC8 st ∧ Xp 93 d 0 [(2, a0), (0, a1), (0, a2), hkU, hkU, hkU, hkU] [] t g (fun r t g => Xp 22 (d + 1) 62 ls (hkPush r st) t g Q)) := xr_invV (idx := 228) (y' := 93) (ci := 8) (tg := [2, 0, 0]) (by decide +kernel) (by decide +kernel) (by decide +kernel) (by decide +kernel) rfl rfl rfl
theorem x_22_62 : Xp 22 d 62 [(2, x), v1, v2, v3, v4, v5, v6, v7] st t g Q = Xp 22 d 63 [(2, x), v1, v2, v3, v4, v5, v6, v7] ((2, x) :: st) t g Q := Xp_go (i := .aload_n 0) (len := 1) (by decide +kernel) rfl
theorem x_22_63 : Xp 22 d 63 ls ((2, p) :: st) t g Q = (hkJK p = 0 ∧ jA p 6 ≤ t ∧ Xp 22 d 66 ls ((2, jR p 6) :: st) t g Q) := xr_getR (idx := 64) (ci := 0) (k := 6) (by decide +kernel) (by decide +kernel) (by decide +kernel)
theorem x_22_66 : Xp 22 d 66 ls ((2, p) :: st) t g Q = (hkJK p = 8 ∧ Xp 22 d 69 ls ((0, g p 1) :: st) t g Q) := xr_getI (idx := 234) (ci := 8) (k := 1) (by decide +kernel) (by decide +kernel) (by decide +kernel)
theorem x_22_69 : Xp 22 d 69 [v0, v1, v2, v3, (0, x), v5, v6, v7] st t g Q = Xp 22 d 71 [v0, v1, v2, v3, (0, x), v5, v6, v7] ((0, x) :: st) t g Q := Xp_go (i := .iload 4) (len := 2) (by decide +kernel) rfl
theorem x_22_71 : Xp 22 d 71 ls ((0, b) :: (0, a) :: st) t g Q = ((a < b → Xp 22 d 77 ls st t g Q) ∧ (¬ (a < b) → Xp 22 d 74 ls st t g Q)) := xr_if2 (cd := .lt) (off := 6) (by decide +kernel) (by decide)
theorem x_22_74 : Xp 22 d 74 [v0, v1, v2, v3, v4, v5, (0, x), v7] st t g Q = (hkP1 v5 ∧ Xp 22 d 77 [v0, v1, v2, v3, v4, v5, (0, hkW (x + 1)), v7] st t g Q) := Xp_chk (i := .iinc 6 (1)) (len := 3) (by decide +kernel) rfl
theorem x_22_77 : Xp 22 d 77 [v0, v1, v2, v3, v4, v5, v6, (0, x)] st t g Q = (hkP1 v6 ∧ Xp 22 d 80 [v0, v1, v2, v3, v4, v5, v6, (0, hkW (x + 1))] st t g Q) := Xp_chk (i := .iinc 7 (1)) (len := 3) (by decide +kernel) rfl
theorem x_22_80 : Xp 22 d 80 ls st t g Q = Xp 22 d 44 ls st t g Q := xr_goto (off := -36) (by decide +kernel) (by decide)
theorem x_22_83 : Xp 22 d 83 [v0, v1, v2, v3, v4, v5, (0, x), v7] st t g Q = Xp 22 d 85 [v0, v1, v2, v3, v4, v5, (0, x), v7] ((0, x) :: st) t g Q := Xp_go (i := .iload 6) (len := 2) (by decide +kernel) rfl
theorem x_22_85 : Xp 22 d 85 [v0, v1, (0, x), v3, v4, v5, v6, v7] st t g Q = Xp 22 d 86 [v0, v1, (0, x), v3, v4, v5, v6, v7] ((0, x) :: st) t g Q := Xp_go (i := .iload_n 2) (len := 1) (by decide +kernel) rfl
theorem x_22_86 : Xp 22 (d + 1) 86 ls ((0, a1) :: (0, a0) :: st) t g Q = (hkC8 st ∧ Xp 23 d 0 [(0, a0), (0, a1), hkU, hkU, hkU, hkU] [] t g (fun r t g => Xp 22 (d + 1) 89 ls (hkPush r st) t g Q)) := xr_invS (idx := 235) (y' := 23) (tg := [0, 0]) (by decide +kernel) (by decide +kernel) (by decide +kernel) rfl rfl
theorem x_22_89 : Xp 22 d 89 [v0, v1, v2, v3, v4, v5, v6, v7] ((0, x) :: st) t g Q = (hkP1 v6 ∧ Xp 22 d 91 [v0, v1, v2, v3, v4, v5, v6, (0, x)] st t g Q) := Xp_chk (i := .istore 7) (len := 2) (by decide +kernel) rfl
theorem x_22_91 : Xp 22 d 91 [v0, v1, v2, v3, v4, (0, x), v6, v7] st t g Q = Xp 22 d 93 [v0, v1, v2, v3, v4, (0, x), v6, v7] ((0, x) :: st) t g Q := Xp_go (i := .iload 5) (len := 2) (by decide +kernel) rfl
theorem x_22_93 : Xp 22 d 93 ls ((0, a) :: st) t g Q = ((¬ (a = 0) → Xp 22 d 101 ls st t g Q) ∧ (¬ (¬ (a = 0)) → Xp 22 d 96 ls st t g Q)) := xr_if1 (cd := .ne) (off := 8) (by decide +kernel) (by decide)
theorem x_22_96 : Xp 22 d 96 [v0, v1, v2, v3, v4, v5, (0, x), v7] st t g Q = Xp 22 d 98 [v0, v1, v2, v3, v4, v5, (0, x), v7] ((0, x) :: st) t g Q := Xp_go (i := .iload 6) (len := 2) (by decide +kernel) rfl
theorem x_22_98 : Xp 22 d 98 ls st t g Q = Xp 22 d 102 ls st t g Q := xr_goto (off := 4) (by decide +kernel) (by decide)
theorem x_22_101 : Xp 22 d 101 [v0, v1, (0, x), v3, v4, v5, v6, v7] st t g Q = Xp 22 d 102 [v0, v1, (0, x), v3, v4, v5, v6, v7] ((0, x) :: st) t g Q := Xp_go (i := .iload_n 2) (len := 1) (by decide +kernel) rfl
theorem x_22_102 : Xp 22 d 102 [v0, v1, v2, v3, v4, v5, v6, (0, x)] st t g Q = Xp 22 d 104 [v0, v1, v2, v3, v4, v5, v6, (0, x)] ((0, x) :: st) t g Q := Xp_go (i := .iload 7) (len := 2) (by decide +kernel) rfl
theorem x_22_104 : Xp 22 d 104 ls st t g Q = Xp 22 d 105 ls ((0, 1) :: st) t g Q := xr_const (c := 1) (by decide +kernel) (by decide)
theorem x_22_105 : Xp 22 (d + 1) 105 ls ((0, a1) :: (0, a0) :: st) t g Q = (hkC8 st ∧ Xp 175 d 0 [(0, a0), (0, a1)] [] t g (fun r t g => Xp 22 (d + 1) 108 ls (hkPush r st) t g Q)) := xr_invS (idx := 152) (y' := 175) (tg := [0, 0]) (by decide +kernel) (by decide +kernel) (by decide +kernel) rfl rfl
theorem x_22_108 : Xp 22 d 108 ls ((0, b) :: (0, a) :: st) t g Q = (b ≠ 0 ∧ Xp 22 d 109 ls ((0, hkW (a.tdiv b)) :: st) t g Q) := Xp_chk (i := .idiv) (len := 1) (by decide +kernel) rfl
theorem x_22_109 : Xp 22 d 109 ls [(0, x)] t g Q = Q (some (0, x)) t g := xr_retI (by decide +kernel) (by decide +kernel)
-- 23: HookBoxes.commonDivisor(II)I
theorem x_23_0 : Xp 23 d 0 [v0, (0, x), v2, v3, v4, v5] st t g Q = Xp 23 d 1 [v0, (0, x), v2, v3, v4, v5] ((0, x) :: st) t g Q := Xp_go (i := .iload_n 1) (len := 1) (by decide +kernel) rfl
theorem x_23_1 : Xp 23 d 1 [v0, v1, v2, v3, v4, v5] ((0, x) :: st) t g Q = (hkP1 v1 ∧ Xp 23 d 2 [v0, v1, (0, x), v3, v4, v5] st t g Q) := Xp_chk (i := .istore_n 2) (len := 1) (by decide +kernel) rfl
theorem x_23_2 : Xp 23 d 2 [(0, x), v1, v2, v3, v4, v5] st t g Q = Xp 23 d 3 [(0, x), v1, v2, v3, v4, v5] ((0, x) :: st) t g Q := Xp_go (i := .iload_n 0) (len := 1) (by decide +kernel) rfl
theorem x_23_3 : Xp 23 d 3 [v0, v1, v2, v3, v4, v5] ((0, x) :: st) t g Q = (hkP1 v2 ∧ Xp 23 d 4 [v0, v1, v2, (0, x), v4, v5] st t g Q) := Xp_chk (i := .istore_n 3) (len := 1) (by decide +kernel) rfl
theorem x_23_4 : Xp 23 d 4 ls st t g Q = Xp 23 d 5 ls ((0, 0) :: st) t g Q := xr_const (c := 0) (by decide +kernel) (by decide)
theorem x_23_5 : Xp 23 d 5 [v0, v1, v2, v3, v4, v5] ((0, x) :: st) t g Q = (hkP1 v3 ∧ Xp 23 d 7 [v0, v1, v2, v3, (0, x), v5] st t g Q) := Xp_chk (i := .istore 4) (len := 2) (by decide +kernel) rfl
theorem x_23_7 : Xp 23 d 7 [v0, v1, v2, v3, (0, x), v5] st t g Q = Xp 23 d 9 [v0, v1, v2, v3, (0, x), v5] ((0, x) :: st) t g Q := Xp_go (i := .iload 4) (len := 2) (by decide +kernel) rfl
theorem x_23_9 : Xp 23 d 9 ls st t g Q = Xp 23 d 11 ls ((0, 100) :: st) t g Q := xr_bi (c := 100) (by decide +kernel) (by decide)
theorem x_23_11 : Xp 23 d 11 ls ((0, b) :: (0, a) :: st) t g Q = ((b ≤ a → Xp 23 d 34 ls st t g Q) ∧ (¬ (b ≤ a) → Xp 23 d 14 ls st t g Q)) := xr_if2 (cd := .ge) (off := 23) (by decide +kernel) (by decide)
theorem x_23_14 : Xp 23 d 14 [v0, v1, v2, (0, x), v4, v5] st t g Q = Xp 23 d 15 [v0, v1, v2, (0, x), v4, v5] ((0, x) :: st) t g Q := Xp_go (i := .iload_n 3) (len := 1) (by decide +kernel) rfl
theorem x_23_15 : Xp 23 d 15 ls ((0, a) :: st) t g Q = ((a = 0 → Xp 23 d 34 ls st t g Q) ∧ (¬ (a = 0) → Xp 23 d 18 ls st t g Q)) := xr_if1 (cd := .eq) (off := 19) (by decide +kernel) (by decide)
theorem x_23_18 : Xp 23 d 18 [v0, v1, (0, x), v3, v4, v5] st t g Q = Xp 23 d 19 [v0, v1, (0, x), v3, v4, v5] ((0, x) :: st) t g Q := Xp_go (i := .iload_n 2) (len := 1) (by decide +kernel) rfl
theorem x_23_19 : Xp 23 d 19 [v0, v1, v2, (0, x), v4, v5] st t g Q = Xp 23 d 20 [v0, v1, v2, (0, x), v4, v5] ((0, x) :: st) t g Q := Xp_go (i := .iload_n 3) (len := 1) (by decide +kernel) rfl
theorem x_23_20 : Xp 23 d 20 ls ((0, b) :: (0, a) :: st) t g Q = (b ≠ 0 ∧ Xp 23 d 21 ls ((0, a.tmod b) :: st) t g Q) := Xp_chk (i := .irem) (len := 1) (by decide +kernel) rfl
theorem x_23_21 : Xp 23 d 21 [v0, v1, v2, v3, v4, v5] ((0, x) :: st) t g Q = (hkP1 v4 ∧ Xp 23 d 23 [v0, v1, v2, v3, v4, (0, x)] st t g Q) := Xp_chk (i := .istore 5) (len := 2) (by decide +kernel) rfl
theorem x_23_23 : Xp 23 d 23 [v0, v1, v2, (0, x), v4, v5] st t g Q = Xp 23 d 24 [v0, v1, v2, (0, x), v4, v5] ((0, x) :: st) t g Q := Xp_go (i := .iload_n 3) (len := 1) (by decide +kernel) rfl
theorem x_23_24 : Xp 23 d 24 [v0, v1, v2, v3, v4, v5] ((0, x) :: st) t g Q = (hkP1 v1 ∧ Xp 23 d 25 [v0, v1, (0, x), v3, v4, v5] st t g Q) := Xp_chk (i := .istore_n 2) (len := 1) (by decide +kernel) rfl
theorem x_23_25 : Xp 23 d 25 [v0, v1, v2, v3, v4, (0, x)] st t g Q = Xp 23 d 27 [v0, v1, v2, v3, v4, (0, x)] ((0, x) :: st) t g Q := Xp_go (i := .iload 5) (len := 2) (by decide +kernel) rfl
theorem x_23_27 : Xp 23 d 27 [v0, v1, v2, v3, v4, v5] ((0, x) :: st) t g Q = (hkP1 v2 ∧ Xp 23 d 28 [v0, v1, v2, (0, x), v4, v5] st t g Q) := Xp_chk (i := .istore_n 3) (len := 1) (by decide +kernel) rfl
theorem x_23_28 : Xp 23 d 28 [v0, v1, v2, v3, (0, x), v5] st t g Q = (hkP1 v3 ∧ Xp 23 d 31 [v0, v1, v2, v3, (0, hkW (x + 1)), v5] st t g Q) := Xp_chk (i := .iinc 4 (1)) (len := 3) (by decide +kernel) rfl
theorem x_23_31 : Xp 23 d 31 ls st t g Q = Xp 23 d 7 ls st t g Q := xr_goto (off := -24) (by decide +kernel) (by decide)
theorem x_23_34 : Xp 23 d 34 [v0, v1, (0, x), v3, v4, v5] st t g Q = Xp 23 d 35 [v0, v1, (0, x), v3, v4, v5] ((0, x) :: st) t g Q := Xp_go (i := .iload_n 2) (len := 1) (by decide +kernel) rfl
theorem x_23_35 : Xp 23 d 35 ls [(0, x)] t g Q = Q (some (0, x)) t g := xr_retI (by decide +kernel) (by decide +kernel)
-- 24: HookBoxes.tells(III)I
theorem x_24_0 : Xp 24 d 0 [v0, (0, x), v2, v3, v4, v5] st t g Q = Xp 24 d 1 [v0, (0, x), v2, v3, v4, v5] ((0, x) :: st) t g Q := Xp_go (i := .iload_n 1) (len := 1) (by decide +kernel) rfl
theorem x_24_1 : Xp 24 (d + 1) 1 ls ((0, a0) :: st) t g Q = (hkC8 st ∧ Xp 12 d 0 [(0, a0)] [] t g (fun r t g => Xp 24 (d + 1) 4 ls (hkPush r st) t g Q)) := xr_invS (idx := 155) (y' := 12) (tg := [0]) (by decide +kernel) (by decide +kernel) (by decide +kernel) rfl rfl
theorem x_24_4 : Xp 24 d 4 ls ((0, a) :: st) t g Q = ((¬ (a = 0) → Xp 24 d 29 ls st t g Q) ∧ (¬ (¬ (a = 0)) → Xp 24 d 7 ls st t g Q)) := xr_if1 (cd := .ne) (off := 25) (by decide +kernel) (by decide)
theorem x_24_7 : Xp 24 d 7 [(2, x), v1, v2, v3, v4, v5] st t g Q = Xp 24 d 8 [(2, x), v1, v2, v3, v4, v5] ((2, x) :: st) t g Q := Xp_go (i := .aload_n 0) (len := 1) (by decide +kernel) rfl
theorem x_24_8 : Xp 24 d 8 ls ((2, p) :: st) t g Q = (hkJK p = 0 ∧ jA p 0 ≤ t ∧ Xp 24 d 11 ls ((2, jR p 0) :: st) t g Q) := xr_getR (idx := 14) (ci := 0) (k := 0) (by decide +kernel) (by decide +kernel) (by decide +kernel)
theorem x_24_11 : Xp 24 d 11 [v0, v1, (0, x), v3, v4, v5] st t g Q = Xp 24 d 12 [v0, v1, (0, x), v3, v4, v5] ((0, x) :: st) t g Q := Xp_go (i := .iload_n 2) (len := 1) (by decide +kernel) rfl
theorem x_24_12 : Xp 24 (d + 1) 12 ls ((0, a1) :: (2, a0) :: st) t g Q = (hkJK a0 = 1 ∧ hkC8 st ∧ Xp 39 d 0 [(2, a0), (0, a1)] [] t g (fun r t g => Xp 24 (d + 1) 15 ls (hkPush r st) t g Q)) := xr_invV (idx := 103) (y' := 39) (ci := 1) (tg := [2, 0]) (by decide +kernel) (by decide +kernel) (by decide +kernel) (by decide +kernel) rfl rfl rfl
theorem x_24_15 : Xp 24 d 15 ls ((0, a) :: st) t g Q = ((a = 0 → Xp 24 d 29 ls st t g Q) ∧ (¬ (a = 0) → Xp 24 d 18 ls st t g Q)) := xr_if1 (cd := .eq) (off := 14) (by decide +kernel) (by decide)
theorem x_24_18 : Xp 24 d 18 [(2, x), v1, v2, v3, v4, v5] st t g Q = Xp 24 d 19 [(2, x), v1, v2, v3, v4, v5] ((2, x) :: st) t g Q := Xp_go (i := .aload_n 0) (len := 1) (by decide +kernel) rfl
theorem x_24_19 : Xp 24 d 19 ls ((2, p) :: st) t g Q = (hkJK p = 0 ∧ jA p 0 ≤ t ∧ Xp 24 d 22 ls ((2, jR p 0) :: st) t g Q) := xr_getR (idx := 14) (ci := 0) (k := 0) (by decide +kernel) (by decide +kernel) (by decide +kernel)
theorem x_24_22 : Xp 24 d 22 [v0, v1, v2, (0, x), v4, v5] st t g Q = Xp 24 d 23 [v0, v1, v2, (0, x), v4, v5] ((0, x) :: st) t g Q := Xp_go (i := .iload_n 3) (len := 1) (by decide +kernel) rfl
theorem x_24_23 : Xp 24 (d + 1) 23 ls ((0, a1) :: (2, a0) :: st) t g Q = (hkJK a0 = 1 ∧ hkC8 st ∧ Xp 39 d 0 [(2, a0), (0, a1)] [] t g (fun r t g => Xp 24 (d + 1) 26 ls (hkPush r st) t g Q)) := xr_invV (idx := 103) (y' := 39) (ci := 1) (tg := [2, 0]) (by decide +kernel) (by decide +kernel) (by decide +kernel) (by decide +kernel) rfl rfl rfl
theorem x_24_26 : Xp 24 d 26 ls ((0, a) :: st) t g Q = ((¬ (a = 0) → Xp 24 d 32 ls st t g Q) ∧ (¬ (¬ (a = 0)) → Xp 24 d 29 ls st t g Q)) := xr_if1 (cd := .ne) (off := 6) (by decide +kernel) (by decide)
theorem x_24_29 : Xp 24 d 29 ls st t g Q = Xp 24 d 31 ls ((0, -2) :: st) t g Q := xr_bi (c := -2) (by decide +kernel) (by decide)
theorem x_24_31 : Xp 24 d 31 ls [(0, x)] t g Q = Q (some (0, x)) t g := xr_retI (by decide +kernel) (by decide +kernel)
theorem x_24_32 : Xp 24 d 32 [(2, x), v1, v2, v3, v4, v5] st t g Q = Xp 24 d 33 [(2, x), v1, v2, v3, v4, v5] ((2, x) :: st) t g Q := Xp_go (i := .aload_n 0) (len := 1) (by decide +kernel) rfl
theorem x_24_33 : Xp 24 d 33 ls ((2, p) :: st) t g Q = (hkJK p = 0 ∧ jA p 12 ≤ t ∧ Xp 24 d 36 ls ((2, jR p 12) :: st) t g Q) := xr_getR (idx := 83) (ci := 0) (k := 12) (by decide +kernel) (by decide +kernel) (by decide +kernel)
theorem x_24_36 : Xp 24 d 36 [v0, (0, x), v2, v3, v4, v5] st t g Q = Xp 24 d 37 [v0, (0, x), v2, v3, v4, v5] ((0, x) :: st) t g Q := Xp_go (i := .iload_n 1) (len := 1) (by decide +kernel) rfl
theorem x_24_37 : Xp 24 d 37 ls ((0, a) :: (2, p) :: st) t g Q = ((103 ≤ hkJK p ∧ hkJK p ≤ 104 ∧ 0 ≤ a ∧ a < jL p ∧ jAi p a ≤ t) ∧ Xp 24 d 38 ls ((2, jRi p a) :: st) t g Q) := Xp_chk (i := .aaload) (len := 1) (by decide +kernel) rfl
theorem x_24_38 : Xp 24 d 38 [v0, v1, v2, v3, v4, v5] ((2, x) :: st) t g Q = (hkP1 v3 ∧ Xp 24 d 40 [v0, v1, v2, v3, (2, x), v5] st t g Q) := Xp_chk (i := .astore 4) (len := 2) (by decide +kernel) rfl
theorem x_24_40 : Xp 24 d 40 [v0, v1, v2, v3, (2, x), v5] st t g Q = Xp 24 d 42 [v0, v1, v2, v3, (2, x), v5] ((2, x) :: st) t g Q := Xp_go (i := .aload 4) (len := 2) (by decide +kernel) rfl
theorem x_24_42 : Xp 24 (d + 1) 42 ls ((2, a0) :: st) t g Q = (hkJK a0 = 9 ∧ hkC8 st ∧ Xp 95 d 0 [(2, a0)] [] t g (fun r t g => Xp 24 (d + 1) 45 ls (hkPush r st) t g Q)) := xr_invV (idx := 158) (y' := 95) (ci := 9) (tg := [2]) (by decide +kernel) (by decide +kernel) (by decide +kernel) (by decide +kernel) rfl rfl rfl
theorem x_24_45 : Xp 24 d 45 ls ((0, a) :: st) t g Q = ((a = 0 → Xp 24 d 51 ls st t g Q) ∧ (¬ (a = 0) → Xp 24 d 48 ls st t g Q)) := xr_if1 (cd := .eq) (off := 6) (by decide +kernel) (by decide)
theorem x_24_48 : Xp 24 d 48 ls st t g Q = Xp 24 d 50 ls ((0, -11) :: st) t g Q := xr_bi (c := -11) (by decide +kernel) (by decide)
theorem x_24_50 : Xp 24 d 50 ls [(0, x)] t g Q = Q (some (0, x)) t g := xr_retI (by decide +kernel) (by decide +kernel)
theorem x_24_51 : Xp 24 d 51 ls st t g Q = Xp 24 d 52 ls ((0, 0) :: st) t g Q := xr_const (c := 0) (by decide +kernel) (by decide)
theorem x_24_52 : Xp 24 d 52 [v0, v1, v2, v3, v4, v5] ((0, x) :: st) t g Q = (hkP1 v4 ∧ Xp 24 d 54 [v0, v1, v2, v3, v4, (0, x)] st t g Q) := Xp_chk (i := .istore 5) (len := 2) (by decide +kernel) rfl
theorem x_24_54 : Xp 24 d 54 [v0, v1, v2, v3, v4, (0, x)] st t g Q = Xp 24 d 56 [v0, v1, v2, v3, v4, (0, x)] ((0, x) :: st) t g Q := Xp_go (i := .iload 5) (len := 2) (by decide +kernel) rfl
theorem x_24_56 : Xp 24 d 56 [v0, v1, v2, v3, (2, x), v5] st t g Q = Xp 24 d 58 [v0, v1, v2, v3, (2, x), v5] ((2, x) :: st) t g Q := Xp_go (i := .aload 4) (len := 2) (by decide +kernel) rfl
theorem x_24_58 : Xp 24 d 58 ls ((2, p) :: st) t g Q = (hkJK p = 9 ∧ Xp 24 d 61 ls ((0, g p 1) :: st) t g Q) := xr_getI (idx := 162) (ci := 9) (k := 1) (by decide +kernel) (by decide +kernel) (by decide +kernel)
theorem x_24_61 : Xp 24 d 61 ls ((0, b) :: (0, a) :: st) t g Q = ((b ≤ a → Xp 24 d 107 ls st t g Q) ∧ (¬ (b ≤ a) → Xp 24 d 64 ls st t g Q)) := xr_if2 (cd := .ge) (off := 46) (by decide +kernel) (by decide)
theorem x_24_64 : Xp 24 d 64 [(2, x), v1, v2, v3, v4, v5] st t g Q = Xp 24 d 65 [(2, x), v1, v2, v3, v4, v5] ((2, x) :: st) t g Q := Xp_go (i := .aload_n 0) (len := 1) (by decide +kernel) rfl
theorem x_24_65 : Xp 24 d 65 ls ((2, p) :: st) t g Q = (hkJK p = 0 ∧ jA p 0 ≤ t ∧ Xp 24 d 68 ls ((2, jR p 0) :: st) t g Q) := xr_getR (idx := 14) (ci := 0) (k := 0) (by decide +kernel) (by decide +kernel) (by decide +kernel)
theorem x_24_68 : Xp 24 d 68 [v0, v1, v2, v3, v4, (0, x)] st t g Q = Xp 24 d 70 [v0, v1, v2, v3, v4, (0, x)] ((0, x) :: st) t g Q := Xp_go (i := .iload 5) (len := 2) (by decide +kernel) rfl
theorem x_24_70 : Xp 24 (d + 1) 70 ls ((0, a1) :: (2, a0) :: st) t g Q = (hkJK a0 = 1 ∧ hkC8 st ∧ Xp 39 d 0 [(2, a0), (0, a1)] [] t g (fun r t g => Xp 24 (d + 1) 73 ls (hkPush r st) t g Q)) := xr_invV (idx := 103) (y' := 39) (ci := 1) (tg := [2, 0]) (by decide +kernel) (by decide +kernel) (by decide +kernel) (by decide +kernel) rfl rfl rfl
theorem x_24_73 : Xp 24 d 73 ls ((0, a) :: st) t g Q = ((a = 0 → Xp 24 d 98 ls st t g Q) ∧ (¬ (a = 0) → Xp 24 d 76 ls st t g Q)) := xr_if1 (cd := .eq) (off := 25) (by decide +kernel) (by decide)
theorem x_24_76 : Xp 24 d 76 [v0, v1, v2, v3, (2, x), v5] st t g Q = Xp 24 d 78 [v0, v1, v2, v3, (2, x), v5] ((2, x) :: st) t g Q := Xp_go (i := .aload 4) (len := 2) (by decide +kernel) rfl
theorem x_24_78 : Xp 24 d 78 ls ((2, p) :: st) t g Q = (hkJK p = 9 ∧ jA p 2 ≤ t ∧ Xp 24 d 81 ls ((2, jR p 2) :: st) t g Q) := xr_getR (idx := 168) (ci := 9) (k := 2) (by decide +kernel) (by decide +kernel) (by decide +kernel)
theorem x_24_81 : Xp 24 d 81 [v0, v1, v2, v3, v4, (0, x)] st t g Q = Xp 24 d 83 [v0, v1, v2, v3, v4, (0, x)] ((0, x) :: st) t g Q := Xp_go (i := .iload 5) (len := 2) (by decide +kernel) rfl
theorem x_24_83 : Xp 24 d 83 ls ((0, a) :: (2, p) :: st) t g Q = ((hkJK p = 100 ∧ 0 ≤ a ∧ a < jL p) ∧ Xp 24 d 84 ls ((0, g p a) :: st) t g Q) := Xp_chk (i := .iaload) (len := 1) (by decide +kernel) rfl
theorem x_24_84 : Xp 24 d 84 [(2, x), v1, v2, v3, v4, v5] st t g Q = Xp 24 d 85 [(2, x), v1, v2, v3, v4, v5] ((2, x) :: st) t g Q := Xp_go (i := .aload_n 0) (len := 1) (by decide +kernel) rfl
theorem x_24_85 : Xp 24 d 85 ls ((2, p) :: st) t g Q = (hkJK p = 0 ∧ jA p 2 ≤ t ∧ Xp 24 d 88 ls ((2, jR p 2) :: st) t g Q) := xr_getR (idx := 32) (ci := 0) (k := 2) (by decide +kernel) (by decide +kernel) (by decide +kernel)
theorem x_24_88 : Xp 24 d 88 [v0, v1, (0, x), v3, v4, v5] st t g Q = Xp 24 d 89 [v0, v1, (0, x), v3, v4, v5] ((0, x) :: st) t g Q := Xp_go (i := .iload_n 2) (len := 1) (by decide +kernel) rfl
theorem x_24_89 : Xp 24 d 89 [v0, v1, v2, (0, x), v4, v5] st t g Q = Xp 24 d 90 [v0, v1, v2, (0, x), v4, v5] ((0, x) :: st) t g Q := Xp_go (i := .iload_n 3) (len := 1) (by decide +kernel) rfl
theorem x_24_90 : Xp 24 d 90 [v0, v1, v2, v3, v4, (0, x)] st t g Q = Xp 24 d 92 [v0, v1, v2, v3, v4, (0, x)] ((0, x) :: st) t g Q := Xp_go (i := .iload 5) (len := 2) (by decide +kernel) rfl
theorem x_24_92 : Xp 24 (d + 1) 92 ls ((0, a3) :: (0, a2) :: (0, a1) :: (2, a0) :: st) t g Q = (hkJK a0 = 3 ∧ hkC8 st ∧ Xp 53 d 0 [(2, a0), (0, a1), (0, a2), (0, a3)] [] t g (fun r t g => Xp 24 (d + 1) 95 ls (hkPush r st) t g Q)) := xr_invV (idx := 139) (y' := 53) (ci := 3) (tg := [2, 0, 0, 0]) (by decide +kernel) (by decide +kernel) (by decide +kernel) (by decide +kernel) rfl rfl rfl
theorem x_24_95 : Xp 24 d 95 ls ((0, b) :: (0, a) :: st) t g Q = ((a = b → Xp 24 d 101 ls st t g Q) ∧ (¬ (a = b) → Xp 24 d 98 ls st t g Q)) := xr_if2 (cd := .eq) (off := 6) (by decide +kernel) (by decide)
theorem x_24_98 : Xp 24 d 98 [v0, v1, v2, v3, v4, (0, x)] st t g Q = Xp 24 d 100 [v0, v1, v2, v3, v4, (0, x)] ((0, x) :: st) t g Q := Xp_go (i := .iload 5) (len := 2) (by decide +kernel) rfl
theorem x_24_100 : Xp 24 d 100 ls [(0, x)] t g Q = Q (some (0, x)) t g := xr_retI (by decide +kernel) (by decide +kernel)
theorem x_24_101 : Xp 24 d 101 [v0, v1, v2, v3, v4, (0, x)] st t g Q = (hkP1 v4 ∧ Xp 24 d 104 [v0, v1, v2, v3, v4, (0, hkW (x + 1))] st t g Q) := Xp_chk (i := .iinc 5 (1)) (len := 3) (by decide +kernel) rfl
theorem x_24_104 : Xp 24 d 104 ls st t g Q = Xp 24 d 54 ls st t g Q := xr_goto (off := -50) (by decide +kernel) (by decide)
theorem x_24_107 : Xp 24 d 107 ls st t g Q = Xp 24 d 108 ls ((0, -1) :: st) t g Q := xr_const (c := -1) (by decide +kernel) (by decide)
theorem x_24_108 : Xp 24 d 108 ls [(0, x)] t g Q = Q (some (0, x)) t g := xr_retI (by decide +kernel) (by decide +kernel)
-- 25: HookBoxes.film(III)I
theorem x_25_0 : Xp 25 d 0 [v0, (0, x), v2, v3, v4, v5] st t g Q = Xp 25 d 1 [v0, (0, x), v2, v3, v4, v5] ((0, x) :: st) t g Q := Xp_go (i := .iload_n 1) (len := 1) (by decide +kernel) rfl
theorem x_25_1 : Xp 25 (d + 1) 1 ls ((0, a0) :: st) t g Q = (hkC8 st ∧ Xp 12 d 0 [(0, a0)] [] t g (fun r t g => Xp 25 (d + 1) 4 ls (hkPush r st) t g Q)) := xr_invS (idx := 155) (y' := 12) (tg := [0]) (by decide +kernel) (by decide +kernel) (by decide +kernel) rfl rfl
theorem x_25_4 : Xp 25 d 4 ls ((0, a) :: st) t g Q = ((¬ (a = 0) → Xp 25 d 29 ls st t g Q) ∧ (¬ (¬ (a = 0)) → Xp 25 d 7 ls st t g Q)) := xr_if1 (cd := .ne) (off := 25) (by decide +kernel) (by decide)
theorem x_25_7 : Xp 25 d 7 [(2, x), v1, v2, v3, v4, v5] st t g Q = Xp 25 d 8 [(2, x), v1, v2, v3, v4, v5] ((2, x) :: st) t g Q := Xp_go (i := .aload_n 0) (len := 1) (by decide +kernel) rfl
theorem x_25_8 : Xp 25 d 8 ls ((2, p) :: st) t g Q = (hkJK p = 0 ∧ jA p 0 ≤ t ∧ Xp 25 d 11 ls ((2, jR p 0) :: st) t g Q) := xr_getR (idx := 14) (ci := 0) (k := 0) (by decide +kernel) (by decide +kernel) (by decide +kernel)
theorem x_25_11 : Xp 25 d 11 [v0, v1, (0, x), v3, v4, v5] st t g Q = Xp 25 d 12 [v0, v1, (0, x), v3, v4, v5] ((0, x) :: st) t g Q := Xp_go (i := .iload_n 2) (len := 1) (by decide +kernel) rfl
theorem x_25_12 : Xp 25 (d + 1) 12 ls ((0, a1) :: (2, a0) :: st) t g Q = (hkJK a0 = 1 ∧ hkC8 st ∧ Xp 39 d 0 [(2, a0), (0, a1)] [] t g (fun r t g => Xp 25 (d + 1) 15 ls (hkPush r st) t g Q)) := xr_invV (idx := 103) (y' := 39) (ci := 1) (tg := [2, 0]) (by decide +kernel) (by decide +kernel) (by decide +kernel) (by decide +kernel) rfl rfl rfl
theorem x_25_15 : Xp 25 d 15 ls ((0, a) :: st) t g Q = ((a = 0 → Xp 25 d 29 ls st t g Q) ∧ (¬ (a = 0) → Xp 25 d 18 ls st t g Q)) := xr_if1 (cd := .eq) (off := 14) (by decide +kernel) (by decide)
theorem x_25_18 : Xp 25 d 18 [(2, x), v1, v2, v3, v4, v5] st t g Q = Xp 25 d 19 [(2, x), v1, v2, v3, v4, v5] ((2, x) :: st) t g Q := Xp_go (i := .aload_n 0) (len := 1) (by decide +kernel) rfl
theorem x_25_19 : Xp 25 d 19 ls ((2, p) :: st) t g Q = (hkJK p = 0 ∧ jA p 0 ≤ t ∧ Xp 25 d 22 ls ((2, jR p 0) :: st) t g Q) := xr_getR (idx := 14) (ci := 0) (k := 0) (by decide +kernel) (by decide +kernel) (by decide +kernel)
theorem x_25_22 : Xp 25 d 22 [v0, v1, v2, (0, x), v4, v5] st t g Q = Xp 25 d 23 [v0, v1, v2, (0, x), v4, v5] ((0, x) :: st) t g Q := Xp_go (i := .iload_n 3) (len := 1) (by decide +kernel) rfl
theorem x_25_23 : Xp 25 (d + 1) 23 ls ((0, a1) :: (2, a0) :: st) t g Q = (hkJK a0 = 1 ∧ hkC8 st ∧ Xp 39 d 0 [(2, a0), (0, a1)] [] t g (fun r t g => Xp 25 (d + 1) 26 ls (hkPush r st) t g Q)) := xr_invV (idx := 103) (y' := 39) (ci := 1) (tg := [2, 0]) (by decide +kernel) (by decide +kernel) (by decide +kernel) (by decide +kernel) rfl rfl rfl
theorem x_25_26 : Xp 25 d 26 ls ((0, a) :: st) t g Q = ((¬ (a = 0) → Xp 25 d 32 ls st t g Q) ∧ (¬ (¬ (a = 0)) → Xp 25 d 29 ls st t g Q)) := xr_if1 (cd := .ne) (off := 6) (by decide +kernel) (by decide)
theorem x_25_29 : Xp 25 d 29 ls st t g Q = Xp 25 d 31 ls ((0, -2) :: st) t g Q := xr_bi (c := -2) (by decide +kernel) (by decide)
theorem x_25_31 : Xp 25 d 31 ls [(0, x)] t g Q = Q (some (0, x)) t g := xr_retI (by decide +kernel) (by decide +kernel)
theorem x_25_32 : Xp 25 d 32 [(2, x), v1, v2, v3, v4, v5] st t g Q = Xp 25 d 33 [(2, x), v1, v2, v3, v4, v5] ((2, x) :: st) t g Q := Xp_go (i := .aload_n 0) (len := 1) (by decide +kernel) rfl
theorem x_25_33 : Xp 25 d 33 ls ((2, p) :: st) t g Q = (hkJK p = 0 ∧ jA p 12 ≤ t ∧ Xp 25 d 36 ls ((2, jR p 12) :: st) t g Q) := xr_getR (idx := 83) (ci := 0) (k := 12) (by decide +kernel) (by decide +kernel) (by decide +kernel)
theorem x_25_36 : Xp 25 d 36 [v0, (0, x), v2, v3, v4, v5] st t g Q = Xp 25 d 37 [v0, (0, x), v2, v3, v4, v5] ((0, x) :: st) t g Q := Xp_go (i := .iload_n 1) (len := 1) (by decide +kernel) rfl
theorem x_25_37 : Xp 25 d 37 ls ((0, a) :: (2, p) :: st) t g Q = ((103 ≤ hkJK p ∧ hkJK p ≤ 104 ∧ 0 ≤ a ∧ a < jL p ∧ jAi p a ≤ t) ∧ Xp 25 d 38 ls ((2, jRi p a) :: st) t g Q) := Xp_chk (i := .aaload) (len := 1) (by decide +kernel) rfl
theorem x_25_38 : Xp 25 d 38 [v0, v1, v2, v3, v4, v5] ((2, x) :: st) t g Q = (hkP1 v3 ∧ Xp 25 d 40 [v0, v1, v2, v3, (2, x), v5] st t g Q) := Xp_chk (i := .astore 4) (len := 2) (by decide +kernel) rfl
theorem x_25_40 : Xp 25 d 40 [v0, v1, v2, v3, (2, x), v5] st t g Q = Xp 25 d 42 [v0, v1, v2, v3, (2, x), v5] ((2, x) :: st) t g Q := Xp_go (i := .aload 4) (len := 2) (by decide +kernel) rfl
theorem x_25_42 : Xp 25 d 42 ls st t g Q = Xp 25 d 43 ls ((0, 0) :: st) t g Q := xr_const (c := 0) (by decide +kernel) (by decide)
theorem x_25_43 : Xp 25 d 43 [(2, x), v1, v2, v3, v4, v5] st t g Q = Xp 25 d 44 [(2, x), v1, v2, v3, v4, v5] ((2, x) :: st) t g Q := Xp_go (i := .aload_n 0) (len := 1) (by decide +kernel) rfl
theorem x_25_44 : Xp 25 d 44 ls ((2, p) :: st) t g Q = (hkJK p = 0 ∧ jA p 0 ≤ t ∧ Xp 25 d 47 ls ((2, jR p 0) :: st) t g Q) := xr_getR (idx := 14) (ci := 0) (k := 0) (by decide +kernel) (by decide +kernel) (by decide +kernel)
theorem x_25_47 : Xp 25 d 47 ls ((2, p) :: st) t g Q = (hkJK p = 1 ∧ Xp 25 d 50 ls ((0, g p 3) :: st) t g Q) := xr_getI (idx := 99) (ci := 1) (k := 3) (by decide +kernel) (by decide +kernel) (by decide +kernel)
theorem x_25_50 : Xp 25 (d + 1) 50 ls ((0, a2) :: (0, a1) :: (2, a0) :: st) t g Q = (hkJK a0 = 9 ∧ hkC8 st ∧ Xp 97 d 0 [(2, a0), (0, a1), (0, a2)] [] t g (fun r t g => Xp 25 (d + 1) 53 ls (hkPush r st) t g Q)) := xr_invV (idx := 238) (y' := 97) (ci := 9) (tg := [2, 0, 0]) (by decide +kernel) (by decide +kernel) (by decide +kernel) (by decide +kernel) rfl rfl rfl
theorem x_25_53 : Xp 25 d 53 ls st t g Q = Xp 25 d 54 ls ((0, 0) :: st) t g Q := xr_const (c := 0) (by decide +kernel) (by decide)
theorem x_25_54 : Xp 25 d 54 [v0, v1, v2, v3, v4, v5] ((0, x) :: st) t g Q = (hkP1 v4 ∧ Xp 25 d 56 [v0, v1, v2, v3, v4, (0, x)] st t g Q) := Xp_chk (i := .istore 5) (len := 2) (by decide +kernel) rfl
theorem x_25_56 : Xp 25 d 56 [v0, v1, v2, v3, v4, (0, x)] st t g Q = Xp 25 d 58 [v0, v1, v2, v3, v4, (0, x)] ((0, x) :: st) t g Q := Xp_go (i := .iload 5) (len := 2) (by decide +kernel) rfl
theorem x_25_58 : Xp 25 d 58 [(2, x), v1, v2, v3, v4, v5] st t g Q = Xp 25 d 59 [(2, x), v1, v2, v3, v4, v5] ((2, x) :: st) t g Q := Xp_go (i := .aload_n 0) (len := 1) (by decide +kernel) rfl
theorem x_25_59 : Xp 25 d 59 ls ((2, p) :: st) t g Q = (hkJK p = 0 ∧ jA p 0 ≤ t ∧ Xp 25 d 62 ls ((2, jR p 0) :: st) t g Q) := xr_getR (idx := 14) (ci := 0) (k := 0) (by decide +kernel) (by decide +kernel) (by decide +kernel)
theorem x_25_62 : Xp 25 d 62 ls ((2, p) :: st) t g Q = (hkJK p = 1 ∧ Xp 25 d 65 ls ((0, g p 3) :: st) t g Q) := xr_getI (idx := 99) (ci := 1) (k := 3) (by decide +kernel) (by decide +kernel) (by decide +kernel)
theorem x_25_65 : Xp 25 d 65 ls ((0, b) :: (0, a) :: st) t g Q = ((b ≤ a → Xp 25 d 92 ls st t g Q) ∧ (¬ (b ≤ a) → Xp 25 d 68 ls st t g Q)) := xr_if2 (cd := .ge) (off := 27) (by decide +kernel) (by decide)
theorem x_25_68 : Xp 25 d 68 [v0, v1, v2, v3, (2, x), v5] st t g Q = Xp 25 d 70 [v0, v1, v2, v3, (2, x), v5] ((2, x) :: st) t g Q := Xp_go (i := .aload 4) (len := 2) (by decide +kernel) rfl
theorem x_25_70 : Xp 25 d 70 [v0, v1, v2, v3, v4, (0, x)] st t g Q = Xp 25 d 72 [v0, v1, v2, v3, v4, (0, x)] ((0, x) :: st) t g Q := Xp_go (i := .iload 5) (len := 2) (by decide +kernel) rfl
theorem x_25_72 : Xp 25 d 72 [(2, x), v1, v2, v3, v4, v5] st t g Q = Xp 25 d 73 [(2, x), v1, v2, v3, v4, v5] ((2, x) :: st) t g Q := Xp_go (i := .aload_n 0) (len := 1) (by decide +kernel) rfl
theorem x_25_73 : Xp 25 d 73 ls ((2, p) :: st) t g Q = (hkJK p = 0 ∧ jA p 2 ≤ t ∧ Xp 25 d 76 ls ((2, jR p 2) :: st) t g Q) := xr_getR (idx := 32) (ci := 0) (k := 2) (by decide +kernel) (by decide +kernel) (by decide +kernel)
theorem x_25_76 : Xp 25 d 76 [v0, v1, (0, x), v3, v4, v5] st t g Q = Xp 25 d 77 [v0, v1, (0, x), v3, v4, v5] ((0, x) :: st) t g Q := Xp_go (i := .iload_n 2) (len := 1) (by decide +kernel) rfl
theorem x_25_77 : Xp 25 d 77 [v0, v1, v2, (0, x), v4, v5] st t g Q = Xp 25 d 78 [v0, v1, v2, (0, x), v4, v5] ((0, x) :: st) t g Q := Xp_go (i := .iload_n 3) (len := 1) (by decide +kernel) rfl
theorem x_25_78 : Xp 25 d 78 [v0, v1, v2, v3, v4, (0, x)] st t g Q = Xp 25 d 80 [v0, v1, v2, v3, v4, (0, x)] ((0, x) :: st) t g Q := Xp_go (i := .iload 5) (len := 2) (by decide +kernel) rfl
theorem x_25_80 : Xp 25 (d + 1) 80 ls ((0, a3) :: (0, a2) :: (0, a1) :: (2, a0) :: st) t g Q = (hkJK a0 = 3 ∧ hkC8 st ∧ Xp 53 d 0 [(2, a0), (0, a1), (0, a2), (0, a3)] [] t g (fun r t g => Xp 25 (d + 1) 83 ls (hkPush r st) t g Q)) := xr_invV (idx := 139) (y' := 53) (ci := 3) (tg := [2, 0, 0, 0]) (by decide +kernel) (by decide +kernel) (by decide +kernel) (by decide +kernel) rfl rfl rfl
theorem x_25_83 : Xp 25 (d + 1) 83 ls ((0, a2) :: (0, a1) :: (2, a0) :: st) t g Q = (hkJK a0 = 9 ∧ hkC8 st ∧ Xp 98 d 0 [(2, a0), (0, a1), (0, a2)] [] t g (fun r t g => Xp 25 (d + 1) 86 ls (hkPush r st) t g Q)) := xr_invV (idx := 240) (y' := 98) (ci := 9) (tg := [2, 0, 0]) (by decide +kernel) (by decide +kernel) (by decide +kernel) (by decide +kernel) rfl rfl rfl
theorem x_25_86 : Xp 25 d 86 [v0, v1, v2, v3, v4, (0, x)] st t g Q = (hkP1 v4 ∧ Xp 25 d 89 [v0, v1, v2, v3, v4, (0, hkW (x + 1))] st t g Q) := Xp_chk (i := .iinc 5 (1)) (len := 3) (by decide +kernel) rfl
theorem x_25_89 : Xp 25 d 89 ls st t g Q = Xp 25 d 56 ls st t g Q := xr_goto (off := -33) (by decide +kernel) (by decide)
theorem x_25_92 : Xp 25 d 92 [(2, x), v1, v2, v3, v4, v5] st t g Q = Xp 25 d 93 [(2, x), v1, v2, v3, v4, v5] ((2, x) :: st) t g Q := Xp_go (i := .aload_n 0) (len := 1) (by decide +kernel) rfl
theorem x_25_93 : Xp 25 d 93 ls ((2, p) :: st) t g Q = (hkJK p = 0 ∧ jA p 0 ≤ t ∧ Xp 25 d 96 ls ((2, jR p 0) :: st) t g Q) := xr_getR (idx := 14) (ci := 0) (k := 0) (by decide +kernel) (by decide +kernel) (by decide +kernel)
theorem x_25_96 : Xp 25 d 96 ls ((2, p) :: st) t g Q = (hkJK p = 1 ∧ Xp 25 d 99 ls ((0, g p 3) :: st) t g Q) := xr_getI (idx := 99) (ci := 1) (k := 3) (by decide +kernel) (by decide +kernel) (by decide +kernel)
theorem x_25_99 : Xp 25 d 99 ls [(0, x)] t g Q = Q (some (0, x)) t g := xr_retI (by decide +kernel) (by decide +kernel)
-- 26: HookBoxes.image()I
theorem x_26_0 : Xp 26 d 0 [(2, x)] st t g Q = Xp 26 d 1 [(2, x)] ((2, x) :: st) t g Q := Xp_go (i := .aload_n 0) (len := 1) (by decide +kernel) rfl
theorem x_26_1 : Xp 26 d 1 [(2, x)] st t g Q = Xp 26 d 2 [(2, x)] ((2, x) :: st) t g Q := Xp_go (i := .aload_n 0) (len := 1) (by decide +kernel) rfl
theorem x_26_2 : Xp 26 d 2 ls ((2, p) :: st) t g Q = (hkJK p = 0 ∧ jA p 0 ≤ t ∧ Xp 26 d 5 ls ((2, jR p 0) :: st) t g Q) := xr_getR (idx := 14) (ci := 0) (k := 0) (by decide +kernel) (by decide +kernel) (by decide +kernel)
theorem x_26_5 : Xp 26 d 5 ls ((2, p) :: st) t g Q = (hkJK p = 1 ∧ Xp 26 d 8 ls ((0, g p 0) :: st) t g Q) := xr_getI (idx := 107) (ci := 1) (k := 0) (by decide +kernel) (by decide +kernel) (by decide +kernel)
theorem x_26_8 : Xp 26 d 8 ls ((0, x) :: (2, p) :: st) t g Q = (hkJK p = 0 ∧ Xp 26 d 11 ls st t (hkSet g p 10 x) Q) := xr_putI (idx := 243) (ci := 0) (k := 10) (by decide +kernel) (by decide +kernel) (by decide +kernel)
theorem x_26_11 : Xp 26 d 11 [(2, x)] st t g Q = Xp 26 d 12 [(2, x)] ((2, x) :: st) t g Q := Xp_go (i := .aload_n 0) (len := 1) (by decide +kernel) rfl
theorem x_26_12 : Xp 26 d 12 [(2, x)] st t g Q = Xp 26 d 13 [(2, x)] ((2, x) :: st) t g Q := Xp_go (i := .aload_n 0) (len := 1) (by decide +kernel) rfl
theorem x_26_13 : Xp 26 d 13 ls ((2, p) :: st) t g Q = (hkJK p = 0 ∧ jA p 0 ≤ t ∧ Xp 26 d 16 ls ((2, jR p 0) :: st) t g Q) := xr_getR (idx := 14) (ci := 0) (k := 0) (by decide +kernel) (by decide +kernel) (by decide +kernel)
theorem x_26_16 : Xp 26 d 16 ls ((2, p) :: st) t g Q = (hkJK p = 1 ∧ Xp 26 d 19 ls ((0, g p 1) :: st) t g Q) := xr_getI (idx := 246) (ci := 1) (k := 1) (by decide +kernel) (by decide +kernel) (by decide +kernel)
theorem x_26_19 : Xp 26 d 19 ls ((0, x) :: (2, p) :: st) t g Q = (hkJK p = 0 ∧ Xp 26 d 22 ls st t (hkSet g p 11 x) Q) := xr_putI (idx := 249) (ci := 0) (k := 11) (by decide +kernel) (by decide +kernel) (by decide +kernel)
theorem x_26_22 : Xp 26 d 22 [(2, x)] st t g Q = Xp 26 d 23 [(2, x)] ((2, x) :: st) t g Q := Xp_go (i := .aload_n 0) (len := 1) (by decide +kernel) rfl
theorem x_26_23 : Xp 26 d 23 ls ((2, p) :: st) t g Q = (hkJK p = 0 ∧ jA p 9 ≤ t ∧ Xp 26 d 26 ls ((2, jR p 9) :: st) t g Q) := xr_getR (idx := 78) (ci := 0) (k := 9) (by decide +kernel) (by decide +kernel) (by decide +kernel)
theorem x_26_26 : Xp 26 d 26 [(2, x)] st t g Q = Xp 26 d 27 [(2, x)] ((2, x) :: st) t g Q := Xp_go (i := .aload_n 0) (len := 1) (by decide +kernel) rfl
theorem x_26_27 : Xp 26 d 27 ls ((2, p) :: st) t g Q = (hkJK p = 0 ∧ jA p 7 ≤ t ∧ Xp 26 d 30 ls ((2, jR p 7) :: st) t g Q) := xr_getR (idx := 71) (ci := 0) (k := 7) (by decide +kernel) (by decide +kernel) (by decide +kernel)
theorem x_26_30 : Xp 26 (d + 1) 30 ls ((2, a1) :: (2, a0) :: st) t g Q = (hkJK a0 = 7 ∧ hkC8 st ∧ Xp 90 d 0 [(2, a0), (2, a1)] [] t g (fun r t g => Xp 26 (d + 1) 33 ls (hkPush r st) t g Q)) := xr_invV (idx := 224) (y' := 90) (ci := 7) (tg := [2, 2]) (by decide +kernel) (by decide +kernel) (by decide +kernel) (by decide +kernel) rfl rfl rfl
theorem x_26_33 : Xp 26 d 33 [(2, x)] st t g Q = Xp 26 d 34 [(2, x)] ((2, x) :: st) t g Q := Xp_go (i := .aload_n 0) (len := 1) (by decide +kernel) rfl
theorem x_26_34 : Xp 26 d 34 ls ((2, p) :: st) t g Q = (hkJK p = 0 ∧ jA p 0 ≤ t ∧ Xp 26 d 37 ls ((2, jR p 0) :: st) t g Q) := xr_getR (idx := 14) (ci := 0) (k := 0) (by decide +kernel) (by decide +kernel) (by decide +kernel)
theorem x_26_37 : Xp 26 d 37 ls ((2, p) :: st) t g Q = (hkJK p = 1 ∧ Xp 26 d 40 ls ((0, g p 3) :: st) t g Q) := xr_getI (idx := 99) (ci := 1) (k := 3) (by decide +kernel) (by decide +kernel) (by decide +kernel)
theorem x_26_40 : Xp 26 d 40 ls [(0, x)] t g Q = Q (some (0, x)) t g := xr_retI (by decide +kernel) (by decide +kernel)
-- 27: HookBoxes.back()I
theorem x_27_0 : Xp 27 d 0 [(2, x)] st t g Q = Xp 27 d 1 [(2, x)] ((2, x) :: st) t g Q := Xp_go (i := .aload_n 0) (len := 1) (by decide +kernel) rfl
theorem x_27_1 : Xp 27 d 1 ls ((2, p) :: st) t g Q = (hkJK p = 0 ∧ Xp 27 d 4 ls ((0, g p 10) :: st) t g Q) := xr_getI (idx := 243) (ci := 0) (k := 10) (by decide +kernel) (by decide +kernel) (by decide +kernel)
theorem x_27_4 : Xp 27 d 4 ls ((0, a) :: st) t g Q = ((¬ (a = 0) → Xp 27 d 10 ls st t g Q) ∧ (¬ (¬ (a = 0)) → Xp 27 d 7 ls st t g Q)) := xr_if1 (cd := .ne) (off := 6) (by decide +kernel) (by decide)
theorem x_27_7 : Xp 27 d 7 ls st t g Q = Xp 27 d 9 ls ((0, -3) :: st) t g Q := xr_bi (c := -3) (by decide +kernel) (by decide)
theorem x_27_9 : Xp 27 d 9 ls [(0, x)] t g Q = Q (some (0, x)) t g := xr_retI (by decide +kernel) (by decide +kernel)
theorem x_27_10 : Xp 27 d 10 [(2, x)] st t g Q = Xp 27 d 11 [(2, x)] ((2, x) :: st) t g Q := Xp_go (i := .aload_n 0) (len := 1) (by decide +kernel) rfl
theorem x_27_11 : Xp 27 d 11 [(2, x)] st t g Q = Xp 27 d 12 [(2, x)] ((2, x) :: st) t g Q := Xp_go (i := .aload_n 0) (len := 1) (by decide +kernel) rfl
theorem x_27_12 : Xp 27 d 12 ls ((2, p) :: st) t g Q = (hkJK p = 0 ∧ Xp 27 d 15 ls ((0, g p 10) :: st) t g Q) := xr_getI (idx := 243) (ci := 0) (k := 10) (by decide +kernel) (by decide +kernel) (by decide +kernel)
theorem x_27_15 : Xp 27 d 15 [(2, x)] st t g Q = Xp 27 d 16 [(2, x)] ((2, x) :: st) t g Q := Xp_go (i := .aload_n 0) (len := 1) (by decide +kernel) rfl
theorem x_27_16 : Xp 27 d 16 ls ((2, p) :: st) t g Q = (hkJK p = 0 ∧ Xp 27 d 19 ls ((0, g p 11) :: st) t g Q) := xr_getI (idx := 249) (ci := 0) (k := 11) (by decide +kernel) (by decide +kernel) (by decide +kernel)
theorem x_27_19 : Xp 27 (d + 1) 19 ls ((0, a2) :: (0, a1) :: (2, a0) :: st) t g Q = (hkJK a0 = 0 ∧ hkC8 st ∧ Xp 3 d 0 [(2, a0), (0, a1), (0, a2)] [] t g (fun r t g => Xp 27 (d + 1) 22 ls (hkPush r st) t g Q)) := xr_invV (idx := 92) (y' := 3) (ci := 0) (tg := [2, 0, 0]) (by decide +kernel) (by decide +kernel) (by decide +kernel) (by decide +kernel) rfl rfl rfl
theorem x_27_22 : Xp 27 d 22 [(2, x)] st t g Q = Xp 27 d 23 [(2, x)] ((2, x) :: st) t g Q := Xp_go (i := .aload_n 0) (len := 1) (by decide +kernel) rfl
theorem x_27_23 : Xp 27 d 23 ls ((2, p) :: st) t g Q = (hkJK p = 0 ∧ jA p 7 ≤ t ∧ Xp 27 d 26 ls ((2, jR p 7) :: st) t g Q) := xr_getR (idx := 71) (ci := 0) (k := 7) (by decide +kernel) (by decide +kernel) (by decide +kernel)
theorem x_27_26 : Xp 27 d 26 [(2, x)] st t g Q = Xp 27 d 27 [(2, x)] ((2, x) :: st) t g Q := Xp_go (i := .aload_n 0) (len := 1) (by decide +kernel) rfl
theorem x_27_27 : Xp 27 d 27 ls ((2, p) :: st) t g Q = (hkJK p = 0 ∧ jA p 9 ≤ t ∧ Xp 27 d 30 ls ((2, jR p 9) :: st) t g Q) := xr_getR (idx := 78) (ci := 0) (k := 9) (by decide +kernel) (by decide +kernel) (by decide +kernel)
theorem x_27_30 : Xp 27 (d + 1) 30 ls ((2, a1) :: (2, a0) :: st) t g Q = (hkJK a0 = 7 ∧ hkC8 st ∧ Xp 90 d 0 [(2, a0), (2, a1)] [] t g (fun r t g => Xp 27 (d + 1) 33 ls (hkPush r st) t g Q)) := xr_invV (idx := 224) (y' := 90) (ci := 7) (tg := [2, 2]) (by decide +kernel) (by decide +kernel) (by decide +kernel) (by decide +kernel) rfl rfl rfl
theorem x_27_33 : Xp 27 d 33 [(2, x)] st t g Q = Xp 27 d 34 [(2, x)] ((2, x) :: st) t g Q := Xp_go (i := .aload_n 0) (len := 1) (by decide +kernel) rfl
theorem x_27_34 : Xp 27 d 34 ls ((2, p) :: st) t g Q = (hkJK p = 0 ∧ jA p 0 ≤ t ∧ Xp 27 d 37 ls ((2, jR p 0) :: st) t g Q) := xr_getR (idx := 14) (ci := 0) (k := 0) (by decide +kernel) (by decide +kernel) (by decide +kernel)
theorem x_27_37 : Xp 27 d 37 ls ((2, p) :: st) t g Q = (hkJK p = 1 ∧ Xp 27 d 40 ls ((0, g p 3) :: st) t g Q) := xr_getI (idx := 99) (ci := 1) (k := 3) (by decide +kernel) (by decide +kernel) (by decide +kernel)
theorem x_27_40 : Xp 27 d 40 ls [(0, x)] t g Q = Q (some (0, x)) t g := xr_retI (by decide +kernel) (by decide +kernel)
-- 28: HookBoxes.load(IIII)I
theorem x_28_0 : Xp 28 d 0 [v0, (0, x), v2, v3, v4, v5, v6, v7, v8] st t g Q = Xp 28 d 1 [v0, (0, x), v2, v3, v4, v5, v6, v7, v8] ((0, x) :: st) t g Q := Xp_go (i := .iload_n 1) (len := 1) (by decide +kernel) rfl
theorem x_28_1 : Xp 28 (d + 1) 1 ls ((0, a0) :: st) t g Q = (hkC8 st ∧ Xp 12 d 0 [(0, a0)] [] t g (fun r t g => Xp 28 (d + 1) 4 ls (hkPush r st) t g Q)) := xr_invS (idx := 155) (y' := 12) (tg := [0]) (by decide +kernel) (by decide +kernel) (by decide +kernel) rfl rfl
theorem x_28_4 : Xp 28 d 4 ls ((0, a) :: st) t g Q = ((¬ (a = 0) → Xp 28 d 27 ls st t g Q) ∧ (¬ (¬ (a = 0)) → Xp 28 d 7 ls st t g Q)) := xr_if1 (cd := .ne) (off := 23) (by decide +kernel) (by decide)
theorem x_28_7 : Xp 28 d 7 [v0, v1, (0, x), v3, v4, v5, v6, v7, v8] st t g Q = Xp 28 d 8 [v0, v1, (0, x), v3, v4, v5, v6, v7, v8] ((0, x) :: st) t g Q := Xp_go (i := .iload_n 2) (len := 1) (by decide +kernel) rfl
theorem x_28_8 : Xp 28 d 8 ls st t g Q = Xp 28 d 9 ls ((0, 0) :: st) t g Q := xr_const (c := 0) (by decide +kernel) (by decide)
theorem x_28_9 : Xp 28 d 9 ls st t g Q = Xp 28 d 10 ls ((0, 1) :: st) t g Q := xr_const (c := 1) (by decide +kernel) (by decide)
theorem x_28_10 : Xp 28 (d + 1) 10 ls ((0, a2) :: (0, a1) :: (0, a0) :: st) t g Q = (hkC8 st ∧ Xp 2 d 0 [(0, a0), (0, a1), (0, a2)] [] t g (fun r t g => Xp 28 (d + 1) 13 ls (hkPush r st) t g Q)) := xr_invS (idx := 88) (y' := 2) (tg := [0, 0, 0]) (by decide +kernel) (by decide +kernel) (by decide +kernel) rfl rfl
theorem x_28_13 : Xp 28 d 13 ls ((0, a) :: st) t g Q = ((¬ (a = 0) → Xp 28 d 27 ls st t g Q) ∧ (¬ (¬ (a = 0)) → Xp 28 d 16 ls st t g Q)) := xr_if1 (cd := .ne) (off := 14) (by decide +kernel) (by decide)
theorem x_28_16 : Xp 28 d 16 [v0, v1, v2, v3, (0, x), v5, v6, v7, v8] st t g Q = Xp 28 d 18 [v0, v1, v2, v3, (0, x), v5, v6, v7, v8] ((0, x) :: st) t g Q := Xp_go (i := .iload 4) (len := 2) (by decide +kernel) rfl
theorem x_28_18 : Xp 28 d 18 ls st t g Q = Xp 28 d 19 ls ((0, 0) :: st) t g Q := xr_const (c := 0) (by decide +kernel) (by decide)
theorem x_28_19 : Xp 28 d 19 ls st t g Q = Xp 28 d 21 ls ((0, 40) :: st) t g Q := xr_bi (c := 40) (by decide +kernel) (by decide)
theorem x_28_21 : Xp 28 (d + 1) 21 ls ((0, a2) :: (0, a1) :: (0, a0) :: st) t g Q = (hkC8 st ∧ Xp 2 d 0 [(0, a0), (0, a1), (0, a2)] [] t g (fun r t g => Xp 28 (d + 1) 24 ls (hkPush r st) t g Q)) := xr_invS (idx := 88) (y' := 2) (tg := [0, 0, 0]) (by decide +kernel) (by decide +kernel) (by decide +kernel) rfl rfl
theorem x_28_24 : Xp 28 d 24 ls ((0, a) :: st) t g Q = ((a = 0 → Xp 28 d 30 ls st t g Q) ∧ (¬ (a = 0) → Xp 28 d 27 ls st t g Q)) := xr_if1 (cd := .eq) (off := 6) (by decide +kernel) (by decide)
theorem x_28_27 : Xp 28 d 27 ls st t g Q = Xp 28 d 29 ls ((0, -2) :: st) t g Q := xr_bi (c := -2) (by decide +kernel) (by decide)
theorem x_28_29 : Xp 28 d 29 ls [(0, x)] t g Q = Q (some (0, x)) t g := xr_retI (by decide +kernel) (by decide +kernel)
theorem x_28_30 : Xp 28 d 30 [(2, x), v1, v2, v3, v4, v5, v6, v7, v8] st t g Q = Xp 28 d 31 [(2, x), v1, v2, v3, v4, v5, v6, v7, v8] ((2, x) :: st) t g Q := Xp_go (i := .aload_n 0) (len := 1) (by decide +kernel) rfl
theorem x_28_31 : Xp 28 d 31 ls ((2, p) :: st) t g Q = (hkJK p = 0 ∧ jA p 12 ≤ t ∧ Xp 28 d 34 ls ((2, jR p 12) :: st) t g Q) := xr_getR (idx := 83) (ci := 0) (k := 12) (by decide +kernel) (by decide +kernel) (by decide +kernel)
theorem x_28_34 : Xp 28 d 34 [v0, (0, x), v2, v3, v4, v5, v6, v7, v8] st t g Q = Xp 28 d 35 [v0, (0, x), v2, v3, v4, v5, v6, v7, v8] ((0, x) :: st) t g Q := Xp_go (i := .iload_n 1) (len := 1) (by decide +kernel) rfl
theorem x_28_35 : Xp 28 d 35 ls ((0, a) :: (2, p) :: st) t g Q = ((103 ≤ hkJK p ∧ hkJK p ≤ 104 ∧ 0 ≤ a ∧ a < jL p ∧ jAi p a ≤ t) ∧ Xp 28 d 36 ls ((2, jRi p a) :: st) t g Q) := Xp_chk (i := .aaload) (len := 1) (by decide +kernel) rfl
theorem x_28_36 : Xp 28 d 36 [v0, v1, v2, v3, v4, v5, v6, v7, v8] ((2, x) :: st) t g Q = (hkP1 v4 ∧ Xp 28 d 38 [v0, v1, v2, v3, v4, (2, x), v6, v7, v8] st t g Q) := Xp_chk (i := .astore 5) (len := 2) (by decide +kernel) rfl
theorem x_28_38 : Xp 28 d 38 [v0, v1, v2, v3, v4, (2, x), v6, v7, v8] st t g Q = Xp 28 d 40 [v0, v1, v2, v3, v4, (2, x), v6, v7, v8] ((2, x) :: st) t g Q := Xp_go (i := .aload 5) (len := 2) (by decide +kernel) rfl
theorem x_28_40 : Xp 28 (d + 1) 40 ls ((2, a0) :: st) t g Q = (hkJK a0 = 9 ∧ hkC8 st ∧ Xp 95 d 0 [(2, a0)] [] t g (fun r t g => Xp 28 (d + 1) 43 ls (hkPush r st) t g Q)) := xr_invV (idx := 158) (y' := 95) (ci := 9) (tg := [2]) (by decide +kernel) (by decide +kernel) (by decide +kernel) (by decide +kernel) rfl rfl rfl
theorem x_28_43 : Xp 28 d 43 ls ((0, a) :: st) t g Q = ((a = 0 → Xp 28 d 49 ls st t g Q) ∧ (¬ (a = 0) → Xp 28 d 46 ls st t g Q)) := xr_if1 (cd := .eq) (off := 6) (by decide +kernel) (by decide)
theorem x_28_46 : Xp 28 d 46 ls st t g Q = Xp 28 d 48 ls ((0, -11) :: st) t g Q := xr_bi (c := -11) (by decide +kernel) (by decide)
theorem x_28_48 : Xp 28 d 48 ls [(0, x)] t g Q = Q (some (0, x)) t g := xr_retI (by decide +kernel) (by decide +kernel)
theorem x_28_49 : Xp 28 d 49 [v0, v1, v2, v3, v4, (2, x), v6, v7, v8] st t g Q = Xp 28 d 51 [v0, v1, v2, v3, v4, (2, x), v6, v7, v8] ((2, x) :: st) t g Q := Xp_go (i := .aload 5) (len := 2) (by decide +kernel) rfl
theorem x_28_51 : Xp 28 d 51 ls ((2, p) :: st) t g Q = (hkJK p = 9 ∧ Xp 28 d 54 ls ((0, g p 0) :: st) t g Q) := xr_getI (idx := 252) (ci := 9) (k := 0) (by decide +kernel) (by decide +kernel) (by decide +kernel)
theorem x_28_54 : Xp 28 d 54 [v0, v1, (0, x), v3, v4, v5, v6, v7, v8] st t g Q = Xp 28 d 55 [v0, v1, (0, x), v3, v4, v5, v6, v7, v8] ((0, x) :: st) t g Q := Xp_go (i := .iload_n 2) (len := 1) (by decide +kernel) rfl
theorem x_28_55 : Xp 28 d 55 ls ((0, b) :: (0, a) :: st) t g Q = ((a = b → Xp 28 d 61 ls st t g Q) ∧ (¬ (a = b) → Xp 28 d 58 ls st t g Q)) := xr_if2 (cd := .eq) (off := 6) (by decide +kernel) (by decide)
theorem x_28_58 : Xp 28 d 58 ls st t g Q = Xp 28 d 60 ls ((0, -13) :: st) t g Q := xr_bi (c := -13) (by decide +kernel) (by decide)
theorem x_28_60 : Xp 28 d 60 ls [(0, x)] t g Q = Q (some (0, x)) t g := xr_retI (by decide +kernel) (by decide +kernel)
theorem x_28_61 : Xp 28 d 61 ls st t g Q = Xp 28 d 62 ls ((0, 0) :: st) t g Q := xr_const (c := 0) (by decide +kernel) (by decide)
theorem x_28_62 : Xp 28 d 62 [v0, v1, v2, v3, v4, v5, v6, v7, v8] ((0, x) :: st) t g Q = (hkP1 v5 ∧ Xp 28 d 64 [v0, v1, v2, v3, v4, v5, (0, x), v7, v8] st t g Q) := Xp_chk (i := .istore 6) (len := 2) (by decide +kernel) rfl
theorem x_28_64 : Xp 28 d 64 ls st t g Q = Xp 28 d 65 ls ((0, 0) :: st) t g Q := xr_const (c := 0) (by decide +kernel) (by decide)
theorem x_28_65 : Xp 28 d 65 [v0, v1, v2, v3, v4, v5, v6, v7, v8] ((0, x) :: st) t g Q = (hkP1 v6 ∧ Xp 28 d 67 [v0, v1, v2, v3, v4, v5, v6, (0, x), v8] st t g Q) := Xp_chk (i := .istore 7) (len := 2) (by decide +kernel) rfl
theorem x_28_67 : Xp 28 d 67 [v0, v1, v2, v3, v4, v5, v6, (0, x), v8] st t g Q = Xp 28 d 69 [v0, v1, v2, v3, v4, v5, v6, (0, x), v8] ((0, x) :: st) t g Q := Xp_go (i := .iload 7) (len := 2) (by decide +kernel) rfl
theorem x_28_69 : Xp 28 d 69 [v0, v1, v2, v3, (0, x), v5, v6, v7, v8] st t g Q = Xp 28 d 71 [v0, v1, v2, v3, (0, x), v5, v6, v7, v8] ((0, x) :: st) t g Q := Xp_go (i := .iload 4) (len := 2) (by decide +kernel) rfl
theorem x_28_71 : Xp 28 d 71 ls ((0, b) :: (0, a) :: st) t g Q = ((b ≤ a → Xp 28 d 148 ls st t g Q) ∧ (¬ (b ≤ a) → Xp 28 d 74 ls st t g Q)) := xr_if2 (cd := .ge) (off := 77) (by decide +kernel) (by decide)
theorem x_28_74 : Xp 28 d 74 [v0, v1, v2, v3, v4, (2, x), v6, v7, v8] st t g Q = Xp 28 d 76 [v0, v1, v2, v3, v4, (2, x), v6, v7, v8] ((2, x) :: st) t g Q := Xp_go (i := .aload 5) (len := 2) (by decide +kernel) rfl
theorem x_28_76 : Xp 28 d 76 [v0, v1, v2, (0, x), v4, v5, v6, v7, v8] st t g Q = Xp 28 d 77 [v0, v1, v2, (0, x), v4, v5, v6, v7, v8] ((0, x) :: st) t g Q := Xp_go (i := .iload_n 3) (len := 1) (by decide +kernel) rfl
theorem x_28_77 : Xp 28 d 77 [v0, v1, v2, v3, v4, v5, v6, (0, x), v8] st t g Q = Xp 28 d 79 [v0, v1, v2, v3, v4, v5, v6, (0, x), v8] ((0, x) :: st) t g Q := Xp_go (i := .iload 7) (len := 2) (by decide +kernel) rfl
theorem x_28_79 : Xp 28 d 79 ls ((0, b) :: (0, a) :: st) t g Q = Xp 28 d 80 ls ((0, hkW (a + b)) :: st) t g Q := Xp_go (i := .iadd) (len := 1) (by decide +kernel) rfl
theorem x_28_80 : Xp 28 (d + 1) 80 ls ((0, a1) :: (2, a0) :: st) t g Q = (hkJK a0 = 9 ∧ hkC8 st ∧ Xp 99 d 0 [(2, a0), (0, a1)] [] t g (fun r t g => Xp 28 (d + 1) 83 ls (hkPush r st) t g Q)) := xr_invV (idx := 255) (y' := 99) (ci := 9) (tg := [2, 0]) (by decide +kernel) (by decide +kernel) (by decide +kernel) (by decide +kernel) rfl rfl rfl
theorem x_28_83 : Xp 28 d 83 ls ((0, a) :: st) t g Q = ((¬ (a = 0) → Xp 28 d 89 ls st t g Q) ∧ (¬ (¬ (a = 0)) → Xp 28 d 86 ls st t g Q)) := xr_if1 (cd := .ne) (off := 6) (by decide +kernel) (by decide)
theorem x_28_86 : Xp 28 d 86 ls st t g Q = Xp 28 d 88 ls ((0, -12) :: st) t g Q := xr_bi (c := -12) (by decide +kernel) (by decide)
theorem x_28_88 : Xp 28 d 88 ls [(0, x)] t g Q = Q (some (0, x)) t g := xr_retI (by decide +kernel) (by decide +kernel)
theorem x_28_89 : Xp 28 d 89 [v0, v1, v2, v3, v4, (2, x), v6, v7, v8] st t g Q = Xp 28 d 91 [v0, v1, v2, v3, v4, (2, x), v6, v7, v8] ((2, x) :: st) t g Q := Xp_go (i := .aload 5) (len := 2) (by decide +kernel) rfl
theorem x_28_91 : Xp 28 d 91 ls ((2, p) :: st) t g Q = (hkJK p = 9 ∧ jA p 2 ≤ t ∧ Xp 28 d 94 ls ((2, jR p 2) :: st) t g Q) := xr_getR (idx := 168) (ci := 9) (k := 2) (by decide +kernel) (by decide +kernel) (by decide +kernel)
theorem x_28_94 : Xp 28 d 94 [v0, v1, v2, (0, x), v4, v5, v6, v7, v8] st t g Q = Xp 28 d 95 [v0, v1, v2, (0, x), v4, v5, v6, v7, v8] ((0, x) :: st) t g Q := Xp_go (i := .iload_n 3) (len := 1) (by decide +kernel) rfl
theorem x_28_95 : Xp 28 d 95 [v0, v1, v2, v3, v4, v5, v6, (0, x), v8] st t g Q = Xp 28 d 97 [v0, v1, v2, v3, v4, v5, v6, (0, x), v8] ((0, x) :: st) t g Q := Xp_go (i := .iload 7) (len := 2) (by decide +kernel) rfl
theorem x_28_97 : Xp 28 d 97 ls ((0, b) :: (0, a) :: st) t g Q = Xp 28 d 98 ls ((0, hkW (a + b)) :: st) t g Q := Xp_go (i := .iadd) (len := 1) (by decide +kernel) rfl
theorem x_28_98 : Xp 28 d 98 ls ((0, a) :: (2, p) :: st) t g Q = ((hkJK p = 100 ∧ 0 ≤ a ∧ a < jL p) ∧ Xp 28 d 99 ls ((0, g p a) :: st) t g Q) := Xp_chk (i := .iaload) (len := 1) (by decide +kernel) rfl
theorem x_28_99 : Xp 28 d 99 [v0, v1, v2, v3, v4, v5, v6, v7, v8] ((0, x) :: st) t g Q = (hkP1 v7 ∧ Xp 28 d 101 [v0, v1, v2, v3, v4, v5, v6, v7, (0, x)] st t g Q) := Xp_chk (i := .istore 8) (len := 2) (by decide +kernel) rfl
theorem x_28_101 : Xp 28 d 101 [(2, x), v1, v2, v3, v4, v5, v6, v7, v8] st t g Q = Xp 28 d 102 [(2, x), v1, v2, v3, v4, v5, v6, v7, v8] ((2, x) :: st) t g Q := Xp_go (i := .aload_n 0) (len := 1) (by decide +kernel) rfl
theorem x_28_102 : Xp 28 d 102 ls ((2, p) :: st) t g Q = (hkJK p = 0 ∧ jA p 0 ≤ t ∧ Xp 28 d 105 ls ((2, jR p 0) :: st) t g Q) := xr_getR (idx := 14) (ci := 0) (k := 0) (by decide +kernel) (by decide +kernel) (by decide +kernel)
theorem x_28_105 : Xp 28 d 105 [v0, v1, v2, v3, v4, v5, v6, (0, x), v8] st t g Q = Xp 28 d 107 [v0, v1, v2, v3, v4, v5, v6, (0, x), v8] ((0, x) :: st) t g Q := Xp_go (i := .iload 7) (len := 2) (by decide +kernel) rfl
theorem x_28_107 : Xp 28 (d + 1) 107 ls ((0, a1) :: (2, a0) :: st) t g Q = (hkJK a0 = 1 ∧ hkC8 st ∧ Xp 39 d 0 [(2, a0), (0, a1)] [] t g (fun r t g => Xp 28 (d + 1) 110 ls (hkPush r st) t g Q)) := xr_invV (idx := 103) (y' := 39) (ci := 1) (tg := [2, 0]) (by decide +kernel) (by decide +kernel) (by decide +kernel) (by decide +kernel) rfl rfl rfl
theorem x_28_110 : Xp 28 d 110 ls ((0, a) :: st) t g Q = ((a = 0 → Xp 28 d 142 ls st t g Q) ∧ (¬ (a = 0) → Xp 28 d 113 ls st t g Q)) := xr_if1 (cd := .eq) (off := 32) (by decide +kernel) (by decide)
theorem x_28_113 : Xp 28 d 113 [v0, v1, v2, v3, v4, v5, v6, v7, (0, x)] st t g Q = Xp 28 d 115 [v0, v1, v2, v3, v4, v5, v6, v7, (0, x)] ((0, x) :: st) t g Q := Xp_go (i := .iload 8) (len := 2) (by decide +kernel) rfl
theorem x_28_115 : Xp 28 d 115 ls st t g Q = Xp 28 d 118 ls ((0, -1000000) :: st) t g Q := xr_ldcw (idx := 258) (by decide +kernel) (by decide +kernel)
theorem x_28_118 : Xp 28 d 118 ls st t g Q = Xp 28 d 121 ls ((0, 1000000) :: st) t g Q := xr_ldcw (idx := 259) (by decide +kernel) (by decide +kernel)
theorem x_28_121 : Xp 28 (d + 1) 121 ls ((0, a2) :: (0, a1) :: (0, a0) :: st) t g Q = (hkC8 st ∧ Xp 2 d 0 [(0, a0), (0, a1), (0, a2)] [] t g (fun r t g => Xp 28 (d + 1) 124 ls (hkPush r st) t g Q)) := xr_invS (idx := 88) (y' := 2) (tg := [0, 0, 0]) (by decide +kernel) (by decide +kernel) (by decide +kernel) rfl rfl
theorem x_28_124 : Xp 28 d 124 ls ((0, a) :: st) t g Q = ((¬ (a = 0) → Xp 28 d 142 ls st t g Q) ∧ (¬ (¬ (a = 0)) → Xp 28 d 127 ls st t g Q)) := xr_if1 (cd := .ne) (off := 18) (by decide +kernel) (by decide)
theorem x_28_127 : Xp 28 d 127 [(2, x), v1, v2, v3, v4, v5, v6, v7, v8] st t g Q = Xp 28 d 128 [(2, x), v1, v2, v3, v4, v5, v6, v7, v8] ((2, x) :: st) t g Q := Xp_go (i := .aload_n 0) (len := 1) (by decide +kernel) rfl
theorem x_28_128 : Xp 28 d 128 ls ((2, p) :: st) t g Q = (hkJK p = 0 ∧ jA p 7 ≤ t ∧ Xp 28 d 131 ls ((2, jR p 7) :: st) t g Q) := xr_getR (idx := 71) (ci := 0) (k := 7) (by decide +kernel) (by decide +kernel) (by decide +kernel)
theorem x_28_131 : Xp 28 d 131 ls ((2, p) :: st) t g Q = (hkJK p = 7 ∧ jA p 0 ≤ t ∧ Xp 28 d 134 ls ((2, jR p 0) :: st) t g Q) := xr_getR (idx := 189) (ci := 7) (k := 0) (by decide +kernel) (by decide +kernel) (by decide +kernel)
theorem x_28_134 : Xp 28 d 134 [v0, v1, v2, v3, v4, v5, v6, (0, x), v8] st t g Q = Xp 28 d 136 [v0, v1, v2, v3, v4, v5, v6, (0, x), v8] ((0, x) :: st) t g Q := Xp_go (i := .iload 7) (len := 2) (by decide +kernel) rfl
theorem x_28_136 : Xp 28 d 136 [v0, v1, v2, v3, v4, v5, v6, v7, (0, x)] st t g Q = Xp 28 d 138 [v0, v1, v2, v3, v4, v5, v6, v7, (0, x)] ((0, x) :: st) t g Q := Xp_go (i := .iload 8) (len := 2) (by decide +kernel) rfl
theorem x_28_138 : Xp 28 d 138 ls ((0, x) :: (0, a) :: (2, p) :: st) t g Q = ((hkJK p = 100 ∧ (100 = 102 → x = 0 ∨ x = 1) ∧ 0 ≤ a ∧ a < jL p) ∧ Xp 28 d 139 ls st t (hkSet g p a x) Q) := Xp_chk (i := .iastore) (len := 1) (by decide +kernel) rfl
theorem x_28_139 : Xp 28 d 139 [v0, v1, v2, v3, v4, v5, (0, x), v7, v8] st t g Q = (hkP1 v5 ∧ Xp 28 d 142 [v0, v1, v2, v3, v4, v5, (0, hkW (x + 1)), v7, v8] st t g Q) := Xp_chk (i := .iinc 6 (1)) (len := 3) (by decide +kernel) rfl
theorem x_28_142 : Xp 28 d 142 [v0, v1, v2, v3, v4, v5, v6, (0, x), v8] st t g Q = (hkP1 v6 ∧ Xp 28 d 145 [v0, v1, v2, v3, v4, v5, v6, (0, hkW (x + 1)), v8] st t g Q) := Xp_chk (i := .iinc 7 (1)) (len := 3) (by decide +kernel) rfl
theorem x_28_145 : Xp 28 d 145 ls st t g Q = Xp 28 d 67 ls st t g Q := xr_goto (off := -78) (by decide +kernel) (by decide)
theorem x_28_148 : Xp 28 d 148 [v0, v1, v2, v3, v4, v5, (0, x), v7, v8] st t g Q = Xp 28 d 150 [v0, v1, v2, v3, v4, v5, (0, x), v7, v8] ((0, x) :: st) t g Q := Xp_go (i := .iload 6) (len := 2) (by decide +kernel) rfl
theorem x_28_150 : Xp 28 d 150 ls [(0, x)] t g Q = Q (some (0, x)) t g := xr_retI (by decide +kernel) (by decide +kernel)
-- 29: HookBoxes.count(I)I
theorem x_29_0 : Xp 29 d 0 [v0, (0, x)] st t g Q = Xp 29 d 1 [v0, (0, x)] ((0, x) :: st) t g Q := Xp_go (i := .iload_n 1) (len := 1) (by decide +kernel) rfl
theorem x_29_1_f : hkFetch 29 1 = some (.tableswitch (87) (0) (5) #[39, 47, 55, 63, 71, 79], 39) := by decide +kernel
theorem x_29_1_k0 : Xp 29 d 1 ls ((0, 0) :: st) t g Q = Xp 29 d 40 ls st t g Q := xr_sw x_29_1_f (off := 39) (by decide +kernel) (by decide)
theorem x_29_1_k1 : Xp 29 d 1 ls ((0, 1) :: st) t g Q = Xp 29 d 48 ls st t g Q := xr_sw x_29_1_f (off := 47) (by decide +kernel) (by decide)
theorem x_29_1_k2 : Xp 29 d 1 ls ((0, 2) :: st) t g Q = Xp 29 d 56 ls st t g Q := xr_sw x_29_1_f (off := 55) (by decide +kernel) (by decide)
theorem x_29_1_k3 : Xp 29 d 1 ls ((0, 3) :: st) t g Q = Xp 29 d 64 ls st t g Q := xr_sw x_29_1_f (off := 63) (by decide +kernel) (by decide)
theorem x_29_1_k4 : Xp 29 d 1 ls ((0, 4) :: st) t g Q = Xp 29 d 72 ls st t g Q := xr_sw x_29_1_f (off := 71) (by decide +kernel) (by decide)
theorem x_29_1_k5 : Xp 29 d 1 ls ((0, 5) :: st) t g Q = Xp 29 d 80 ls st t g Q := xr_sw x_29_1_f (off := 79) (by decide +kernel) (by decide)
theorem x_29_1_d (h : a < 0 ∨ 5 < a) : Xp 29 d 1 ls ((0, a) :: st) t g Q = Xp 29 d 88 ls st t g Q := xr_swd x_29_1_f h (by decide)
theorem x_29_40 : Xp 29 d 40 [(2, x), v1] st t g Q = Xp 29 d 41 [(2, x), v1] ((2, x) :: st) t g Q := Xp_go (i := .aload_n 0) (len := 1) (by decide +kernel) rfl
theorem x_29_41 : Xp 29 d 41 ls ((2, p) :: st) t g Q = (hkJK p = 0 ∧ jA p 0 ≤ t ∧ Xp 29 d 44 ls ((2, jR p 0) :: st) t g Q) := xr_getR (idx := 14) (ci := 0) (k := 0) (by decide +kernel) (by decide +kernel) (by decide +kernel)
theorem x_29_44 : Xp 29 d 44 ls ((2, p) :: st) t g Q = (hkJK p = 1 ∧ Xp 29 d 47 ls ((0, g p 3) :: st) t g Q) := xr_getI (idx := 99) (ci := 1) (k := 3) (by decide +kernel) (by decide +kernel) (by decide +kernel)
theorem x_29_47 : Xp 29 d 47 ls [(0, x)] t g Q = Q (some (0, x)) t g := xr_retI (by decide +kernel) (by decide +kernel)
theorem x_29_48 : Xp 29 d 48 [(2, x), v1] st t g Q = Xp 29 d 49 [(2, x), v1] ((2, x) :: st) t g Q := Xp_go (i := .aload_n 0) (len := 1) (by decide +kernel) rfl
theorem x_29_49 : Xp 29 d 49 ls ((2, p) :: st) t g Q = (hkJK p = 0 ∧ jA p 0 ≤ t ∧ Xp 29 d 52 ls ((2, jR p 0) :: st) t g Q) := xr_getR (idx := 14) (ci := 0) (k := 0) (by decide +kernel) (by decide +kernel) (by decide +kernel)
theorem x_29_52 : Xp 29 d 52 ls ((2, p) :: st) t g Q = (hkJK p = 1 ∧ Xp 29 d 55 ls ((0, g p 0) :: st) t g Q) := xr_getI (idx := 107) (ci := 1) (k := 0) (by decide +kernel) (by decide +kernel) (by decide +kernel)
theorem x_29_55 : Xp 29 d 55 ls [(0, x)] t g Q = Q (some (0, x)) t g := xr_retI (by decide +kernel) (by decide +kernel)
theorem x_29_56 : Xp 29 d 56 [(2, x), v1] st t g Q = Xp 29 d 57 [(2, x), v1] ((2, x) :: st) t g Q := Xp_go (i := .aload_n 0) (len := 1) (by decide +kernel) rfl
theorem x_29_57 : Xp 29 d 57 ls ((2, p) :: st) t g Q = (hkJK p = 0 ∧ jA p 0 ≤ t ∧ Xp 29 d 60 ls ((2, jR p 0) :: st) t g Q) := xr_getR (idx := 14) (ci := 0) (k := 0) (by decide +kernel) (by decide +kernel) (by decide +kernel)
theorem x_29_60 : Xp 29 d 60 ls ((2, p) :: st) t g Q = (hkJK p = 1 ∧ Xp 29 d 63 ls ((0, g p 1) :: st) t g Q) := xr_getI (idx := 246) (ci := 1) (k := 1) (by decide +kernel) (by decide +kernel) (by decide +kernel)
theorem x_29_63 : Xp 29 d 63 ls [(0, x)] t g Q = Q (some (0, x)) t g := xr_retI (by decide +kernel) (by decide +kernel)
theorem x_29_64 : Xp 29 d 64 [(2, x), v1] st t g Q = Xp 29 d 65 [(2, x), v1] ((2, x) :: st) t g Q := Xp_go (i := .aload_n 0) (len := 1) (by decide +kernel) rfl
theorem x_29_65 : Xp 29 d 65 ls ((2, p) :: st) t g Q = (hkJK p = 0 ∧ jA p 7 ≤ t ∧ Xp 29 d 68 ls ((2, jR p 7) :: st) t g Q) := xr_getR (idx := 71) (ci := 0) (k := 7) (by decide +kernel) (by decide +kernel) (by decide +kernel)
theorem x_29_68 : Xp 29 (d + 1) 68 ls ((2, a0) :: st) t g Q = (hkJK a0 = 7 ∧ hkC8 st ∧ Xp 89 d 0 [(2, a0), hkU, hkU] [] t g (fun r t g => Xp 29 (d + 1) 71 ls (hkPush r st) t g Q)) := xr_invV (idx := 198) (y' := 89) (ci := 7) (tg := [2]) (by decide +kernel) (by decide +kernel) (by decide +kernel) (by decide +kernel) rfl rfl rfl
theorem x_29_71 : Xp 29 d 71 ls [(0, x)] t g Q = Q (some (0, x)) t g := xr_retI (by decide +kernel) (by decide +kernel)
theorem x_29_72 : Xp 29 d 72 [(2, x), v1] st t g Q = Xp 29 d 73 [(2, x), v1] ((2, x) :: st) t g Q := Xp_go (i := .aload_n 0) (len := 1) (by decide +kernel) rfl
theorem x_29_73 : Xp 29 d 73 ls ((2, p) :: st) t g Q = (hkJK p = 0 ∧ jA p 5 ≤ t ∧ Xp 29 d 76 ls ((2, jR p 5) :: st) t g Q) := xr_getR (idx := 57) (ci := 0) (k := 5) (by decide +kernel) (by decide +kernel) (by decide +kernel)
theorem x_29_76 : Xp 29 d 76 ls ((2, p) :: st) t g Q = (hkJK p = 6 ∧ Xp 29 d 79 ls ((0, g p 0) :: st) t g Q) := xr_getI (idx := 205) (ci := 6) (k := 0) (by decide +kernel) (by decide +kernel) (by decide +kernel)
theorem x_29_79 : Xp 29 d 79 ls [(0, x)] t g Q = Q (some (0, x)) t g := xr_retI (by decide +kernel) (by decide +kernel)
theorem x_29_80 : Xp 29 d 80 [(2, x), v1] st t g Q = Xp 29 d 81 [(2, x), v1] ((2, x) :: st) t g Q := Xp_go (i := .aload_n 0) (len := 1) (by decide +kernel) rfl
theorem x_29_81 : Xp 29 d 81 ls ((2, p) :: st) t g Q = (hkJK p = 0 ∧ jA p 5 ≤ t ∧ Xp 29 d 84 ls ((2, jR p 5) :: st) t g Q) := xr_getR (idx := 57) (ci := 0) (k := 5) (by decide +kernel) (by decide +kernel) (by decide +kernel)
theorem x_29_84 : Xp 29 d 84 ls ((2, p) :: st) t g Q = (hkJK p = 6 ∧ Xp 29 d 87 ls ((0, g p 1) :: st) t g Q) := xr_getI (idx := 260) (ci := 6) (k := 1) (by decide +kernel) (by decide +kernel) (by decide +kernel)
theorem x_29_87 : Xp 29 d 87 ls [(0, x)] t g Q = Q (some (0, x)) t g := xr_retI (by decide +kernel) (by decide +kernel)
theorem x_29_88 : Xp 29 d 88 ls st t g Q = Xp 29 d 90 ls ((0, -2) :: st) t g Q := xr_bi (c := -2) (by decide +kernel) (by decide)
theorem x_29_90 : Xp 29 d 90 ls [(0, x)] t g Q = Q (some (0, x)) t g := xr_retI (by decide +kernel) (by decide +kernel)
-- 30: HookBoxes.sheet(III)I
theorem x_30_0 : Xp 30 d 0 [v0, (0, x), v2, v3] st t g Q = Xp 30 d 1 [v0, (0, x), v2, v3] ((0, x) :: st) t g Q := Xp_go (i := .iload_n 1) (len := 1) (by decide +kernel) rfl
theorem x_30_1 : Xp 30 (d + 1) 1 ls ((0, a0) :: st) t g Q = (hkC8 st ∧ Xp 12 d 0 [(0, a0)] [] t g (fun r t g => Xp 30 (d + 1) 4 ls (hkPush r st) t g Q)) := xr_invS (idx := 155) (y' := 12) (tg := [0]) (by decide +kernel) (by decide +kernel) (by decide +kernel) rfl rfl
theorem x_30_4 : Xp 30 d 4 ls ((0, a) :: st) t g Q = ((¬ (a = 0) → Xp 30 d 16 ls st t g Q) ∧ (¬ (¬ (a = 0)) → Xp 30 d 7 ls st t g Q)) := xr_if1 (cd := .ne) (off := 12) (by decide +kernel) (by decide)
theorem x_30_7 : Xp 30 d 7 [v0, v1, (0, x), v3] st t g Q = Xp 30 d 8 [v0, v1, (0, x), v3] ((0, x) :: st) t g Q := Xp_go (i := .iload_n 2) (len := 1) (by decide +kernel) rfl
theorem x_30_8 : Xp 30 d 8 ls st t g Q = Xp 30 d 9 ls ((0, -1) :: st) t g Q := xr_const (c := -1) (by decide +kernel) (by decide)
theorem x_30_9 : Xp 30 d 9 ls st t g Q = Xp 30 d 10 ls ((0, 1) :: st) t g Q := xr_const (c := 1) (by decide +kernel) (by decide)
theorem x_30_10 : Xp 30 (d + 1) 10 ls ((0, a2) :: (0, a1) :: (0, a0) :: st) t g Q = (hkC8 st ∧ Xp 2 d 0 [(0, a0), (0, a1), (0, a2)] [] t g (fun r t g => Xp 30 (d + 1) 13 ls (hkPush r st) t g Q)) := xr_invS (idx := 88) (y' := 2) (tg := [0, 0, 0]) (by decide +kernel) (by decide +kernel) (by decide +kernel) rfl rfl
theorem x_30_13 : Xp 30 d 13 ls ((0, a) :: st) t g Q = ((a = 0 → Xp 30 d 19 ls st t g Q) ∧ (¬ (a = 0) → Xp 30 d 16 ls st t g Q)) := xr_if1 (cd := .eq) (off := 6) (by decide +kernel) (by decide)
theorem x_30_16 : Xp 30 d 16 ls st t g Q = Xp 30 d 18 ls ((0, -2) :: st) t g Q := xr_bi (c := -2) (by decide +kernel) (by decide)
theorem x_30_18 : Xp 30 d 18 ls [(0, x)] t g Q = Q (some (0, x)) t g := xr_retI (by decide +kernel) (by decide +kernel)
theorem x_30_19 : Xp 30 d 19 [v0, v1, (0, x), v3] st t g Q = Xp 30 d 20 [v0, v1, (0, x), v3] ((0, x) :: st) t g Q := Xp_go (i := .iload_n 2) (len := 1) (by decide +kernel) rfl
theorem x_30_20 : Xp 30 d 20 ls st t g Q = Xp 30 d 21 ls ((0, -1) :: st) t g Q := xr_const (c := -1) (by decide +kernel) (by decide)
theorem x_30_21 : Xp 30 d 21 ls ((0, b) :: (0, a) :: st) t g Q = ((¬ (a = b) → Xp 30 d 37 ls st t g Q) ∧ (¬ (¬ (a = b)) → Xp 30 d 24 ls st t g Q)) := xr_if2 (cd := .ne) (off := 16) (by decide +kernel) (by decide)
theorem x_30_24 : Xp 30 d 24 [(2, x), v1, v2, v3] st t g Q = Xp 30 d 25 [(2, x), v1, v2, v3] ((2, x) :: st) t g Q := Xp_go (i := .aload_n 0) (len := 1) (by decide +kernel) rfl
theorem x_30_25 : Xp 30 d 25 ls ((2, p) :: st) t g Q = (hkJK p = 0 ∧ jA p 12 ≤ t ∧ Xp 30 d 28 ls ((2, jR p 12) :: st) t g Q) := xr_getR (idx := 83) (ci := 0) (k := 12) (by decide +kernel) (by decide +kernel) (by decide +kernel)
theorem x_30_28 : Xp 30 d 28 [v0, (0, x), v2, v3] st t g Q = Xp 30 d 29 [v0, (0, x), v2, v3] ((0, x) :: st) t g Q := Xp_go (i := .iload_n 1) (len := 1) (by decide +kernel) rfl
theorem x_30_29 : Xp 30 d 29 ls ((0, a) :: (2, p) :: st) t g Q = ((103 ≤ hkJK p ∧ hkJK p ≤ 104 ∧ 0 ≤ a ∧ a < jL p ∧ jAi p a ≤ t) ∧ Xp 30 d 30 ls ((2, jRi p a) :: st) t g Q) := Xp_chk (i := .aaload) (len := 1) (by decide +kernel) rfl
theorem x_30_30 : Xp 30 d 30 ls st t g Q = Xp 30 d 31 ls ((0, -1) :: st) t g Q := xr_const (c := -1) (by decide +kernel) (by decide)
theorem x_30_31 : Xp 30 d 31 ls st t g Q = Xp 30 d 32 ls ((0, 0) :: st) t g Q := xr_const (c := 0) (by decide +kernel) (by decide)
theorem x_30_32 : Xp 30 (d + 1) 32 ls ((0, a2) :: (0, a1) :: (2, a0) :: st) t g Q = (hkJK a0 = 9 ∧ hkC8 st ∧ Xp 97 d 0 [(2, a0), (0, a1), (0, a2)] [] t g (fun r t g => Xp 30 (d + 1) 35 ls (hkPush r st) t g Q)) := xr_invV (idx := 238) (y' := 97) (ci := 9) (tg := [2, 0, 0]) (by decide +kernel) (by decide +kernel) (by decide +kernel) (by decide +kernel) rfl rfl rfl
theorem x_30_35 : Xp 30 d 35 ls st t g Q = Xp 30 d 36 ls ((0, 1) :: st) t g Q := xr_const (c := 1) (by decide +kernel) (by decide)
theorem x_30_36 : Xp 30 d 36 ls [(0, x)] t g Q = Q (some (0, x)) t g := xr_retI (by decide +kernel) (by decide +kernel)
theorem x_30_37 : Xp 30 d 37 [v0, v1, v2, (0, x)] st t g Q = Xp 30 d 38 [v0, v1, v2, (0, x)] ((0, x) :: st) t g Q := Xp_go (i := .iload_n 3) (len := 1) (by decide +kernel) rfl
theorem x_30_38 : Xp 30 d 38 ls st t g Q = Xp 30 d 40 ls ((0, 40) :: st) t g Q := xr_bi (c := 40) (by decide +kernel) (by decide)
theorem x_30_40 : Xp 30 d 40 ls ((0, b) :: (0, a) :: st) t g Q = ((a ≤ b → Xp 30 d 46 ls st t g Q) ∧ (¬ (a ≤ b) → Xp 30 d 43 ls st t g Q)) := xr_if2 (cd := .le) (off := 6) (by decide +kernel) (by decide)
theorem x_30_43 : Xp 30 d 43 ls st t g Q = Xp 30 d 45 ls ((0, -2) :: st) t g Q := xr_bi (c := -2) (by decide +kernel) (by decide)
theorem x_30_45 : Xp 30 d 45 ls [(0, x)] t g Q = Q (some (0, x)) t g := xr_retI (by decide +kernel) (by decide +kernel)
theorem x_30_46 : Xp 30 d 46 [v0, v1, v2, (0, x)] st t g Q = Xp 30 d 47 [v0, v1, v2, (0, x)] ((0, x) :: st) t g Q := Xp_go (i := .iload_n 3) (len := 1) (by decide +kernel) rfl
theorem x_30_47 : Xp 30 d 47 ls ((0, a) :: st) t g Q = ((0 ≤ a → Xp 30 d 53 ls st t g Q) ∧ (¬ (0 ≤ a) → Xp 30 d 50 ls st t g Q)) := xr_if1 (cd := .ge) (off := 6) (by decide +kernel) (by decide)
theorem x_30_50 : Xp 30 d 50 ls st t g Q = Xp 30 d 52 ls ((0, -14) :: st) t g Q := xr_bi (c := -14) (by decide +kernel) (by decide)
theorem x_30_52 : Xp 30 d 52 ls [(0, x)] t g Q = Q (some (0, x)) t g := xr_retI (by decide +kernel) (by decide +kernel)
theorem x_30_53 : Xp 30 d 53 [(2, x), v1, v2, v3] st t g Q = Xp 30 d 54 [(2, x), v1, v2, v3] ((2, x) :: st) t g Q := Xp_go (i := .aload_n 0) (len := 1) (by decide +kernel) rfl
theorem x_30_54 : Xp 30 d 54 ls ((2, p) :: st) t g Q = (hkJK p = 0 ∧ jA p 12 ≤ t ∧ Xp 30 d 57 ls ((2, jR p 12) :: st) t g Q) := xr_getR (idx := 83) (ci := 0) (k := 12) (by decide +kernel) (by decide +kernel) (by decide +kernel)
theorem x_30_57 : Xp 30 d 57 [v0, (0, x), v2, v3] st t g Q = Xp 30 d 58 [v0, (0, x), v2, v3] ((0, x) :: st) t g Q := Xp_go (i := .iload_n 1) (len := 1) (by decide +kernel) rfl
theorem x_30_58 : Xp 30 d 58 ls ((0, a) :: (2, p) :: st) t g Q = ((103 ≤ hkJK p ∧ hkJK p ≤ 104 ∧ 0 ≤ a ∧ a < jL p ∧ jAi p a ≤ t) ∧ Xp 30 d 59 ls ((2, jRi p a) :: st) t g Q) := Xp_chk (i := .aaload) (len := 1) (by decide +kernel) rfl
theorem x_30_59 : Xp 30 d 59 [v0, v1, (0, x), v3] st t g Q = Xp 30 d 60 [v0, v1, (0, x), v3] ((0, x) :: st) t g Q := Xp_go (i := .iload_n 2) (len := 1) (by decide +kernel) rfl
theorem x_30_60 : Xp 30 d 60 [v0, v1, v2, (0, x)] st t g Q = Xp 30 d 61 [v0, v1, v2, (0, x)] ((0, x) :: st) t g Q := Xp_go (i := .iload_n 3) (len := 1) (by decide +kernel) rfl
theorem x_30_61 : Xp 30 (d + 1) 61 ls ((0, a2) :: (0, a1) :: (2, a0) :: st) t g Q = (hkJK a0 = 9 ∧ hkC8 st ∧ Xp 97 d 0 [(2, a0), (0, a1), (0, a2)] [] t g (fun r t g => Xp 30 (d + 1) 64 ls (hkPush r st) t g Q)) := xr_invV (idx := 238) (y' := 97) (ci := 9) (tg := [2, 0, 0]) (by decide +kernel) (by decide +kernel) (by decide +kernel) (by decide +kernel) rfl rfl rfl
theorem x_30_64 : Xp 30 d 64 ls st t g Q = Xp 30 d 65 ls ((0, 1) :: st) t g Q := xr_const (c := 1) (by decide +kernel) (by decide)
theorem x_30_65 : Xp 30 d 65 ls [(0, x)] t g Q = Q (some (0, x)) t g := xr_retI (by decide +kernel) (by decide +kernel)
-- 31: HookBoxes.put(III)I
theorem x_31_0 : Xp 31 d 0 [v0, (0, x), v2, v3, v4] st t g Q = Xp 31 d 1 [v0, (0, x), v2, v3, v4] ((0, x) :: st) t g Q := Xp_go (i := .iload_n 1) (len := 1) (by decide +kernel) rfl
theorem x_31_1 : Xp 31 (d + 1) 1 ls ((0, a0) :: st) t g Q = (hkC8 st ∧ Xp 12 d 0 [(0, a0)] [] t g (fun r t g => Xp 31 (d + 1) 4 ls (hkPush r st) t g Q)) := xr_invS (idx := 155) (y' := 12) (tg := [0]) (by decide +kernel) (by decide +kernel) (by decide +kernel) rfl rfl
theorem x_31_4 : Xp 31 d 4 ls ((0, a) :: st) t g Q = ((a = 0 → Xp 31 d 10 ls st t g Q) ∧ (¬ (a = 0) → Xp 31 d 7 ls st t g Q)) := xr_if1 (cd := .eq) (off := 6) (by decide +kernel) (by decide)
theorem x_31_7 : Xp 31 d 7 ls st t g Q = Xp 31 d 9 ls ((0, -2) :: st) t g Q := xr_bi (c := -2) (by decide +kernel) (by decide)
theorem x_31_9 : Xp 31 d 9 ls [(0, x)] t g Q = Q (some (0, x)) t g := xr_retI (by decide +kernel) (by decide +kernel)
theorem x_31_10 : Xp 31 d 10 [(2, x), v1, v2, v3, v4] st t g Q = Xp 31 d 11 [(2, x), v1, v2, v3, v4] ((2, x) :: st) t g Q := Xp_go (i := .aload_n 0) (len := 1) (by decide +kernel) rfl
theorem x_31_11 : Xp 31 d 11 ls ((2, p) :: st) t g Q = (hkJK p = 0 ∧ jA p 12 ≤ t ∧ Xp 31 d 14 ls ((2, jR p 12) :: st) t g Q) := xr_getR (idx := 83) (ci := 0) (k := 12) (by decide +kernel) (by decide +kernel) (by decide +kernel)
theorem x_31_14 : Xp 31 d 14 [v0, (0, x), v2, v3, v4] st t g Q = Xp 31 d 15 [v0, (0, x), v2, v3, v4] ((0, x) :: st) t g Q := Xp_go (i := .iload_n 1) (len := 1) (by decide +kernel) rfl
theorem x_31_15 : Xp 31 d 15 ls ((0, a) :: (2, p) :: st) t g Q = ((103 ≤ hkJK p ∧ hkJK p ≤ 104 ∧ 0 ≤ a ∧ a < jL p ∧ jAi p a ≤ t) ∧ Xp 31 d 16 ls ((2, jRi p a) :: st) t g Q) := Xp_chk (i := .aaload) (len := 1) (by decide +kernel) rfl
theorem x_31_16 : Xp 31 d 16 [v0, v1, v2, v3, v4] ((2, x) :: st) t g Q = (hkP1 v3 ∧ Xp 31 d 18 [v0, v1, v2, v3, (2, x)] st t g Q) := Xp_chk (i := .astore 4) (len := 2) (by decide +kernel) rfl
theorem x_31_18 : Xp 31 d 18 [v0, v1, v2, v3, (2, x)] st t g Q = Xp 31 d 20 [v0, v1, v2, v3, (2, x)] ((2, x) :: st) t g Q := Xp_go (i := .aload 4) (len := 2) (by decide +kernel) rfl
theorem x_31_20 : Xp 31 (d + 1) 20 ls ((2, a0) :: st) t g Q = (hkJK a0 = 9 ∧ hkC8 st ∧ Xp 95 d 0 [(2, a0)] [] t g (fun r t g => Xp 31 (d + 1) 23 ls (hkPush r st) t g Q)) := xr_invV (idx := 158) (y' := 95) (ci := 9) (tg := [2]) (by decide +kernel) (by decide +kernel) (by decide +kernel) (by decide +kernel) rfl rfl rfl
theorem x_31_23 : Xp 31 d 23 ls ((0, a) :: st) t g Q = ((a = 0 → Xp 31 d 29 ls st t g Q) ∧ (¬ (a = 0) → Xp 31 d 26 ls st t g Q)) := xr_if1 (cd := .eq) (off := 6) (by decide +kernel) (by decide)
theorem x_31_26 : Xp 31 d 26 ls st t g Q = Xp 31 d 28 ls ((0, -11) :: st) t g Q := xr_bi (c := -11) (by decide +kernel) (by decide)
theorem x_31_28 : Xp 31 d 28 ls [(0, x)] t g Q = Q (some (0, x)) t g := xr_retI (by decide +kernel) (by decide +kernel)
theorem x_31_29 : Xp 31 d 29 [v0, v1, v2, v3, (2, x)] st t g Q = Xp 31 d 31 [v0, v1, v2, v3, (2, x)] ((2, x) :: st) t g Q := Xp_go (i := .aload 4) (len := 2) (by decide +kernel) rfl
theorem x_31_31 : Xp 31 d 31 [v0, v1, (0, x), v3, v4] st t g Q = Xp 31 d 32 [v0, v1, (0, x), v3, v4] ((0, x) :: st) t g Q := Xp_go (i := .iload_n 2) (len := 1) (by decide +kernel) rfl
theorem x_31_32 : Xp 31 (d + 1) 32 ls ((0, a1) :: (2, a0) :: st) t g Q = (hkJK a0 = 9 ∧ hkC8 st ∧ Xp 99 d 0 [(2, a0), (0, a1)] [] t g (fun r t g => Xp 31 (d + 1) 35 ls (hkPush r st) t g Q)) := xr_invV (idx := 255) (y' := 99) (ci := 9) (tg := [2, 0]) (by decide +kernel) (by decide +kernel) (by decide +kernel) (by decide +kernel) rfl rfl rfl
theorem x_31_35 : Xp 31 d 35 ls ((0, a) :: st) t g Q = ((¬ (a = 0) → Xp 31 d 41 ls st t g Q) ∧ (¬ (¬ (a = 0)) → Xp 31 d 38 ls st t g Q)) := xr_if1 (cd := .ne) (off := 6) (by decide +kernel) (by decide)
theorem x_31_38 : Xp 31 d 38 ls st t g Q = Xp 31 d 40 ls ((0, -12) :: st) t g Q := xr_bi (c := -12) (by decide +kernel) (by decide)
theorem x_31_40 : Xp 31 d 40 ls [(0, x)] t g Q = Q (some (0, x)) t g := xr_retI (by decide +kernel) (by decide +kernel)
theorem x_31_41 : Xp 31 d 41 [v0, v1, v2, v3, (2, x)] st t g Q = Xp 31 d 43 [v0, v1, v2, v3, (2, x)] ((2, x) :: st) t g Q := Xp_go (i := .aload 4) (len := 2) (by decide +kernel) rfl
theorem x_31_43 : Xp 31 d 43 [v0, v1, (0, x), v3, v4] st t g Q = Xp 31 d 44 [v0, v1, (0, x), v3, v4] ((0, x) :: st) t g Q := Xp_go (i := .iload_n 2) (len := 1) (by decide +kernel) rfl
theorem x_31_44 : Xp 31 d 44 [v0, v1, v2, (0, x), v4] st t g Q = Xp 31 d 45 [v0, v1, v2, (0, x), v4] ((0, x) :: st) t g Q := Xp_go (i := .iload_n 3) (len := 1) (by decide +kernel) rfl
theorem x_31_45 : Xp 31 (d + 1) 45 ls ((0, a2) :: (0, a1) :: (2, a0) :: st) t g Q = (hkJK a0 = 9 ∧ hkC8 st ∧ Xp 98 d 0 [(2, a0), (0, a1), (0, a2)] [] t g (fun r t g => Xp 31 (d + 1) 48 ls (hkPush r st) t g Q)) := xr_invV (idx := 240) (y' := 98) (ci := 9) (tg := [2, 0, 0]) (by decide +kernel) (by decide +kernel) (by decide +kernel) (by decide +kernel) rfl rfl rfl
theorem x_31_48 : Xp 31 d 48 ls st t g Q = Xp 31 d 49 ls ((0, 1) :: st) t g Q := xr_const (c := 1) (by decide +kernel) (by decide)
theorem x_31_49 : Xp 31 d 49 ls [(0, x)] t g Q = Q (some (0, x)) t g := xr_retI (by decide +kernel) (by decide +kernel)
-- 32: HookBoxes.copy(IIIII)I
theorem x_32_0 : Xp 32 d 0 [v0, (0, x), v2, v3, v4, v5, v6, v7] st t g Q = Xp 32 d 1 [v0, (0, x), v2, v3, v4, v5, v6, v7] ((0, x) :: st) t g Q := Xp_go (i := .iload_n 1) (len := 1) (by decide +kernel) rfl
theorem x_32_1 : Xp 32 (d + 1) 1 ls ((0, a0) :: st) t g Q = (hkC8 st ∧ Xp 12 d 0 [(0, a0)] [] t g (fun r t g => Xp 32 (d + 1) 4 ls (hkPush r st) t g Q)) := xr_invS (idx := 155) (y' := 12) (tg := [0]) (by decide +kernel) (by decide +kernel) (by decide +kernel) rfl rfl
theorem x_32_4 : Xp 32 d 4 ls ((0, a) :: st) t g Q = ((¬ (a = 0) → Xp 32 d 14 ls st t g Q) ∧ (¬ (¬ (a = 0)) → Xp 32 d 7 ls st t g Q)) := xr_if1 (cd := .ne) (off := 10) (by decide +kernel) (by decide)
theorem x_32_7 : Xp 32 d 7 [v0, v1, v2, (0, x), v4, v5, v6, v7] st t g Q = Xp 32 d 8 [v0, v1, v2, (0, x), v4, v5, v6, v7] ((0, x) :: st) t g Q := Xp_go (i := .iload_n 3) (len := 1) (by decide +kernel) rfl
theorem x_32_8 : Xp 32 (d + 1) 8 ls ((0, a0) :: st) t g Q = (hkC8 st ∧ Xp 12 d 0 [(0, a0)] [] t g (fun r t g => Xp 32 (d + 1) 11 ls (hkPush r st) t g Q)) := xr_invS (idx := 155) (y' := 12) (tg := [0]) (by decide +kernel) (by decide +kernel) (by decide +kernel) rfl rfl
theorem x_32_11 : Xp 32 d 11 ls ((0, a) :: st) t g Q = ((a = 0 → Xp 32 d 17 ls st t g Q) ∧ (¬ (a = 0) → Xp 32 d 14 ls st t g Q)) := xr_if1 (cd := .eq) (off := 6) (by decide +kernel) (by decide)
theorem x_32_14 : Xp 32 d 14 ls st t g Q = Xp 32 d 16 ls ((0, -2) :: st) t g Q := xr_bi (c := -2) (by decide +kernel) (by decide)
theorem x_32_16 : Xp 32 d 16 ls [(0, x)] t g Q = Q (some (0, x)) t g := xr_retI (by decide +kernel) (by decide +kernel)
theorem x_32_17 : Xp 32 d 17 [(2, x), v1, v2, v3, v4, v5, v6, v7] st t g Q = Xp 32 d 18 [(2, x), v1, v2, v3, v4, v5, v6, v7] ((2, x) :: st) t g Q := Xp_go (i := .aload_n 0) (len := 1) (by decide +kernel) rfl
theorem x_32_18 : Xp 32 d 18 ls ((2, p) :: st) t g Q = (hkJK p = 0 ∧ jA p 12 ≤ t ∧ Xp 32 d 21 ls ((2, jR p 12) :: st) t g Q) := xr_getR (idx := 83) (ci := 0) (k := 12) (by decide +kernel) (by decide +kernel) (by decide +kernel)
theorem x_32_21 : Xp 32 d 21 [v0, (0, x), v2, v3, v4, v5, v6, v7] st t g Q = Xp 32 d 22 [v0, (0, x), v2, v3, v4, v5, v6, v7] ((0, x) :: st) t g Q := Xp_go (i := .iload_n 1) (len := 1) (by decide +kernel) rfl
theorem x_32_22 : Xp 32 d 22 ls ((0, a) :: (2, p) :: st) t g Q = ((103 ≤ hkJK p ∧ hkJK p ≤ 104 ∧ 0 ≤ a ∧ a < jL p ∧ jAi p a ≤ t) ∧ Xp 32 d 23 ls ((2, jRi p a) :: st) t g Q) := Xp_chk (i := .aaload) (len := 1) (by decide +kernel) rfl
theorem x_32_23 : Xp 32 d 23 [v0, v1, v2, v3, v4, v5, v6, v7] ((2, x) :: st) t g Q = (hkP1 v5 ∧ Xp 32 d 25 [v0, v1, v2, v3, v4, v5, (2, x), v7] st t g Q) := Xp_chk (i := .astore 6) (len := 2) (by decide +kernel) rfl
theorem x_32_25 : Xp 32 d 25 [(2, x), v1, v2, v3, v4, v5, v6, v7] st t g Q = Xp 32 d 26 [(2, x), v1, v2, v3, v4, v5, v6, v7] ((2, x) :: st) t g Q := Xp_go (i := .aload_n 0) (len := 1) (by decide +kernel) rfl
theorem x_32_26 : Xp 32 d 26 ls ((2, p) :: st) t g Q = (hkJK p = 0 ∧ jA p 12 ≤ t ∧ Xp 32 d 29 ls ((2, jR p 12) :: st) t g Q) := xr_getR (idx := 83) (ci := 0) (k := 12) (by decide +kernel) (by decide +kernel) (by decide +kernel)
theorem x_32_29 : Xp 32 d 29 [v0, v1, v2, (0, x), v4, v5, v6, v7] st t g Q = Xp 32 d 30 [v0, v1, v2, (0, x), v4, v5, v6, v7] ((0, x) :: st) t g Q := Xp_go (i := .iload_n 3) (len := 1) (by decide +kernel) rfl
theorem x_32_30 : Xp 32 d 30 ls ((0, a) :: (2, p) :: st) t g Q = ((103 ≤ hkJK p ∧ hkJK p ≤ 104 ∧ 0 ≤ a ∧ a < jL p ∧ jAi p a ≤ t) ∧ Xp 32 d 31 ls ((2, jRi p a) :: st) t g Q) := Xp_chk (i := .aaload) (len := 1) (by decide +kernel) rfl
theorem x_32_31 : Xp 32 d 31 [v0, v1, v2, v3, v4, v5, v6, v7] ((2, x) :: st) t g Q = (hkP1 v6 ∧ Xp 32 d 33 [v0, v1, v2, v3, v4, v5, v6, (2, x)] st t g Q) := Xp_chk (i := .astore 7) (len := 2) (by decide +kernel) rfl
theorem x_32_33 : Xp 32 d 33 [v0, v1, v2, v3, v4, v5, (2, x), v7] st t g Q = Xp 32 d 35 [v0, v1, v2, v3, v4, v5, (2, x), v7] ((2, x) :: st) t g Q := Xp_go (i := .aload 6) (len := 2) (by decide +kernel) rfl
theorem x_32_35 : Xp 32 (d + 1) 35 ls ((2, a0) :: st) t g Q = (hkJK a0 = 9 ∧ hkC8 st ∧ Xp 95 d 0 [(2, a0)] [] t g (fun r t g => Xp 32 (d + 1) 38 ls (hkPush r st) t g Q)) := xr_invV (idx := 158) (y' := 95) (ci := 9) (tg := [2]) (by decide +kernel) (by decide +kernel) (by decide +kernel) (by decide +kernel) rfl rfl rfl
theorem x_32_38 : Xp 32 d 38 ls ((0, a) :: st) t g Q = ((¬ (a = 0) → Xp 32 d 49 ls st t g Q) ∧ (¬ (¬ (a = 0)) → Xp 32 d 41 ls st t g Q)) := xr_if1 (cd := .ne) (off := 11) (by decide +kernel) (by decide)
theorem x_32_41 : Xp 32 d 41 [v0, v1, v2, v3, v4, v5, v6, (2, x)] st t g Q = Xp 32 d 43 [v0, v1, v2, v3, v4, v5, v6, (2, x)] ((2, x) :: st) t g Q := Xp_go (i := .aload 7) (len := 2) (by decide +kernel) rfl
theorem x_32_43 : Xp 32 (d + 1) 43 ls ((2, a0) :: st) t g Q = (hkJK a0 = 9 ∧ hkC8 st ∧ Xp 95 d 0 [(2, a0)] [] t g (fun r t g => Xp 32 (d + 1) 46 ls (hkPush r st) t g Q)) := xr_invV (idx := 158) (y' := 95) (ci := 9) (tg := [2]) (by decide +kernel) (by decide +kernel) (by decide +kernel) (by decide +kernel) rfl rfl rfl
theorem x_32_46 : Xp 32 d 46 ls ((0, a) :: st) t g Q = ((a = 0 → Xp 32 d 52 ls st t g Q) ∧ (¬ (a = 0) → Xp 32 d 49 ls st t g Q)) := xr_if1 (cd := .eq) (off := 6) (by decide +kernel) (by decide)
theorem x_32_49 : Xp 32 d 49 ls st t g Q = Xp 32 d 51 ls ((0, -11) :: st) t g Q := xr_bi (c := -11) (by decide +kernel) (by decide)
theorem x_32_51 : Xp 32 d 51 ls [(0, x)] t g Q = Q (some (0, x)) t g := xr_retI (by decide +kernel) (by decide +kernel)
theorem x_32_52 : Xp 32 d 52 [v0, v1, v2, v3, v4, v5, (2, x), v7] st t g Q = Xp 32 d 54 [v0, v1, v2, v3, v4, v5, (2, x), v7] ((2, x) :: st) t g Q := Xp_go (i := .aload 6) (len := 2) (by decide +kernel) rfl
theorem x_32_54 : Xp 32 d 54 ls ((2, p) :: st) t g Q = (hkJK p = 9 ∧ Xp 32 d 57 ls ((0, g p 0) :: st) t g Q) := xr_getI (idx := 252) (ci := 9) (k := 0) (by decide +kernel) (by decide +kernel) (by decide +kernel)
theorem x_32_57 : Xp 32 d 57 [v0, v1, v2, v3, v4, v5, v6, (2, x)] st t g Q = Xp 32 d 59 [v0, v1, v2, v3, v4, v5, v6, (2, x)] ((2, x) :: st) t g Q := Xp_go (i := .aload 7) (len := 2) (by decide +kernel) rfl
theorem x_32_59 : Xp 32 d 59 ls ((2, p) :: st) t g Q = (hkJK p = 9 ∧ Xp 32 d 62 ls ((0, g p 0) :: st) t g Q) := xr_getI (idx := 252) (ci := 9) (k := 0) (by decide +kernel) (by decide +kernel) (by decide +kernel)
theorem x_32_62 : Xp 32 d 62 ls ((0, b) :: (0, a) :: st) t g Q = ((a = b → Xp 32 d 68 ls st t g Q) ∧ (¬ (a = b) → Xp 32 d 65 ls st t g Q)) := xr_if2 (cd := .eq) (off := 6) (by decide +kernel) (by decide)
theorem x_32_65 : Xp 32 d 65 ls st t g Q = Xp 32 d 67 ls ((0, -13) :: st) t g Q := xr_bi (c := -13) (by decide +kernel) (by decide)
theorem x_32_67 : Xp 32 d 67 ls [(0, x)] t g Q = Q (some (0, x)) t g := xr_retI (by decide +kernel) (by decide +kernel)
theorem x_32_68 : Xp 32 d 68 [v0, v1, v2, v3, v4, v5, (2, x), v7] st t g Q = Xp 32 d 70 [v0, v1, v2, v3, v4, v5, (2, x), v7] ((2, x) :: st) t g Q := Xp_go (i := .aload 6) (len := 2) (by decide +kernel) rfl
theorem x_32_70 : Xp 32 d 70 [v0, v1, (0, x), v3, v4, v5, v6, v7] st t g Q = Xp 32 d 71 [v0, v1, (0, x), v3, v4, v5, v6, v7] ((0, x) :: st) t g Q := Xp_go (i := .iload_n 2) (len := 1) (by decide +kernel) rfl
theorem x_32_71 : Xp 32 d 71 [v0, v1, v2, v3, v4, (0, x), v6, v7] st t g Q = Xp 32 d 73 [v0, v1, v2, v3, v4, (0, x), v6, v7] ((0, x) :: st) t g Q := Xp_go (i := .iload 5) (len := 2) (by decide +kernel) rfl
theorem x_32_73 : Xp 32 (d + 1) 73 ls ((0, a2) :: (0, a1) :: (2, a0) :: st) t g Q = (hkJK a0 = 9 ∧ hkC8 st ∧ Xp 100 d 0 [(2, a0), (0, a1), (0, a2)] [] t g (fun r t g => Xp 32 (d + 1) 76 ls (hkPush r st) t g Q)) := xr_invV (idx := 263) (y' := 100) (ci := 9) (tg := [2, 0, 0]) (by decide +kernel) (by decide +kernel) (by decide +kernel) (by decide +kernel) rfl rfl rfl
theorem x_32_76 : Xp 32 d 76 ls ((0, a) :: st) t g Q = ((a = 0 → Xp 32 d 91 ls st t g Q) ∧ (¬ (a = 0) → Xp 32 d 79 ls st t g Q)) := xr_if1 (cd := .eq) (off := 15) (by decide +kernel) (by decide)
theorem x_32_79 : Xp 32 d 79 [v0, v1, v2, v3, v4, v5, v6, (2, x)] st t g Q = Xp 32 d 81 [v0, v1, v2, v3, v4, v5, v6, (2, x)] ((2, x) :: st) t g Q := Xp_go (i := .aload 7) (len := 2) (by decide +kernel) rfl
theorem x_32_81 : Xp 32 d 81 [v0, v1, v2, v3, (0, x), v5, v6, v7] st t g Q = Xp 32 d 83 [v0, v1, v2, v3, (0, x), v5, v6, v7] ((0, x) :: st) t g Q := Xp_go (i := .iload 4) (len := 2) (by decide +kernel) rfl
theorem x_32_83 : Xp 32 d 83 [v0, v1, v2, v3, v4, (0, x), v6, v7] st t g Q = Xp 32 d 85 [v0, v1, v2, v3, v4, (0, x), v6, v7] ((0, x) :: st) t g Q := Xp_go (i := .iload 5) (len := 2) (by decide +kernel) rfl
theorem x_32_85 : Xp 32 (d + 1) 85 ls ((0, a2) :: (0, a1) :: (2, a0) :: st) t g Q = (hkJK a0 = 9 ∧ hkC8 st ∧ Xp 100 d 0 [(2, a0), (0, a1), (0, a2)] [] t g (fun r t g => Xp 32 (d + 1) 88 ls (hkPush r st) t g Q)) := xr_invV (idx := 263) (y' := 100) (ci := 9) (tg := [2, 0, 0]) (by decide +kernel) (by decide +kernel) (by decide +kernel) (by decide +kernel) rfl rfl rfl
theorem x_32_88 : Xp 32 d 88 ls ((0, a) :: st) t g Q = ((¬ (a = 0) → Xp 32 d 94 ls st t g Q) ∧ (¬ (¬ (a = 0)) → Xp 32 d 91 ls st t g Q)) := xr_if1 (cd := .ne) (off := 6) (by decide +kernel) (by decide)
theorem x_32_91 : Xp 32 d 91 ls st t g Q = Xp 32 d 93 ls ((0, -12) :: st) t g Q := xr_bi (c := -12) (by decide +kernel) (by decide)
theorem x_32_93 : Xp 32 d 93 ls [(0, x)] t g Q = Q (some (0, x)) t g := xr_retI (by decide +kernel) (by decide +kernel)
theorem x_32_94 : Xp 32 d 94 [v0, v1, v2, v3, v4, v5, (2, x), v7] st t g Q = Xp 32 d 96 [v0, v1, v2, v3, v4, v5, (2, x), v7] ((2, x) :: st) t g Q := Xp_go (i := .aload 6) (len := 2) (by decide +kernel) rfl
theorem x_32_96 : Xp 32 d 96 ls ((2, p) :: st) t g Q = (hkJK p = 9 ∧ jA p 2 ≤ t ∧ Xp 32 d 99 ls ((2, jR p 2) :: st) t g Q) := xr_getR (idx := 168) (ci := 9) (k := 2) (by decide +kernel) (by decide +kernel) (by decide +kernel)
theorem x_32_99 : Xp 32 d 99 [v0, v1, (0, x), v3, v4, v5, v6, v7] st t g Q = Xp 32 d 100 [v0, v1, (0, x), v3, v4, v5, v6, v7] ((0, x) :: st) t g Q := Xp_go (i := .iload_n 2) (len := 1) (by decide +kernel) rfl
theorem x_32_100 : Xp 32 d 100 [v0, v1, v2, v3, v4, v5, v6, (2, x)] st t g Q = Xp 32 d 102 [v0, v1, v2, v3, v4, v5, v6, (2, x)] ((2, x) :: st) t g Q := Xp_go (i := .aload 7) (len := 2) (by decide +kernel) rfl
theorem x_32_102 : Xp 32 d 102 ls ((2, p) :: st) t g Q = (hkJK p = 9 ∧ jA p 2 ≤ t ∧ Xp 32 d 105 ls ((2, jR p 2) :: st) t g Q) := xr_getR (idx := 168) (ci := 9) (k := 2) (by decide +kernel) (by decide +kernel) (by decide +kernel)
theorem x_32_105 : Xp 32 d 105 [v0, v1, v2, v3, (0, x), v5, v6, v7] st t g Q = Xp 32 d 107 [v0, v1, v2, v3, (0, x), v5, v6, v7] ((0, x) :: st) t g Q := Xp_go (i := .iload 4) (len := 2) (by decide +kernel) rfl
theorem x_32_107 : Xp 32 d 107 [v0, v1, v2, v3, v4, (0, x), v6, v7] st t g Q = Xp 32 d 109 [v0, v1, v2, v3, v4, (0, x), v6, v7] ((0, x) :: st) t g Q := Xp_go (i := .iload 5) (len := 2) (by decide +kernel) rfl
theorem x_32_109 : Xp 32 d 109 ls ((0, z) :: (0, b) :: (2, q) :: (0, a) :: (2, p) :: st) t g Q = ((hkJK p = 100 ∧ hkJK q = 100 ∧ 0 ≤ a ∧ 0 ≤ b ∧ 0 ≤ z ∧ a + z ≤ jL p ∧ b + z ≤ jL q) ∧ hkC8 st ∧ Xp 32 d 112 ls st t (hkCpy g p a q b z) Q) := xr_copy (idx := 267) (f := 999) (by decide +kernel) (by decide +kernel) (by decide +kernel)
theorem x_32_112 : Xp 32 d 112 [v0, v1, v2, v3, v4, (0, x), v6, v7] st t g Q = Xp 32 d 114 [v0, v1, v2, v3, v4, (0, x), v6, v7] ((0, x) :: st) t g Q := Xp_go (i := .iload 5) (len := 2) (by decide +kernel) rfl
theorem x_32_114 : Xp 32 d 114 ls [(0, x)] t g Q = Q (some (0, x)) t g := xr_retI (by decide +kernel) (by decide +kernel)
end XROWS
