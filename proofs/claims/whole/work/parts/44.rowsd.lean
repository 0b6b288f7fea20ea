/-! rows of the reference, first half (by program: wip/whole/gen_rows.py) -/
section XROWS
variable {d t : Nat} {ls st : List hkV} {g : hkG} {Q : Option hkV → Nat → hkG → Prop} {v w v0 v1 v2 v3 v4 v5 v6 v7 v8 v9 v10 v11 v12 v13 v14 v15 : hkV} {a b x z p q a0 a1 a2 a3 a4 a5 a6 : Int}
-- 101: HookBoxesModel.<init>()V
theorem x_101_0 : Xp 101 d 0 [(2, x), v1] st t g Q = Xp 101 d 1 [(2, x), v1] ((2, x) :: st) t g Q := Xp_go (i := .aload_n 0) (len := 1) (by decide +kernel) rfl
theorem x_101_1 : Xp 101 d 1 ls ((2, p) :: st) t g Q = (hkC8 st ∧ Xp 101 d 4 ls st t g Q) := xr_obj (idx := 5) (f := 183) (by decide +kernel) (by decide +kernel) (by decide +kernel) (by decide +kernel)
theorem x_101_4 : Xp 101 d 4 [(2, x), v1] st t g Q = Xp 101 d 5 [(2, x), v1] ((2, x) :: st) t g Q := Xp_go (i := .aload_n 0) (len := 1) (by decide +kernel) rfl
theorem x_101_5 : Xp 101 d 5 ls st t g Q = Xp 101 d 6 ls ((0, 2) :: st) t g Q := xr_const (c := 2) (by decide +kernel) (by decide)
theorem x_101_6 : Xp 101 d 6 ls ((0, x) :: (2, p) :: st) t g Q = (hkJK p = 10 ∧ Xp 101 d 9 ls st t (hkSet g p 0 x) Q) := xr_putI (idx := 11) (ci := 10) (k := 0) (by decide +kernel) (by decide +kernel) (by decide +kernel)
theorem x_101_9 : Xp 101 d 9 [(2, x), v1] st t g Q = Xp 101 d 10 [(2, x), v1] ((2, x) :: st) t g Q := Xp_go (i := .aload_n 0) (len := 1) (by decide +kernel) rfl
theorem x_101_10 : Xp 101 d 10 ls st t g Q = Xp 101 d 11 ls ((0, 4) :: st) t g Q := xr_const (c := 4) (by decide +kernel) (by decide)
theorem x_101_11 : Xp 101 d 11 ls ((0, x) :: (2, p) :: st) t g Q = (hkJK p = 10 ∧ Xp 101 d 14 ls st t (hkSet g p 1 x) Q) := xr_putI (idx := 15) (ci := 10) (k := 1) (by decide +kernel) (by decide +kernel) (by decide +kernel)
theorem x_101_14 : Xp 101 d 14 [(2, x), v1] st t g Q = Xp 101 d 15 [(2, x), v1] ((2, x) :: st) t g Q := Xp_go (i := .aload_n 0) (len := 1) (by decide +kernel) rfl
theorem x_101_15 : Xp 101 d 15 ls st t g Q = Xp 101 d 18 ls ((0, 140) :: st) t g Q := xr_si (c := 140) (by decide +kernel) (by decide)
theorem x_101_18 : Xp 101 d 18 ls ((0, x) :: st) t g Q = (∃ P z w, hkEV[t]? = some (0, P, z, w) ∧ hkKd P = 100 ∧ x = jL (P : Int) ∧ Xp 101 d 20 ls ((2, (P : Int)) :: st) (t + 1) g Q) := xr_newa (ty := .int) (ci := 100) (by decide +kernel) (by decide) (by decide)
theorem x_101_20 : Xp 101 d 20 ls ((2, z) :: (2, p) :: st) t g Q = (hkJK p = 10 ∧ hkEV[t]? = some (1, p.toNat, 3, z.toNat) ∧ Xp 101 d 23 ls st (t + 1) g Q) := xr_putR (idx := 18) (ci := 10) (k := 3) (by decide +kernel) (by decide +kernel) (by decide +kernel) (by decide +kernel) (by decide +kernel)
theorem x_101_23 : Xp 101 d 23 [(2, x), v1] st t g Q = Xp 101 d 24 [(2, x), v1] ((2, x) :: st) t g Q := Xp_go (i := .aload_n 0) (len := 1) (by decide +kernel) rfl
theorem x_101_24 : Xp 101 d 24 ls st t g Q = Xp 101 d 27 ls ((0, 128) :: st) t g Q := xr_si (c := 128) (by decide +kernel) (by decide)
theorem x_101_27 : Xp 101 d 27 ls ((0, x) :: st) t g Q = (∃ P z w, hkEV[t]? = some (0, P, z, w) ∧ hkKd P = 100 ∧ x = jL (P : Int) ∧ Xp 101 d 29 ls ((2, (P : Int)) :: st) (t + 1) g Q) := xr_newa (ty := .int) (ci := 100) (by decide +kernel) (by decide) (by decide)
theorem x_101_29 : Xp 101 d 29 ls ((2, z) :: (2, p) :: st) t g Q = (hkJK p = 10 ∧ hkEV[t]? = some (1, p.toNat, 4, z.toNat) ∧ Xp 101 d 32 ls st (t + 1) g Q) := xr_putR (idx := 22) (ci := 10) (k := 4) (by decide +kernel) (by decide +kernel) (by decide +kernel) (by decide +kernel) (by decide +kernel)
theorem x_101_32 : Xp 101 d 32 [(2, x), v1] st t g Q = Xp 101 d 33 [(2, x), v1] ((2, x) :: st) t g Q := Xp_go (i := .aload_n 0) (len := 1) (by decide +kernel) rfl
theorem x_101_33 : Xp 101 d 33 ls st t g Q = Xp 101 d 35 ls ((0, 35) :: st) t g Q := xr_bi (c := 35) (by decide +kernel) (by decide)
theorem x_101_35 : Xp 101 d 35 ls ((0, x) :: st) t g Q = (∃ P z w, hkEV[t]? = some (0, P, z, w) ∧ hkKd P = 100 ∧ x = jL (P : Int) ∧ Xp 101 d 37 ls ((2, (P : Int)) :: st) (t + 1) g Q) := xr_newa (ty := .int) (ci := 100) (by decide +kernel) (by decide) (by decide)
theorem x_101_37 : Xp 101 d 37 ls ((2, z) :: (2, p) :: st) t g Q = (hkJK p = 10 ∧ hkEV[t]? = some (1, p.toNat, 5, z.toNat) ∧ Xp 101 d 40 ls st (t + 1) g Q) := xr_putR (idx := 25) (ci := 10) (k := 5) (by decide +kernel) (by decide +kernel) (by decide +kernel) (by decide +kernel) (by decide +kernel)
theorem x_101_40 : Xp 101 d 40 [(2, x), v1] st t g Q = Xp 101 d 41 [(2, x), v1] ((2, x) :: st) t g Q := Xp_go (i := .aload_n 0) (len := 1) (by decide +kernel) rfl
theorem x_101_41 : Xp 101 d 41 ls st t g Q = Xp 101 d 43 ls ((0, 42875) :: st) t g Q := xr_ldc (idx := 28) (by decide +kernel) (by decide +kernel)
theorem x_101_43 : Xp 101 d 43 ls ((0, x) :: st) t g Q = (∃ P z w, hkEV[t]? = some (0, P, z, w) ∧ hkKd P = 100 ∧ x = jL (P : Int) ∧ Xp 101 d 45 ls ((2, (P : Int)) :: st) (t + 1) g Q) := xr_newa (ty := .int) (ci := 100) (by decide +kernel) (by decide) (by decide)
theorem x_101_45 : Xp 101 d 45 ls ((2, z) :: (2, p) :: st) t g Q = (hkJK p = 10 ∧ hkEV[t]? = some (1, p.toNat, 6, z.toNat) ∧ Xp 101 d 48 ls st (t + 1) g Q) := xr_putR (idx := 29) (ci := 10) (k := 6) (by decide +kernel) (by decide +kernel) (by decide +kernel) (by decide +kernel) (by decide +kernel)
theorem x_101_48 : Xp 101 d 48 [(2, x), v1] st t g Q = Xp 101 d 49 [(2, x), v1] ((2, x) :: st) t g Q := Xp_go (i := .aload_n 0) (len := 1) (by decide +kernel) rfl
theorem x_101_49 : Xp 101 d 49 ls st t g Q = Xp 101 d 52 ls ((0, 1225) :: st) t g Q := xr_si (c := 1225) (by decide +kernel) (by decide)
theorem x_101_52 : Xp 101 d 52 ls ((0, x) :: st) t g Q = (∃ P z w, hkEV[t]? = some (0, P, z, w) ∧ hkKd P = 102 ∧ x = jL (P : Int) ∧ Xp 101 d 54 ls ((2, (P : Int)) :: st) (t + 1) g Q) := xr_newa (ty := .boolean) (ci := 102) (by decide +kernel) (by decide) (by decide)
theorem x_101_54 : Xp 101 d 54 ls ((2, z) :: (2, p) :: st) t g Q = (hkJK p = 10 ∧ hkEV[t]? = some (1, p.toNat, 7, z.toNat) ∧ Xp 101 d 57 ls st (t + 1) g Q) := xr_putR (idx := 32) (ci := 10) (k := 7) (by decide +kernel) (by decide +kernel) (by decide +kernel) (by decide +kernel) (by decide +kernel)
theorem x_101_57 : Xp 101 d 57 [(2, x), v1] st t g Q = Xp 101 d 58 [(2, x), v1] ((2, x) :: st) t g Q := Xp_go (i := .aload_n 0) (len := 1) (by decide +kernel) rfl
theorem x_101_58 : Xp 101 d 58 ls st t g Q = Xp 101 d 61 ls ((0, 280) :: st) t g Q := xr_si (c := 280) (by decide +kernel) (by decide)
theorem x_101_61 : Xp 101 d 61 ls ((0, x) :: st) t g Q = (∃ P z w, hkEV[t]? = some (0, P, z, w) ∧ hkKd P = 100 ∧ x = jL (P : Int) ∧ Xp 101 d 63 ls ((2, (P : Int)) :: st) (t + 1) g Q) := xr_newa (ty := .int) (ci := 100) (by decide +kernel) (by decide) (by decide)
theorem x_101_63 : Xp 101 d 63 ls ((2, z) :: (2, p) :: st) t g Q = (hkJK p = 10 ∧ hkEV[t]? = some (1, p.toNat, 8, z.toNat) ∧ Xp 101 d 66 ls st (t + 1) g Q) := xr_putR (idx := 36) (ci := 10) (k := 8) (by decide +kernel) (by decide +kernel) (by decide +kernel) (by decide +kernel) (by decide +kernel)
theorem x_101_66 : Xp 101 d 66 [(2, x), v1] st t g Q = Xp 101 d 67 [(2, x), v1] ((2, x) :: st) t g Q := Xp_go (i := .aload_n 0) (len := 1) (by decide +kernel) rfl
theorem x_101_67 : Xp 101 d 67 ls st t g Q = Xp 101 d 70 ls ((0, 280) :: st) t g Q := xr_si (c := 280) (by decide +kernel) (by decide)
theorem x_101_70 : Xp 101 d 70 ls ((0, x) :: st) t g Q = (∃ P z w, hkEV[t]? = some (0, P, z, w) ∧ hkKd P = 100 ∧ x = jL (P : Int) ∧ Xp 101 d 72 ls ((2, (P : Int)) :: st) (t + 1) g Q) := xr_newa (ty := .int) (ci := 100) (by decide +kernel) (by decide) (by decide)
theorem x_101_72 : Xp 101 d 72 ls ((2, z) :: (2, p) :: st) t g Q = (hkJK p = 10 ∧ hkEV[t]? = some (1, p.toNat, 9, z.toNat) ∧ Xp 101 d 75 ls st (t + 1) g Q) := xr_putR (idx := 39) (ci := 10) (k := 9) (by decide +kernel) (by decide +kernel) (by decide +kernel) (by decide +kernel) (by decide +kernel)
theorem x_101_75 : Xp 101 d 75 [(2, x), v1] st t g Q = Xp 101 d 76 [(2, x), v1] ((2, x) :: st) t g Q := Xp_go (i := .aload_n 0) (len := 1) (by decide +kernel) rfl
theorem x_101_76 : Xp 101 d 76 ls st t g Q = Xp 101 d 77 ls ((0, 4) :: st) t g Q := xr_const (c := 4) (by decide +kernel) (by decide)
theorem x_101_77 : Xp 101 d 77 ls ((0, x) :: st) t g Q = (∃ P z w, hkEV[t]? = some (0, P, z, w) ∧ hkKd P = 100 ∧ x = jL (P : Int) ∧ Xp 101 d 79 ls ((2, (P : Int)) :: st) (t + 1) g Q) := xr_newa (ty := .int) (ci := 100) (by decide +kernel) (by decide) (by decide)
theorem x_101_79 : Xp 101 d 79 ls ((2, z) :: (2, p) :: st) t g Q = (hkJK p = 10 ∧ hkEV[t]? = some (1, p.toNat, 14, z.toNat) ∧ Xp 101 d 82 ls st (t + 1) g Q) := xr_putR (idx := 42) (ci := 10) (k := 14) (by decide +kernel) (by decide +kernel) (by decide +kernel) (by decide +kernel) (by decide +kernel)
theorem x_101_82 : Xp 101 d 82 [(2, x), v1] st t g Q = Xp 101 d 83 [(2, x), v1] ((2, x) :: st) t g Q := Xp_go (i := .aload_n 0) (len := 1) (by decide +kernel) rfl
theorem x_101_83 : Xp 101 d 83 ls st t g Q = Xp 101 d 84 ls ((0, 4) :: st) t g Q := xr_const (c := 4) (by decide +kernel) (by decide)
theorem x_101_84 : Xp 101 d 84 ls ((0, x) :: st) t g Q = (∃ P z w, hkEV[t]? = some (0, P, z, w) ∧ hkKd P = 100 ∧ x = jL (P : Int) ∧ Xp 101 d 86 ls ((2, (P : Int)) :: st) (t + 1) g Q) := xr_newa (ty := .int) (ci := 100) (by decide +kernel) (by decide) (by decide)
theorem x_101_86 : Xp 101 d 86 ls ((2, z) :: (2, p) :: st) t g Q = (hkJK p = 10 ∧ hkEV[t]? = some (1, p.toNat, 15, z.toNat) ∧ Xp 101 d 89 ls st (t + 1) g Q) := xr_putR (idx := 45) (ci := 10) (k := 15) (by decide +kernel) (by decide +kernel) (by decide +kernel) (by decide +kernel) (by decide +kernel)
theorem x_101_89 : Xp 101 d 89 [(2, x), v1] st t g Q = Xp 101 d 90 [(2, x), v1] ((2, x) :: st) t g Q := Xp_go (i := .aload_n 0) (len := 1) (by decide +kernel) rfl
theorem x_101_90 : Xp 101 d 90 ls st t g Q = Xp 101 d 92 ls ((0, 35) :: st) t g Q := xr_bi (c := 35) (by decide +kernel) (by decide)
theorem x_101_92 : Xp 101 d 92 ls ((0, x) :: st) t g Q = (∃ P z w, hkEV[t]? = some (0, P, z, w) ∧ hkKd P = 100 ∧ x = jL (P : Int) ∧ Xp 101 d 94 ls ((2, (P : Int)) :: st) (t + 1) g Q) := xr_newa (ty := .int) (ci := 100) (by decide +kernel) (by decide) (by decide)
theorem x_101_94 : Xp 101 d 94 ls ((2, z) :: (2, p) :: st) t g Q = (hkJK p = 10 ∧ hkEV[t]? = some (1, p.toNat, 19, z.toNat) ∧ Xp 101 d 97 ls st (t + 1) g Q) := xr_putR (idx := 48) (ci := 10) (k := 19) (by decide +kernel) (by decide +kernel) (by decide +kernel) (by decide +kernel) (by decide +kernel)
theorem x_101_97 : Xp 101 d 97 [(2, x), v1] st t g Q = Xp 101 d 98 [(2, x), v1] ((2, x) :: st) t g Q := Xp_go (i := .aload_n 0) (len := 1) (by decide +kernel) rfl
theorem x_101_98 : Xp 101 d 98 ls st t g Q = Xp 101 d 100 ls ((0, 35) :: st) t g Q := xr_bi (c := 35) (by decide +kernel) (by decide)
theorem x_101_100 : Xp 101 d 100 ls ((0, x) :: st) t g Q = (∃ P z w, hkEV[t]? = some (0, P, z, w) ∧ hkKd P = 100 ∧ x = jL (P : Int) ∧ Xp 101 d 102 ls ((2, (P : Int)) :: st) (t + 1) g Q) := xr_newa (ty := .int) (ci := 100) (by decide +kernel) (by decide) (by decide)
theorem x_101_102 : Xp 101 d 102 ls ((2, z) :: (2, p) :: st) t g Q = (hkJK p = 10 ∧ hkEV[t]? = some (1, p.toNat, 20, z.toNat) ∧ Xp 101 d 105 ls st (t + 1) g Q) := xr_putR (idx := 51) (ci := 10) (k := 20) (by decide +kernel) (by decide +kernel) (by decide +kernel) (by decide +kernel) (by decide +kernel)
theorem x_101_105 : Xp 101 d 105 [(2, x), v1] st t g Q = Xp 101 d 106 [(2, x), v1] ((2, x) :: st) t g Q := Xp_go (i := .aload_n 0) (len := 1) (by decide +kernel) rfl
theorem x_101_106 : Xp 101 d 106 ls st t g Q = Xp 101 d 107 ls ((0, 4) :: st) t g Q := xr_const (c := 4) (by decide +kernel) (by decide)
theorem x_101_107 : Xp 101 d 107 ls ((0, x) :: st) t g Q = (∃ P z w, hkEV[t]? = some (0, P, z, w) ∧ hkKd P = 100 ∧ x = jL (P : Int) ∧ Xp 101 d 109 ls ((2, (P : Int)) :: st) (t + 1) g Q) := xr_newa (ty := .int) (ci := 100) (by decide +kernel) (by decide) (by decide)
theorem x_101_109 : Xp 101 d 109 ls ((2, z) :: (2, p) :: st) t g Q = (hkJK p = 10 ∧ hkEV[t]? = some (1, p.toNat, 21, z.toNat) ∧ Xp 101 d 112 ls st (t + 1) g Q) := xr_putR (idx := 54) (ci := 10) (k := 21) (by decide +kernel) (by decide +kernel) (by decide +kernel) (by decide +kernel) (by decide +kernel)
theorem x_101_112 : Xp 101 d 112 [(2, x), v1] st t g Q = Xp 101 d 113 [(2, x), v1] ((2, x) :: st) t g Q := Xp_go (i := .aload_n 0) (len := 1) (by decide +kernel) rfl
theorem x_101_113 : Xp 101 d 113 ls st t g Q = Xp 101 d 114 ls ((0, 4) :: st) t g Q := xr_const (c := 4) (by decide +kernel) (by decide)
theorem x_101_114 : Xp 101 d 114 ls ((0, x) :: st) t g Q = (∃ P z w, hkEV[t]? = some (0, P, z, w) ∧ hkKd P = 100 ∧ x = jL (P : Int) ∧ Xp 101 d 116 ls ((2, (P : Int)) :: st) (t + 1) g Q) := xr_newa (ty := .int) (ci := 100) (by decide +kernel) (by decide) (by decide)
theorem x_101_116 : Xp 101 d 116 ls ((2, z) :: (2, p) :: st) t g Q = (hkJK p = 10 ∧ hkEV[t]? = some (1, p.toNat, 22, z.toNat) ∧ Xp 101 d 119 ls st (t + 1) g Q) := xr_putR (idx := 57) (ci := 10) (k := 22) (by decide +kernel) (by decide +kernel) (by decide +kernel) (by decide +kernel) (by decide +kernel)
theorem x_101_119 : Xp 101 d 119 [(2, x), v1] st t g Q = Xp 101 d 120 [(2, x), v1] ((2, x) :: st) t g Q := Xp_go (i := .aload_n 0) (len := 1) (by decide +kernel) rfl
theorem x_101_120 : Xp 101 d 120 ls st t g Q = Xp 101 d 122 ls ((0, 7) :: st) t g Q := xr_bi (c := 7) (by decide +kernel) (by decide)
theorem x_101_122 : Xp 101 d 122 ls ((0, x) :: st) t g Q = (∃ P z w, hkEV[t]? = some (0, P, z, w) ∧ hkKd P = 100 ∧ x = jL (P : Int) ∧ Xp 101 d 124 ls ((2, (P : Int)) :: st) (t + 1) g Q) := xr_newa (ty := .int) (ci := 100) (by decide +kernel) (by decide) (by decide)
theorem x_101_124 : Xp 101 d 124 ls ((2, z) :: (2, p) :: st) t g Q = (hkJK p = 10 ∧ hkEV[t]? = some (1, p.toNat, 23, z.toNat) ∧ Xp 101 d 127 ls st (t + 1) g Q) := xr_putR (idx := 60) (ci := 10) (k := 23) (by decide +kernel) (by decide +kernel) (by decide +kernel) (by decide +kernel) (by decide +kernel)
theorem x_101_127 : Xp 101 d 127 [(2, x), v1] st t g Q = Xp 101 d 128 [(2, x), v1] ((2, x) :: st) t g Q := Xp_go (i := .aload_n 0) (len := 1) (by decide +kernel) rfl
theorem x_101_128 : Xp 101 d 128 ls st t g Q = Xp 101 d 129 ls ((0, 4) :: st) t g Q := xr_const (c := 4) (by decide +kernel) (by decide)
theorem x_101_129 : Xp 101 d 129 ls ((0, x) :: st) t g Q = (∃ P z w, hkEV[t]? = some (0, P, z, w) ∧ hkKd P = 100 ∧ x = jL (P : Int) ∧ Xp 101 d 131 ls ((2, (P : Int)) :: st) (t + 1) g Q) := xr_newa (ty := .int) (ci := 100) (by decide +kernel) (by decide) (by decide)
theorem x_101_131 : Xp 101 d 131 ls ((2, z) :: (2, p) :: st) t g Q = (hkJK p = 10 ∧ hkEV[t]? = some (1, p.toNat, 24, z.toNat) ∧ Xp 101 d 134 ls st (t + 1) g Q) := xr_putR (idx := 63) (ci := 10) (k := 24) (by decide +kernel) (by decide +kernel) (by decide +kernel) (by decide +kernel) (by decide +kernel)
theorem x_101_134 : Xp 101 d 134 [(2, x), v1] st t g Q = Xp 101 d 135 [(2, x), v1] ((2, x) :: st) t g Q := Xp_go (i := .aload_n 0) (len := 1) (by decide +kernel) rfl
theorem x_101_135 : Xp 101 d 135 ls st t g Q = Xp 101 d 137 ls ((0, 8) :: st) t g Q := xr_bi (c := 8) (by decide +kernel) (by decide)
theorem x_101_137 : Xp 101 d 137 ls ((0, x) :: st) t g Q = (∃ P z w, hkEV[t]? = some (0, P, z, w) ∧ hkKd P = 100 ∧ x = jL (P : Int) ∧ Xp 101 d 139 ls ((2, (P : Int)) :: st) (t + 1) g Q) := xr_newa (ty := .int) (ci := 100) (by decide +kernel) (by decide) (by decide)
theorem x_101_139 : Xp 101 d 139 ls ((2, z) :: (2, p) :: st) t g Q = (hkJK p = 10 ∧ hkEV[t]? = some (1, p.toNat, 25, z.toNat) ∧ Xp 101 d 142 ls st (t + 1) g Q) := xr_putR (idx := 66) (ci := 10) (k := 25) (by decide +kernel) (by decide +kernel) (by decide +kernel) (by decide +kernel) (by decide +kernel)
theorem x_101_142 : Xp 101 d 142 [(2, x), v1] st t g Q = Xp 101 d 143 [(2, x), v1] ((2, x) :: st) t g Q := Xp_go (i := .aload_n 0) (len := 1) (by decide +kernel) rfl
theorem x_101_143 : Xp 101 d 143 ls st t g Q = Xp 101 d 146 ls ((0, 4480) :: st) t g Q := xr_si (c := 4480) (by decide +kernel) (by decide)
theorem x_101_146 : Xp 101 d 146 ls ((0, x) :: st) t g Q = (∃ P z w, hkEV[t]? = some (0, P, z, w) ∧ hkKd P = 100 ∧ x = jL (P : Int) ∧ Xp 101 d 148 ls ((2, (P : Int)) :: st) (t + 1) g Q) := xr_newa (ty := .int) (ci := 100) (by decide +kernel) (by decide) (by decide)
theorem x_101_148 : Xp 101 d 148 ls ((2, z) :: (2, p) :: st) t g Q = (hkJK p = 10 ∧ hkEV[t]? = some (1, p.toNat, 27, z.toNat) ∧ Xp 101 d 151 ls st (t + 1) g Q) := xr_putR (idx := 69) (ci := 10) (k := 27) (by decide +kernel) (by decide +kernel) (by decide +kernel) (by decide +kernel) (by decide +kernel)
theorem x_101_151 : Xp 101 d 151 [(2, x), v1] st t g Q = Xp 101 d 152 [(2, x), v1] ((2, x) :: st) t g Q := Xp_go (i := .aload_n 0) (len := 1) (by decide +kernel) rfl
theorem x_101_152 : Xp 101 d 152 ls st t g Q = Xp 101 d 155 ls ((0, 840) :: st) t g Q := xr_si (c := 840) (by decide +kernel) (by decide)
theorem x_101_155 : Xp 101 d 155 ls ((0, x) :: st) t g Q = (∃ P z w, hkEV[t]? = some (0, P, z, w) ∧ hkKd P = 101 ∧ x = jL (P : Int) ∧ Xp 101 d 157 ls ((2, (P : Int)) :: st) (t + 1) g Q) := xr_newa (ty := .long) (ci := 101) (by decide +kernel) (by decide) (by decide)
theorem x_101_157 : Xp 101 d 157 ls ((2, z) :: (2, p) :: st) t g Q = (hkJK p = 10 ∧ hkEV[t]? = some (1, p.toNat, 28, z.toNat) ∧ Xp 101 d 160 ls st (t + 1) g Q) := xr_putR (idx := 72) (ci := 10) (k := 28) (by decide +kernel) (by decide +kernel) (by decide +kernel) (by decide +kernel) (by decide +kernel)
theorem x_101_160 : Xp 101 d 160 [(2, x), v1] st t g Q = Xp 101 d 161 [(2, x), v1] ((2, x) :: st) t g Q := Xp_go (i := .aload_n 0) (len := 1) (by decide +kernel) rfl
theorem x_101_161 : Xp 101 d 161 ls st t g Q = Xp 101 d 163 ls ((0, 60) :: st) t g Q := xr_bi (c := 60) (by decide +kernel) (by decide)
theorem x_101_163 : Xp 101 d 163 ls ((0, x) :: st) t g Q = (∃ P z w, hkEV[t]? = some (0, P, z, w) ∧ hkKd P = 100 ∧ x = jL (P : Int) ∧ Xp 101 d 165 ls ((2, (P : Int)) :: st) (t + 1) g Q) := xr_newa (ty := .int) (ci := 100) (by decide +kernel) (by decide) (by decide)
theorem x_101_165 : Xp 101 d 165 ls ((2, z) :: (2, p) :: st) t g Q = (hkJK p = 10 ∧ hkEV[t]? = some (1, p.toNat, 30, z.toNat) ∧ Xp 101 d 168 ls st (t + 1) g Q) := xr_putR (idx := 76) (ci := 10) (k := 30) (by decide +kernel) (by decide +kernel) (by decide +kernel) (by decide +kernel) (by decide +kernel)
theorem x_101_168 : Xp 101 d 168 [(2, x), v1] st t g Q = Xp 101 d 169 [(2, x), v1] ((2, x) :: st) t g Q := Xp_go (i := .aload_n 0) (len := 1) (by decide +kernel) rfl
theorem x_101_169 : Xp 101 d 169 ls st t g Q = Xp 101 d 170 ls ((0, 5) :: st) t g Q := xr_const (c := 5) (by decide +kernel) (by decide)
theorem x_101_170 : Xp 101 d 170 ls ((0, x) :: st) t g Q = (∃ P z w, hkEV[t]? = some (0, P, z, w) ∧ hkKd P = 100 ∧ x = jL (P : Int) ∧ Xp 101 d 172 ls ((2, (P : Int)) :: st) (t + 1) g Q) := xr_newa (ty := .int) (ci := 100) (by decide +kernel) (by decide) (by decide)
theorem x_101_172 : Xp 101 d 172 ls ((2, z) :: (2, p) :: st) t g Q = (hkJK p = 10 ∧ hkEV[t]? = some (1, p.toNat, 31, z.toNat) ∧ Xp 101 d 175 ls st (t + 1) g Q) := xr_putR (idx := 79) (ci := 10) (k := 31) (by decide +kernel) (by decide +kernel) (by decide +kernel) (by decide +kernel) (by decide +kernel)
theorem x_101_175 : Xp 101 d 175 [(2, x), v1] st t g Q = Xp 101 d 176 [(2, x), v1] ((2, x) :: st) t g Q := Xp_go (i := .aload_n 0) (len := 1) (by decide +kernel) rfl
theorem x_101_176 : Xp 101 d 176 ls st t g Q = Xp 101 d 177 ls ((0, 4) :: st) t g Q := xr_const (c := 4) (by decide +kernel) (by decide)
theorem x_101_177 : Xp 101 d 177 ls ((0, x) :: st) t g Q = (∃ P z w, hkEV[t]? = some (0, P, z, w) ∧ hkKd P = 100 ∧ x = jL (P : Int) ∧ Xp 101 d 179 ls ((2, (P : Int)) :: st) (t + 1) g Q) := xr_newa (ty := .int) (ci := 100) (by decide +kernel) (by decide) (by decide)
theorem x_101_179 : Xp 101 d 179 ls ((2, z) :: (2, p) :: st) t g Q = (hkJK p = 10 ∧ hkEV[t]? = some (1, p.toNat, 36, z.toNat) ∧ Xp 101 d 182 ls st (t + 1) g Q) := xr_putR (idx := 82) (ci := 10) (k := 36) (by decide +kernel) (by decide +kernel) (by decide +kernel) (by decide +kernel) (by decide +kernel)
theorem x_101_182 : Xp 101 d 182 [(2, x), v1] st t g Q = Xp 101 d 183 [(2, x), v1] ((2, x) :: st) t g Q := Xp_go (i := .aload_n 0) (len := 1) (by decide +kernel) rfl
theorem x_101_183 : Xp 101 d 183 ls st t g Q = Xp 101 d 184 ls ((0, 4) :: st) t g Q := xr_const (c := 4) (by decide +kernel) (by decide)
theorem x_101_184 : Xp 101 d 184 ls ((0, x) :: st) t g Q = (∃ P z w, hkEV[t]? = some (0, P, z, w) ∧ hkKd P = 100 ∧ x = jL (P : Int) ∧ Xp 101 d 186 ls ((2, (P : Int)) :: st) (t + 1) g Q) := xr_newa (ty := .int) (ci := 100) (by decide +kernel) (by decide) (by decide)
theorem x_101_186 : Xp 101 d 186 ls ((2, z) :: (2, p) :: st) t g Q = (hkJK p = 10 ∧ hkEV[t]? = some (1, p.toNat, 37, z.toNat) ∧ Xp 101 d 189 ls st (t + 1) g Q) := xr_putR (idx := 85) (ci := 10) (k := 37) (by decide +kernel) (by decide +kernel) (by decide +kernel) (by decide +kernel) (by decide +kernel)
theorem x_101_189 : Xp 101 d 189 [(2, x), v1] st t g Q = Xp 101 d 190 [(2, x), v1] ((2, x) :: st) t g Q := Xp_go (i := .aload_n 0) (len := 1) (by decide +kernel) rfl
theorem x_101_190 : Xp 101 d 190 ls st t g Q = Xp 101 d 193 ls ((0, 160) :: st) t g Q := xr_si (c := 160) (by decide +kernel) (by decide)
theorem x_101_193 : Xp 101 d 193 ls ((0, x) :: st) t g Q = (∃ P z w, hkEV[t]? = some (0, P, z, w) ∧ hkKd P = 100 ∧ x = jL (P : Int) ∧ Xp 101 d 195 ls ((2, (P : Int)) :: st) (t + 1) g Q) := xr_newa (ty := .int) (ci := 100) (by decide +kernel) (by decide) (by decide)
theorem x_101_195 : Xp 101 d 195 ls ((2, z) :: (2, p) :: st) t g Q = (hkJK p = 10 ∧ hkEV[t]? = some (1, p.toNat, 38, z.toNat) ∧ Xp 101 d 198 ls st (t + 1) g Q) := xr_putR (idx := 88) (ci := 10) (k := 38) (by decide +kernel) (by decide +kernel) (by decide +kernel) (by decide +kernel) (by decide +kernel)
theorem x_101_198 : Xp 101 d 198 [(2, x), v1] st t g Q = Xp 101 d 199 [(2, x), v1] ((2, x) :: st) t g Q := Xp_go (i := .aload_n 0) (len := 1) (by decide +kernel) rfl
theorem x_101_199 : Xp 101 d 199 ls st t g Q = Xp 101 d 201 ls ((0, 40) :: st) t g Q := xr_bi (c := 40) (by decide +kernel) (by decide)
theorem x_101_201 : Xp 101 d 201 ls ((0, x) :: st) t g Q = (∃ P z w, hkEV[t]? = some (0, P, z, w) ∧ hkKd P = 100 ∧ x = jL (P : Int) ∧ Xp 101 d 203 ls ((2, (P : Int)) :: st) (t + 1) g Q) := xr_newa (ty := .int) (ci := 100) (by decide +kernel) (by decide) (by decide)
theorem x_101_203 : Xp 101 d 203 ls ((2, z) :: (2, p) :: st) t g Q = (hkJK p = 10 ∧ hkEV[t]? = some (1, p.toNat, 39, z.toNat) ∧ Xp 101 d 206 ls st (t + 1) g Q) := xr_putR (idx := 91) (ci := 10) (k := 39) (by decide +kernel) (by decide +kernel) (by decide +kernel) (by decide +kernel) (by decide +kernel)
theorem x_101_206 : Xp 101 d 206 ls st t g Q = Xp 101 d 207 ls ((0, 0) :: st) t g Q := xr_const (c := 0) (by decide +kernel) (by decide)
theorem x_101_207 : Xp 101 d 207 [v0, v1] ((0, x) :: st) t g Q = (hkP1 v0 ∧ Xp 101 d 208 [v0, (0, x)] st t g Q) := Xp_chk (i := .istore_n 1) (len := 1) (by decide +kernel) rfl
theorem x_101_208 : Xp 101 d 208 [v0, (0, x)] st t g Q = Xp 101 d 209 [v0, (0, x)] ((0, x) :: st) t g Q := Xp_go (i := .iload_n 1) (len := 1) (by decide +kernel) rfl
theorem x_101_209 : Xp 101 d 209 ls st t g Q = Xp 101 d 210 ls ((0, 4) :: st) t g Q := xr_const (c := 4) (by decide +kernel) (by decide)
theorem x_101_210 : Xp 101 d 210 ls ((0, b) :: (0, a) :: st) t g Q = ((b ≤ a → Xp 101 d 226 ls st t g Q) ∧ (¬ (b ≤ a) → Xp 101 d 213 ls st t g Q)) := xr_if2 (cd := .ge) (off := 16) (by decide +kernel) (by decide)
theorem x_101_213 : Xp 101 d 213 [(2, x), v1] st t g Q = Xp 101 d 214 [(2, x), v1] ((2, x) :: st) t g Q := Xp_go (i := .aload_n 0) (len := 1) (by decide +kernel) rfl
theorem x_101_214 : Xp 101 d 214 ls ((2, p) :: st) t g Q = (hkJK p = 10 ∧ jA p 36 ≤ t ∧ Xp 101 d 217 ls ((2, jR p 36) :: st) t g Q) := xr_getR (idx := 82) (ci := 10) (k := 36) (by decide +kernel) (by decide +kernel) (by decide +kernel)
theorem x_101_217 : Xp 101 d 217 [v0, (0, x)] st t g Q = Xp 101 d 218 [v0, (0, x)] ((0, x) :: st) t g Q := Xp_go (i := .iload_n 1) (len := 1) (by decide +kernel) rfl
theorem x_101_218 : Xp 101 d 218 ls st t g Q = Xp 101 d 219 ls ((0, -1) :: st) t g Q := xr_const (c := -1) (by decide +kernel) (by decide)
theorem x_101_219 : Xp 101 d 219 ls ((0, x) :: (0, a) :: (2, p) :: st) t g Q = ((hkJK p = 100 ∧ (100 = 102 → x = 0 ∨ x = 1) ∧ 0 ≤ a ∧ a < jL p) ∧ Xp 101 d 220 ls st t (hkSet g p a x) Q) := Xp_chk (i := .iastore) (len := 1) (by decide +kernel) rfl
theorem x_101_220 : Xp 101 d 220 [v0, (0, x)] st t g Q = (hkP1 v0 ∧ Xp 101 d 223 [v0, (0, hkW (x + 1))] st t g Q) := Xp_chk (i := .iinc 1 (1)) (len := 3) (by decide +kernel) rfl
theorem x_101_223 : Xp 101 d 223 ls st t g Q = Xp 101 d 208 ls st t g Q := xr_goto (off := -15) (by decide +kernel) (by decide)
theorem x_101_226 : Xp 101 d 226 [(2, x), v1] st t g Q = Xp 101 d 227 [(2, x), v1] ((2, x) :: st) t g Q := Xp_go (i := .aload_n 0) (len := 1) (by decide +kernel) rfl
theorem x_101_227 : Xp 101 (d + 1) 227 ls ((2, a0) :: st) t g Q = (hkJK a0 = 10 ∧ hkC8 st ∧ Xp 102 d 0 [(2, a0), hkU, hkU, hkU] [] t g (fun r t g => Xp 101 (d + 1) 230 ls (hkPush r st) t g Q)) := xr_invV (idx := 94) (y' := 102) (ci := 10) (tg := [2]) (by decide +kernel) (by decide +kernel) (by decide +kernel) (by decide +kernel) rfl rfl rfl
theorem x_101_230 : Xp 101 d 230 ls [] t g Q = Q none t g := xr_retV (by decide +kernel) (by decide +kernel)
-- 102: HookBoxesModel.shapesOf()V
theorem x_102_0 : Xp 102 d 0 [(2, x), v1, v2, v3] st t g Q = Xp 102 d 1 [(2, x), v1, v2, v3] ((2, x) :: st) t g Q := Xp_go (i := .aload_n 0) (len := 1) (by decide +kernel) rfl
theorem x_102_1 : Xp 102 d 1 ls st t g Q = Xp 102 d 2 ls ((0, 0) :: st) t g Q := xr_const (c := 0) (by decide +kernel) (by decide)
theorem x_102_2 : Xp 102 d 2 ls ((0, x) :: (2, p) :: st) t g Q = (hkJK p = 10 ∧ Xp 102 d 5 ls st t (hkSet g p 2 x) Q) := xr_putI (idx := 97) (ci := 10) (k := 2) (by decide +kernel) (by decide +kernel) (by decide +kernel)
theorem x_102_5 : Xp 102 d 5 ls st t g Q = Xp 102 d 6 ls ((0, 0) :: st) t g Q := xr_const (c := 0) (by decide +kernel) (by decide)
theorem x_102_6 : Xp 102 d 6 [v0, v1, v2, v3] ((0, x) :: st) t g Q = (hkP1 v0 ∧ Xp 102 d 7 [v0, (0, x), v2, v3] st t g Q) := Xp_chk (i := .istore_n 1) (len := 1) (by decide +kernel) rfl
theorem x_102_7 : Xp 102 d 7 [v0, (0, x), v2, v3] st t g Q = Xp 102 d 8 [v0, (0, x), v2, v3] ((0, x) :: st) t g Q := Xp_go (i := .iload_n 1) (len := 1) (by decide +kernel) rfl
theorem x_102_8 : Xp 102 d 8 [(2, x), v1, v2, v3] st t g Q = Xp 102 d 9 [(2, x), v1, v2, v3] ((2, x) :: st) t g Q := Xp_go (i := .aload_n 0) (len := 1) (by decide +kernel) rfl
theorem x_102_9 : Xp 102 d 9 ls ((2, p) :: st) t g Q = (hkJK p = 10 ∧ Xp 102 d 12 ls ((0, g p 0) :: st) t g Q) := xr_getI (idx := 11) (ci := 10) (k := 0) (by decide +kernel) (by decide +kernel) (by decide +kernel)
theorem x_102_12 : Xp 102 d 12 [(2, x), v1, v2, v3] st t g Q = Xp 102 d 13 [(2, x), v1, v2, v3] ((2, x) :: st) t g Q := Xp_go (i := .aload_n 0) (len := 1) (by decide +kernel) rfl
theorem x_102_13 : Xp 102 (d + 1) 13 ls ((2, a0) :: st) t g Q = (hkJK a0 = 10 ∧ hkC8 st ∧ Xp 103 d 0 [(2, a0)] [] t g (fun r t g => Xp 102 (d + 1) 16 ls (hkPush r st) t g Q)) := xr_invV (idx := 100) (y' := 103) (ci := 10) (tg := [2]) (by decide +kernel) (by decide +kernel) (by decide +kernel) (by decide +kernel) rfl rfl rfl
theorem x_102_16 : Xp 102 d 16 ls ((0, b) :: (0, a) :: st) t g Q = Xp 102 d 17 ls ((0, hkW (a * b)) :: st) t g Q := Xp_go (i := .imul) (len := 1) (by decide +kernel) rfl
theorem x_102_17 : Xp 102 d 17 ls ((0, b) :: (0, a) :: st) t g Q = ((b < a → Xp 102 d 139 ls st t g Q) ∧ (¬ (b < a) → Xp 102 d 20 ls st t g Q)) := xr_if2 (cd := .gt) (off := 122) (by decide +kernel) (by decide)
theorem x_102_20 : Xp 102 d 20 ls st t g Q = Xp 102 d 21 ls ((0, 1) :: st) t g Q := xr_const (c := 1) (by decide +kernel) (by decide)
theorem x_102_21 : Xp 102 d 21 [(2, x), v1, v2, v3] st t g Q = Xp 102 d 22 [(2, x), v1, v2, v3] ((2, x) :: st) t g Q := Xp_go (i := .aload_n 0) (len := 1) (by decide +kernel) rfl
theorem x_102_22 : Xp 102 d 22 ls ((2, p) :: st) t g Q = (hkJK p = 10 ∧ Xp 102 d 25 ls ((0, g p 1) :: st) t g Q) := xr_getI (idx := 15) (ci := 10) (k := 1) (by decide +kernel) (by decide +kernel) (by decide +kernel)
theorem x_102_25 : Xp 102 d 25 ls ((0, b) :: (0, a) :: st) t g Q = Xp 102 d 26 ls ((0, hkShl a b) :: st) t g Q := Xp_go (i := .ishl) (len := 1) (by decide +kernel) rfl
theorem x_102_26 : Xp 102 d 26 ls st t g Q = Xp 102 d 27 ls ((0, 1) :: st) t g Q := xr_const (c := 1) (by decide +kernel) (by decide)
theorem x_102_27 : Xp 102 d 27 ls ((0, b) :: (0, a) :: st) t g Q = Xp 102 d 28 ls ((0, hkW (a - b)) :: st) t g Q := Xp_go (i := .isub) (len := 1) (by decide +kernel) rfl
theorem x_102_28 : Xp 102 d 28 [v0, v1, v2, v3] ((0, x) :: st) t g Q = (hkP1 v1 ∧ Xp 102 d 29 [v0, v1, (0, x), v3] st t g Q) := Xp_chk (i := .istore_n 2) (len := 1) (by decide +kernel) rfl
theorem x_102_29 : Xp 102 d 29 [v0, v1, (0, x), v3] st t g Q = Xp 102 d 30 [v0, v1, (0, x), v3] ((0, x) :: st) t g Q := Xp_go (i := .iload_n 2) (len := 1) (by decide +kernel) rfl
theorem x_102_30 : Xp 102 d 30 ls ((0, a) :: st) t g Q = ((a < 0 → Xp 102 d 133 ls st t g Q) ∧ (¬ (a < 0) → Xp 102 d 33 ls st t g Q)) := xr_if1 (cd := .lt) (off := 103) (by decide +kernel) (by decide)
theorem x_102_33 : Xp 102 d 33 [v0, v1, (0, x), v3] st t g Q = Xp 102 d 34 [v0, v1, (0, x), v3] ((0, x) :: st) t g Q := Xp_go (i := .iload_n 2) (len := 1) (by decide +kernel) rfl
theorem x_102_34 : Xp 102 (d + 1) 34 ls ((0, a0) :: st) t g Q = (hkC8 st ∧ Xp 104 d 0 [(0, a0), hkU, hkU] [] t g (fun r t g => Xp 102 (d + 1) 37 ls (hkPush r st) t g Q)) := xr_invS (idx := 104) (y' := 104) (tg := [0]) (by decide +kernel) (by decide +kernel) (by decide +kernel) rfl rfl
theorem x_102_37 : Xp 102 d 37 [(2, x), v1, v2, v3] st t g Q = Xp 102 d 38 [(2, x), v1, v2, v3] ((2, x) :: st) t g Q := Xp_go (i := .aload_n 0) (len := 1) (by decide +kernel) rfl
theorem x_102_38 : Xp 102 d 38 ls ((2, p) :: st) t g Q = (hkJK p = 10 ∧ Xp 102 d 41 ls ((0, g p 0) :: st) t g Q) := xr_getI (idx := 11) (ci := 10) (k := 0) (by decide +kernel) (by decide +kernel) (by decide +kernel)
theorem x_102_41 : Xp 102 d 41 ls ((0, b) :: (0, a) :: st) t g Q = ((¬ (a = b) → Xp 102 d 127 ls st t g Q) ∧ (¬ (¬ (a = b)) → Xp 102 d 44 ls st t g Q)) := xr_if2 (cd := .ne) (off := 86) (by decide +kernel) (by decide)
theorem x_102_44 : Xp 102 d 44 [(2, x), v1, v2, v3] st t g Q = Xp 102 d 45 [(2, x), v1, v2, v3] ((2, x) :: st) t g Q := Xp_go (i := .aload_n 0) (len := 1) (by decide +kernel) rfl
theorem x_102_45 : Xp 102 d 45 [v0, v1, (0, x), v3] st t g Q = Xp 102 d 46 [v0, v1, (0, x), v3] ((0, x) :: st) t g Q := Xp_go (i := .iload_n 2) (len := 1) (by decide +kernel) rfl
theorem x_102_46 : Xp 102 (d + 1) 46 ls ((0, a1) :: (2, a0) :: st) t g Q = (hkJK a0 = 10 ∧ hkC8 st ∧ Xp 105 d 0 [(2, a0), (0, a1), hkU, hkU, hkU] [] t g (fun r t g => Xp 102 (d + 1) 49 ls (hkPush r st) t g Q)) := xr_invV (idx := 108) (y' := 105) (ci := 10) (tg := [2, 0]) (by decide +kernel) (by decide +kernel) (by decide +kernel) (by decide +kernel) rfl rfl rfl
theorem x_102_49 : Xp 102 d 49 [v0, (0, x), v2, v3] st t g Q = Xp 102 d 50 [v0, (0, x), v2, v3] ((0, x) :: st) t g Q := Xp_go (i := .iload_n 1) (len := 1) (by decide +kernel) rfl
theorem x_102_50 : Xp 102 d 50 ls ((0, b) :: (0, a) :: st) t g Q = ((¬ (a = b) → Xp 102 d 127 ls st t g Q) ∧ (¬ (¬ (a = b)) → Xp 102 d 53 ls st t g Q)) := xr_if2 (cd := .ne) (off := 77) (by decide +kernel) (by decide)
theorem x_102_53 : Xp 102 d 53 ls st t g Q = Xp 102 d 54 ls ((0, 0) :: st) t g Q := xr_const (c := 0) (by decide +kernel) (by decide)
theorem x_102_54 : Xp 102 d 54 [v0, v1, v2, v3] ((0, x) :: st) t g Q = (hkP1 v2 ∧ Xp 102 d 55 [v0, v1, v2, (0, x)] st t g Q) := Xp_chk (i := .istore_n 3) (len := 1) (by decide +kernel) rfl
theorem x_102_55 : Xp 102 d 55 [v0, v1, v2, (0, x)] st t g Q = Xp 102 d 56 [v0, v1, v2, (0, x)] ((0, x) :: st) t g Q := Xp_go (i := .iload_n 3) (len := 1) (by decide +kernel) rfl
theorem x_102_56 : Xp 102 d 56 ls st t g Q = Xp 102 d 57 ls ((0, 4) :: st) t g Q := xr_const (c := 4) (by decide +kernel) (by decide)
theorem x_102_57 : Xp 102 d 57 ls ((0, b) :: (0, a) :: st) t g Q = ((b ≤ a → Xp 102 d 97 ls st t g Q) ∧ (¬ (b ≤ a) → Xp 102 d 60 ls st t g Q)) := xr_if2 (cd := .ge) (off := 40) (by decide +kernel) (by decide)
theorem x_102_60 : Xp 102 d 60 [(2, x), v1, v2, v3] st t g Q = Xp 102 d 61 [(2, x), v1, v2, v3] ((2, x) :: st) t g Q := Xp_go (i := .aload_n 0) (len := 1) (by decide +kernel) rfl
theorem x_102_61 : Xp 102 d 61 ls ((2, p) :: st) t g Q = (hkJK p = 10 ∧ jA p 3 ≤ t ∧ Xp 102 d 64 ls ((2, jR p 3) :: st) t g Q) := xr_getR (idx := 18) (ci := 10) (k := 3) (by decide +kernel) (by decide +kernel) (by decide +kernel)
theorem x_102_64 : Xp 102 d 64 ls st t g Q = Xp 102 d 65 ls ((0, 4) :: st) t g Q := xr_const (c := 4) (by decide +kernel) (by decide)
theorem x_102_65 : Xp 102 d 65 [(2, x), v1, v2, v3] st t g Q = Xp 102 d 66 [(2, x), v1, v2, v3] ((2, x) :: st) t g Q := Xp_go (i := .aload_n 0) (len := 1) (by decide +kernel) rfl
theorem x_102_66 : Xp 102 d 66 ls ((2, p) :: st) t g Q = (hkJK p = 10 ∧ Xp 102 d 69 ls ((0, g p 2) :: st) t g Q) := xr_getI (idx := 97) (ci := 10) (k := 2) (by decide +kernel) (by decide +kernel) (by decide +kernel)
theorem x_102_69 : Xp 102 d 69 ls ((0, b) :: (0, a) :: st) t g Q = Xp 102 d 70 ls ((0, hkW (a * b)) :: st) t g Q := Xp_go (i := .imul) (len := 1) (by decide +kernel) rfl
theorem x_102_70 : Xp 102 d 70 [v0, v1, v2, (0, x)] st t g Q = Xp 102 d 71 [v0, v1, v2, (0, x)] ((0, x) :: st) t g Q := Xp_go (i := .iload_n 3) (len := 1) (by decide +kernel) rfl
theorem x_102_71 : Xp 102 d 71 ls ((0, b) :: (0, a) :: st) t g Q = Xp 102 d 72 ls ((0, hkW (a + b)) :: st) t g Q := Xp_go (i := .iadd) (len := 1) (by decide +kernel) rfl
theorem x_102_72 : Xp 102 d 72 [v0, v1, v2, (0, x)] st t g Q = Xp 102 d 73 [v0, v1, v2, (0, x)] ((0, x) :: st) t g Q := Xp_go (i := .iload_n 3) (len := 1) (by decide +kernel) rfl
theorem x_102_73 : Xp 102 d 73 [(2, x), v1, v2, v3] st t g Q = Xp 102 d 74 [(2, x), v1, v2, v3] ((2, x) :: st) t g Q := Xp_go (i := .aload_n 0) (len := 1) (by decide +kernel) rfl
theorem x_102_74 : Xp 102 d 74 ls ((2, p) :: st) t g Q = (hkJK p = 10 ∧ Xp 102 d 77 ls ((0, g p 0) :: st) t g Q) := xr_getI (idx := 11) (ci := 10) (k := 0) (by decide +kernel) (by decide +kernel) (by decide +kernel)
theorem x_102_77 : Xp 102 d 77 ls ((0, b) :: (0, a) :: st) t g Q = ((b ≤ a → Xp 102 d 89 ls st t g Q) ∧ (¬ (b ≤ a) → Xp 102 d 80 ls st t g Q)) := xr_if2 (cd := .ge) (off := 12) (by decide +kernel) (by decide)
theorem x_102_80 : Xp 102 d 80 [(2, x), v1, v2, v3] st t g Q = Xp 102 d 81 [(2, x), v1, v2, v3] ((2, x) :: st) t g Q := Xp_go (i := .aload_n 0) (len := 1) (by decide +kernel) rfl
theorem x_102_81 : Xp 102 d 81 ls ((2, p) :: st) t g Q = (hkJK p = 10 ∧ jA p 14 ≤ t ∧ Xp 102 d 84 ls ((2, jR p 14) :: st) t g Q) := xr_getR (idx := 42) (ci := 10) (k := 14) (by decide +kernel) (by decide +kernel) (by decide +kernel)
theorem x_102_84 : Xp 102 d 84 [v0, v1, v2, (0, x)] st t g Q = Xp 102 d 85 [v0, v1, v2, (0, x)] ((0, x) :: st) t g Q := Xp_go (i := .iload_n 3) (len := 1) (by decide +kernel) rfl
theorem x_102_85 : Xp 102 d 85 ls ((0, a) :: (2, p) :: st) t g Q = ((hkJK p = 100 ∧ 0 ≤ a ∧ a < jL p) ∧ Xp 102 d 86 ls ((0, g p a) :: st) t g Q) := Xp_chk (i := .iaload) (len := 1) (by decide +kernel) rfl
theorem x_102_86 : Xp 102 d 86 ls st t g Q = Xp 102 d 90 ls st t g Q := xr_goto (off := 4) (by decide +kernel) (by decide)
theorem x_102_89 : Xp 102 d 89 ls st t g Q = Xp 102 d 90 ls ((0, 0) :: st) t g Q := xr_const (c := 0) (by decide +kernel) (by decide)
theorem x_102_90 : Xp 102 d 90 ls ((0, x) :: (0, a) :: (2, p) :: st) t g Q = ((hkJK p = 100 ∧ (100 = 102 → x = 0 ∨ x = 1) ∧ 0 ≤ a ∧ a < jL p) ∧ Xp 102 d 91 ls st t (hkSet g p a x) Q) := Xp_chk (i := .iastore) (len := 1) (by decide +kernel) rfl
theorem x_102_91 : Xp 102 d 91 [v0, v1, v2, (0, x)] st t g Q = (hkP1 v2 ∧ Xp 102 d 94 [v0, v1, v2, (0, hkW (x + 1))] st t g Q) := Xp_chk (i := .iinc 3 (1)) (len := 3) (by decide +kernel) rfl
theorem x_102_94 : Xp 102 d 94 ls st t g Q = Xp 102 d 55 ls st t g Q := xr_goto (off := -39) (by decide +kernel) (by decide)
theorem x_102_97 : Xp 102 d 97 [(2, x), v1, v2, v3] st t g Q = Xp 102 d 98 [(2, x), v1, v2, v3] ((2, x) :: st) t g Q := Xp_go (i := .aload_n 0) (len := 1) (by decide +kernel) rfl
theorem x_102_98 : Xp 102 d 98 ls ((2, p) :: st) t g Q = (hkJK p = 10 ∧ jA p 4 ≤ t ∧ Xp 102 d 101 ls ((2, jR p 4) :: st) t g Q) := xr_getR (idx := 22) (ci := 10) (k := 4) (by decide +kernel) (by decide +kernel) (by decide +kernel)
theorem x_102_101 : Xp 102 d 101 [v0, v1, (0, x), v3] st t g Q = Xp 102 d 102 [v0, v1, (0, x), v3] ((0, x) :: st) t g Q := Xp_go (i := .iload_n 2) (len := 1) (by decide +kernel) rfl
theorem x_102_102 : Xp 102 d 102 [(2, x), v1, v2, v3] st t g Q = Xp 102 d 103 [(2, x), v1, v2, v3] ((2, x) :: st) t g Q := Xp_go (i := .aload_n 0) (len := 1) (by decide +kernel) rfl
theorem x_102_103 : Xp 102 d 103 ls ((2, p) :: st) t g Q = (hkJK p = 10 ∧ Xp 102 d 106 ls ((0, g p 2) :: st) t g Q) := xr_getI (idx := 97) (ci := 10) (k := 2) (by decide +kernel) (by decide +kernel) (by decide +kernel)
theorem x_102_106 : Xp 102 d 106 ls ((0, x) :: (0, a) :: (2, p) :: st) t g Q = ((hkJK p = 100 ∧ (100 = 102 → x = 0 ∨ x = 1) ∧ 0 ≤ a ∧ a < jL p) ∧ Xp 102 d 107 ls st t (hkSet g p a x) Q) := Xp_chk (i := .iastore) (len := 1) (by decide +kernel) rfl
theorem x_102_107 : Xp 102 d 107 [(2, x), v1, v2, v3] st t g Q = Xp 102 d 108 [(2, x), v1, v2, v3] ((2, x) :: st) t g Q := Xp_go (i := .aload_n 0) (len := 1) (by decide +kernel) rfl
theorem x_102_108 : Xp 102 d 108 ls ((2, p) :: st) t g Q = (hkJK p = 10 ∧ jA p 5 ≤ t ∧ Xp 102 d 111 ls ((2, jR p 5) :: st) t g Q) := xr_getR (idx := 25) (ci := 10) (k := 5) (by decide +kernel) (by decide +kernel) (by decide +kernel)
theorem x_102_111 : Xp 102 d 111 [(2, x), v1, v2, v3] st t g Q = Xp 102 d 112 [(2, x), v1, v2, v3] ((2, x) :: st) t g Q := Xp_go (i := .aload_n 0) (len := 1) (by decide +kernel) rfl
theorem x_102_112 : Xp 102 d 112 ls ((2, p) :: st) t g Q = (hkJK p = 10 ∧ Xp 102 d 115 ls ((0, g p 2) :: st) t g Q) := xr_getI (idx := 97) (ci := 10) (k := 2) (by decide +kernel) (by decide +kernel) (by decide +kernel)
theorem x_102_115 : Xp 102 d 115 [v0, (0, x), v2, v3] st t g Q = Xp 102 d 116 [v0, (0, x), v2, v3] ((0, x) :: st) t g Q := Xp_go (i := .iload_n 1) (len := 1) (by decide +kernel) rfl
theorem x_102_116 : Xp 102 d 116 ls ((0, x) :: (0, a) :: (2, p) :: st) t g Q = ((hkJK p = 100 ∧ (100 = 102 → x = 0 ∨ x = 1) ∧ 0 ≤ a ∧ a < jL p) ∧ Xp 102 d 117 ls st t (hkSet g p a x) Q) := Xp_chk (i := .iastore) (len := 1) (by decide +kernel) rfl
theorem x_102_117 : Xp 102 d 117 [(2, x), v1, v2, v3] st t g Q = Xp 102 d 118 [(2, x), v1, v2, v3] ((2, x) :: st) t g Q := Xp_go (i := .aload_n 0) (len := 1) (by decide +kernel) rfl
theorem x_102_118 : Xp 102 d 118 ls (v :: st) t g Q = (hkP1 v ∧ Xp 102 d 119 ls (v :: v :: st) t g Q) := Xp_chk (i := .dup) (len := 1) (by decide +kernel) rfl
theorem x_102_119 : Xp 102 d 119 ls ((2, p) :: st) t g Q = (hkJK p = 10 ∧ Xp 102 d 122 ls ((0, g p 2) :: st) t g Q) := xr_getI (idx := 97) (ci := 10) (k := 2) (by decide +kernel) (by decide +kernel) (by decide +kernel)
theorem x_102_122 : Xp 102 d 122 ls st t g Q = Xp 102 d 123 ls ((0, 1) :: st) t g Q := xr_const (c := 1) (by decide +kernel) (by decide)
theorem x_102_123 : Xp 102 d 123 ls ((0, b) :: (0, a) :: st) t g Q = Xp 102 d 124 ls ((0, hkW (a + b)) :: st) t g Q := Xp_go (i := .iadd) (len := 1) (by decide +kernel) rfl
theorem x_102_124 : Xp 102 d 124 ls ((0, x) :: (2, p) :: st) t g Q = (hkJK p = 10 ∧ Xp 102 d 127 ls st t (hkSet g p 2 x) Q) := xr_putI (idx := 97) (ci := 10) (k := 2) (by decide +kernel) (by decide +kernel) (by decide +kernel)
theorem x_102_127 : Xp 102 d 127 [v0, v1, (0, x), v3] st t g Q = (hkP1 v1 ∧ Xp 102 d 130 [v0, v1, (0, hkW (x + -1)), v3] st t g Q) := Xp_chk (i := .iinc 2 (-1)) (len := 3) (by decide +kernel) rfl
theorem x_102_130 : Xp 102 d 130 ls st t g Q = Xp 102 d 29 ls st t g Q := xr_goto (off := -101) (by decide +kernel) (by decide)
theorem x_102_133 : Xp 102 d 133 [v0, (0, x), v2, v3] st t g Q = (hkP1 v0 ∧ Xp 102 d 136 [v0, (0, hkW (x + 1)), v2, v3] st t g Q) := Xp_chk (i := .iinc 1 (1)) (len := 3) (by decide +kernel) rfl
theorem x_102_136 : Xp 102 d 136 ls st t g Q = Xp 102 d 7 ls st t g Q := xr_goto (off := -129) (by decide +kernel) (by decide)
theorem x_102_139 : Xp 102 d 139 ls st t g Q = Xp 102 d 140 ls ((0, 0) :: st) t g Q := xr_const (c := 0) (by decide +kernel) (by decide)
theorem x_102_140 : Xp 102 d 140 [v0, v1, v2, v3] ((0, x) :: st) t g Q = (hkP1 v0 ∧ Xp 102 d 141 [v0, (0, x), v2, v3] st t g Q) := Xp_chk (i := .istore_n 1) (len := 1) (by decide +kernel) rfl
theorem x_102_141 : Xp 102 d 141 [v0, (0, x), v2, v3] st t g Q = Xp 102 d 142 [v0, (0, x), v2, v3] ((0, x) :: st) t g Q := Xp_go (i := .iload_n 1) (len := 1) (by decide +kernel) rfl
theorem x_102_142 : Xp 102 d 142 ls st t g Q = Xp 102 d 145 ls ((0, 1225) :: st) t g Q := xr_si (c := 1225) (by decide +kernel) (by decide)
theorem x_102_145 : Xp 102 d 145 ls ((0, b) :: (0, a) :: st) t g Q = ((b ≤ a → Xp 102 d 161 ls st t g Q) ∧ (¬ (b ≤ a) → Xp 102 d 148 ls st t g Q)) := xr_if2 (cd := .ge) (off := 16) (by decide +kernel) (by decide)
theorem x_102_148 : Xp 102 d 148 [(2, x), v1, v2, v3] st t g Q = Xp 102 d 149 [(2, x), v1, v2, v3] ((2, x) :: st) t g Q := Xp_go (i := .aload_n 0) (len := 1) (by decide +kernel) rfl
theorem x_102_149 : Xp 102 d 149 ls ((2, p) :: st) t g Q = (hkJK p = 10 ∧ jA p 7 ≤ t ∧ Xp 102 d 152 ls ((2, jR p 7) :: st) t g Q) := xr_getR (idx := 32) (ci := 10) (k := 7) (by decide +kernel) (by decide +kernel) (by decide +kernel)
theorem x_102_152 : Xp 102 d 152 [v0, (0, x), v2, v3] st t g Q = Xp 102 d 153 [v0, (0, x), v2, v3] ((0, x) :: st) t g Q := Xp_go (i := .iload_n 1) (len := 1) (by decide +kernel) rfl
theorem x_102_153 : Xp 102 d 153 ls st t g Q = Xp 102 d 154 ls ((0, 0) :: st) t g Q := xr_const (c := 0) (by decide +kernel) (by decide)
theorem x_102_154 : Xp 102 d 154 ls ((0, x) :: (0, a) :: (2, p) :: st) t g Q = ((hkJK p = 102 ∧ (102 = 102 → x = 0 ∨ x = 1) ∧ 0 ≤ a ∧ a < jL p) ∧ Xp 102 d 155 ls st t (hkSet g p a x) Q) := Xp_chk (i := .bastore) (len := 1) (by decide +kernel) rfl
theorem x_102_155 : Xp 102 d 155 [v0, (0, x), v2, v3] st t g Q = (hkP1 v0 ∧ Xp 102 d 158 [v0, (0, hkW (x + 1)), v2, v3] st t g Q) := Xp_chk (i := .iinc 1 (1)) (len := 3) (by decide +kernel) rfl
theorem x_102_158 : Xp 102 d 158 ls st t g Q = Xp 102 d 141 ls st t g Q := xr_goto (off := -17) (by decide +kernel) (by decide)
theorem x_102_161 : Xp 102 d 161 ls [] t g Q = Q none t g := xr_retV (by decide +kernel) (by decide +kernel)
-- 103: HookBoxesModel.width()I
theorem x_103_0 : Xp 103 d 0 [(2, x)] st t g Q = Xp 103 d 1 [(2, x)] ((2, x) :: st) t g Q := Xp_go (i := .aload_n 0) (len := 1) (by decide +kernel) rfl
theorem x_103_1 : Xp 103 d 1 ls ((2, p) :: st) t g Q = (hkJK p = 10 ∧ Xp 103 d 4 ls ((0, g p 1) :: st) t g Q) := xr_getI (idx := 15) (ci := 10) (k := 1) (by decide +kernel) (by decide +kernel) (by decide +kernel)
theorem x_103_4 : Xp 103 d 4 [(2, x)] st t g Q = Xp 103 d 5 [(2, x)] ((2, x) :: st) t g Q := Xp_go (i := .aload_n 0) (len := 1) (by decide +kernel) rfl
theorem x_103_5 : Xp 103 d 5 ls ((2, p) :: st) t g Q = (hkJK p = 10 ∧ Xp 103 d 8 ls ((0, g p 0) :: st) t g Q) := xr_getI (idx := 11) (ci := 10) (k := 0) (by decide +kernel) (by decide +kernel) (by decide +kernel)
theorem x_103_8 : Xp 103 d 8 ls ((0, b) :: (0, a) :: st) t g Q = Xp 103 d 9 ls ((0, hkW (a - b)) :: st) t g Q := Xp_go (i := .isub) (len := 1) (by decide +kernel) rfl
theorem x_103_9 : Xp 103 d 9 ls [(0, x)] t g Q = Q (some (0, x)) t g := xr_retI (by decide +kernel) (by decide +kernel)
-- 104: HookBoxesModel.bits(I)I
theorem x_104_0 : Xp 104 d 0 ls st t g Q = Xp 104 d 1 ls ((0, 0) :: st) t g Q := xr_const (c := 0) (by decide +kernel) (by decide)
theorem x_104_1 : Xp 104 d 1 [v0, v1, v2] ((0, x) :: st) t g Q = (hkP1 v0 ∧ Xp 104 d 2 [v0, (0, x), v2] st t g Q) := Xp_chk (i := .istore_n 1) (len := 1) (by decide +kernel) rfl
theorem x_104_2 : Xp 104 d 2 [(0, x), v1, v2] st t g Q = Xp 104 d 3 [(0, x), v1, v2] ((0, x) :: st) t g Q := Xp_go (i := .iload_n 0) (len := 1) (by decide +kernel) rfl
theorem x_104_3 : Xp 104 d 3 [v0, v1, v2] ((0, x) :: st) t g Q = (hkP1 v1 ∧ Xp 104 d 4 [v0, v1, (0, x)] st t g Q) := Xp_chk (i := .istore_n 2) (len := 1) (by decide +kernel) rfl
theorem x_104_4 : Xp 104 d 4 [v0, v1, (0, x)] st t g Q = Xp 104 d 5 [v0, v1, (0, x)] ((0, x) :: st) t g Q := Xp_go (i := .iload_n 2) (len := 1) (by decide +kernel) rfl
theorem x_104_5 : Xp 104 d 5 ls ((0, a) :: st) t g Q = ((a = 0 → Xp 104 d 20 ls st t g Q) ∧ (¬ (a = 0) → Xp 104 d 8 ls st t g Q)) := xr_if1 (cd := .eq) (off := 15) (by decide +kernel) (by decide)
theorem x_104_8 : Xp 104 d 8 [v0, (0, x), v2] st t g Q = (hkP1 v0 ∧ Xp 104 d 11 [v0, (0, hkW (x + 1)), v2] st t g Q) := Xp_chk (i := .iinc 1 (1)) (len := 3) (by decide +kernel) rfl
theorem x_104_11 : Xp 104 d 11 [v0, v1, (0, x)] st t g Q = Xp 104 d 12 [v0, v1, (0, x)] ((0, x) :: st) t g Q := Xp_go (i := .iload_n 2) (len := 1) (by decide +kernel) rfl
theorem x_104_12 : Xp 104 d 12 [v0, v1, (0, x)] st t g Q = Xp 104 d 13 [v0, v1, (0, x)] ((0, x) :: st) t g Q := Xp_go (i := .iload_n 2) (len := 1) (by decide +kernel) rfl
theorem x_104_13 : Xp 104 d 13 ls st t g Q = Xp 104 d 14 ls ((0, 1) :: st) t g Q := xr_const (c := 1) (by decide +kernel) (by decide)
theorem x_104_14 : Xp 104 d 14 ls ((0, b) :: (0, a) :: st) t g Q = Xp 104 d 15 ls ((0, hkW (a - b)) :: st) t g Q := Xp_go (i := .isub) (len := 1) (by decide +kernel) rfl
theorem x_104_15 : Xp 104 d 15 ls ((0, b) :: (0, a) :: st) t g Q = Xp 104 d 16 ls ((0, hkAnd a b) :: st) t g Q := Xp_go (i := .iand) (len := 1) (by decide +kernel) rfl
theorem x_104_16 : Xp 104 d 16 [v0, v1, v2] ((0, x) :: st) t g Q = (hkP1 v1 ∧ Xp 104 d 17 [v0, v1, (0, x)] st t g Q) := Xp_chk (i := .istore_n 2) (len := 1) (by decide +kernel) rfl
theorem x_104_17 : Xp 104 d 17 ls st t g Q = Xp 104 d 4 ls st t g Q := xr_goto (off := -13) (by decide +kernel) (by decide)
theorem x_104_20 : Xp 104 d 20 [v0, (0, x), v2] st t g Q = Xp 104 d 21 [v0, (0, x), v2] ((0, x) :: st) t g Q := Xp_go (i := .iload_n 1) (len := 1) (by decide +kernel) rfl
theorem x_104_21 : Xp 104 d 21 ls [(0, x)] t g Q = Q (some (0, x)) t g := xr_retI (by decide +kernel) (by decide +kernel)
-- 105: HookBoxesModel.rowsBy(I)I
theorem x_105_0 : Xp 105 d 0 ls st t g Q = Xp 105 d 1 ls ((0, 0) :: st) t g Q := xr_const (c := 0) (by decide +kernel) (by decide)
theorem x_105_1 : Xp 105 d 1 [v0, v1, v2, v3, v4] ((0, x) :: st) t g Q = (hkP1 v1 ∧ Xp 105 d 2 [v0, v1, (0, x), v3, v4] st t g Q) := Xp_chk (i := .istore_n 2) (len := 1) (by decide +kernel) rfl
theorem x_105_2 : Xp 105 d 2 ls st t g Q = Xp 105 d 3 ls ((0, 0) :: st) t g Q := xr_const (c := 0) (by decide +kernel) (by decide)
theorem x_105_3 : Xp 105 d 3 [v0, v1, v2, v3, v4] ((0, x) :: st) t g Q = (hkP1 v2 ∧ Xp 105 d 4 [v0, v1, v2, (0, x), v4] st t g Q) := Xp_chk (i := .istore_n 3) (len := 1) (by decide +kernel) rfl
theorem x_105_4 : Xp 105 d 4 [(2, x), v1, v2, v3, v4] st t g Q = Xp 105 d 5 [(2, x), v1, v2, v3, v4] ((2, x) :: st) t g Q := Xp_go (i := .aload_n 0) (len := 1) (by decide +kernel) rfl
theorem x_105_5 : Xp 105 d 5 ls ((2, p) :: st) t g Q = (hkJK p = 10 ∧ Xp 105 d 8 ls ((0, g p 1) :: st) t g Q) := xr_getI (idx := 15) (ci := 10) (k := 1) (by decide +kernel) (by decide +kernel) (by decide +kernel)
theorem x_105_8 : Xp 105 d 8 ls st t g Q = Xp 105 d 9 ls ((0, 1) :: st) t g Q := xr_const (c := 1) (by decide +kernel) (by decide)
theorem x_105_9 : Xp 105 d 9 ls ((0, b) :: (0, a) :: st) t g Q = Xp 105 d 10 ls ((0, hkW (a - b)) :: st) t g Q := Xp_go (i := .isub) (len := 1) (by decide +kernel) rfl
theorem x_105_10 : Xp 105 d 10 [v0, v1, v2, v3, v4] ((0, x) :: st) t g Q = (hkP1 v3 ∧ Xp 105 d 12 [v0, v1, v2, v3, (0, x)] st t g Q) := Xp_chk (i := .istore 4) (len := 2) (by decide +kernel) rfl
theorem x_105_12 : Xp 105 d 12 [v0, v1, v2, v3, (0, x)] st t g Q = Xp 105 d 14 [v0, v1, v2, v3, (0, x)] ((0, x) :: st) t g Q := Xp_go (i := .iload 4) (len := 2) (by decide +kernel) rfl
theorem x_105_14 : Xp 105 d 14 ls ((0, a) :: st) t g Q = ((a < 0 → Xp 105 d 62 ls st t g Q) ∧ (¬ (a < 0) → Xp 105 d 17 ls st t g Q)) := xr_if1 (cd := .lt) (off := 48) (by decide +kernel) (by decide)
theorem x_105_17 : Xp 105 d 17 [v0, (0, x), v2, v3, v4] st t g Q = Xp 105 d 18 [v0, (0, x), v2, v3, v4] ((0, x) :: st) t g Q := Xp_go (i := .iload_n 1) (len := 1) (by decide +kernel) rfl
theorem x_105_18 : Xp 105 d 18 [v0, v1, v2, v3, (0, x)] st t g Q = Xp 105 d 20 [v0, v1, v2, v3, (0, x)] ((0, x) :: st) t g Q := Xp_go (i := .iload 4) (len := 2) (by decide +kernel) rfl
theorem x_105_20 : Xp 105 d 20 ls ((0, b) :: (0, a) :: st) t g Q = Xp 105 d 21 ls ((0, hkShr a b) :: st) t g Q := Xp_go (i := .ishr) (len := 1) (by decide +kernel) rfl
theorem x_105_21 : Xp 105 d 21 ls st t g Q = Xp 105 d 22 ls ((0, 1) :: st) t g Q := xr_const (c := 1) (by decide +kernel) (by decide)
theorem x_105_22 : Xp 105 d 22 ls ((0, b) :: (0, a) :: st) t g Q = Xp 105 d 23 ls ((0, hkAnd a b) :: st) t g Q := Xp_go (i := .iand) (len := 1) (by decide +kernel) rfl
theorem x_105_23 : Xp 105 d 23 ls st t g Q = Xp 105 d 24 ls ((0, 1) :: st) t g Q := xr_const (c := 1) (by decide +kernel) (by decide)
theorem x_105_24 : Xp 105 d 24 ls ((0, b) :: (0, a) :: st) t g Q = ((¬ (a = b) → Xp 105 d 56 ls st t g Q) ∧ (¬ (¬ (a = b)) → Xp 105 d 27 ls st t g Q)) := xr_if2 (cd := .ne) (off := 32) (by decide +kernel) (by decide)
theorem x_105_27 : Xp 105 d 27 [(2, x), v1, v2, v3, v4] st t g Q = Xp 105 d 28 [(2, x), v1, v2, v3, v4] ((2, x) :: st) t g Q := Xp_go (i := .aload_n 0) (len := 1) (by decide +kernel) rfl
theorem x_105_28 : Xp 105 d 28 ls ((2, p) :: st) t g Q = (hkJK p = 10 ∧ jA p 14 ≤ t ∧ Xp 105 d 31 ls ((2, jR p 14) :: st) t g Q) := xr_getR (idx := 42) (ci := 10) (k := 14) (by decide +kernel) (by decide +kernel) (by decide +kernel)
theorem x_105_31 : Xp 105 d 31 [v0, v1, (0, x), v3, v4] st t g Q = Xp 105 d 32 [v0, v1, (0, x), v3, v4] ((0, x) :: st) t g Q := Xp_go (i := .iload_n 2) (len := 1) (by decide +kernel) rfl
theorem x_105_32 : Xp 105 d 32 [v0, v1, v2, v3, (0, x)] st t g Q = Xp 105 d 34 [v0, v1, v2, v3, (0, x)] ((0, x) :: st) t g Q := Xp_go (i := .iload 4) (len := 2) (by decide +kernel) rfl
theorem x_105_34 : Xp 105 d 34 [(2, x), v1, v2, v3, v4] st t g Q = Xp 105 d 35 [(2, x), v1, v2, v3, v4] ((2, x) :: st) t g Q := Xp_go (i := .aload_n 0) (len := 1) (by decide +kernel) rfl
theorem x_105_35 : Xp 105 d 35 ls ((2, p) :: st) t g Q = (hkJK p = 10 ∧ Xp 105 d 38 ls ((0, g p 0) :: st) t g Q) := xr_getI (idx := 11) (ci := 10) (k := 0) (by decide +kernel) (by decide +kernel) (by decide +kernel)
theorem x_105_38 : Xp 105 d 38 ls st t g Q = Xp 105 d 39 ls ((0, 1) :: st) t g Q := xr_const (c := 1) (by decide +kernel) (by decide)
theorem x_105_39 : Xp 105 d 39 ls ((0, b) :: (0, a) :: st) t g Q = Xp 105 d 40 ls ((0, hkW (a - b)) :: st) t g Q := Xp_go (i := .isub) (len := 1) (by decide +kernel) rfl
theorem x_105_40 : Xp 105 d 40 [v0, v1, (0, x), v3, v4] st t g Q = Xp 105 d 41 [v0, v1, (0, x), v3, v4] ((0, x) :: st) t g Q := Xp_go (i := .iload_n 2) (len := 1) (by decide +kernel) rfl
theorem x_105_41 : Xp 105 d 41 ls ((0, b) :: (0, a) :: st) t g Q = Xp 105 d 42 ls ((0, hkW (a - b)) :: st) t g Q := Xp_go (i := .isub) (len := 1) (by decide +kernel) rfl
theorem x_105_42 : Xp 105 d 42 ls ((0, b) :: (0, a) :: st) t g Q = Xp 105 d 43 ls ((0, hkW (a - b)) :: st) t g Q := Xp_go (i := .isub) (len := 1) (by decide +kernel) rfl
theorem x_105_43 : Xp 105 d 43 ls ((0, x) :: (0, a) :: (2, p) :: st) t g Q = ((hkJK p = 100 ∧ (100 = 102 → x = 0 ∨ x = 1) ∧ 0 ≤ a ∧ a < jL p) ∧ Xp 105 d 44 ls st t (hkSet g p a x) Q) := Xp_chk (i := .iastore) (len := 1) (by decide +kernel) rfl
theorem x_105_44 : Xp 105 d 44 [v0, v1, v2, (0, x), v4] st t g Q = Xp 105 d 45 [v0, v1, v2, (0, x), v4] ((0, x) :: st) t g Q := Xp_go (i := .iload_n 3) (len := 1) (by decide +kernel) rfl
theorem x_105_45 : Xp 105 d 45 [(2, x), v1, v2, v3, v4] st t g Q = Xp 105 d 46 [(2, x), v1, v2, v3, v4] ((2, x) :: st) t g Q := Xp_go (i := .aload_n 0) (len := 1) (by decide +kernel) rfl
theorem x_105_46 : Xp 105 d 46 ls ((2, p) :: st) t g Q = (hkJK p = 10 ∧ jA p 14 ≤ t ∧ Xp 105 d 49 ls ((2, jR p 14) :: st) t g Q) := xr_getR (idx := 42) (ci := 10) (k := 14) (by decide +kernel) (by decide +kernel) (by decide +kernel)
theorem x_105_49 : Xp 105 d 49 [v0, v1, (0, x), v3, v4] st t g Q = Xp 105 d 50 [v0, v1, (0, x), v3, v4] ((0, x) :: st) t g Q := Xp_go (i := .iload_n 2) (len := 1) (by decide +kernel) rfl
theorem x_105_50 : Xp 105 d 50 ls ((0, a) :: (2, p) :: st) t g Q = ((hkJK p = 100 ∧ 0 ≤ a ∧ a < jL p) ∧ Xp 105 d 51 ls ((0, g p a) :: st) t g Q) := Xp_chk (i := .iaload) (len := 1) (by decide +kernel) rfl
theorem x_105_51 : Xp 105 d 51 ls ((0, b) :: (0, a) :: st) t g Q = Xp 105 d 52 ls ((0, hkW (a + b)) :: st) t g Q := Xp_go (i := .iadd) (len := 1) (by decide +kernel) rfl
theorem x_105_52 : Xp 105 d 52 [v0, v1, v2, v3, v4] ((0, x) :: st) t g Q = (hkP1 v2 ∧ Xp 105 d 53 [v0, v1, v2, (0, x), v4] st t g Q) := Xp_chk (i := .istore_n 3) (len := 1) (by decide +kernel) rfl
theorem x_105_53 : Xp 105 d 53 [v0, v1, (0, x), v3, v4] st t g Q = (hkP1 v1 ∧ Xp 105 d 56 [v0, v1, (0, hkW (x + 1)), v3, v4] st t g Q) := Xp_chk (i := .iinc 2 (1)) (len := 3) (by decide +kernel) rfl
theorem x_105_56 : Xp 105 d 56 [v0, v1, v2, v3, (0, x)] st t g Q = (hkP1 v3 ∧ Xp 105 d 59 [v0, v1, v2, v3, (0, hkW (x + -1))] st t g Q) := Xp_chk (i := .iinc 4 (-1)) (len := 3) (by decide +kernel) rfl
theorem x_105_59 : Xp 105 d 59 ls st t g Q = Xp 105 d 12 ls st t g Q := xr_goto (off := -47) (by decide +kernel) (by decide)
theorem x_105_62 : Xp 105 d 62 [v0, v1, v2, (0, x), v4] st t g Q = Xp 105 d 63 [v0, v1, v2, (0, x), v4] ((0, x) :: st) t g Q := Xp_go (i := .iload_n 3) (len := 1) (by decide +kernel) rfl
theorem x_105_63 : Xp 105 d 63 ls [(0, x)] t g Q = Q (some (0, x)) t g := xr_retI (by decide +kernel) (by decide +kernel)
-- 106: HookBoxesModel.box(II)I
theorem x_106_0 : Xp 106 d 0 [v0, (0, x), v2, v3] st t g Q = Xp 106 d 1 [v0, (0, x), v2, v3] ((0, x) :: st) t g Q := Xp_go (i := .iload_n 1) (len := 1) (by decide +kernel) rfl
theorem x_106_1 : Xp 106 d 1 ls ((0, a) :: st) t g Q = Xp 106 d 2 ls ((1, a) :: st) t g Q := Xp_go (i := .i2l) (len := 1) (by decide +kernel) rfl
theorem x_106_2 : Xp 106 d 2 ls st t g Q = Xp 106 d 3 ls ((1, 1) :: st) t g Q := Xp_go (i := .lconst 1) (len := 1) (by decide +kernel) rfl
theorem x_106_3 : Xp 106 d 3 ls st t g Q = Xp 106 d 6 ls ((1, 4) :: st) t g Q := xr_ldc2 (idx := 119) (by decide +kernel) (by decide +kernel)
theorem x_106_6 : Xp 106 (d + 1) 6 ls ((1, a2) :: (1, a1) :: (1, a0) :: st) t g Q = (hkC8 st ∧ Xp 107 d 0 [(1, a0), hkU, (1, a1), hkU, (1, a2), hkU] [] t g (fun r t g => Xp 106 (d + 1) 9 ls (hkPush r st) t g Q)) := xr_invS (idx := 115) (y' := 107) (tg := [1, 1, 1]) (by decide +kernel) (by decide +kernel) (by decide +kernel) rfl rfl
theorem x_106_9 : Xp 106 d 9 ls ((0, a) :: st) t g Q = ((a = 0 → Xp 106 d 27 ls st t g Q) ∧ (¬ (a = 0) → Xp 106 d 12 ls st t g Q)) := xr_if1 (cd := .eq) (off := 18) (by decide +kernel) (by decide)
theorem x_106_12 : Xp 106 d 12 [v0, v1, (0, x), v3] st t g Q = Xp 106 d 13 [v0, v1, (0, x), v3] ((0, x) :: st) t g Q := Xp_go (i := .iload_n 2) (len := 1) (by decide +kernel) rfl
theorem x_106_13 : Xp 106 d 13 ls ((0, a) :: st) t g Q = Xp 106 d 14 ls ((1, a) :: st) t g Q := Xp_go (i := .i2l) (len := 1) (by decide +kernel) rfl
theorem x_106_14 : Xp 106 d 14 [v0, (0, x), v2, v3] st t g Q = Xp 106 d 15 [v0, (0, x), v2, v3] ((0, x) :: st) t g Q := Xp_go (i := .iload_n 1) (len := 1) (by decide +kernel) rfl
theorem x_106_15 : Xp 106 d 15 ls st t g Q = Xp 106 d 16 ls ((0, 1) :: st) t g Q := xr_const (c := 1) (by decide +kernel) (by decide)
theorem x_106_16 : Xp 106 d 16 ls ((0, b) :: (0, a) :: st) t g Q = Xp 106 d 17 ls ((0, hkW (a + b)) :: st) t g Q := Xp_go (i := .iadd) (len := 1) (by decide +kernel) rfl
theorem x_106_17 : Xp 106 d 17 ls ((0, a) :: st) t g Q = Xp 106 d 18 ls ((1, a) :: st) t g Q := Xp_go (i := .i2l) (len := 1) (by decide +kernel) rfl
theorem x_106_18 : Xp 106 d 18 ls st t g Q = Xp 106 d 21 ls ((1, 7) :: st) t g Q := xr_ldc2 (idx := 121) (by decide +kernel) (by decide +kernel)
theorem x_106_21 : Xp 106 (d + 1) 21 ls ((1, a2) :: (1, a1) :: (1, a0) :: st) t g Q = (hkC8 st ∧ Xp 107 d 0 [(1, a0), hkU, (1, a1), hkU, (1, a2), hkU] [] t g (fun r t g => Xp 106 (d + 1) 24 ls (hkPush r st) t g Q)) := xr_invS (idx := 115) (y' := 107) (tg := [1, 1, 1]) (by decide +kernel) (by decide +kernel) (by decide +kernel) rfl rfl
theorem x_106_24 : Xp 106 d 24 ls ((0, a) :: st) t g Q = ((¬ (a = 0) → Xp 106 d 30 ls st t g Q) ∧ (¬ (¬ (a = 0)) → Xp 106 d 27 ls st t g Q)) := xr_if1 (cd := .ne) (off := 6) (by decide +kernel) (by decide)
theorem x_106_27 : Xp 106 d 27 ls st t g Q = Xp 106 d 29 ls ((0, -2) :: st) t g Q := xr_bi (c := -2) (by decide +kernel) (by decide)
theorem x_106_29 : Xp 106 d 29 ls [(0, x)] t g Q = Q (some (0, x)) t g := xr_retI (by decide +kernel) (by decide +kernel)
theorem x_106_30 : Xp 106 d 30 [(2, x), v1, v2, v3] st t g Q = Xp 106 d 31 [(2, x), v1, v2, v3] ((2, x) :: st) t g Q := Xp_go (i := .aload_n 0) (len := 1) (by decide +kernel) rfl
theorem x_106_31 : Xp 106 d 31 [v0, (0, x), v2, v3] st t g Q = Xp 106 d 32 [v0, (0, x), v2, v3] ((0, x) :: st) t g Q := Xp_go (i := .iload_n 1) (len := 1) (by decide +kernel) rfl
theorem x_106_32 : Xp 106 d 32 ls ((0, x) :: (2, p) :: st) t g Q = (hkJK p = 10 ∧ Xp 106 d 35 ls st t (hkSet g p 0 x) Q) := xr_putI (idx := 11) (ci := 10) (k := 0) (by decide +kernel) (by decide +kernel) (by decide +kernel)
theorem x_106_35 : Xp 106 d 35 [(2, x), v1, v2, v3] st t g Q = Xp 106 d 36 [(2, x), v1, v2, v3] ((2, x) :: st) t g Q := Xp_go (i := .aload_n 0) (len := 1) (by decide +kernel) rfl
theorem x_106_36 : Xp 106 d 36 [v0, v1, (0, x), v3] st t g Q = Xp 106 d 37 [v0, v1, (0, x), v3] ((0, x) :: st) t g Q := Xp_go (i := .iload_n 2) (len := 1) (by decide +kernel) rfl
theorem x_106_37 : Xp 106 d 37 ls ((0, x) :: (2, p) :: st) t g Q = (hkJK p = 10 ∧ Xp 106 d 40 ls st t (hkSet g p 1 x) Q) := xr_putI (idx := 15) (ci := 10) (k := 1) (by decide +kernel) (by decide +kernel) (by decide +kernel)
theorem x_106_40 : Xp 106 d 40 [(2, x), v1, v2, v3] st t g Q = Xp 106 d 41 [(2, x), v1, v2, v3] ((2, x) :: st) t g Q := Xp_go (i := .aload_n 0) (len := 1) (by decide +kernel) rfl
theorem x_106_41 : Xp 106 (d + 1) 41 ls ((2, a0) :: st) t g Q = (hkJK a0 = 10 ∧ hkC8 st ∧ Xp 102 d 0 [(2, a0), hkU, hkU, hkU] [] t g (fun r t g => Xp 106 (d + 1) 44 ls (hkPush r st) t g Q)) := xr_invV (idx := 94) (y' := 102) (ci := 10) (tg := [2]) (by decide +kernel) (by decide +kernel) (by decide +kernel) (by decide +kernel) rfl rfl rfl
theorem x_106_44 : Xp 106 d 44 ls st t g Q = Xp 106 d 45 ls ((0, 0) :: st) t g Q := xr_const (c := 0) (by decide +kernel) (by decide)
theorem x_106_45 : Xp 106 d 45 [v0, v1, v2, v3] ((0, x) :: st) t g Q = (hkP1 v2 ∧ Xp 106 d 46 [v0, v1, v2, (0, x)] st t g Q) := Xp_chk (i := .istore_n 3) (len := 1) (by decide +kernel) rfl
theorem x_106_46 : Xp 106 d 46 [v0, v1, v2, (0, x)] st t g Q = Xp 106 d 47 [v0, v1, v2, (0, x)] ((0, x) :: st) t g Q := Xp_go (i := .iload_n 3) (len := 1) (by decide +kernel) rfl
theorem x_106_47 : Xp 106 d 47 ls st t g Q = Xp 106 d 50 ls ((0, 280) :: st) t g Q := xr_si (c := 280) (by decide +kernel) (by decide)
theorem x_106_50 : Xp 106 d 50 ls ((0, b) :: (0, a) :: st) t g Q = ((b ≤ a → Xp 106 d 66 ls st t g Q) ∧ (¬ (b ≤ a) → Xp 106 d 53 ls st t g Q)) := xr_if2 (cd := .ge) (off := 16) (by decide +kernel) (by decide)
theorem x_106_53 : Xp 106 d 53 [(2, x), v1, v2, v3] st t g Q = Xp 106 d 54 [(2, x), v1, v2, v3] ((2, x) :: st) t g Q := Xp_go (i := .aload_n 0) (len := 1) (by decide +kernel) rfl
theorem x_106_54 : Xp 106 d 54 ls ((2, p) :: st) t g Q = (hkJK p = 10 ∧ jA p 8 ≤ t ∧ Xp 106 d 57 ls ((2, jR p 8) :: st) t g Q) := xr_getR (idx := 36) (ci := 10) (k := 8) (by decide +kernel) (by decide +kernel) (by decide +kernel)
theorem x_106_57 : Xp 106 d 57 [v0, v1, v2, (0, x)] st t g Q = Xp 106 d 58 [v0, v1, v2, (0, x)] ((0, x) :: st) t g Q := Xp_go (i := .iload_n 3) (len := 1) (by decide +kernel) rfl
theorem x_106_58 : Xp 106 d 58 ls st t g Q = Xp 106 d 59 ls ((0, 0) :: st) t g Q := xr_const (c := 0) (by decide +kernel) (by decide)
theorem x_106_59 : Xp 106 d 59 ls ((0, x) :: (0, a) :: (2, p) :: st) t g Q = ((hkJK p = 100 ∧ (100 = 102 → x = 0 ∨ x = 1) ∧ 0 ≤ a ∧ a < jL p) ∧ Xp 106 d 60 ls st t (hkSet g p a x) Q) := Xp_chk (i := .iastore) (len := 1) (by decide +kernel) rfl
theorem x_106_60 : Xp 106 d 60 [v0, v1, v2, (0, x)] st t g Q = (hkP1 v2 ∧ Xp 106 d 63 [v0, v1, v2, (0, hkW (x + 1))] st t g Q) := Xp_chk (i := .iinc 3 (1)) (len := 3) (by decide +kernel) rfl
theorem x_106_63 : Xp 106 d 63 ls st t g Q = Xp 106 d 46 ls st t g Q := xr_goto (off := -17) (by decide +kernel) (by decide)
theorem x_106_66 : Xp 106 d 66 [(2, x), v1, v2, v3] st t g Q = Xp 106 d 67 [(2, x), v1, v2, v3] ((2, x) :: st) t g Q := Xp_go (i := .aload_n 0) (len := 1) (by decide +kernel) rfl
theorem x_106_67 : Xp 106 d 67 ls ((2, p) :: st) t g Q = (hkJK p = 10 ∧ Xp 106 d 70 ls ((0, g p 2) :: st) t g Q) := xr_getI (idx := 97) (ci := 10) (k := 2) (by decide +kernel) (by decide +kernel) (by decide +kernel)
theorem x_106_70 : Xp 106 d 70 ls [(0, x)] t g Q = Q (some (0, x)) t g := xr_retI (by decide +kernel) (by decide +kernel)
-- 107: HookBoxesModel.isIn(JJJ)Z
theorem x_107_0 : Xp 107 d 0 [(1, x), v1, v2, v3, v4, v5] st t g Q = Xp 107 d 1 [(1, x), v1, v2, v3, v4, v5] ((1, x) :: st) t g Q := Xp_go (i := .lload_n 0) (len := 1) (by decide +kernel) rfl
theorem x_107_1 : Xp 107 d 1 [v0, v1, (1, x), v3, v4, v5] st t g Q = Xp 107 d 2 [v0, v1, (1, x), v3, v4, v5] ((1, x) :: st) t g Q := Xp_go (i := .lload_n 2) (len := 1) (by decide +kernel) rfl
theorem x_107_2 : Xp 107 d 2 ls ((1, b) :: (1, a) :: st) t g Q = Xp 107 d 3 ls ((0, hkCmp a b) :: st) t g Q := Xp_go (i := .lcmp) (len := 1) (by decide +kernel) rfl
theorem x_107_3 : Xp 107 d 3 ls ((0, a) :: st) t g Q = ((a < 0 → Xp 107 d 17 ls st t g Q) ∧ (¬ (a < 0) → Xp 107 d 6 ls st t g Q)) := xr_if1 (cd := .lt) (off := 14) (by decide +kernel) (by decide)
theorem x_107_6 : Xp 107 d 6 [(1, x), v1, v2, v3, v4, v5] st t g Q = Xp 107 d 7 [(1, x), v1, v2, v3, v4, v5] ((1, x) :: st) t g Q := Xp_go (i := .lload_n 0) (len := 1) (by decide +kernel) rfl
theorem x_107_7 : Xp 107 d 7 [v0, v1, v2, v3, (1, x), v5] st t g Q = Xp 107 d 9 [v0, v1, v2, v3, (1, x), v5] ((1, x) :: st) t g Q := Xp_go (i := .lload 4) (len := 2) (by decide +kernel) rfl
theorem x_107_9 : Xp 107 d 9 ls ((1, b) :: (1, a) :: st) t g Q = Xp 107 d 10 ls ((0, hkCmp a b) :: st) t g Q := Xp_go (i := .lcmp) (len := 1) (by decide +kernel) rfl
theorem x_107_10 : Xp 107 d 10 ls ((0, a) :: st) t g Q = ((0 < a → Xp 107 d 17 ls st t g Q) ∧ (¬ (0 < a) → Xp 107 d 13 ls st t g Q)) := xr_if1 (cd := .gt) (off := 7) (by decide +kernel) (by decide)
theorem x_107_13 : Xp 107 d 13 ls st t g Q = Xp 107 d 14 ls ((0, 1) :: st) t g Q := xr_const (c := 1) (by decide +kernel) (by decide)
theorem x_107_14 : Xp 107 d 14 ls st t g Q = Xp 107 d 18 ls st t g Q := xr_goto (off := 4) (by decide +kernel) (by decide)
theorem x_107_17 : Xp 107 d 17 ls st t g Q = Xp 107 d 18 ls ((0, 0) :: st) t g Q := xr_const (c := 0) (by decide +kernel) (by decide)
theorem x_107_18 : Xp 107 d 18 ls [(0, x)] t g Q = ((x = 0 ∨ x = 1) ∧ Q (some (0, x)) t g) := xr_retZ (by decide +kernel) (by decide +kernel)
-- 108: HookBoxesModel.row(II)I
theorem x_108_0 : Xp 108 d 0 [(2, x), v1, v2] st t g Q = Xp 108 d 1 [(2, x), v1, v2] ((2, x) :: st) t g Q := Xp_go (i := .aload_n 0) (len := 1) (by decide +kernel) rfl
theorem x_108_1 : Xp 108 d 1 [v0, (0, x), v2] st t g Q = Xp 108 d 2 [v0, (0, x), v2] ((0, x) :: st) t g Q := Xp_go (i := .iload_n 1) (len := 1) (by decide +kernel) rfl
theorem x_108_2 : Xp 108 (d + 1) 2 ls ((0, a1) :: (2, a0) :: st) t g Q = (hkJK a0 = 10 ∧ hkC8 st ∧ Xp 109 d 0 [(2, a0), (0, a1)] [] t g (fun r t g => Xp 108 (d + 1) 5 ls (hkPush r st) t g Q)) := xr_invV (idx := 123) (y' := 109) (ci := 10) (tg := [2, 0]) (by decide +kernel) (by decide +kernel) (by decide +kernel) (by decide +kernel) rfl rfl rfl
theorem x_108_5 : Xp 108 d 5 ls ((0, a) :: st) t g Q = ((a = 0 → Xp 108 d 33 ls st t g Q) ∧ (¬ (a = 0) → Xp 108 d 8 ls st t g Q)) := xr_if1 (cd := .eq) (off := 28) (by decide +kernel) (by decide)
theorem x_108_8 : Xp 108 d 8 [v0, v1, (0, x)] st t g Q = Xp 108 d 9 [v0, v1, (0, x)] ((0, x) :: st) t g Q := Xp_go (i := .iload_n 2) (len := 1) (by decide +kernel) rfl
theorem x_108_9 : Xp 108 d 9 ls ((0, a) :: st) t g Q = Xp 108 d 10 ls ((1, a) :: st) t g Q := Xp_go (i := .i2l) (len := 1) (by decide +kernel) rfl
theorem x_108_10 : Xp 108 d 10 ls st t g Q = Xp 108 d 11 ls ((1, 0) :: st) t g Q := Xp_go (i := .lconst 0) (len := 1) (by decide +kernel) rfl
theorem x_108_11 : Xp 108 d 11 [(2, x), v1, v2] st t g Q = Xp 108 d 12 [(2, x), v1, v2] ((2, x) :: st) t g Q := Xp_go (i := .aload_n 0) (len := 1) (by decide +kernel) rfl
theorem x_108_12 : Xp 108 d 12 ls ((2, p) :: st) t g Q = (hkJK p = 10 ∧ Xp 108 d 15 ls ((0, g p 0) :: st) t g Q) := xr_getI (idx := 11) (ci := 10) (k := 0) (by decide +kernel) (by decide +kernel) (by decide +kernel)
theorem x_108_15 : Xp 108 d 15 ls st t g Q = Xp 108 d 16 ls ((0, 1) :: st) t g Q := xr_const (c := 1) (by decide +kernel) (by decide)
theorem x_108_16 : Xp 108 d 16 ls ((0, b) :: (0, a) :: st) t g Q = Xp 108 d 17 ls ((0, hkW (a - b)) :: st) t g Q := Xp_go (i := .isub) (len := 1) (by decide +kernel) rfl
theorem x_108_17 : Xp 108 d 17 ls ((0, a) :: st) t g Q = Xp 108 d 18 ls ((1, a) :: st) t g Q := Xp_go (i := .i2l) (len := 1) (by decide +kernel) rfl
theorem x_108_18 : Xp 108 (d + 1) 18 ls ((1, a2) :: (1, a1) :: (1, a0) :: st) t g Q = (hkC8 st ∧ Xp 107 d 0 [(1, a0), hkU, (1, a1), hkU, (1, a2), hkU] [] t g (fun r t g => Xp 108 (d + 1) 21 ls (hkPush r st) t g Q)) := xr_invS (idx := 115) (y' := 107) (tg := [1, 1, 1]) (by decide +kernel) (by decide +kernel) (by decide +kernel) rfl rfl
theorem x_108_21 : Xp 108 d 21 ls ((0, a) :: st) t g Q = ((a = 0 → Xp 108 d 33 ls st t g Q) ∧ (¬ (a = 0) → Xp 108 d 24 ls st t g Q)) := xr_if1 (cd := .eq) (off := 12) (by decide +kernel) (by decide)
theorem x_108_24 : Xp 108 d 24 [(2, x), v1, v2] st t g Q = Xp 108 d 25 [(2, x), v1, v2] ((2, x) :: st) t g Q := Xp_go (i := .aload_n 0) (len := 1) (by decide +kernel) rfl
theorem x_108_25 : Xp 108 d 25 [v0, (0, x), v2] st t g Q = Xp 108 d 26 [v0, (0, x), v2] ((0, x) :: st) t g Q := Xp_go (i := .iload_n 1) (len := 1) (by decide +kernel) rfl
theorem x_108_26 : Xp 108 d 26 [v0, v1, (0, x)] st t g Q = Xp 108 d 27 [v0, v1, (0, x)] ((0, x) :: st) t g Q := Xp_go (i := .iload_n 2) (len := 1) (by decide +kernel) rfl
theorem x_108_27 : Xp 108 (d + 1) 27 ls ((0, a2) :: (0, a1) :: (2, a0) :: st) t g Q = (hkJK a0 = 10 ∧ hkC8 st ∧ Xp 110 d 0 [(2, a0), (0, a1), (0, a2)] [] t g (fun r t g => Xp 108 (d + 1) 30 ls (hkPush r st) t g Q)) := xr_invV (idx := 111) (y' := 110) (ci := 10) (tg := [2, 0, 0]) (by decide +kernel) (by decide +kernel) (by decide +kernel) (by decide +kernel) rfl rfl rfl
theorem x_108_30 : Xp 108 d 30 ls st t g Q = Xp 108 d 35 ls st t g Q := xr_goto (off := 5) (by decide +kernel) (by decide)
theorem x_108_33 : Xp 108 d 33 ls st t g Q = Xp 108 d 35 ls ((0, -2) :: st) t g Q := xr_bi (c := -2) (by decide +kernel) (by decide)
theorem x_108_35 : Xp 108 d 35 ls [(0, x)] t g Q = Q (some (0, x)) t g := xr_retI (by decide +kernel) (by decide +kernel)
-- 109: HookBoxesModel.isShape(I)Z
theorem x_109_0 : Xp 109 d 0 [v0, (0, x)] st t g Q = Xp 109 d 1 [v0, (0, x)] ((0, x) :: st) t g Q := Xp_go (i := .iload_n 1) (len := 1) (by decide +kernel) rfl
theorem x_109_1 : Xp 109 d 1 ls ((0, a) :: st) t g Q = Xp 109 d 2 ls ((1, a) :: st) t g Q := Xp_go (i := .i2l) (len := 1) (by decide +kernel) rfl
theorem x_109_2 : Xp 109 d 2 ls st t g Q = Xp 109 d 3 ls ((1, 0) :: st) t g Q := Xp_go (i := .lconst 0) (len := 1) (by decide +kernel) rfl
theorem x_109_3 : Xp 109 d 3 [(2, x), v1] st t g Q = Xp 109 d 4 [(2, x), v1] ((2, x) :: st) t g Q := Xp_go (i := .aload_n 0) (len := 1) (by decide +kernel) rfl
theorem x_109_4 : Xp 109 d 4 ls ((2, p) :: st) t g Q = (hkJK p = 10 ∧ Xp 109 d 7 ls ((0, g p 2) :: st) t g Q) := xr_getI (idx := 97) (ci := 10) (k := 2) (by decide +kernel) (by decide +kernel) (by decide +kernel)
theorem x_109_7 : Xp 109 d 7 ls st t g Q = Xp 109 d 8 ls ((0, 1) :: st) t g Q := xr_const (c := 1) (by decide +kernel) (by decide)
theorem x_109_8 : Xp 109 d 8 ls ((0, b) :: (0, a) :: st) t g Q = Xp 109 d 9 ls ((0, hkW (a - b)) :: st) t g Q := Xp_go (i := .isub) (len := 1) (by decide +kernel) rfl
theorem x_109_9 : Xp 109 d 9 ls ((0, a) :: st) t g Q = Xp 109 d 10 ls ((1, a) :: st) t g Q := Xp_go (i := .i2l) (len := 1) (by decide +kernel) rfl
theorem x_109_10 : Xp 109 (d + 1) 10 ls ((1, a2) :: (1, a1) :: (1, a0) :: st) t g Q = (hkC8 st ∧ Xp 107 d 0 [(1, a0), hkU, (1, a1), hkU, (1, a2), hkU] [] t g (fun r t g => Xp 109 (d + 1) 13 ls (hkPush r st) t g Q)) := xr_invS (idx := 115) (y' := 107) (tg := [1, 1, 1]) (by decide +kernel) (by decide +kernel) (by decide +kernel) rfl rfl
theorem x_109_13 : Xp 109 d 13 ls [(0, x)] t g Q = ((x = 0 ∨ x = 1) ∧ Q (some (0, x)) t g) := xr_retZ (by decide +kernel) (by decide +kernel)
-- 110: HookBoxesModel.at(II)I
theorem x_110_0 : Xp 110 d 0 [(2, x), v1, v2] st t g Q = Xp 110 d 1 [(2, x), v1, v2] ((2, x) :: st) t g Q := Xp_go (i := .aload_n 0) (len := 1) (by decide +kernel) rfl
theorem x_110_1 : Xp 110 d 1 ls ((2, p) :: st) t g Q = (hkJK p = 10 ∧ jA p 3 ≤ t ∧ Xp 110 d 4 ls ((2, jR p 3) :: st) t g Q) := xr_getR (idx := 18) (ci := 10) (k := 3) (by decide +kernel) (by decide +kernel) (by decide +kernel)
theorem x_110_4 : Xp 110 d 4 ls st t g Q = Xp 110 d 5 ls ((0, 4) :: st) t g Q := xr_const (c := 4) (by decide +kernel) (by decide)
theorem x_110_5 : Xp 110 d 5 [v0, (0, x), v2] st t g Q = Xp 110 d 6 [v0, (0, x), v2] ((0, x) :: st) t g Q := Xp_go (i := .iload_n 1) (len := 1) (by decide +kernel) rfl
theorem x_110_6 : Xp 110 d 6 ls ((0, b) :: (0, a) :: st) t g Q = Xp 110 d 7 ls ((0, hkW (a * b)) :: st) t g Q := Xp_go (i := .imul) (len := 1) (by decide +kernel) rfl
theorem x_110_7 : Xp 110 d 7 [v0, v1, (0, x)] st t g Q = Xp 110 d 8 [v0, v1, (0, x)] ((0, x) :: st) t g Q := Xp_go (i := .iload_n 2) (len := 1) (by decide +kernel) rfl
theorem x_110_8 : Xp 110 d 8 ls ((0, b) :: (0, a) :: st) t g Q = Xp 110 d 9 ls ((0, hkW (a + b)) :: st) t g Q := Xp_go (i := .iadd) (len := 1) (by decide +kernel) rfl
theorem x_110_9 : Xp 110 d 9 ls ((0, a) :: (2, p) :: st) t g Q = ((hkJK p = 100 ∧ 0 ≤ a ∧ a < jL p) ∧ Xp 110 d 10 ls ((0, g p a) :: st) t g Q) := Xp_chk (i := .iaload) (len := 1) (by decide +kernel) rfl
theorem x_110_10 : Xp 110 d 10 ls [(0, x)] t g Q = Q (some (0, x)) t g := xr_retI (by decide +kernel) (by decide +kernel)
-- 111: HookBoxesModel.number(I)I
theorem x_111_0 : Xp 111 d 0 [v0, (0, x), v2, v3, v4] st t g Q = Xp 111 d 1 [v0, (0, x), v2, v3, v4] ((0, x) :: st) t g Q := Xp_go (i := .iload_n 1) (len := 1) (by decide +kernel) rfl
theorem x_111_1 : Xp 111 d 1 ls ((0, a) :: st) t g Q = ((0 ≤ a → Xp 111 d 7 ls st t g Q) ∧ (¬ (0 ≤ a) → Xp 111 d 4 ls st t g Q)) := xr_if1 (cd := .ge) (off := 6) (by decide +kernel) (by decide)
theorem x_111_4 : Xp 111 d 4 ls st t g Q = Xp 111 d 6 ls ((0, -2) :: st) t g Q := xr_bi (c := -2) (by decide +kernel) (by decide)
theorem x_111_6 : Xp 111 d 6 ls [(0, x)] t g Q = Q (some (0, x)) t g := xr_retI (by decide +kernel) (by decide +kernel)
theorem x_111_7 : Xp 111 d 7 ls st t g Q = Xp 111 d 8 ls ((0, 0) :: st) t g Q := xr_const (c := 0) (by decide +kernel) (by decide)
theorem x_111_8 : Xp 111 d 8 [v0, v1, v2, v3, v4] ((0, x) :: st) t g Q = (hkP1 v1 ∧ Xp 111 d 9 [v0, v1, (0, x), v3, v4] st t g Q) := Xp_chk (i := .istore_n 2) (len := 1) (by decide +kernel) rfl
theorem x_111_9 : Xp 111 d 9 [v0, (0, x), v2, v3, v4] st t g Q = Xp 111 d 10 [v0, (0, x), v2, v3, v4] ((0, x) :: st) t g Q := Xp_go (i := .iload_n 1) (len := 1) (by decide +kernel) rfl
theorem x_111_10 : Xp 111 d 10 [v0, v1, v2, v3, v4] ((0, x) :: st) t g Q = (hkP1 v2 ∧ Xp 111 d 11 [v0, v1, v2, (0, x), v4] st t g Q) := Xp_chk (i := .istore_n 3) (len := 1) (by decide +kernel) rfl
theorem x_111_11 : Xp 111 d 11 [v0, v1, v2, (0, x), v4] st t g Q = Xp 111 d 12 [v0, v1, v2, (0, x), v4] ((0, x) :: st) t g Q := Xp_go (i := .iload_n 3) (len := 1) (by decide +kernel) rfl
theorem x_111_12 : Xp 111 d 12 ls ((0, a) :: st) t g Q = ((a ≤ 0 → Xp 111 d 26 ls st t g Q) ∧ (¬ (a ≤ 0) → Xp 111 d 15 ls st t g Q)) := xr_if1 (cd := .le) (off := 14) (by decide +kernel) (by decide)
theorem x_111_15 : Xp 111 d 15 [v0, v1, (0, x), v3, v4] st t g Q = (hkP1 v1 ∧ Xp 111 d 18 [v0, v1, (0, hkW (x + 1)), v3, v4] st t g Q) := Xp_chk (i := .iinc 2 (1)) (len := 3) (by decide +kernel) rfl
theorem x_111_18 : Xp 111 d 18 [v0, v1, v2, (0, x), v4] st t g Q = Xp 111 d 19 [v0, v1, v2, (0, x), v4] ((0, x) :: st) t g Q := Xp_go (i := .iload_n 3) (len := 1) (by decide +kernel) rfl
theorem x_111_19 : Xp 111 d 19 ls st t g Q = Xp 111 d 21 ls ((0, 10) :: st) t g Q := xr_bi (c := 10) (by decide +kernel) (by decide)
theorem x_111_21 : Xp 111 d 21 ls ((0, b) :: (0, a) :: st) t g Q = (b ≠ 0 ∧ Xp 111 d 22 ls ((0, hkW (a.tdiv b)) :: st) t g Q) := Xp_chk (i := .idiv) (len := 1) (by decide +kernel) rfl
theorem x_111_22 : Xp 111 d 22 [v0, v1, v2, v3, v4] ((0, x) :: st) t g Q = (hkP1 v2 ∧ Xp 111 d 23 [v0, v1, v2, (0, x), v4] st t g Q) := Xp_chk (i := .istore_n 3) (len := 1) (by decide +kernel) rfl
theorem x_111_23 : Xp 111 d 23 ls st t g Q = Xp 111 d 11 ls st t g Q := xr_goto (off := -12) (by decide +kernel) (by decide)
theorem x_111_26 : Xp 111 d 26 [v0, v1, (0, x), v3, v4] st t g Q = Xp 111 d 27 [v0, v1, (0, x), v3, v4] ((0, x) :: st) t g Q := Xp_go (i := .iload_n 2) (len := 1) (by decide +kernel) rfl
theorem x_111_27 : Xp 111 d 27 ls st t g Q = Xp 111 d 28 ls ((0, 4) :: st) t g Q := xr_const (c := 4) (by decide +kernel) (by decide)
theorem x_111_28 : Xp 111 d 28 ls ((0, b) :: (0, a) :: st) t g Q = ((a ≤ b → Xp 111 d 33 ls st t g Q) ∧ (¬ (a ≤ b) → Xp 111 d 31 ls st t g Q)) := xr_if2 (cd := .le) (off := 5) (by decide +kernel) (by decide)
theorem x_111_31 : Xp 111 d 31 ls st t g Q = Xp 111 d 32 ls ((0, -1) :: st) t g Q := xr_const (c := -1) (by decide +kernel) (by decide)
theorem x_111_32 : Xp 111 d 32 ls [(0, x)] t g Q = Q (some (0, x)) t g := xr_retI (by decide +kernel) (by decide +kernel)
theorem x_111_33 : Xp 111 d 33 [v0, (0, x), v2, v3, v4] st t g Q = Xp 111 d 34 [v0, (0, x), v2, v3, v4] ((0, x) :: st) t g Q := Xp_go (i := .iload_n 1) (len := 1) (by decide +kernel) rfl
theorem x_111_34 : Xp 111 d 34 [v0, v1, v2, v3, v4] ((0, x) :: st) t g Q = (hkP1 v2 ∧ Xp 111 d 35 [v0, v1, v2, (0, x), v4] st t g Q) := Xp_chk (i := .istore_n 3) (len := 1) (by decide +kernel) rfl
theorem x_111_35 : Xp 111 d 35 [v0, v1, (0, x), v3, v4] st t g Q = Xp 111 d 36 [v0, v1, (0, x), v3, v4] ((0, x) :: st) t g Q := Xp_go (i := .iload_n 2) (len := 1) (by decide +kernel) rfl
theorem x_111_36 : Xp 111 d 36 ls st t g Q = Xp 111 d 37 ls ((0, 1) :: st) t g Q := xr_const (c := 1) (by decide +kernel) (by decide)
theorem x_111_37 : Xp 111 d 37 ls ((0, b) :: (0, a) :: st) t g Q = Xp 111 d 38 ls ((0, hkW (a - b)) :: st) t g Q := Xp_go (i := .isub) (len := 1) (by decide +kernel) rfl
theorem x_111_38 : Xp 111 d 38 [v0, v1, v2, v3, v4] ((0, x) :: st) t g Q = (hkP1 v3 ∧ Xp 111 d 40 [v0, v1, v2, v3, (0, x)] st t g Q) := Xp_chk (i := .istore 4) (len := 2) (by decide +kernel) rfl
theorem x_111_40 : Xp 111 d 40 [v0, v1, v2, v3, (0, x)] st t g Q = Xp 111 d 42 [v0, v1, v2, v3, (0, x)] ((0, x) :: st) t g Q := Xp_go (i := .iload 4) (len := 2) (by decide +kernel) rfl
theorem x_111_42 : Xp 111 d 42 ls ((0, a) :: st) t g Q = ((a < 0 → Xp 111 d 67 ls st t g Q) ∧ (¬ (a < 0) → Xp 111 d 45 ls st t g Q)) := xr_if1 (cd := .lt) (off := 25) (by decide +kernel) (by decide)
theorem x_111_45 : Xp 111 d 45 [(2, x), v1, v2, v3, v4] st t g Q = Xp 111 d 46 [(2, x), v1, v2, v3, v4] ((2, x) :: st) t g Q := Xp_go (i := .aload_n 0) (len := 1) (by decide +kernel) rfl
theorem x_111_46 : Xp 111 d 46 ls ((2, p) :: st) t g Q = (hkJK p = 10 ∧ jA p 14 ≤ t ∧ Xp 111 d 49 ls ((2, jR p 14) :: st) t g Q) := xr_getR (idx := 42) (ci := 10) (k := 14) (by decide +kernel) (by decide +kernel) (by decide +kernel)
theorem x_111_49 : Xp 111 d 49 [v0, v1, v2, v3, (0, x)] st t g Q = Xp 111 d 51 [v0, v1, v2, v3, (0, x)] ((0, x) :: st) t g Q := Xp_go (i := .iload 4) (len := 2) (by decide +kernel) rfl
theorem x_111_51 : Xp 111 d 51 [v0, v1, v2, (0, x), v4] st t g Q = Xp 111 d 52 [v0, v1, v2, (0, x), v4] ((0, x) :: st) t g Q := Xp_go (i := .iload_n 3) (len := 1) (by decide +kernel) rfl
theorem x_111_52 : Xp 111 d 52 ls st t g Q = Xp 111 d 54 ls ((0, 10) :: st) t g Q := xr_bi (c := 10) (by decide +kernel) (by decide)
theorem x_111_54 : Xp 111 d 54 ls ((0, b) :: (0, a) :: st) t g Q = (b ≠ 0 ∧ Xp 111 d 55 ls ((0, a.tmod b) :: st) t g Q) := Xp_chk (i := .irem) (len := 1) (by decide +kernel) rfl
theorem x_111_55 : Xp 111 d 55 ls ((0, x) :: (0, a) :: (2, p) :: st) t g Q = ((hkJK p = 100 ∧ (100 = 102 → x = 0 ∨ x = 1) ∧ 0 ≤ a ∧ a < jL p) ∧ Xp 111 d 56 ls st t (hkSet g p a x) Q) := Xp_chk (i := .iastore) (len := 1) (by decide +kernel) rfl
theorem x_111_56 : Xp 111 d 56 [v0, v1, v2, (0, x), v4] st t g Q = Xp 111 d 57 [v0, v1, v2, (0, x), v4] ((0, x) :: st) t g Q := Xp_go (i := .iload_n 3) (len := 1) (by decide +kernel) rfl
theorem x_111_57 : Xp 111 d 57 ls st t g Q = Xp 111 d 59 ls ((0, 10) :: st) t g Q := xr_bi (c := 10) (by decide +kernel) (by decide)
theorem x_111_59 : Xp 111 d 59 ls ((0, b) :: (0, a) :: st) t g Q = (b ≠ 0 ∧ Xp 111 d 60 ls ((0, hkW (a.tdiv b)) :: st) t g Q) := Xp_chk (i := .idiv) (len := 1) (by decide +kernel) rfl
theorem x_111_60 : Xp 111 d 60 [v0, v1, v2, v3, v4] ((0, x) :: st) t g Q = (hkP1 v2 ∧ Xp 111 d 61 [v0, v1, v2, (0, x), v4] st t g Q) := Xp_chk (i := .istore_n 3) (len := 1) (by decide +kernel) rfl
theorem x_111_61 : Xp 111 d 61 [v0, v1, v2, v3, (0, x)] st t g Q = (hkP1 v3 ∧ Xp 111 d 64 [v0, v1, v2, v3, (0, hkW (x + -1))] st t g Q) := Xp_chk (i := .iinc 4 (-1)) (len := 3) (by decide +kernel) rfl
theorem x_111_64 : Xp 111 d 64 ls st t g Q = Xp 111 d 40 ls st t g Q := xr_goto (off := -24) (by decide +kernel) (by decide)
theorem x_111_67 : Xp 111 d 67 [(2, x), v1, v2, v3, v4] st t g Q = Xp 111 d 68 [(2, x), v1, v2, v3, v4] ((2, x) :: st) t g Q := Xp_go (i := .aload_n 0) (len := 1) (by decide +kernel) rfl
theorem x_111_68 : Xp 111 d 68 [v0, v1, (0, x), v3, v4] st t g Q = Xp 111 d 69 [v0, v1, (0, x), v3, v4] ((0, x) :: st) t g Q := Xp_go (i := .iload_n 2) (len := 1) (by decide +kernel) rfl
theorem x_111_69 : Xp 111 (d + 1) 69 ls ((0, a1) :: (2, a0) :: st) t g Q = (hkJK a0 = 10 ∧ hkC8 st ∧ Xp 112 d 0 [(2, a0), (0, a1), hkU, hkU, hkU, hkU] [] t g (fun r t g => Xp 111 (d + 1) 72 ls (hkPush r st) t g Q)) := xr_invV (idx := 127) (y' := 112) (ci := 10) (tg := [2, 0]) (by decide +kernel) (by decide +kernel) (by decide +kernel) (by decide +kernel) rfl rfl rfl
theorem x_111_72 : Xp 111 d 72 ls [(0, x)] t g Q = Q (some (0, x)) t g := xr_retI (by decide +kernel) (by decide +kernel)
-- 112: HookBoxesModel.shapeOf(I)I
theorem x_112_0 : Xp 112 d 0 [v0, (0, x), v2, v3, v4, v5] st t g Q = Xp 112 d 1 [v0, (0, x), v2, v3, v4, v5] ((0, x) :: st) t g Q := Xp_go (i := .iload_n 1) (len := 1) (by decide +kernel) rfl
theorem x_112_1 : Xp 112 d 1 [(2, x), v1, v2, v3, v4, v5] st t g Q = Xp 112 d 2 [(2, x), v1, v2, v3, v4, v5] ((2, x) :: st) t g Q := Xp_go (i := .aload_n 0) (len := 1) (by decide +kernel) rfl
theorem x_112_2 : Xp 112 d 2 ls ((2, p) :: st) t g Q = (hkJK p = 10 ∧ Xp 112 d 5 ls ((0, g p 0) :: st) t g Q) := xr_getI (idx := 11) (ci := 10) (k := 0) (by decide +kernel) (by decide +kernel) (by decide +kernel)
theorem x_112_5 : Xp 112 d 5 ls ((0, b) :: (0, a) :: st) t g Q = ((a ≤ b → Xp 112 d 10 ls st t g Q) ∧ (¬ (a ≤ b) → Xp 112 d 8 ls st t g Q)) := xr_if2 (cd := .le) (off := 5) (by decide +kernel) (by decide)
theorem x_112_8 : Xp 112 d 8 ls st t g Q = Xp 112 d 9 ls ((0, -1) :: st) t g Q := xr_const (c := -1) (by decide +kernel) (by decide)
theorem x_112_9 : Xp 112 d 9 ls [(0, x)] t g Q = Q (some (0, x)) t g := xr_retI (by decide +kernel) (by decide +kernel)
theorem x_112_10 : Xp 112 d 10 ls st t g Q = Xp 112 d 11 ls ((0, 0) :: st) t g Q := xr_const (c := 0) (by decide +kernel) (by decide)
theorem x_112_11 : Xp 112 d 11 [v0, v1, v2, v3, v4, v5] ((0, x) :: st) t g Q = (hkP1 v1 ∧ Xp 112 d 12 [v0, v1, (0, x), v3, v4, v5] st t g Q) := Xp_chk (i := .istore_n 2) (len := 1) (by decide +kernel) rfl
theorem x_112_12 : Xp 112 d 12 ls st t g Q = Xp 112 d 13 ls ((0, 0) :: st) t g Q := xr_const (c := 0) (by decide +kernel) (by decide)
theorem x_112_13 : Xp 112 d 13 [v0, v1, v2, v3, v4, v5] ((0, x) :: st) t g Q = (hkP1 v2 ∧ Xp 112 d 14 [v0, v1, v2, (0, x), v4, v5] st t g Q) := Xp_chk (i := .istore_n 3) (len := 1) (by decide +kernel) rfl
theorem x_112_14 : Xp 112 d 14 [v0, v1, v2, (0, x), v4, v5] st t g Q = Xp 112 d 15 [v0, v1, v2, (0, x), v4, v5] ((0, x) :: st) t g Q := Xp_go (i := .iload_n 3) (len := 1) (by decide +kernel) rfl
theorem x_112_15 : Xp 112 d 15 [(2, x), v1, v2, v3, v4, v5] st t g Q = Xp 112 d 16 [(2, x), v1, v2, v3, v4, v5] ((2, x) :: st) t g Q := Xp_go (i := .aload_n 0) (len := 1) (by decide +kernel) rfl
theorem x_112_16 : Xp 112 d 16 ls ((2, p) :: st) t g Q = (hkJK p = 10 ∧ Xp 112 d 19 ls ((0, g p 0) :: st) t g Q) := xr_getI (idx := 11) (ci := 10) (k := 0) (by decide +kernel) (by decide +kernel) (by decide +kernel)
theorem x_112_19 : Xp 112 d 19 ls ((0, b) :: (0, a) :: st) t g Q = ((b ≤ a → Xp 112 d 110 ls st t g Q) ∧ (¬ (b ≤ a) → Xp 112 d 22 ls st t g Q)) := xr_if2 (cd := .ge) (off := 91) (by decide +kernel) (by decide)
theorem x_112_22 : Xp 112 d 22 [v0, v1, v2, (0, x), v4, v5] st t g Q = Xp 112 d 23 [v0, v1, v2, (0, x), v4, v5] ((0, x) :: st) t g Q := Xp_go (i := .iload_n 3) (len := 1) (by decide +kernel) rfl
theorem x_112_23 : Xp 112 d 23 [v0, (0, x), v2, v3, v4, v5] st t g Q = Xp 112 d 24 [v0, (0, x), v2, v3, v4, v5] ((0, x) :: st) t g Q := Xp_go (i := .iload_n 1) (len := 1) (by decide +kernel) rfl
theorem x_112_24 : Xp 112 d 24 ls ((0, b) :: (0, a) :: st) t g Q = ((b ≤ a → Xp 112 d 36 ls st t g Q) ∧ (¬ (b ≤ a) → Xp 112 d 27 ls st t g Q)) := xr_if2 (cd := .ge) (off := 12) (by decide +kernel) (by decide)
theorem x_112_27 : Xp 112 d 27 [(2, x), v1, v2, v3, v4, v5] st t g Q = Xp 112 d 28 [(2, x), v1, v2, v3, v4, v5] ((2, x) :: st) t g Q := Xp_go (i := .aload_n 0) (len := 1) (by decide +kernel) rfl
theorem x_112_28 : Xp 112 d 28 ls ((2, p) :: st) t g Q = (hkJK p = 10 ∧ jA p 14 ≤ t ∧ Xp 112 d 31 ls ((2, jR p 14) :: st) t g Q) := xr_getR (idx := 42) (ci := 10) (k := 14) (by decide +kernel) (by decide +kernel) (by decide +kernel)
theorem x_112_31 : Xp 112 d 31 [v0, v1, v2, (0, x), v4, v5] st t g Q = Xp 112 d 32 [v0, v1, v2, (0, x), v4, v5] ((0, x) :: st) t g Q := Xp_go (i := .iload_n 3) (len := 1) (by decide +kernel) rfl
theorem x_112_32 : Xp 112 d 32 ls ((0, a) :: (2, p) :: st) t g Q = ((hkJK p = 100 ∧ 0 ≤ a ∧ a < jL p) ∧ Xp 112 d 33 ls ((0, g p a) :: st) t g Q) := Xp_chk (i := .iaload) (len := 1) (by decide +kernel) rfl
theorem x_112_33 : Xp 112 d 33 ls st t g Q = Xp 112 d 37 ls st t g Q := xr_goto (off := 4) (by decide +kernel) (by decide)
theorem x_112_36 : Xp 112 d 36 ls st t g Q = Xp 112 d 37 ls ((0, 0) :: st) t g Q := xr_const (c := 0) (by decide +kernel) (by decide)
theorem x_112_37 : Xp 112 d 37 [v0, v1, v2, v3, v4, v5] ((0, x) :: st) t g Q = (hkP1 v3 ∧ Xp 112 d 39 [v0, v1, v2, v3, (0, x), v5] st t g Q) := Xp_chk (i := .istore 4) (len := 2) (by decide +kernel) rfl
theorem x_112_39 : Xp 112 d 39 [v0, v1, v2, (0, x), v4, v5] st t g Q = Xp 112 d 40 [v0, v1, v2, (0, x), v4, v5] ((0, x) :: st) t g Q := Xp_go (i := .iload_n 3) (len := 1) (by decide +kernel) rfl
theorem x_112_40 : Xp 112 d 40 ls ((0, a) :: st) t g Q = ((¬ (a = 0) → Xp 112 d 50 ls st t g Q) ∧ (¬ (¬ (a = 0)) → Xp 112 d 43 ls st t g Q)) := xr_if1 (cd := .ne) (off := 10) (by decide +kernel) (by decide)
theorem x_112_43 : Xp 112 d 43 [(2, x), v1, v2, v3, v4, v5] st t g Q = Xp 112 d 44 [(2, x), v1, v2, v3, v4, v5] ((2, x) :: st) t g Q := Xp_go (i := .aload_n 0) (len := 1) (by decide +kernel) rfl
theorem x_112_44 : Xp 112 (d + 1) 44 ls ((2, a0) :: st) t g Q = (hkJK a0 = 10 ∧ hkC8 st ∧ Xp 103 d 0 [(2, a0)] [] t g (fun r t g => Xp 112 (d + 1) 47 ls (hkPush r st) t g Q)) := xr_invV (idx := 100) (y' := 103) (ci := 10) (tg := [2]) (by decide +kernel) (by decide +kernel) (by decide +kernel) (by decide +kernel) rfl rfl rfl
theorem x_112_47 : Xp 112 d 47 ls st t g Q = Xp 112 d 67 ls st t g Q := xr_goto (off := 20) (by decide +kernel) (by decide)
theorem x_112_50 : Xp 112 d 50 [v0, v1, v2, (0, x), v4, v5] st t g Q = Xp 112 d 51 [v0, v1, v2, (0, x), v4, v5] ((0, x) :: st) t g Q := Xp_go (i := .iload_n 3) (len := 1) (by decide +kernel) rfl
theorem x_112_51 : Xp 112 d 51 [v0, (0, x), v2, v3, v4, v5] st t g Q = Xp 112 d 52 [v0, (0, x), v2, v3, v4, v5] ((0, x) :: st) t g Q := Xp_go (i := .iload_n 1) (len := 1) (by decide +kernel) rfl
theorem x_112_52 : Xp 112 d 52 ls ((0, b) :: (0, a) :: st) t g Q = ((b < a → Xp 112 d 66 ls st t g Q) ∧ (¬ (b < a) → Xp 112 d 55 ls st t g Q)) := xr_if2 (cd := .gt) (off := 14) (by decide +kernel) (by decide)
theorem x_112_55 : Xp 112 d 55 [(2, x), v1, v2, v3, v4, v5] st t g Q = Xp 112 d 56 [(2, x), v1, v2, v3, v4, v5] ((2, x) :: st) t g Q := Xp_go (i := .aload_n 0) (len := 1) (by decide +kernel) rfl
theorem x_112_56 : Xp 112 d 56 ls ((2, p) :: st) t g Q = (hkJK p = 10 ∧ jA p 14 ≤ t ∧ Xp 112 d 59 ls ((2, jR p 14) :: st) t g Q) := xr_getR (idx := 42) (ci := 10) (k := 14) (by decide +kernel) (by decide +kernel) (by decide +kernel)
theorem x_112_59 : Xp 112 d 59 [v0, v1, v2, (0, x), v4, v5] st t g Q = Xp 112 d 60 [v0, v1, v2, (0, x), v4, v5] ((0, x) :: st) t g Q := Xp_go (i := .iload_n 3) (len := 1) (by decide +kernel) rfl
theorem x_112_60 : Xp 112 d 60 ls st t g Q = Xp 112 d 61 ls ((0, 1) :: st) t g Q := xr_const (c := 1) (by decide +kernel) (by decide)
theorem x_112_61 : Xp 112 d 61 ls ((0, b) :: (0, a) :: st) t g Q = Xp 112 d 62 ls ((0, hkW (a - b)) :: st) t g Q := Xp_go (i := .isub) (len := 1) (by decide +kernel) rfl
theorem x_112_62 : Xp 112 d 62 ls ((0, a) :: (2, p) :: st) t g Q = ((hkJK p = 100 ∧ 0 ≤ a ∧ a < jL p) ∧ Xp 112 d 63 ls ((0, g p a) :: st) t g Q) := Xp_chk (i := .iaload) (len := 1) (by decide +kernel) rfl
theorem x_112_63 : Xp 112 d 63 ls st t g Q = Xp 112 d 67 ls st t g Q := xr_goto (off := 4) (by decide +kernel) (by decide)
theorem x_112_66 : Xp 112 d 66 ls st t g Q = Xp 112 d 67 ls ((0, 0) :: st) t g Q := xr_const (c := 0) (by decide +kernel) (by decide)
theorem x_112_67 : Xp 112 d 67 [v0, v1, v2, v3, v4, v5] ((0, x) :: st) t g Q = (hkP1 v4 ∧ Xp 112 d 69 [v0, v1, v2, v3, v4, (0, x)] st t g Q) := Xp_chk (i := .istore 5) (len := 2) (by decide +kernel) rfl
theorem x_112_69 : Xp 112 d 69 [v0, v1, v2, v3, (0, x), v5] st t g Q = Xp 112 d 71 [v0, v1, v2, v3, (0, x), v5] ((0, x) :: st) t g Q := Xp_go (i := .iload 4) (len := 2) (by decide +kernel) rfl
theorem x_112_71 : Xp 112 d 71 [v0, v1, v2, v3, v4, (0, x)] st t g Q = Xp 112 d 73 [v0, v1, v2, v3, v4, (0, x)] ((0, x) :: st) t g Q := Xp_go (i := .iload 5) (len := 2) (by decide +kernel) rfl
theorem x_112_73 : Xp 112 d 73 ls ((0, b) :: (0, a) :: st) t g Q = ((b < a → Xp 112 d 86 ls st t g Q) ∧ (¬ (b < a) → Xp 112 d 76 ls st t g Q)) := xr_if2 (cd := .gt) (off := 13) (by decide +kernel) (by decide)
theorem x_112_76 : Xp 112 d 76 [v0, v1, v2, (0, x), v4, v5] st t g Q = Xp 112 d 77 [v0, v1, v2, (0, x), v4, v5] ((0, x) :: st) t g Q := Xp_go (i := .iload_n 3) (len := 1) (by decide +kernel) rfl
theorem x_112_77 : Xp 112 d 77 [v0, (0, x), v2, v3, v4, v5] st t g Q = Xp 112 d 78 [v0, (0, x), v2, v3, v4, v5] ((0, x) :: st) t g Q := Xp_go (i := .iload_n 1) (len := 1) (by decide +kernel) rfl
theorem x_112_78 : Xp 112 d 78 ls ((0, b) :: (0, a) :: st) t g Q = ((b ≤ a → Xp 112 d 88 ls st t g Q) ∧ (¬ (b ≤ a) → Xp 112 d 81 ls st t g Q)) := xr_if2 (cd := .ge) (off := 10) (by decide +kernel) (by decide)
theorem x_112_81 : Xp 112 d 81 [v0, v1, v2, v3, (0, x), v5] st t g Q = Xp 112 d 83 [v0, v1, v2, v3, (0, x), v5] ((0, x) :: st) t g Q := Xp_go (i := .iload 4) (len := 2) (by decide +kernel) rfl
theorem x_112_83 : Xp 112 d 83 ls ((0, a) :: st) t g Q = ((¬ (a = 0) → Xp 112 d 88 ls st t g Q) ∧ (¬ (¬ (a = 0)) → Xp 112 d 86 ls st t g Q)) := xr_if1 (cd := .ne) (off := 5) (by decide +kernel) (by decide)
theorem x_112_86 : Xp 112 d 86 ls st t g Q = Xp 112 d 87 ls ((0, -1) :: st) t g Q := xr_const (c := -1) (by decide +kernel) (by decide)
theorem x_112_87 : Xp 112 d 87 ls [(0, x)] t g Q = Q (some (0, x)) t g := xr_retI (by decide +kernel) (by decide +kernel)
theorem x_112_88 : Xp 112 d 88 [v0, v1, (0, x), v3, v4, v5] st t g Q = Xp 112 d 89 [v0, v1, (0, x), v3, v4, v5] ((0, x) :: st) t g Q := Xp_go (i := .iload_n 2) (len := 1) (by decide +kernel) rfl
theorem x_112_89 : Xp 112 d 89 ls st t g Q = Xp 112 d 90 ls ((0, 1) :: st) t g Q := xr_const (c := 1) (by decide +kernel) (by decide)
theorem x_112_90 : Xp 112 d 90 [v0, v1, v2, v3, (0, x), v5] st t g Q = Xp 112 d 92 [v0, v1, v2, v3, (0, x), v5] ((0, x) :: st) t g Q := Xp_go (i := .iload 4) (len := 2) (by decide +kernel) rfl
theorem x_112_92 : Xp 112 d 92 [(2, x), v1, v2, v3, v4, v5] st t g Q = Xp 112 d 93 [(2, x), v1, v2, v3, v4, v5] ((2, x) :: st) t g Q := Xp_go (i := .aload_n 0) (len := 1) (by decide +kernel) rfl
theorem x_112_93 : Xp 112 d 93 ls ((2, p) :: st) t g Q = (hkJK p = 10 ∧ Xp 112 d 96 ls ((0, g p 0) :: st) t g Q) := xr_getI (idx := 11) (ci := 10) (k := 0) (by decide +kernel) (by decide +kernel) (by decide +kernel)
theorem x_112_96 : Xp 112 d 96 ls ((0, b) :: (0, a) :: st) t g Q = Xp 112 d 97 ls ((0, hkW (a + b)) :: st) t g Q := Xp_go (i := .iadd) (len := 1) (by decide +kernel) rfl
theorem x_112_97 : Xp 112 d 97 ls st t g Q = Xp 112 d 98 ls ((0, 1) :: st) t g Q := xr_const (c := 1) (by decide +kernel) (by decide)
theorem x_112_98 : Xp 112 d 98 ls ((0, b) :: (0, a) :: st) t g Q = Xp 112 d 99 ls ((0, hkW (a - b)) :: st) t g Q := Xp_go (i := .isub) (len := 1) (by decide +kernel) rfl
theorem x_112_99 : Xp 112 d 99 [v0, v1, v2, (0, x), v4, v5] st t g Q = Xp 112 d 100 [v0, v1, v2, (0, x), v4, v5] ((0, x) :: st) t g Q := Xp_go (i := .iload_n 3) (len := 1) (by decide +kernel) rfl
theorem x_112_100 : Xp 112 d 100 ls ((0, b) :: (0, a) :: st) t g Q = Xp 112 d 101 ls ((0, hkW (a - b)) :: st) t g Q := Xp_go (i := .isub) (len := 1) (by decide +kernel) rfl
theorem x_112_101 : Xp 112 d 101 ls ((0, b) :: (0, a) :: st) t g Q = Xp 112 d 102 ls ((0, hkShl a b) :: st) t g Q := Xp_go (i := .ishl) (len := 1) (by decide +kernel) rfl
theorem x_112_102 : Xp 112 d 102 ls ((0, b) :: (0, a) :: st) t g Q = Xp 112 d 103 ls ((0, hkOr a b) :: st) t g Q := Xp_go (i := .ior) (len := 1) (by decide +kernel) rfl
theorem x_112_103 : Xp 112 d 103 [v0, v1, v2, v3, v4, v5] ((0, x) :: st) t g Q = (hkP1 v1 ∧ Xp 112 d 104 [v0, v1, (0, x), v3, v4, v5] st t g Q) := Xp_chk (i := .istore_n 2) (len := 1) (by decide +kernel) rfl
theorem x_112_104 : Xp 112 d 104 [v0, v1, v2, (0, x), v4, v5] st t g Q = (hkP1 v2 ∧ Xp 112 d 107 [v0, v1, v2, (0, hkW (x + 1)), v4, v5] st t g Q) := Xp_chk (i := .iinc 3 (1)) (len := 3) (by decide +kernel) rfl
theorem x_112_107 : Xp 112 d 107 ls st t g Q = Xp 112 d 14 ls st t g Q := xr_goto (off := -93) (by decide +kernel) (by decide)
theorem x_112_110 : Xp 112 d 110 [(2, x), v1, v2, v3, v4, v5] st t g Q = Xp 112 d 111 [(2, x), v1, v2, v3, v4, v5] ((2, x) :: st) t g Q := Xp_go (i := .aload_n 0) (len := 1) (by decide +kernel) rfl
theorem x_112_111 : Xp 112 d 111 ls ((2, p) :: st) t g Q = (hkJK p = 10 ∧ jA p 4 ≤ t ∧ Xp 112 d 114 ls ((2, jR p 4) :: st) t g Q) := xr_getR (idx := 22) (ci := 10) (k := 4) (by decide +kernel) (by decide +kernel) (by decide +kernel)
theorem x_112_114 : Xp 112 d 114 [v0, v1, (0, x), v3, v4, v5] st t g Q = Xp 112 d 115 [v0, v1, (0, x), v3, v4, v5] ((0, x) :: st) t g Q := Xp_go (i := .iload_n 2) (len := 1) (by decide +kernel) rfl
theorem x_112_115 : Xp 112 d 115 ls ((0, a) :: (2, p) :: st) t g Q = ((hkJK p = 100 ∧ 0 ≤ a ∧ a < jL p) ∧ Xp 112 d 116 ls ((0, g p a) :: st) t g Q) := Xp_chk (i := .iaload) (len := 1) (by decide +kernel) rfl
theorem x_112_116 : Xp 112 d 116 ls [(0, x)] t g Q = Q (some (0, x)) t g := xr_retI (by decide +kernel) (by decide +kernel)
-- 113: HookBoxesModel.of(II)I
theorem x_113_0 : Xp 113 d 0 [(2, x), v1, v2, v3] st t g Q = Xp 113 d 1 [(2, x), v1, v2, v3] ((2, x) :: st) t g Q := Xp_go (i := .aload_n 0) (len := 1) (by decide +kernel) rfl
theorem x_113_1 : Xp 113 d 1 [v0, (0, x), v2, v3] st t g Q = Xp 113 d 2 [v0, (0, x), v2, v3] ((0, x) :: st) t g Q := Xp_go (i := .iload_n 1) (len := 1) (by decide +kernel) rfl
theorem x_113_2 : Xp 113 (d + 1) 2 ls ((0, a1) :: (2, a0) :: st) t g Q = (hkJK a0 = 10 ∧ hkC8 st ∧ Xp 109 d 0 [(2, a0), (0, a1)] [] t g (fun r t g => Xp 113 (d + 1) 5 ls (hkPush r st) t g Q)) := xr_invV (idx := 123) (y' := 109) (ci := 10) (tg := [2, 0]) (by decide +kernel) (by decide +kernel) (by decide +kernel) (by decide +kernel) rfl rfl rfl
theorem x_113_5 : Xp 113 d 5 ls ((0, a) :: st) t g Q = ((¬ (a = 0) → Xp 113 d 11 ls st t g Q) ∧ (¬ (¬ (a = 0)) → Xp 113 d 8 ls st t g Q)) := xr_if1 (cd := .ne) (off := 6) (by decide +kernel) (by decide)
theorem x_113_8 : Xp 113 d 8 ls st t g Q = Xp 113 d 10 ls ((0, -2) :: st) t g Q := xr_bi (c := -2) (by decide +kernel) (by decide)
theorem x_113_10 : Xp 113 d 10 ls [(0, x)] t g Q = Q (some (0, x)) t g := xr_retI (by decide +kernel) (by decide +kernel)
theorem x_113_11 : Xp 113 d 11 [(2, x), v1, v2, v3] st t g Q = Xp 113 d 12 [(2, x), v1, v2, v3] ((2, x) :: st) t g Q := Xp_go (i := .aload_n 0) (len := 1) (by decide +kernel) rfl
theorem x_113_12 : Xp 113 d 12 [v0, (0, x), v2, v3] st t g Q = Xp 113 d 13 [v0, (0, x), v2, v3] ((0, x) :: st) t g Q := Xp_go (i := .iload_n 1) (len := 1) (by decide +kernel) rfl
theorem x_113_13 : Xp 113 (d + 1) 13 ls ((0, a1) :: (2, a0) :: st) t g Q = (hkJK a0 = 10 ∧ hkC8 st ∧ Xp 114 d 0 [(2, a0), (0, a1), hkU, hkU] [] t g (fun r t g => Xp 113 (d + 1) 16 ls (hkPush r st) t g Q)) := xr_invV (idx := 133) (y' := 114) (ci := 10) (tg := [2, 0]) (by decide +kernel) (by decide +kernel) (by decide +kernel) (by decide +kernel) rfl rfl rfl
theorem x_113_16 : Xp 113 d 16 [v0, v1, v2, v3] ((0, x) :: st) t g Q = (hkP1 v2 ∧ Xp 113 d 17 [v0, v1, v2, (0, x)] st t g Q) := Xp_chk (i := .istore_n 3) (len := 1) (by decide +kernel) rfl
theorem x_113_17 : Xp 113 d 17 [v0, v1, (0, x), v3] st t g Q = Xp 113 d 18 [v0, v1, (0, x), v3] ((0, x) :: st) t g Q := Xp_go (i := .iload_n 2) (len := 1) (by decide +kernel) rfl
theorem x_113_18_f : hkFetch 113 18 = some (.tableswitch (102) (0) (6) #[42, 49, 55, 61, 63, 69, 96], 42) := by decide +kernel
theorem x_113_18_k0 : Xp 113 d 18 ls ((0, 0) :: st) t g Q = Xp 113 d 60 ls st t g Q := xr_sw x_113_18_f (off := 42) (by decide +kernel) (by decide)
theorem x_113_18_k1 : Xp 113 d 18 ls ((0, 1) :: st) t g Q = Xp 113 d 67 ls st t g Q := xr_sw x_113_18_f (off := 49) (by decide +kernel) (by decide)
theorem x_113_18_k2 : Xp 113 d 18 ls ((0, 2) :: st) t g Q = Xp 113 d 73 ls st t g Q := xr_sw x_113_18_f (off := 55) (by decide +kernel) (by decide)
theorem x_113_18_k3 : Xp 113 d 18 ls ((0, 3) :: st) t g Q = Xp 113 d 79 ls st t g Q := xr_sw x_113_18_f (off := 61) (by decide +kernel) (by decide)
theorem x_113_18_k4 : Xp 113 d 18 ls ((0, 4) :: st) t g Q = Xp 113 d 81 ls st t g Q := xr_sw x_113_18_f (off := 63) (by decide +kernel) (by decide)
theorem x_113_18_k5 : Xp 113 d 18 ls ((0, 5) :: st) t g Q = Xp 113 d 87 ls st t g Q := xr_sw x_113_18_f (off := 69) (by decide +kernel) (by decide)
theorem x_113_18_k6 : Xp 113 d 18 ls ((0, 6) :: st) t g Q = Xp 113 d 114 ls st t g Q := xr_sw x_113_18_f (off := 96) (by decide +kernel) (by decide)
theorem x_113_18_d (h : a < 0 ∨ 6 < a) : Xp 113 d 18 ls ((0, a) :: st) t g Q = Xp 113 d 120 ls st t g Q := xr_swd x_113_18_f h (by decide)
theorem x_113_60 : Xp 113 d 60 [(2, x), v1, v2, v3] st t g Q = Xp 113 d 61 [(2, x), v1, v2, v3] ((2, x) :: st) t g Q := Xp_go (i := .aload_n 0) (len := 1) (by decide +kernel) rfl
theorem x_113_61 : Xp 113 d 61 ls ((2, p) :: st) t g Q = (hkJK p = 10 ∧ jA p 5 ≤ t ∧ Xp 113 d 64 ls ((2, jR p 5) :: st) t g Q) := xr_getR (idx := 25) (ci := 10) (k := 5) (by decide +kernel) (by decide +kernel) (by decide +kernel)
theorem x_113_64 : Xp 113 d 64 [v0, (0, x), v2, v3] st t g Q = Xp 113 d 65 [v0, (0, x), v2, v3] ((0, x) :: st) t g Q := Xp_go (i := .iload_n 1) (len := 1) (by decide +kernel) rfl
theorem x_113_65 : Xp 113 d 65 ls ((0, a) :: (2, p) :: st) t g Q = ((hkJK p = 100 ∧ 0 ≤ a ∧ a < jL p) ∧ Xp 113 d 66 ls ((0, g p a) :: st) t g Q) := Xp_chk (i := .iaload) (len := 1) (by decide +kernel) rfl
theorem x_113_66 : Xp 113 d 66 ls [(0, x)] t g Q = Q (some (0, x)) t g := xr_retI (by decide +kernel) (by decide +kernel)
theorem x_113_67 : Xp 113 d 67 [(2, x), v1, v2, v3] st t g Q = Xp 113 d 68 [(2, x), v1, v2, v3] ((2, x) :: st) t g Q := Xp_go (i := .aload_n 0) (len := 1) (by decide +kernel) rfl
theorem x_113_68 : Xp 113 d 68 [v0, (0, x), v2, v3] st t g Q = Xp 113 d 69 [v0, (0, x), v2, v3] ((0, x) :: st) t g Q := Xp_go (i := .iload_n 1) (len := 1) (by decide +kernel) rfl
theorem x_113_69 : Xp 113 (d + 1) 69 ls ((0, a1) :: (2, a0) :: st) t g Q = (hkJK a0 = 10 ∧ hkC8 st ∧ Xp 115 d 0 [(2, a0), (0, a1), hkU, hkU] [] t g (fun r t g => Xp 113 (d + 1) 72 ls (hkPush r st) t g Q)) := xr_invV (idx := 130) (y' := 115) (ci := 10) (tg := [2, 0]) (by decide +kernel) (by decide +kernel) (by decide +kernel) (by decide +kernel) rfl rfl rfl
theorem x_113_72 : Xp 113 d 72 ls [(0, x)] t g Q = Q (some (0, x)) t g := xr_retI (by decide +kernel) (by decide +kernel)
theorem x_113_73 : Xp 113 d 73 [(2, x), v1, v2, v3] st t g Q = Xp 113 d 74 [(2, x), v1, v2, v3] ((2, x) :: st) t g Q := Xp_go (i := .aload_n 0) (len := 1) (by decide +kernel) rfl
theorem x_113_74 : Xp 113 d 74 [v0, (0, x), v2, v3] st t g Q = Xp 113 d 75 [v0, (0, x), v2, v3] ((0, x) :: st) t g Q := Xp_go (i := .iload_n 1) (len := 1) (by decide +kernel) rfl
theorem x_113_75 : Xp 113 (d + 1) 75 ls ((0, a1) :: (2, a0) :: st) t g Q = (hkJK a0 = 10 ∧ hkC8 st ∧ Xp 116 d 0 [(2, a0), (0, a1), hkU] [] t g (fun r t g => Xp 113 (d + 1) 78 ls (hkPush r st) t g Q)) := xr_invV (idx := 136) (y' := 116) (ci := 10) (tg := [2, 0]) (by decide +kernel) (by decide +kernel) (by decide +kernel) (by decide +kernel) rfl rfl rfl
theorem x_113_78 : Xp 113 d 78 ls [(0, x)] t g Q = Q (some (0, x)) t g := xr_retI (by decide +kernel) (by decide +kernel)
theorem x_113_79 : Xp 113 d 79 [v0, v1, v2, (0, x)] st t g Q = Xp 113 d 80 [v0, v1, v2, (0, x)] ((0, x) :: st) t g Q := Xp_go (i := .iload_n 3) (len := 1) (by decide +kernel) rfl
theorem x_113_80 : Xp 113 d 80 ls [(0, x)] t g Q = Q (some (0, x)) t g := xr_retI (by decide +kernel) (by decide +kernel)
theorem x_113_81 : Xp 113 d 81 [(2, x), v1, v2, v3] st t g Q = Xp 113 d 82 [(2, x), v1, v2, v3] ((2, x) :: st) t g Q := Xp_go (i := .aload_n 0) (len := 1) (by decide +kernel) rfl
theorem x_113_82 : Xp 113 d 82 [v0, (0, x), v2, v3] st t g Q = Xp 113 d 83 [v0, (0, x), v2, v3] ((0, x) :: st) t g Q := Xp_go (i := .iload_n 1) (len := 1) (by decide +kernel) rfl
theorem x_113_83 : Xp 113 (d + 1) 83 ls ((0, a1) :: (2, a0) :: st) t g Q = (hkJK a0 = 10 ∧ hkC8 st ∧ Xp 117 d 0 [(2, a0), (0, a1), hkU, hkU] [] t g (fun r t g => Xp 113 (d + 1) 86 ls (hkPush r st) t g Q)) := xr_invV (idx := 139) (y' := 117) (ci := 10) (tg := [2, 0]) (by decide +kernel) (by decide +kernel) (by decide +kernel) (by decide +kernel) rfl rfl rfl
theorem x_113_86 : Xp 113 d 86 ls [(0, x)] t g Q = Q (some (0, x)) t g := xr_retI (by decide +kernel) (by decide +kernel)
theorem x_113_87 : Xp 113 d 87 [(2, x), v1, v2, v3] st t g Q = Xp 113 d 88 [(2, x), v1, v2, v3] ((2, x) :: st) t g Q := Xp_go (i := .aload_n 0) (len := 1) (by decide +kernel) rfl
theorem x_113_88 : Xp 113 d 88 ls ((2, p) :: st) t g Q = (hkJK p = 10 ∧ jA p 4 ≤ t ∧ Xp 113 d 91 ls ((2, jR p 4) :: st) t g Q) := xr_getR (idx := 22) (ci := 10) (k := 4) (by decide +kernel) (by decide +kernel) (by decide +kernel)
theorem x_113_91 : Xp 113 d 91 [v0, v1, v2, (0, x)] st t g Q = Xp 113 d 92 [v0, v1, v2, (0, x)] ((0, x) :: st) t g Q := Xp_go (i := .iload_n 3) (len := 1) (by decide +kernel) rfl
theorem x_113_92 : Xp 113 d 92 ls st t g Q = Xp 113 d 93 ls ((0, 1) :: st) t g Q := xr_const (c := 1) (by decide +kernel) (by decide)
theorem x_113_93 : Xp 113 d 93 ls ((0, b) :: (0, a) :: st) t g Q = Xp 113 d 94 ls ((0, hkShl a b) :: st) t g Q := Xp_go (i := .ishl) (len := 1) (by decide +kernel) rfl
theorem x_113_94 : Xp 113 d 94 [v0, v1, v2, (0, x)] st t g Q = Xp 113 d 95 [v0, v1, v2, (0, x)] ((0, x) :: st) t g Q := Xp_go (i := .iload_n 3) (len := 1) (by decide +kernel) rfl
theorem x_113_95 : Xp 113 d 95 [(2, x), v1, v2, v3] st t g Q = Xp 113 d 96 [(2, x), v1, v2, v3] ((2, x) :: st) t g Q := Xp_go (i := .aload_n 0) (len := 1) (by decide +kernel) rfl
theorem x_113_96 : Xp 113 d 96 ls ((2, p) :: st) t g Q = (hkJK p = 10 ∧ Xp 113 d 99 ls ((0, g p 1) :: st) t g Q) := xr_getI (idx := 15) (ci := 10) (k := 1) (by decide +kernel) (by decide +kernel) (by decide +kernel)
theorem x_113_99 : Xp 113 d 99 ls st t g Q = Xp 113 d 100 ls ((0, 1) :: st) t g Q := xr_const (c := 1) (by decide +kernel) (by decide)
theorem x_113_100 : Xp 113 d 100 ls ((0, b) :: (0, a) :: st) t g Q = Xp 113 d 101 ls ((0, hkW (a - b)) :: st) t g Q := Xp_go (i := .isub) (len := 1) (by decide +kernel) rfl
theorem x_113_101 : Xp 113 d 101 ls ((0, b) :: (0, a) :: st) t g Q = Xp 113 d 102 ls ((0, hkShr a b) :: st) t g Q := Xp_go (i := .ishr) (len := 1) (by decide +kernel) rfl
theorem x_113_102 : Xp 113 d 102 ls ((0, b) :: (0, a) :: st) t g Q = Xp 113 d 103 ls ((0, hkOr a b) :: st) t g Q := Xp_go (i := .ior) (len := 1) (by decide +kernel) rfl
theorem x_113_103 : Xp 113 d 103 ls st t g Q = Xp 113 d 104 ls ((0, 1) :: st) t g Q := xr_const (c := 1) (by decide +kernel) (by decide)
theorem x_113_104 : Xp 113 d 104 [(2, x), v1, v2, v3] st t g Q = Xp 113 d 105 [(2, x), v1, v2, v3] ((2, x) :: st) t g Q := Xp_go (i := .aload_n 0) (len := 1) (by decide +kernel) rfl
theorem x_113_105 : Xp 113 d 105 ls ((2, p) :: st) t g Q = (hkJK p = 10 ∧ Xp 113 d 108 ls ((0, g p 1) :: st) t g Q) := xr_getI (idx := 15) (ci := 10) (k := 1) (by decide +kernel) (by decide +kernel) (by decide +kernel)
theorem x_113_108 : Xp 113 d 108 ls ((0, b) :: (0, a) :: st) t g Q = Xp 113 d 109 ls ((0, hkShl a b) :: st) t g Q := Xp_go (i := .ishl) (len := 1) (by decide +kernel) rfl
theorem x_113_109 : Xp 113 d 109 ls st t g Q = Xp 113 d 110 ls ((0, 1) :: st) t g Q := xr_const (c := 1) (by decide +kernel) (by decide)
theorem x_113_110 : Xp 113 d 110 ls ((0, b) :: (0, a) :: st) t g Q = Xp 113 d 111 ls ((0, hkW (a - b)) :: st) t g Q := Xp_go (i := .isub) (len := 1) (by decide +kernel) rfl
theorem x_113_111 : Xp 113 d 111 ls ((0, b) :: (0, a) :: st) t g Q = Xp 113 d 112 ls ((0, hkAnd a b) :: st) t g Q := Xp_go (i := .iand) (len := 1) (by decide +kernel) rfl
theorem x_113_112 : Xp 113 d 112 ls ((0, a) :: (2, p) :: st) t g Q = ((hkJK p = 100 ∧ 0 ≤ a ∧ a < jL p) ∧ Xp 113 d 113 ls ((0, g p a) :: st) t g Q) := Xp_chk (i := .iaload) (len := 1) (by decide +kernel) rfl
theorem x_113_113 : Xp 113 d 113 ls [(0, x)] t g Q = Q (some (0, x)) t g := xr_retI (by decide +kernel) (by decide +kernel)
theorem x_113_114 : Xp 113 d 114 [(2, x), v1, v2, v3] st t g Q = Xp 113 d 115 [(2, x), v1, v2, v3] ((2, x) :: st) t g Q := Xp_go (i := .aload_n 0) (len := 1) (by decide +kernel) rfl
theorem x_113_115 : Xp 113 d 115 [v0, (0, x), v2, v3] st t g Q = Xp 113 d 116 [v0, (0, x), v2, v3] ((0, x) :: st) t g Q := Xp_go (i := .iload_n 1) (len := 1) (by decide +kernel) rfl
theorem x_113_116 : Xp 113 (d + 1) 116 ls ((0, a1) :: (2, a0) :: st) t g Q = (hkJK a0 = 10 ∧ hkC8 st ∧ Xp 118 d 0 [(2, a0), (0, a1), hkU, hkU] [] t g (fun r t g => Xp 113 (d + 1) 119 ls (hkPush r st) t g Q)) := xr_invV (idx := 142) (y' := 118) (ci := 10) (tg := [2, 0]) (by decide +kernel) (by decide +kernel) (by decide +kernel) (by decide +kernel) rfl rfl rfl
theorem x_113_119 : Xp 113 d 119 ls [(0, x)] t g Q = Q (some (0, x)) t g := xr_retI (by decide +kernel) (by decide +kernel)
theorem x_113_120 : Xp 113 d 120 ls st t g Q = Xp 113 d 122 ls ((0, -2) :: st) t g Q := xr_bi (c := -2) (by decide +kernel) (by decide)
theorem x_113_122 : Xp 113 d 122 ls [(0, x)] t g Q = Q (some (0, x)) t g := xr_retI (by decide +kernel) (by decide +kernel)
-- 114: HookBoxesModel.word(I)I
theorem x_114_0 : Xp 114 d 0 ls st t g Q = Xp 114 d 1 ls ((0, 0) :: st) t g Q := xr_const (c := 0) (by decide +kernel) (by decide)
theorem x_114_1 : Xp 114 d 1 [v0, v1, v2, v3] ((0, x) :: st) t g Q = (hkP1 v1 ∧ Xp 114 d 2 [v0, v1, (0, x), v3] st t g Q) := Xp_chk (i := .istore_n 2) (len := 1) (by decide +kernel) rfl
theorem x_114_2 : Xp 114 d 2 ls st t g Q = Xp 114 d 3 ls ((0, 0) :: st) t g Q := xr_const (c := 0) (by decide +kernel) (by decide)
theorem x_114_3 : Xp 114 d 3 [v0, v1, v2, v3] ((0, x) :: st) t g Q = (hkP1 v2 ∧ Xp 114 d 4 [v0, v1, v2, (0, x)] st t g Q) := Xp_chk (i := .istore_n 3) (len := 1) (by decide +kernel) rfl
theorem x_114_4 : Xp 114 d 4 [v0, v1, v2, (0, x)] st t g Q = Xp 114 d 5 [v0, v1, v2, (0, x)] ((0, x) :: st) t g Q := Xp_go (i := .iload_n 3) (len := 1) (by decide +kernel) rfl
theorem x_114_5 : Xp 114 d 5 [(2, x), v1, v2, v3] st t g Q = Xp 114 d 6 [(2, x), v1, v2, v3] ((2, x) :: st) t g Q := Xp_go (i := .aload_n 0) (len := 1) (by decide +kernel) rfl
theorem x_114_6 : Xp 114 d 6 ls ((2, p) :: st) t g Q = (hkJK p = 10 ∧ Xp 114 d 9 ls ((0, g p 0) :: st) t g Q) := xr_getI (idx := 11) (ci := 10) (k := 0) (by decide +kernel) (by decide +kernel) (by decide +kernel)
theorem x_114_9 : Xp 114 d 9 ls ((0, b) :: (0, a) :: st) t g Q = ((b ≤ a → Xp 114 d 38 ls st t g Q) ∧ (¬ (b ≤ a) → Xp 114 d 12 ls st t g Q)) := xr_if2 (cd := .ge) (off := 29) (by decide +kernel) (by decide)
theorem x_114_12 : Xp 114 d 12 [v0, v1, (0, x), v3] st t g Q = Xp 114 d 13 [v0, v1, (0, x), v3] ((0, x) :: st) t g Q := Xp_go (i := .iload_n 2) (len := 1) (by decide +kernel) rfl
theorem x_114_13 : Xp 114 d 13 ls st t g Q = Xp 114 d 14 ls ((0, 1) :: st) t g Q := xr_const (c := 1) (by decide +kernel) (by decide)
theorem x_114_14 : Xp 114 d 14 [(2, x), v1, v2, v3] st t g Q = Xp 114 d 15 [(2, x), v1, v2, v3] ((2, x) :: st) t g Q := Xp_go (i := .aload_n 0) (len := 1) (by decide +kernel) rfl
theorem x_114_15 : Xp 114 d 15 [v0, (0, x), v2, v3] st t g Q = Xp 114 d 16 [v0, (0, x), v2, v3] ((0, x) :: st) t g Q := Xp_go (i := .iload_n 1) (len := 1) (by decide +kernel) rfl
theorem x_114_16 : Xp 114 d 16 [v0, v1, v2, (0, x)] st t g Q = Xp 114 d 17 [v0, v1, v2, (0, x)] ((0, x) :: st) t g Q := Xp_go (i := .iload_n 3) (len := 1) (by decide +kernel) rfl
theorem x_114_17 : Xp 114 (d + 1) 17 ls ((0, a2) :: (0, a1) :: (2, a0) :: st) t g Q = (hkJK a0 = 10 ∧ hkC8 st ∧ Xp 110 d 0 [(2, a0), (0, a1), (0, a2)] [] t g (fun r t g => Xp 114 (d + 1) 20 ls (hkPush r st) t g Q)) := xr_invV (idx := 111) (y' := 110) (ci := 10) (tg := [2, 0, 0]) (by decide +kernel) (by decide +kernel) (by decide +kernel) (by decide +kernel) rfl rfl rfl
theorem x_114_20 : Xp 114 d 20 [(2, x), v1, v2, v3] st t g Q = Xp 114 d 21 [(2, x), v1, v2, v3] ((2, x) :: st) t g Q := Xp_go (i := .aload_n 0) (len := 1) (by decide +kernel) rfl
theorem x_114_21 : Xp 114 d 21 ls ((2, p) :: st) t g Q = (hkJK p = 10 ∧ Xp 114 d 24 ls ((0, g p 0) :: st) t g Q) := xr_getI (idx := 11) (ci := 10) (k := 0) (by decide +kernel) (by decide +kernel) (by decide +kernel)
theorem x_114_24 : Xp 114 d 24 ls ((0, b) :: (0, a) :: st) t g Q = Xp 114 d 25 ls ((0, hkW (a + b)) :: st) t g Q := Xp_go (i := .iadd) (len := 1) (by decide +kernel) rfl
theorem x_114_25 : Xp 114 d 25 ls st t g Q = Xp 114 d 26 ls ((0, 1) :: st) t g Q := xr_const (c := 1) (by decide +kernel) (by decide)
theorem x_114_26 : Xp 114 d 26 ls ((0, b) :: (0, a) :: st) t g Q = Xp 114 d 27 ls ((0, hkW (a - b)) :: st) t g Q := Xp_go (i := .isub) (len := 1) (by decide +kernel) rfl
theorem x_114_27 : Xp 114 d 27 [v0, v1, v2, (0, x)] st t g Q = Xp 114 d 28 [v0, v1, v2, (0, x)] ((0, x) :: st) t g Q := Xp_go (i := .iload_n 3) (len := 1) (by decide +kernel) rfl
theorem x_114_28 : Xp 114 d 28 ls ((0, b) :: (0, a) :: st) t g Q = Xp 114 d 29 ls ((0, hkW (a - b)) :: st) t g Q := Xp_go (i := .isub) (len := 1) (by decide +kernel) rfl
theorem x_114_29 : Xp 114 d 29 ls ((0, b) :: (0, a) :: st) t g Q = Xp 114 d 30 ls ((0, hkShl a b) :: st) t g Q := Xp_go (i := .ishl) (len := 1) (by decide +kernel) rfl
theorem x_114_30 : Xp 114 d 30 ls ((0, b) :: (0, a) :: st) t g Q = Xp 114 d 31 ls ((0, hkOr a b) :: st) t g Q := Xp_go (i := .ior) (len := 1) (by decide +kernel) rfl
theorem x_114_31 : Xp 114 d 31 [v0, v1, v2, v3] ((0, x) :: st) t g Q = (hkP1 v1 ∧ Xp 114 d 32 [v0, v1, (0, x), v3] st t g Q) := Xp_chk (i := .istore_n 2) (len := 1) (by decide +kernel) rfl
theorem x_114_32 : Xp 114 d 32 [v0, v1, v2, (0, x)] st t g Q = (hkP1 v2 ∧ Xp 114 d 35 [v0, v1, v2, (0, hkW (x + 1))] st t g Q) := Xp_chk (i := .iinc 3 (1)) (len := 3) (by decide +kernel) rfl
theorem x_114_35 : Xp 114 d 35 ls st t g Q = Xp 114 d 4 ls st t g Q := xr_goto (off := -31) (by decide +kernel) (by decide)
theorem x_114_38 : Xp 114 d 38 [v0, v1, (0, x), v3] st t g Q = Xp 114 d 39 [v0, v1, (0, x), v3] ((0, x) :: st) t g Q := Xp_go (i := .iload_n 2) (len := 1) (by decide +kernel) rfl
theorem x_114_39 : Xp 114 d 39 ls [(0, x)] t g Q = Q (some (0, x)) t g := xr_retI (by decide +kernel) (by decide +kernel)
-- 115: HookBoxesModel.full(I)I
theorem x_115_0 : Xp 115 d 0 ls st t g Q = Xp 115 d 1 ls ((0, 0) :: st) t g Q := xr_const (c := 0) (by decide +kernel) (by decide)
theorem x_115_1 : Xp 115 d 1 [v0, v1, v2, v3] ((0, x) :: st) t g Q = (hkP1 v1 ∧ Xp 115 d 2 [v0, v1, (0, x), v3] st t g Q) := Xp_chk (i := .istore_n 2) (len := 1) (by decide +kernel) rfl
theorem x_115_2 : Xp 115 d 2 ls st t g Q = Xp 115 d 3 ls ((0, 0) :: st) t g Q := xr_const (c := 0) (by decide +kernel) (by decide)
theorem x_115_3 : Xp 115 d 3 [v0, v1, v2, v3] ((0, x) :: st) t g Q = (hkP1 v2 ∧ Xp 115 d 4 [v0, v1, v2, (0, x)] st t g Q) := Xp_chk (i := .istore_n 3) (len := 1) (by decide +kernel) rfl
theorem x_115_4 : Xp 115 d 4 [v0, v1, v2, (0, x)] st t g Q = Xp 115 d 5 [v0, v1, v2, (0, x)] ((0, x) :: st) t g Q := Xp_go (i := .iload_n 3) (len := 1) (by decide +kernel) rfl
theorem x_115_5 : Xp 115 d 5 [(2, x), v1, v2, v3] st t g Q = Xp 115 d 6 [(2, x), v1, v2, v3] ((2, x) :: st) t g Q := Xp_go (i := .aload_n 0) (len := 1) (by decide +kernel) rfl
theorem x_115_6 : Xp 115 d 6 ls ((2, p) :: st) t g Q = (hkJK p = 10 ∧ Xp 115 d 9 ls ((0, g p 0) :: st) t g Q) := xr_getI (idx := 11) (ci := 10) (k := 0) (by decide +kernel) (by decide +kernel) (by decide +kernel)
theorem x_115_9 : Xp 115 d 9 ls ((0, b) :: (0, a) :: st) t g Q = ((b ≤ a → Xp 115 d 35 ls st t g Q) ∧ (¬ (b ≤ a) → Xp 115 d 12 ls st t g Q)) := xr_if2 (cd := .ge) (off := 26) (by decide +kernel) (by decide)
theorem x_115_12 : Xp 115 d 12 [v0, v1, (0, x), v3] st t g Q = Xp 115 d 13 [v0, v1, (0, x), v3] ((0, x) :: st) t g Q := Xp_go (i := .iload_n 2) (len := 1) (by decide +kernel) rfl
theorem x_115_13 : Xp 115 d 13 [(2, x), v1, v2, v3] st t g Q = Xp 115 d 14 [(2, x), v1, v2, v3] ((2, x) :: st) t g Q := Xp_go (i := .aload_n 0) (len := 1) (by decide +kernel) rfl
theorem x_115_14 : Xp 115 d 14 [v0, (0, x), v2, v3] st t g Q = Xp 115 d 15 [v0, (0, x), v2, v3] ((0, x) :: st) t g Q := Xp_go (i := .iload_n 1) (len := 1) (by decide +kernel) rfl
theorem x_115_15 : Xp 115 d 15 [v0, v1, v2, (0, x)] st t g Q = Xp 115 d 16 [v0, v1, v2, (0, x)] ((0, x) :: st) t g Q := Xp_go (i := .iload_n 3) (len := 1) (by decide +kernel) rfl
theorem x_115_16 : Xp 115 (d + 1) 16 ls ((0, a2) :: (0, a1) :: (2, a0) :: st) t g Q = (hkJK a0 = 10 ∧ hkC8 st ∧ Xp 110 d 0 [(2, a0), (0, a1), (0, a2)] [] t g (fun r t g => Xp 115 (d + 1) 19 ls (hkPush r st) t g Q)) := xr_invV (idx := 111) (y' := 110) (ci := 10) (tg := [2, 0, 0]) (by decide +kernel) (by decide +kernel) (by decide +kernel) (by decide +kernel) rfl rfl rfl
theorem x_115_19 : Xp 115 d 19 ls ((0, a) :: st) t g Q = ((a ≤ 0 → Xp 115 d 26 ls st t g Q) ∧ (¬ (a ≤ 0) → Xp 115 d 22 ls st t g Q)) := xr_if1 (cd := .le) (off := 7) (by decide +kernel) (by decide)
theorem x_115_22 : Xp 115 d 22 ls st t g Q = Xp 115 d 23 ls ((0, 1) :: st) t g Q := xr_const (c := 1) (by decide +kernel) (by decide)
theorem x_115_23 : Xp 115 d 23 ls st t g Q = Xp 115 d 27 ls st t g Q := xr_goto (off := 4) (by decide +kernel) (by decide)
theorem x_115_26 : Xp 115 d 26 ls st t g Q = Xp 115 d 27 ls ((0, 0) :: st) t g Q := xr_const (c := 0) (by decide +kernel) (by decide)
theorem x_115_27 : Xp 115 d 27 ls ((0, b) :: (0, a) :: st) t g Q = Xp 115 d 28 ls ((0, hkW (a + b)) :: st) t g Q := Xp_go (i := .iadd) (len := 1) (by decide +kernel) rfl
theorem x_115_28 : Xp 115 d 28 [v0, v1, v2, v3] ((0, x) :: st) t g Q = (hkP1 v1 ∧ Xp 115 d 29 [v0, v1, (0, x), v3] st t g Q) := Xp_chk (i := .istore_n 2) (len := 1) (by decide +kernel) rfl
theorem x_115_29 : Xp 115 d 29 [v0, v1, v2, (0, x)] st t g Q = (hkP1 v2 ∧ Xp 115 d 32 [v0, v1, v2, (0, hkW (x + 1))] st t g Q) := Xp_chk (i := .iinc 3 (1)) (len := 3) (by decide +kernel) rfl
theorem x_115_32 : Xp 115 d 32 ls st t g Q = Xp 115 d 4 ls st t g Q := xr_goto (off := -28) (by decide +kernel) (by decide)
theorem x_115_35 : Xp 115 d 35 [v0, v1, (0, x), v3] st t g Q = Xp 115 d 36 [v0, v1, (0, x), v3] ((0, x) :: st) t g Q := Xp_go (i := .iload_n 2) (len := 1) (by decide +kernel) rfl
theorem x_115_36 : Xp 115 d 36 ls [(0, x)] t g Q = Q (some (0, x)) t g := xr_retI (by decide +kernel) (by decide +kernel)
-- 116: HookBoxesModel.kind(I)I
theorem x_116_0 : Xp 116 d 0 [(2, x), v1, v2] st t g Q = Xp 116 d 1 [(2, x), v1, v2] ((2, x) :: st) t g Q := Xp_go (i := .aload_n 0) (len := 1) (by decide +kernel) rfl
theorem x_116_1 : Xp 116 d 1 [v0, (0, x), v2] st t g Q = Xp 116 d 2 [v0, (0, x), v2] ((0, x) :: st) t g Q := Xp_go (i := .iload_n 1) (len := 1) (by decide +kernel) rfl
theorem x_116_2 : Xp 116 (d + 1) 2 ls ((0, a1) :: (2, a0) :: st) t g Q = (hkJK a0 = 10 ∧ hkC8 st ∧ Xp 115 d 0 [(2, a0), (0, a1), hkU, hkU] [] t g (fun r t g => Xp 116 (d + 1) 5 ls (hkPush r st) t g Q)) := xr_invV (idx := 130) (y' := 115) (ci := 10) (tg := [2, 0]) (by decide +kernel) (by decide +kernel) (by decide +kernel) (by decide +kernel) rfl rfl rfl
theorem x_116_5 : Xp 116 d 5 [v0, v1, v2] ((0, x) :: st) t g Q = (hkP1 v1 ∧ Xp 116 d 6 [v0, v1, (0, x)] st t g Q) := Xp_chk (i := .istore_n 2) (len := 1) (by decide +kernel) rfl
theorem x_116_6 : Xp 116 d 6 [v0, v1, (0, x)] st t g Q = Xp 116 d 7 [v0, v1, (0, x)] ((0, x) :: st) t g Q := Xp_go (i := .iload_n 2) (len := 1) (by decide +kernel) rfl
theorem x_116_7 : Xp 116 d 7 ls st t g Q = Xp 116 d 8 ls ((0, 2) :: st) t g Q := xr_const (c := 2) (by decide +kernel) (by decide)
theorem x_116_8 : Xp 116 d 8 ls ((0, b) :: (0, a) :: st) t g Q = ((b ≤ a → Xp 116 d 13 ls st t g Q) ∧ (¬ (b ≤ a) → Xp 116 d 11 ls st t g Q)) := xr_if2 (cd := .ge) (off := 5) (by decide +kernel) (by decide)
theorem x_116_11 : Xp 116 d 11 [v0, v1, (0, x)] st t g Q = Xp 116 d 12 [v0, v1, (0, x)] ((0, x) :: st) t g Q := Xp_go (i := .iload_n 2) (len := 1) (by decide +kernel) rfl
theorem x_116_12 : Xp 116 d 12 ls [(0, x)] t g Q = Q (some (0, x)) t g := xr_retI (by decide +kernel) (by decide +kernel)
theorem x_116_13 : Xp 116 d 13 [(2, x), v1, v2] st t g Q = Xp 116 d 14 [(2, x), v1, v2] ((2, x) :: st) t g Q := Xp_go (i := .aload_n 0) (len := 1) (by decide +kernel) rfl
theorem x_116_14 : Xp 116 d 14 [v0, (0, x), v2] st t g Q = Xp 116 d 15 [v0, (0, x), v2] ((0, x) :: st) t g Q := Xp_go (i := .iload_n 1) (len := 1) (by decide +kernel) rfl
theorem x_116_15 : Xp 116 d 15 ls st t g Q = Xp 116 d 16 ls ((0, 0) :: st) t g Q := xr_const (c := 0) (by decide +kernel) (by decide)
theorem x_116_16 : Xp 116 (d + 1) 16 ls ((0, a2) :: (0, a1) :: (2, a0) :: st) t g Q = (hkJK a0 = 10 ∧ hkC8 st ∧ Xp 110 d 0 [(2, a0), (0, a1), (0, a2)] [] t g (fun r t g => Xp 116 (d + 1) 19 ls (hkPush r st) t g Q)) := xr_invV (idx := 111) (y' := 110) (ci := 10) (tg := [2, 0, 0]) (by decide +kernel) (by decide +kernel) (by decide +kernel) (by decide +kernel) rfl rfl rfl
theorem x_116_19 : Xp 116 d 19 ls st t g Q = Xp 116 d 20 ls ((0, 1) :: st) t g Q := xr_const (c := 1) (by decide +kernel) (by decide)
theorem x_116_20 : Xp 116 d 20 ls ((0, b) :: (0, a) :: st) t g Q = ((b < a → Xp 116 d 25 ls st t g Q) ∧ (¬ (b < a) → Xp 116 d 23 ls st t g Q)) := xr_if2 (cd := .gt) (off := 5) (by decide +kernel) (by decide)
theorem x_116_23 : Xp 116 d 23 ls st t g Q = Xp 116 d 24 ls ((0, 2) :: st) t g Q := xr_const (c := 2) (by decide +kernel) (by decide)
theorem x_116_24 : Xp 116 d 24 ls [(0, x)] t g Q = Q (some (0, x)) t g := xr_retI (by decide +kernel) (by decide +kernel)
theorem x_116_25 : Xp 116 d 25 [(2, x), v1, v2] st t g Q = Xp 116 d 26 [(2, x), v1, v2] ((2, x) :: st) t g Q := Xp_go (i := .aload_n 0) (len := 1) (by decide +kernel) rfl
theorem x_116_26 : Xp 116 d 26 [v0, (0, x), v2] st t g Q = Xp 116 d 27 [v0, (0, x), v2] ((0, x) :: st) t g Q := Xp_go (i := .iload_n 1) (len := 1) (by decide +kernel) rfl
theorem x_116_27 : Xp 116 d 27 ls st t g Q = Xp 116 d 28 ls ((0, 0) :: st) t g Q := xr_const (c := 0) (by decide +kernel) (by decide)
theorem x_116_28 : Xp 116 (d + 1) 28 ls ((0, a2) :: (0, a1) :: (2, a0) :: st) t g Q = (hkJK a0 = 10 ∧ hkC8 st ∧ Xp 110 d 0 [(2, a0), (0, a1), (0, a2)] [] t g (fun r t g => Xp 116 (d + 1) 31 ls (hkPush r st) t g Q)) := xr_invV (idx := 111) (y' := 110) (ci := 10) (tg := [2, 0, 0]) (by decide +kernel) (by decide +kernel) (by decide +kernel) (by decide +kernel) rfl rfl rfl
theorem x_116_31 : Xp 116 d 31 [(2, x), v1, v2] st t g Q = Xp 116 d 32 [(2, x), v1, v2] ((2, x) :: st) t g Q := Xp_go (i := .aload_n 0) (len := 1) (by decide +kernel) rfl
theorem x_116_32 : Xp 116 d 32 [v0, (0, x), v2] st t g Q = Xp 116 d 33 [v0, (0, x), v2] ((0, x) :: st) t g Q := Xp_go (i := .iload_n 1) (len := 1) (by decide +kernel) rfl
theorem x_116_33 : Xp 116 d 33 [v0, v1, (0, x)] st t g Q = Xp 116 d 34 [v0, v1, (0, x)] ((0, x) :: st) t g Q := Xp_go (i := .iload_n 2) (len := 1) (by decide +kernel) rfl
theorem x_116_34 : Xp 116 d 34 ls st t g Q = Xp 116 d 35 ls ((0, 1) :: st) t g Q := xr_const (c := 1) (by decide +kernel) (by decide)
theorem x_116_35 : Xp 116 d 35 ls ((0, b) :: (0, a) :: st) t g Q = Xp 116 d 36 ls ((0, hkW (a - b)) :: st) t g Q := Xp_go (i := .isub) (len := 1) (by decide +kernel) rfl
theorem x_116_36 : Xp 116 (d + 1) 36 ls ((0, a2) :: (0, a1) :: (2, a0) :: st) t g Q = (hkJK a0 = 10 ∧ hkC8 st ∧ Xp 110 d 0 [(2, a0), (0, a1), (0, a2)] [] t g (fun r t g => Xp 116 (d + 1) 39 ls (hkPush r st) t g Q)) := xr_invV (idx := 111) (y' := 110) (ci := 10) (tg := [2, 0, 0]) (by decide +kernel) (by decide +kernel) (by decide +kernel) (by decide +kernel) rfl rfl rfl
theorem x_116_39 : Xp 116 d 39 ls ((0, b) :: (0, a) :: st) t g Q = ((¬ (a = b) → Xp 116 d 46 ls st t g Q) ∧ (¬ (¬ (a = b)) → Xp 116 d 42 ls st t g Q)) := xr_if2 (cd := .ne) (off := 7) (by decide +kernel) (by decide)
theorem x_116_42 : Xp 116 d 42 ls st t g Q = Xp 116 d 43 ls ((0, 3) :: st) t g Q := xr_const (c := 3) (by decide +kernel) (by decide)
theorem x_116_43 : Xp 116 d 43 ls st t g Q = Xp 116 d 61 ls st t g Q := xr_goto (off := 18) (by decide +kernel) (by decide)
theorem x_116_46 : Xp 116 d 46 [(2, x), v1, v2] st t g Q = Xp 116 d 47 [(2, x), v1, v2] ((2, x) :: st) t g Q := Xp_go (i := .aload_n 0) (len := 1) (by decide +kernel) rfl
theorem x_116_47 : Xp 116 d 47 [v0, (0, x), v2] st t g Q = Xp 116 d 48 [v0, (0, x), v2] ((0, x) :: st) t g Q := Xp_go (i := .iload_n 1) (len := 1) (by decide +kernel) rfl
theorem x_116_48 : Xp 116 d 48 ls st t g Q = Xp 116 d 49 ls ((0, 1) :: st) t g Q := xr_const (c := 1) (by decide +kernel) (by decide)
theorem x_116_49 : Xp 116 (d + 1) 49 ls ((0, a2) :: (0, a1) :: (2, a0) :: st) t g Q = (hkJK a0 = 10 ∧ hkC8 st ∧ Xp 110 d 0 [(2, a0), (0, a1), (0, a2)] [] t g (fun r t g => Xp 116 (d + 1) 52 ls (hkPush r st) t g Q)) := xr_invV (idx := 111) (y' := 110) (ci := 10) (tg := [2, 0, 0]) (by decide +kernel) (by decide +kernel) (by decide +kernel) (by decide +kernel) rfl rfl rfl
theorem x_116_52 : Xp 116 d 52 ls st t g Q = Xp 116 d 53 ls ((0, 1) :: st) t g Q := xr_const (c := 1) (by decide +kernel) (by decide)
theorem x_116_53 : Xp 116 d 53 ls ((0, b) :: (0, a) :: st) t g Q = ((¬ (a = b) → Xp 116 d 60 ls st t g Q) ∧ (¬ (¬ (a = b)) → Xp 116 d 56 ls st t g Q)) := xr_if2 (cd := .ne) (off := 7) (by decide +kernel) (by decide)
theorem x_116_56 : Xp 116 d 56 ls st t g Q = Xp 116 d 57 ls ((0, 4) :: st) t g Q := xr_const (c := 4) (by decide +kernel) (by decide)
theorem x_116_57 : Xp 116 d 57 ls st t g Q = Xp 116 d 61 ls st t g Q := xr_goto (off := 4) (by decide +kernel) (by decide)
theorem x_116_60 : Xp 116 d 60 ls st t g Q = Xp 116 d 61 ls ((0, 5) :: st) t g Q := xr_const (c := 5) (by decide +kernel) (by decide)
theorem x_116_61 : Xp 116 d 61 ls [(0, x)] t g Q = Q (some (0, x)) t g := xr_retI (by decide +kernel) (by decide +kernel)
-- 117: HookBoxesModel.dual(I)I
theorem x_117_0 : Xp 117 d 0 ls st t g Q = Xp 117 d 1 ls ((0, 0) :: st) t g Q := xr_const (c := 0) (by decide +kernel) (by decide)
theorem x_117_1 : Xp 117 d 1 [v0, v1, v2, v3] ((0, x) :: st) t g Q = (hkP1 v1 ∧ Xp 117 d 2 [v0, v1, (0, x), v3] st t g Q) := Xp_chk (i := .istore_n 2) (len := 1) (by decide +kernel) rfl
theorem x_117_2 : Xp 117 d 2 ls st t g Q = Xp 117 d 3 ls ((0, 0) :: st) t g Q := xr_const (c := 0) (by decide +kernel) (by decide)
theorem x_117_3 : Xp 117 d 3 [v0, v1, v2, v3] ((0, x) :: st) t g Q = (hkP1 v2 ∧ Xp 117 d 4 [v0, v1, v2, (0, x)] st t g Q) := Xp_chk (i := .istore_n 3) (len := 1) (by decide +kernel) rfl
theorem x_117_4 : Xp 117 d 4 [v0, v1, v2, (0, x)] st t g Q = Xp 117 d 5 [v0, v1, v2, (0, x)] ((0, x) :: st) t g Q := Xp_go (i := .iload_n 3) (len := 1) (by decide +kernel) rfl
theorem x_117_5 : Xp 117 d 5 [(2, x), v1, v2, v3] st t g Q = Xp 117 d 6 [(2, x), v1, v2, v3] ((2, x) :: st) t g Q := Xp_go (i := .aload_n 0) (len := 1) (by decide +kernel) rfl
theorem x_117_6 : Xp 117 d 6 ls ((2, p) :: st) t g Q = (hkJK p = 10 ∧ Xp 117 d 9 ls ((0, g p 0) :: st) t g Q) := xr_getI (idx := 11) (ci := 10) (k := 0) (by decide +kernel) (by decide +kernel) (by decide +kernel)
theorem x_117_9 : Xp 117 d 9 ls ((0, b) :: (0, a) :: st) t g Q = ((b ≤ a → Xp 117 d 50 ls st t g Q) ∧ (¬ (b ≤ a) → Xp 117 d 12 ls st t g Q)) := xr_if2 (cd := .ge) (off := 41) (by decide +kernel) (by decide)
theorem x_117_12 : Xp 117 d 12 [v0, v1, (0, x), v3] st t g Q = Xp 117 d 13 [v0, v1, (0, x), v3] ((0, x) :: st) t g Q := Xp_go (i := .iload_n 2) (len := 1) (by decide +kernel) rfl
theorem x_117_13 : Xp 117 d 13 ls st t g Q = Xp 117 d 14 ls ((0, 1) :: st) t g Q := xr_const (c := 1) (by decide +kernel) (by decide)
theorem x_117_14 : Xp 117 d 14 [(2, x), v1, v2, v3] st t g Q = Xp 117 d 15 [(2, x), v1, v2, v3] ((2, x) :: st) t g Q := Xp_go (i := .aload_n 0) (len := 1) (by decide +kernel) rfl
theorem x_117_15 : Xp 117 (d + 1) 15 ls ((2, a0) :: st) t g Q = (hkJK a0 = 10 ∧ hkC8 st ∧ Xp 103 d 0 [(2, a0)] [] t g (fun r t g => Xp 117 (d + 1) 18 ls (hkPush r st) t g Q)) := xr_invV (idx := 100) (y' := 103) (ci := 10) (tg := [2]) (by decide +kernel) (by decide +kernel) (by decide +kernel) (by decide +kernel) rfl rfl rfl
theorem x_117_18 : Xp 117 d 18 [(2, x), v1, v2, v3] st t g Q = Xp 117 d 19 [(2, x), v1, v2, v3] ((2, x) :: st) t g Q := Xp_go (i := .aload_n 0) (len := 1) (by decide +kernel) rfl
theorem x_117_19 : Xp 117 d 19 [v0, (0, x), v2, v3] st t g Q = Xp 117 d 20 [v0, (0, x), v2, v3] ((0, x) :: st) t g Q := Xp_go (i := .iload_n 1) (len := 1) (by decide +kernel) rfl
theorem x_117_20 : Xp 117 d 20 [(2, x), v1, v2, v3] st t g Q = Xp 117 d 21 [(2, x), v1, v2, v3] ((2, x) :: st) t g Q := Xp_go (i := .aload_n 0) (len := 1) (by decide +kernel) rfl
theorem x_117_21 : Xp 117 d 21 ls ((2, p) :: st) t g Q = (hkJK p = 10 ∧ Xp 117 d 24 ls ((0, g p 0) :: st) t g Q) := xr_getI (idx := 11) (ci := 10) (k := 0) (by decide +kernel) (by decide +kernel) (by decide +kernel)
theorem x_117_24 : Xp 117 d 24 ls st t g Q = Xp 117 d 25 ls ((0, 1) :: st) t g Q := xr_const (c := 1) (by decide +kernel) (by decide)
theorem x_117_25 : Xp 117 d 25 ls ((0, b) :: (0, a) :: st) t g Q = Xp 117 d 26 ls ((0, hkW (a - b)) :: st) t g Q := Xp_go (i := .isub) (len := 1) (by decide +kernel) rfl
theorem x_117_26 : Xp 117 d 26 [v0, v1, v2, (0, x)] st t g Q = Xp 117 d 27 [v0, v1, v2, (0, x)] ((0, x) :: st) t g Q := Xp_go (i := .iload_n 3) (len := 1) (by decide +kernel) rfl
theorem x_117_27 : Xp 117 d 27 ls ((0, b) :: (0, a) :: st) t g Q = Xp 117 d 28 ls ((0, hkW (a - b)) :: st) t g Q := Xp_go (i := .isub) (len := 1) (by decide +kernel) rfl
theorem x_117_28 : Xp 117 (d + 1) 28 ls ((0, a2) :: (0, a1) :: (2, a0) :: st) t g Q = (hkJK a0 = 10 ∧ hkC8 st ∧ Xp 110 d 0 [(2, a0), (0, a1), (0, a2)] [] t g (fun r t g => Xp 117 (d + 1) 31 ls (hkPush r st) t g Q)) := xr_invV (idx := 111) (y' := 110) (ci := 10) (tg := [2, 0, 0]) (by decide +kernel) (by decide +kernel) (by decide +kernel) (by decide +kernel) rfl rfl rfl
theorem x_117_31 : Xp 117 d 31 ls ((0, b) :: (0, a) :: st) t g Q = Xp 117 d 32 ls ((0, hkW (a - b)) :: st) t g Q := Xp_go (i := .isub) (len := 1) (by decide +kernel) rfl
theorem x_117_32 : Xp 117 d 32 [(2, x), v1, v2, v3] st t g Q = Xp 117 d 33 [(2, x), v1, v2, v3] ((2, x) :: st) t g Q := Xp_go (i := .aload_n 0) (len := 1) (by decide +kernel) rfl
theorem x_117_33 : Xp 117 d 33 ls ((2, p) :: st) t g Q = (hkJK p = 10 ∧ Xp 117 d 36 ls ((0, g p 0) :: st) t g Q) := xr_getI (idx := 11) (ci := 10) (k := 0) (by decide +kernel) (by decide +kernel) (by decide +kernel)
theorem x_117_36 : Xp 117 d 36 ls ((0, b) :: (0, a) :: st) t g Q = Xp 117 d 37 ls ((0, hkW (a + b)) :: st) t g Q := Xp_go (i := .iadd) (len := 1) (by decide +kernel) rfl
theorem x_117_37 : Xp 117 d 37 ls st t g Q = Xp 117 d 38 ls ((0, 1) :: st) t g Q := xr_const (c := 1) (by decide +kernel) (by decide)
theorem x_117_38 : Xp 117 d 38 ls ((0, b) :: (0, a) :: st) t g Q = Xp 117 d 39 ls ((0, hkW (a - b)) :: st) t g Q := Xp_go (i := .isub) (len := 1) (by decide +kernel) rfl
theorem x_117_39 : Xp 117 d 39 [v0, v1, v2, (0, x)] st t g Q = Xp 117 d 40 [v0, v1, v2, (0, x)] ((0, x) :: st) t g Q := Xp_go (i := .iload_n 3) (len := 1) (by decide +kernel) rfl
theorem x_117_40 : Xp 117 d 40 ls ((0, b) :: (0, a) :: st) t g Q = Xp 117 d 41 ls ((0, hkW (a - b)) :: st) t g Q := Xp_go (i := .isub) (len := 1) (by decide +kernel) rfl
theorem x_117_41 : Xp 117 d 41 ls ((0, b) :: (0, a) :: st) t g Q = Xp 117 d 42 ls ((0, hkShl a b) :: st) t g Q := Xp_go (i := .ishl) (len := 1) (by decide +kernel) rfl
theorem x_117_42 : Xp 117 d 42 ls ((0, b) :: (0, a) :: st) t g Q = Xp 117 d 43 ls ((0, hkOr a b) :: st) t g Q := Xp_go (i := .ior) (len := 1) (by decide +kernel) rfl
theorem x_117_43 : Xp 117 d 43 [v0, v1, v2, v3] ((0, x) :: st) t g Q = (hkP1 v1 ∧ Xp 117 d 44 [v0, v1, (0, x), v3] st t g Q) := Xp_chk (i := .istore_n 2) (len := 1) (by decide +kernel) rfl
theorem x_117_44 : Xp 117 d 44 [v0, v1, v2, (0, x)] st t g Q = (hkP1 v2 ∧ Xp 117 d 47 [v0, v1, v2, (0, hkW (x + 1))] st t g Q) := Xp_chk (i := .iinc 3 (1)) (len := 3) (by decide +kernel) rfl
theorem x_117_47 : Xp 117 d 47 ls st t g Q = Xp 117 d 4 ls st t g Q := xr_goto (off := -43) (by decide +kernel) (by decide)
theorem x_117_50 : Xp 117 d 50 [(2, x), v1, v2, v3] st t g Q = Xp 117 d 51 [(2, x), v1, v2, v3] ((2, x) :: st) t g Q := Xp_go (i := .aload_n 0) (len := 1) (by decide +kernel) rfl
theorem x_117_51 : Xp 117 d 51 ls ((2, p) :: st) t g Q = (hkJK p = 10 ∧ jA p 4 ≤ t ∧ Xp 117 d 54 ls ((2, jR p 4) :: st) t g Q) := xr_getR (idx := 22) (ci := 10) (k := 4) (by decide +kernel) (by decide +kernel) (by decide +kernel)
theorem x_117_54 : Xp 117 d 54 [v0, v1, (0, x), v3] st t g Q = Xp 117 d 55 [v0, v1, (0, x), v3] ((0, x) :: st) t g Q := Xp_go (i := .iload_n 2) (len := 1) (by decide +kernel) rfl
theorem x_117_55 : Xp 117 d 55 ls ((0, a) :: (2, p) :: st) t g Q = ((hkJK p = 100 ∧ 0 ≤ a ∧ a < jL p) ∧ Xp 117 d 56 ls ((0, g p a) :: st) t g Q) := Xp_chk (i := .iaload) (len := 1) (by decide +kernel) rfl
theorem x_117_56 : Xp 117 d 56 ls [(0, x)] t g Q = Q (some (0, x)) t g := xr_retI (by decide +kernel) (by decide +kernel)
-- 118: HookBoxesModel.turnedWord(I)I
theorem x_118_0 : Xp 118 d 0 ls st t g Q = Xp 118 d 1 ls ((0, 0) :: st) t g Q := xr_const (c := 0) (by decide +kernel) (by decide)
theorem x_118_1 : Xp 118 d 1 [v0, v1, v2, v3] ((0, x) :: st) t g Q = (hkP1 v1 ∧ Xp 118 d 2 [v0, v1, (0, x), v3] st t g Q) := Xp_chk (i := .istore_n 2) (len := 1) (by decide +kernel) rfl
theorem x_118_2 : Xp 118 d 2 ls st t g Q = Xp 118 d 3 ls ((0, 0) :: st) t g Q := xr_const (c := 0) (by decide +kernel) (by decide)
theorem x_118_3 : Xp 118 d 3 [v0, v1, v2, v3] ((0, x) :: st) t g Q = (hkP1 v2 ∧ Xp 118 d 4 [v0, v1, v2, (0, x)] st t g Q) := Xp_chk (i := .istore_n 3) (len := 1) (by decide +kernel) rfl
theorem x_118_4 : Xp 118 d 4 [v0, v1, v2, (0, x)] st t g Q = Xp 118 d 5 [v0, v1, v2, (0, x)] ((0, x) :: st) t g Q := Xp_go (i := .iload_n 3) (len := 1) (by decide +kernel) rfl
theorem x_118_5 : Xp 118 d 5 [(2, x), v1, v2, v3] st t g Q = Xp 118 d 6 [(2, x), v1, v2, v3] ((2, x) :: st) t g Q := Xp_go (i := .aload_n 0) (len := 1) (by decide +kernel) rfl
theorem x_118_6 : Xp 118 d 6 ls ((2, p) :: st) t g Q = (hkJK p = 10 ∧ Xp 118 d 9 ls ((0, g p 1) :: st) t g Q) := xr_getI (idx := 15) (ci := 10) (k := 1) (by decide +kernel) (by decide +kernel) (by decide +kernel)
theorem x_118_9 : Xp 118 d 9 ls ((0, b) :: (0, a) :: st) t g Q = ((b ≤ a → Xp 118 d 47 ls st t g Q) ∧ (¬ (b ≤ a) → Xp 118 d 12 ls st t g Q)) := xr_if2 (cd := .ge) (off := 38) (by decide +kernel) (by decide)
theorem x_118_12 : Xp 118 d 12 [v0, v1, (0, x), v3] st t g Q = Xp 118 d 13 [v0, v1, (0, x), v3] ((0, x) :: st) t g Q := Xp_go (i := .iload_n 2) (len := 1) (by decide +kernel) rfl
theorem x_118_13 : Xp 118 d 13 [(2, x), v1, v2, v3] st t g Q = Xp 118 d 14 [(2, x), v1, v2, v3] ((2, x) :: st) t g Q := Xp_go (i := .aload_n 0) (len := 1) (by decide +kernel) rfl
theorem x_118_14 : Xp 118 d 14 [v0, (0, x), v2, v3] st t g Q = Xp 118 d 15 [v0, (0, x), v2, v3] ((0, x) :: st) t g Q := Xp_go (i := .iload_n 1) (len := 1) (by decide +kernel) rfl
theorem x_118_15 : Xp 118 (d + 1) 15 ls ((0, a1) :: (2, a0) :: st) t g Q = (hkJK a0 = 10 ∧ hkC8 st ∧ Xp 114 d 0 [(2, a0), (0, a1), hkU, hkU] [] t g (fun r t g => Xp 118 (d + 1) 18 ls (hkPush r st) t g Q)) := xr_invV (idx := 133) (y' := 114) (ci := 10) (tg := [2, 0]) (by decide +kernel) (by decide +kernel) (by decide +kernel) (by decide +kernel) rfl rfl rfl
theorem x_118_18 : Xp 118 d 18 [(2, x), v1, v2, v3] st t g Q = Xp 118 d 19 [(2, x), v1, v2, v3] ((2, x) :: st) t g Q := Xp_go (i := .aload_n 0) (len := 1) (by decide +kernel) rfl
theorem x_118_19 : Xp 118 d 19 ls ((2, p) :: st) t g Q = (hkJK p = 10 ∧ Xp 118 d 22 ls ((0, g p 1) :: st) t g Q) := xr_getI (idx := 15) (ci := 10) (k := 1) (by decide +kernel) (by decide +kernel) (by decide +kernel)
theorem x_118_22 : Xp 118 d 22 ls st t g Q = Xp 118 d 23 ls ((0, 1) :: st) t g Q := xr_const (c := 1) (by decide +kernel) (by decide)
theorem x_118_23 : Xp 118 d 23 ls ((0, b) :: (0, a) :: st) t g Q = Xp 118 d 24 ls ((0, hkW (a - b)) :: st) t g Q := Xp_go (i := .isub) (len := 1) (by decide +kernel) rfl
theorem x_118_24 : Xp 118 d 24 [v0, v1, v2, (0, x)] st t g Q = Xp 118 d 25 [v0, v1, v2, (0, x)] ((0, x) :: st) t g Q := Xp_go (i := .iload_n 3) (len := 1) (by decide +kernel) rfl
theorem x_118_25 : Xp 118 d 25 ls ((0, b) :: (0, a) :: st) t g Q = Xp 118 d 26 ls ((0, hkW (a - b)) :: st) t g Q := Xp_go (i := .isub) (len := 1) (by decide +kernel) rfl
theorem x_118_26 : Xp 118 d 26 ls ((0, b) :: (0, a) :: st) t g Q = Xp 118 d 27 ls ((0, hkShr a b) :: st) t g Q := Xp_go (i := .ishr) (len := 1) (by decide +kernel) rfl
theorem x_118_27 : Xp 118 d 27 ls st t g Q = Xp 118 d 28 ls ((0, 1) :: st) t g Q := xr_const (c := 1) (by decide +kernel) (by decide)
theorem x_118_28 : Xp 118 d 28 ls ((0, b) :: (0, a) :: st) t g Q = Xp 118 d 29 ls ((0, hkAnd a b) :: st) t g Q := Xp_go (i := .iand) (len := 1) (by decide +kernel) rfl
theorem x_118_29 : Xp 118 d 29 ls ((0, a) :: st) t g Q = ((¬ (a = 0) → Xp 118 d 38 ls st t g Q) ∧ (¬ (¬ (a = 0)) → Xp 118 d 32 ls st t g Q)) := xr_if1 (cd := .ne) (off := 9) (by decide +kernel) (by decide)
theorem x_118_32 : Xp 118 d 32 ls st t g Q = Xp 118 d 33 ls ((0, 1) :: st) t g Q := xr_const (c := 1) (by decide +kernel) (by decide)
theorem x_118_33 : Xp 118 d 33 [v0, v1, v2, (0, x)] st t g Q = Xp 118 d 34 [v0, v1, v2, (0, x)] ((0, x) :: st) t g Q := Xp_go (i := .iload_n 3) (len := 1) (by decide +kernel) rfl
theorem x_118_34 : Xp 118 d 34 ls ((0, b) :: (0, a) :: st) t g Q = Xp 118 d 35 ls ((0, hkShl a b) :: st) t g Q := Xp_go (i := .ishl) (len := 1) (by decide +kernel) rfl
theorem x_118_35 : Xp 118 d 35 ls st t g Q = Xp 118 d 39 ls st t g Q := xr_goto (off := 4) (by decide +kernel) (by decide)
theorem x_118_38 : Xp 118 d 38 ls st t g Q = Xp 118 d 39 ls ((0, 0) :: st) t g Q := xr_const (c := 0) (by decide +kernel) (by decide)
theorem x_118_39 : Xp 118 d 39 ls ((0, b) :: (0, a) :: st) t g Q = Xp 118 d 40 ls ((0, hkOr a b) :: st) t g Q := Xp_go (i := .ior) (len := 1) (by decide +kernel) rfl
theorem x_118_40 : Xp 118 d 40 [v0, v1, v2, v3] ((0, x) :: st) t g Q = (hkP1 v1 ∧ Xp 118 d 41 [v0, v1, (0, x), v3] st t g Q) := Xp_chk (i := .istore_n 2) (len := 1) (by decide +kernel) rfl
theorem x_118_41 : Xp 118 d 41 [v0, v1, v2, (0, x)] st t g Q = (hkP1 v2 ∧ Xp 118 d 44 [v0, v1, v2, (0, hkW (x + 1))] st t g Q) := Xp_chk (i := .iinc 3 (1)) (len := 3) (by decide +kernel) rfl
theorem x_118_44 : Xp 118 d 44 ls st t g Q = Xp 118 d 4 ls st t g Q := xr_goto (off := -40) (by decide +kernel) (by decide)
theorem x_118_47 : Xp 118 d 47 [v0, v1, (0, x), v3] st t g Q = Xp 118 d 48 [v0, v1, (0, x), v3] ((0, x) :: st) t g Q := Xp_go (i := .iload_n 2) (len := 1) (by decide +kernel) rfl
theorem x_118_48 : Xp 118 d 48 ls [(0, x)] t g Q = Q (some (0, x)) t g := xr_retI (by decide +kernel) (by decide +kernel)
-- 119: HookBoxesModel.kinds(I)I
theorem x_119_0 : Xp 119 d 0 [v0, (0, x), v2, v3] st t g Q = Xp 119 d 1 [v0, (0, x), v2, v3] ((0, x) :: st) t g Q := Xp_go (i := .iload_n 1) (len := 1) (by decide +kernel) rfl
theorem x_119_1 : Xp 119 d 1 ls ((0, a) :: st) t g Q = Xp 119 d 2 ls ((1, a) :: st) t g Q := Xp_go (i := .i2l) (len := 1) (by decide +kernel) rfl
theorem x_119_2 : Xp 119 d 2 ls st t g Q = Xp 119 d 3 ls ((1, 0) :: st) t g Q := Xp_go (i := .lconst 0) (len := 1) (by decide +kernel) rfl
theorem x_119_3 : Xp 119 d 3 ls st t g Q = Xp 119 d 6 ls ((1, 5) :: st) t g Q := xr_ldc2 (idx := 145) (by decide +kernel) (by decide +kernel)
theorem x_119_6 : Xp 119 (d + 1) 6 ls ((1, a2) :: (1, a1) :: (1, a0) :: st) t g Q = (hkC8 st ∧ Xp 107 d 0 [(1, a0), hkU, (1, a1), hkU, (1, a2), hkU] [] t g (fun r t g => Xp 119 (d + 1) 9 ls (hkPush r st) t g Q)) := xr_invS (idx := 115) (y' := 107) (tg := [1, 1, 1]) (by decide +kernel) (by decide +kernel) (by decide +kernel) rfl rfl
theorem x_119_9 : Xp 119 d 9 ls ((0, a) :: st) t g Q = ((¬ (a = 0) → Xp 119 d 15 ls st t g Q) ∧ (¬ (¬ (a = 0)) → Xp 119 d 12 ls st t g Q)) := xr_if1 (cd := .ne) (off := 6) (by decide +kernel) (by decide)
theorem x_119_12 : Xp 119 d 12 ls st t g Q = Xp 119 d 14 ls ((0, -2) :: st) t g Q := xr_bi (c := -2) (by decide +kernel) (by decide)
theorem x_119_14 : Xp 119 d 14 ls [(0, x)] t g Q = Q (some (0, x)) t g := xr_retI (by decide +kernel) (by decide +kernel)
theorem x_119_15 : Xp 119 d 15 ls st t g Q = Xp 119 d 16 ls ((0, 0) :: st) t g Q := xr_const (c := 0) (by decide +kernel) (by decide)
theorem x_119_16 : Xp 119 d 16 [v0, v1, v2, v3] ((0, x) :: st) t g Q = (hkP1 v1 ∧ Xp 119 d 17 [v0, v1, (0, x), v3] st t g Q) := Xp_chk (i := .istore_n 2) (len := 1) (by decide +kernel) rfl
theorem x_119_17 : Xp 119 d 17 ls st t g Q = Xp 119 d 18 ls ((0, 0) :: st) t g Q := xr_const (c := 0) (by decide +kernel) (by decide)
theorem x_119_18 : Xp 119 d 18 [v0, v1, v2, v3] ((0, x) :: st) t g Q = (hkP1 v2 ∧ Xp 119 d 19 [v0, v1, v2, (0, x)] st t g Q) := Xp_chk (i := .istore_n 3) (len := 1) (by decide +kernel) rfl
theorem x_119_19 : Xp 119 d 19 [v0, v1, v2, (0, x)] st t g Q = Xp 119 d 20 [v0, v1, v2, (0, x)] ((0, x) :: st) t g Q := Xp_go (i := .iload_n 3) (len := 1) (by decide +kernel) rfl
theorem x_119_20 : Xp 119 d 20 [(2, x), v1, v2, v3] st t g Q = Xp 119 d 21 [(2, x), v1, v2, v3] ((2, x) :: st) t g Q := Xp_go (i := .aload_n 0) (len := 1) (by decide +kernel) rfl
theorem x_119_21 : Xp 119 d 21 ls ((2, p) :: st) t g Q = (hkJK p = 10 ∧ Xp 119 d 24 ls ((0, g p 2) :: st) t g Q) := xr_getI (idx := 97) (ci := 10) (k := 2) (by decide +kernel) (by decide +kernel) (by decide +kernel)
theorem x_119_24 : Xp 119 d 24 ls ((0, b) :: (0, a) :: st) t g Q = ((b ≤ a → Xp 119 d 50 ls st t g Q) ∧ (¬ (b ≤ a) → Xp 119 d 27 ls st t g Q)) := xr_if2 (cd := .ge) (off := 26) (by decide +kernel) (by decide)
theorem x_119_27 : Xp 119 d 27 [v0, v1, (0, x), v3] st t g Q = Xp 119 d 28 [v0, v1, (0, x), v3] ((0, x) :: st) t g Q := Xp_go (i := .iload_n 2) (len := 1) (by decide +kernel) rfl
theorem x_119_28 : Xp 119 d 28 [(2, x), v1, v2, v3] st t g Q = Xp 119 d 29 [(2, x), v1, v2, v3] ((2, x) :: st) t g Q := Xp_go (i := .aload_n 0) (len := 1) (by decide +kernel) rfl
theorem x_119_29 : Xp 119 d 29 [v0, v1, v2, (0, x)] st t g Q = Xp 119 d 30 [v0, v1, v2, (0, x)] ((0, x) :: st) t g Q := Xp_go (i := .iload_n 3) (len := 1) (by decide +kernel) rfl
theorem x_119_30 : Xp 119 (d + 1) 30 ls ((0, a1) :: (2, a0) :: st) t g Q = (hkJK a0 = 10 ∧ hkC8 st ∧ Xp 116 d 0 [(2, a0), (0, a1), hkU] [] t g (fun r t g => Xp 119 (d + 1) 33 ls (hkPush r st) t g Q)) := xr_invV (idx := 136) (y' := 116) (ci := 10) (tg := [2, 0]) (by decide +kernel) (by decide +kernel) (by decide +kernel) (by decide +kernel) rfl rfl rfl
theorem x_119_33 : Xp 119 d 33 [v0, (0, x), v2, v3] st t g Q = Xp 119 d 34 [v0, (0, x), v2, v3] ((0, x) :: st) t g Q := Xp_go (i := .iload_n 1) (len := 1) (by decide +kernel) rfl
theorem x_119_34 : Xp 119 d 34 ls ((0, b) :: (0, a) :: st) t g Q = ((¬ (a = b) → Xp 119 d 41 ls st t g Q) ∧ (¬ (¬ (a = b)) → Xp 119 d 37 ls st t g Q)) := xr_if2 (cd := .ne) (off := 7) (by decide +kernel) (by decide)
theorem x_119_37 : Xp 119 d 37 ls st t g Q = Xp 119 d 38 ls ((0, 1) :: st) t g Q := xr_const (c := 1) (by decide +kernel) (by decide)
theorem x_119_38 : Xp 119 d 38 ls st t g Q = Xp 119 d 42 ls st t g Q := xr_goto (off := 4) (by decide +kernel) (by decide)
theorem x_119_41 : Xp 119 d 41 ls st t g Q = Xp 119 d 42 ls ((0, 0) :: st) t g Q := xr_const (c := 0) (by decide +kernel) (by decide)
theorem x_119_42 : Xp 119 d 42 ls ((0, b) :: (0, a) :: st) t g Q = Xp 119 d 43 ls ((0, hkW (a + b)) :: st) t g Q := Xp_go (i := .iadd) (len := 1) (by decide +kernel) rfl
theorem x_119_43 : Xp 119 d 43 [v0, v1, v2, v3] ((0, x) :: st) t g Q = (hkP1 v1 ∧ Xp 119 d 44 [v0, v1, (0, x), v3] st t g Q) := Xp_chk (i := .istore_n 2) (len := 1) (by decide +kernel) rfl
theorem x_119_44 : Xp 119 d 44 [v0, v1, v2, (0, x)] st t g Q = (hkP1 v2 ∧ Xp 119 d 47 [v0, v1, v2, (0, hkW (x + 1))] st t g Q) := Xp_chk (i := .iinc 3 (1)) (len := 3) (by decide +kernel) rfl
theorem x_119_47 : Xp 119 d 47 ls st t g Q = Xp 119 d 19 ls st t g Q := xr_goto (off := -28) (by decide +kernel) (by decide)
theorem x_119_50 : Xp 119 d 50 [v0, v1, (0, x), v3] st t g Q = Xp 119 d 51 [v0, v1, (0, x), v3] ((0, x) :: st) t g Q := Xp_go (i := .iload_n 2) (len := 1) (by decide +kernel) rfl
theorem x_119_51 : Xp 119 d 51 ls [(0, x)] t g Q = Q (some (0, x)) t g := xr_retI (by decide +kernel) (by decide +kernel)
-- 120: HookBoxesModel.times(IIII)I
theorem x_120_0 : Xp 120 d 0 [(2, x), v1, v2, v3, v4, v5] st t g Q = Xp 120 d 1 [(2, x), v1, v2, v3, v4, v5] ((2, x) :: st) t g Q := Xp_go (i := .aload_n 0) (len := 1) (by decide +kernel) rfl
theorem x_120_1 : Xp 120 d 1 [v0, (0, x), v2, v3, v4, v5] st t g Q = Xp 120 d 2 [v0, (0, x), v2, v3, v4, v5] ((0, x) :: st) t g Q := Xp_go (i := .iload_n 1) (len := 1) (by decide +kernel) rfl
theorem x_120_2 : Xp 120 (d + 1) 2 ls ((0, a1) :: (2, a0) :: st) t g Q = (hkJK a0 = 10 ∧ hkC8 st ∧ Xp 109 d 0 [(2, a0), (0, a1)] [] t g (fun r t g => Xp 120 (d + 1) 5 ls (hkPush r st) t g Q)) := xr_invV (idx := 123) (y' := 109) (ci := 10) (tg := [2, 0]) (by decide +kernel) (by decide +kernel) (by decide +kernel) (by decide +kernel) rfl rfl rfl
theorem x_120_5 : Xp 120 d 5 ls ((0, a) :: st) t g Q = ((a = 0 → Xp 120 d 35 ls st t g Q) ∧ (¬ (a = 0) → Xp 120 d 8 ls st t g Q)) := xr_if1 (cd := .eq) (off := 30) (by decide +kernel) (by decide)
theorem x_120_8 : Xp 120 d 8 [(2, x), v1, v2, v3, v4, v5] st t g Q = Xp 120 d 9 [(2, x), v1, v2, v3, v4, v5] ((2, x) :: st) t g Q := Xp_go (i := .aload_n 0) (len := 1) (by decide +kernel) rfl
theorem x_120_9 : Xp 120 d 9 [v0, v1, (0, x), v3, v4, v5] st t g Q = Xp 120 d 10 [v0, v1, (0, x), v3, v4, v5] ((0, x) :: st) t g Q := Xp_go (i := .iload_n 2) (len := 1) (by decide +kernel) rfl
theorem x_120_10 : Xp 120 (d + 1) 10 ls ((0, a1) :: (2, a0) :: st) t g Q = (hkJK a0 = 10 ∧ hkC8 st ∧ Xp 109 d 0 [(2, a0), (0, a1)] [] t g (fun r t g => Xp 120 (d + 1) 13 ls (hkPush r st) t g Q)) := xr_invV (idx := 123) (y' := 109) (ci := 10) (tg := [2, 0]) (by decide +kernel) (by decide +kernel) (by decide +kernel) (by decide +kernel) rfl rfl rfl
theorem x_120_13 : Xp 120 d 13 ls ((0, a) :: st) t g Q = ((a = 0 → Xp 120 d 35 ls st t g Q) ∧ (¬ (a = 0) → Xp 120 d 16 ls st t g Q)) := xr_if1 (cd := .eq) (off := 22) (by decide +kernel) (by decide)
theorem x_120_16 : Xp 120 d 16 [(2, x), v1, v2, v3, v4, v5] st t g Q = Xp 120 d 17 [(2, x), v1, v2, v3, v4, v5] ((2, x) :: st) t g Q := Xp_go (i := .aload_n 0) (len := 1) (by decide +kernel) rfl
theorem x_120_17 : Xp 120 d 17 [v0, v1, v2, (0, x), v4, v5] st t g Q = Xp 120 d 18 [v0, v1, v2, (0, x), v4, v5] ((0, x) :: st) t g Q := Xp_go (i := .iload_n 3) (len := 1) (by decide +kernel) rfl
theorem x_120_18 : Xp 120 (d + 1) 18 ls ((0, a1) :: (2, a0) :: st) t g Q = (hkJK a0 = 10 ∧ hkC8 st ∧ Xp 109 d 0 [(2, a0), (0, a1)] [] t g (fun r t g => Xp 120 (d + 1) 21 ls (hkPush r st) t g Q)) := xr_invV (idx := 123) (y' := 109) (ci := 10) (tg := [2, 0]) (by decide +kernel) (by decide +kernel) (by decide +kernel) (by decide +kernel) rfl rfl rfl
theorem x_120_21 : Xp 120 d 21 ls ((0, a) :: st) t g Q = ((a = 0 → Xp 120 d 35 ls st t g Q) ∧ (¬ (a = 0) → Xp 120 d 24 ls st t g Q)) := xr_if1 (cd := .eq) (off := 14) (by decide +kernel) (by decide)
theorem x_120_24 : Xp 120 d 24 [v0, v1, v2, v3, (0, x), v5] st t g Q = Xp 120 d 26 [v0, v1, v2, v3, (0, x), v5] ((0, x) :: st) t g Q := Xp_go (i := .iload 4) (len := 2) (by decide +kernel) rfl
theorem x_120_26 : Xp 120 d 26 ls ((0, a) :: st) t g Q = Xp 120 d 27 ls ((1, a) :: st) t g Q := Xp_go (i := .i2l) (len := 1) (by decide +kernel) rfl
theorem x_120_27 : Xp 120 d 27 ls st t g Q = Xp 120 d 28 ls ((1, 0) :: st) t g Q := Xp_go (i := .lconst 0) (len := 1) (by decide +kernel) rfl
theorem x_120_28 : Xp 120 d 28 ls st t g Q = Xp 120 d 29 ls ((1, 1) :: st) t g Q := Xp_go (i := .lconst 1) (len := 1) (by decide +kernel) rfl
theorem x_120_29 : Xp 120 (d + 1) 29 ls ((1, a2) :: (1, a1) :: (1, a0) :: st) t g Q = (hkC8 st ∧ Xp 107 d 0 [(1, a0), hkU, (1, a1), hkU, (1, a2), hkU] [] t g (fun r t g => Xp 120 (d + 1) 32 ls (hkPush r st) t g Q)) := xr_invS (idx := 115) (y' := 107) (tg := [1, 1, 1]) (by decide +kernel) (by decide +kernel) (by decide +kernel) rfl rfl
theorem x_120_32 : Xp 120 d 32 ls ((0, a) :: st) t g Q = ((¬ (a = 0) → Xp 120 d 38 ls st t g Q) ∧ (¬ (¬ (a = 0)) → Xp 120 d 35 ls st t g Q)) := xr_if1 (cd := .ne) (off := 6) (by decide +kernel) (by decide)
theorem x_120_35 : Xp 120 d 35 ls st t g Q = Xp 120 d 37 ls ((0, -2) :: st) t g Q := xr_bi (c := -2) (by decide +kernel) (by decide)
theorem x_120_37 : Xp 120 d 37 ls [(0, x)] t g Q = Q (some (0, x)) t g := xr_retI (by decide +kernel) (by decide +kernel)
theorem x_120_38 : Xp 120 d 38 [(2, x), v1, v2, v3, v4, v5] st t g Q = Xp 120 d 39 [(2, x), v1, v2, v3, v4, v5] ((2, x) :: st) t g Q := Xp_go (i := .aload_n 0) (len := 1) (by decide +kernel) rfl
theorem x_120_39 : Xp 120 d 39 [v0, (0, x), v2, v3, v4, v5] st t g Q = Xp 120 d 40 [v0, (0, x), v2, v3, v4, v5] ((0, x) :: st) t g Q := Xp_go (i := .iload_n 1) (len := 1) (by decide +kernel) rfl
theorem x_120_40 : Xp 120 d 40 [v0, v1, (0, x), v3, v4, v5] st t g Q = Xp 120 d 41 [v0, v1, (0, x), v3, v4, v5] ((0, x) :: st) t g Q := Xp_go (i := .iload_n 2) (len := 1) (by decide +kernel) rfl
theorem x_120_41 : Xp 120 d 41 [v0, v1, v2, (0, x), v4, v5] st t g Q = Xp 120 d 42 [v0, v1, v2, (0, x), v4, v5] ((0, x) :: st) t g Q := Xp_go (i := .iload_n 3) (len := 1) (by decide +kernel) rfl
theorem x_120_42 : Xp 120 (d + 1) 42 ls ((0, a3) :: (0, a2) :: (0, a1) :: (2, a0) :: st) t g Q = (hkJK a0 = 10 ∧ hkC8 st ∧ Xp 121 d 0 [(2, a0), (0, a1), (0, a2), (0, a3), hkU] [] t g (fun r t g => Xp 120 (d + 1) 45 ls (hkPush r st) t g Q)) := xr_invV (idx := 177) (y' := 121) (ci := 10) (tg := [2, 0, 0, 0]) (by decide +kernel) (by decide +kernel) (by decide +kernel) (by decide +kernel) rfl rfl rfl
theorem x_120_45 : Xp 120 d 45 [v0, v1, v2, v3, v4, v5] ((0, x) :: st) t g Q = (hkP1 v4 ∧ Xp 120 d 47 [v0, v1, v2, v3, v4, (0, x)] st t g Q) := Xp_chk (i := .istore 5) (len := 2) (by decide +kernel) rfl
theorem x_120_47 : Xp 120 d 47 [v0, v1, v2, v3, (0, x), v5] st t g Q = Xp 120 d 49 [v0, v1, v2, v3, (0, x), v5] ((0, x) :: st) t g Q := Xp_go (i := .iload 4) (len := 2) (by decide +kernel) rfl
theorem x_120_49 : Xp 120 d 49 ls ((0, a) :: st) t g Q = ((¬ (a = 0) → Xp 120 d 57 ls st t g Q) ∧ (¬ (¬ (a = 0)) → Xp 120 d 52 ls st t g Q)) := xr_if1 (cd := .ne) (off := 8) (by decide +kernel) (by decide)
theorem x_120_52 : Xp 120 d 52 [v0, v1, v2, v3, v4, (0, x)] st t g Q = Xp 120 d 54 [v0, v1, v2, v3, v4, (0, x)] ((0, x) :: st) t g Q := Xp_go (i := .iload 5) (len := 2) (by decide +kernel) rfl
theorem x_120_54 : Xp 120 d 54 ls st t g Q = Xp 120 d 73 ls st t g Q := xr_goto (off := 19) (by decide +kernel) (by decide)
theorem x_120_57 : Xp 120 d 57 [v0, v1, v2, v3, v4, (0, x)] st t g Q = Xp 120 d 59 [v0, v1, v2, v3, v4, (0, x)] ((0, x) :: st) t g Q := Xp_go (i := .iload 5) (len := 2) (by decide +kernel) rfl
theorem x_120_59 : Xp 120 d 59 ls ((0, a) :: st) t g Q = ((¬ (a = 0) → Xp 120 d 66 ls st t g Q) ∧ (¬ (¬ (a = 0)) → Xp 120 d 62 ls st t g Q)) := xr_if1 (cd := .ne) (off := 7) (by decide +kernel) (by decide)
theorem x_120_62 : Xp 120 d 62 ls st t g Q = Xp 120 d 63 ls ((0, -1) :: st) t g Q := xr_const (c := -1) (by decide +kernel) (by decide)
theorem x_120_63 : Xp 120 d 63 ls st t g Q = Xp 120 d 73 ls st t g Q := xr_goto (off := 10) (by decide +kernel) (by decide)
theorem x_120_66 : Xp 120 d 66 [(2, x), v1, v2, v3, v4, v5] st t g Q = Xp 120 d 67 [(2, x), v1, v2, v3, v4, v5] ((2, x) :: st) t g Q := Xp_go (i := .aload_n 0) (len := 1) (by decide +kernel) rfl
theorem x_120_67 : Xp 120 d 67 [v0, (0, x), v2, v3, v4, v5] st t g Q = Xp 120 d 68 [v0, (0, x), v2, v3, v4, v5] ((0, x) :: st) t g Q := Xp_go (i := .iload_n 1) (len := 1) (by decide +kernel) rfl
theorem x_120_68 : Xp 120 d 68 [v0, v1, (0, x), v3, v4, v5] st t g Q = Xp 120 d 69 [v0, v1, (0, x), v3, v4, v5] ((0, x) :: st) t g Q := Xp_go (i := .iload_n 2) (len := 1) (by decide +kernel) rfl
theorem x_120_69 : Xp 120 d 69 [v0, v1, v2, (0, x), v4, v5] st t g Q = Xp 120 d 70 [v0, v1, v2, (0, x), v4, v5] ((0, x) :: st) t g Q := Xp_go (i := .iload_n 3) (len := 1) (by decide +kernel) rfl
theorem x_120_70 : Xp 120 (d + 1) 70 ls ((0, a3) :: (0, a2) :: (0, a1) :: (2, a0) :: st) t g Q = (hkJK a0 = 10 ∧ hkC8 st ∧ Xp 126 d 0 [(2, a0), (0, a1), (0, a2), (0, a3)] [] t g (fun r t g => Xp 120 (d + 1) 73 ls (hkPush r st) t g Q)) := xr_invV (idx := 181) (y' := 126) (ci := 10) (tg := [2, 0, 0, 0]) (by decide +kernel) (by decide +kernel) (by decide +kernel) (by decide +kernel) rfl rfl rfl
theorem x_120_73 : Xp 120 d 73 ls [(0, x)] t g Q = Q (some (0, x)) t g := xr_retI (by decide +kernel) (by decide +kernel)
-- 121: HookBoxesModel.oftenOf(III)I
theorem x_121_0 : Xp 121 d 0 [(2, x), v1, v2, v3, v4] st t g Q = Xp 121 d 1 [(2, x), v1, v2, v3, v4] ((2, x) :: st) t g Q := Xp_go (i := .aload_n 0) (len := 1) (by decide +kernel) rfl
theorem x_121_1 : Xp 121 d 1 ls ((2, p) :: st) t g Q = (hkJK p = 10 ∧ jA p 7 ≤ t ∧ Xp 121 d 4 ls ((2, jR p 7) :: st) t g Q) := xr_getR (idx := 32) (ci := 10) (k := 7) (by decide +kernel) (by decide +kernel) (by decide +kernel)
theorem x_121_4 : Xp 121 d 4 ls st t g Q = Xp 121 d 6 ls ((0, 35) :: st) t g Q := xr_bi (c := 35) (by decide +kernel) (by decide)
theorem x_121_6 : Xp 121 d 6 [v0, (0, x), v2, v3, v4] st t g Q = Xp 121 d 7 [v0, (0, x), v2, v3, v4] ((0, x) :: st) t g Q := Xp_go (i := .iload_n 1) (len := 1) (by decide +kernel) rfl
theorem x_121_7 : Xp 121 d 7 ls ((0, b) :: (0, a) :: st) t g Q = Xp 121 d 8 ls ((0, hkW (a * b)) :: st) t g Q := Xp_go (i := .imul) (len := 1) (by decide +kernel) rfl
theorem x_121_8 : Xp 121 d 8 [v0, v1, (0, x), v3, v4] st t g Q = Xp 121 d 9 [v0, v1, (0, x), v3, v4] ((0, x) :: st) t g Q := Xp_go (i := .iload_n 2) (len := 1) (by decide +kernel) rfl
theorem x_121_9 : Xp 121 d 9 ls ((0, b) :: (0, a) :: st) t g Q = Xp 121 d 10 ls ((0, hkW (a + b)) :: st) t g Q := Xp_go (i := .iadd) (len := 1) (by decide +kernel) rfl
theorem x_121_10 : Xp 121 d 10 ls ((0, a) :: (2, p) :: st) t g Q = ((hkJK p = 102 ∧ 0 ≤ a ∧ a < jL p) ∧ Xp 121 d 11 ls ((0, g p a) :: st) t g Q) := Xp_chk (i := .baload) (len := 1) (by decide +kernel) rfl
theorem x_121_11 : Xp 121 d 11 ls ((0, a) :: st) t g Q = ((¬ (a = 0) → Xp 121 d 69 ls st t g Q) ∧ (¬ (¬ (a = 0)) → Xp 121 d 14 ls st t g Q)) := xr_if1 (cd := .ne) (off := 58) (by decide +kernel) (by decide)
theorem x_121_14 : Xp 121 d 14 ls st t g Q = Xp 121 d 15 ls ((0, 0) :: st) t g Q := xr_const (c := 0) (by decide +kernel) (by decide)
theorem x_121_15 : Xp 121 d 15 [v0, v1, v2, v3, v4] ((0, x) :: st) t g Q = (hkP1 v3 ∧ Xp 121 d 17 [v0, v1, v2, v3, (0, x)] st t g Q) := Xp_chk (i := .istore 4) (len := 2) (by decide +kernel) rfl
theorem x_121_17 : Xp 121 d 17 [v0, v1, v2, v3, (0, x)] st t g Q = Xp 121 d 19 [v0, v1, v2, v3, (0, x)] ((0, x) :: st) t g Q := Xp_go (i := .iload 4) (len := 2) (by decide +kernel) rfl
theorem x_121_19 : Xp 121 d 19 ls st t g Q = Xp 121 d 21 ls ((0, 35) :: st) t g Q := xr_bi (c := 35) (by decide +kernel) (by decide)
theorem x_121_21 : Xp 121 d 21 ls ((0, b) :: (0, a) :: st) t g Q = ((b ≤ a → Xp 121 d 48 ls st t g Q) ∧ (¬ (b ≤ a) → Xp 121 d 24 ls st t g Q)) := xr_if2 (cd := .ge) (off := 27) (by decide +kernel) (by decide)
theorem x_121_24 : Xp 121 d 24 [(2, x), v1, v2, v3, v4] st t g Q = Xp 121 d 25 [(2, x), v1, v2, v3, v4] ((2, x) :: st) t g Q := Xp_go (i := .aload_n 0) (len := 1) (by decide +kernel) rfl
theorem x_121_25 : Xp 121 d 25 ls ((2, p) :: st) t g Q = (hkJK p = 10 ∧ jA p 6 ≤ t ∧ Xp 121 d 28 ls ((2, jR p 6) :: st) t g Q) := xr_getR (idx := 29) (ci := 10) (k := 6) (by decide +kernel) (by decide +kernel) (by decide +kernel)
theorem x_121_28 : Xp 121 d 28 ls st t g Q = Xp 121 d 30 ls ((0, 35) :: st) t g Q := xr_bi (c := 35) (by decide +kernel) (by decide)
theorem x_121_30 : Xp 121 d 30 ls st t g Q = Xp 121 d 32 ls ((0, 35) :: st) t g Q := xr_bi (c := 35) (by decide +kernel) (by decide)
theorem x_121_32 : Xp 121 d 32 [v0, (0, x), v2, v3, v4] st t g Q = Xp 121 d 33 [v0, (0, x), v2, v3, v4] ((0, x) :: st) t g Q := Xp_go (i := .iload_n 1) (len := 1) (by decide +kernel) rfl
theorem x_121_33 : Xp 121 d 33 ls ((0, b) :: (0, a) :: st) t g Q = Xp 121 d 34 ls ((0, hkW (a * b)) :: st) t g Q := Xp_go (i := .imul) (len := 1) (by decide +kernel) rfl
theorem x_121_34 : Xp 121 d 34 [v0, v1, (0, x), v3, v4] st t g Q = Xp 121 d 35 [v0, v1, (0, x), v3, v4] ((0, x) :: st) t g Q := Xp_go (i := .iload_n 2) (len := 1) (by decide +kernel) rfl
theorem x_121_35 : Xp 121 d 35 ls ((0, b) :: (0, a) :: st) t g Q = Xp 121 d 36 ls ((0, hkW (a + b)) :: st) t g Q := Xp_go (i := .iadd) (len := 1) (by decide +kernel) rfl
theorem x_121_36 : Xp 121 d 36 ls ((0, b) :: (0, a) :: st) t g Q = Xp 121 d 37 ls ((0, hkW (a * b)) :: st) t g Q := Xp_go (i := .imul) (len := 1) (by decide +kernel) rfl
theorem x_121_37 : Xp 121 d 37 [v0, v1, v2, v3, (0, x)] st t g Q = Xp 121 d 39 [v0, v1, v2, v3, (0, x)] ((0, x) :: st) t g Q := Xp_go (i := .iload 4) (len := 2) (by decide +kernel) rfl
theorem x_121_39 : Xp 121 d 39 ls ((0, b) :: (0, a) :: st) t g Q = Xp 121 d 40 ls ((0, hkW (a + b)) :: st) t g Q := Xp_go (i := .iadd) (len := 1) (by decide +kernel) rfl
theorem x_121_40 : Xp 121 d 40 ls st t g Q = Xp 121 d 41 ls ((0, 0) :: st) t g Q := xr_const (c := 0) (by decide +kernel) (by decide)
theorem x_121_41 : Xp 121 d 41 ls ((0, x) :: (0, a) :: (2, p) :: st) t g Q = ((hkJK p = 100 ∧ (100 = 102 → x = 0 ∨ x = 1) ∧ 0 ≤ a ∧ a < jL p) ∧ Xp 121 d 42 ls st t (hkSet g p a x) Q) := Xp_chk (i := .iastore) (len := 1) (by decide +kernel) rfl
theorem x_121_42 : Xp 121 d 42 [v0, v1, v2, v3, (0, x)] st t g Q = (hkP1 v3 ∧ Xp 121 d 45 [v0, v1, v2, v3, (0, hkW (x + 1))] st t g Q) := Xp_chk (i := .iinc 4 (1)) (len := 3) (by decide +kernel) rfl
theorem x_121_45 : Xp 121 d 45 ls st t g Q = Xp 121 d 17 ls st t g Q := xr_goto (off := -28) (by decide +kernel) (by decide)
theorem x_121_48 : Xp 121 d 48 [(2, x), v1, v2, v3, v4] st t g Q = Xp 121 d 49 [(2, x), v1, v2, v3, v4] ((2, x) :: st) t g Q := Xp_go (i := .aload_n 0) (len := 1) (by decide +kernel) rfl
theorem x_121_49 : Xp 121 d 49 [v0, (0, x), v2, v3, v4] st t g Q = Xp 121 d 50 [v0, (0, x), v2, v3, v4] ((0, x) :: st) t g Q := Xp_go (i := .iload_n 1) (len := 1) (by decide +kernel) rfl
theorem x_121_50 : Xp 121 d 50 [v0, v1, (0, x), v3, v4] st t g Q = Xp 121 d 51 [v0, v1, (0, x), v3, v4] ((0, x) :: st) t g Q := Xp_go (i := .iload_n 2) (len := 1) (by decide +kernel) rfl
theorem x_121_51 : Xp 121 d 51 ls st t g Q = Xp 121 d 52 ls ((0, 0) :: st) t g Q := xr_const (c := 0) (by decide +kernel) (by decide)
theorem x_121_52 : Xp 121 d 52 ls st t g Q = Xp 121 d 53 ls ((0, 0) :: st) t g Q := xr_const (c := 0) (by decide +kernel) (by decide)
theorem x_121_53 : Xp 121 d 53 ls st t g Q = Xp 121 d 54 ls ((0, 1) :: st) t g Q := xr_const (c := 1) (by decide +kernel) (by decide)
theorem x_121_54 : Xp 121 (d + 1) 54 ls ((0, a5) :: (0, a4) :: (0, a3) :: (0, a2) :: (0, a1) :: (2, a0) :: st) t g Q = (hkJK a0 = 10 ∧ hkC8 st ∧ Xp 122 d 0 [(2, a0), (0, a1), (0, a2), (0, a3), (0, a4), (0, a5), hkU, hkU] [] t g (fun r t g => Xp 121 (d + 1) 57 ls (hkPush r st) t g Q)) := xr_invV (idx := 173) (y' := 122) (ci := 10) (tg := [2, 0, 0, 0, 0, 0]) (by decide +kernel) (by decide +kernel) (by decide +kernel) (by decide +kernel) rfl rfl rfl
theorem x_121_57 : Xp 121 d 57 [(2, x), v1, v2, v3, v4] st t g Q = Xp 121 d 58 [(2, x), v1, v2, v3, v4] ((2, x) :: st) t g Q := Xp_go (i := .aload_n 0) (len := 1) (by decide +kernel) rfl
theorem x_121_58 : Xp 121 d 58 ls ((2, p) :: st) t g Q = (hkJK p = 10 ∧ jA p 7 ≤ t ∧ Xp 121 d 61 ls ((2, jR p 7) :: st) t g Q) := xr_getR (idx := 32) (ci := 10) (k := 7) (by decide +kernel) (by decide +kernel) (by decide +kernel)
theorem x_121_61 : Xp 121 d 61 ls st t g Q = Xp 121 d 63 ls ((0, 35) :: st) t g Q := xr_bi (c := 35) (by decide +kernel) (by decide)
theorem x_121_63 : Xp 121 d 63 [v0, (0, x), v2, v3, v4] st t g Q = Xp 121 d 64 [v0, (0, x), v2, v3, v4] ((0, x) :: st) t g Q := Xp_go (i := .iload_n 1) (len := 1) (by decide +kernel) rfl
theorem x_121_64 : Xp 121 d 64 ls ((0, b) :: (0, a) :: st) t g Q = Xp 121 d 65 ls ((0, hkW (a * b)) :: st) t g Q := Xp_go (i := .imul) (len := 1) (by decide +kernel) rfl
theorem x_121_65 : Xp 121 d 65 [v0, v1, (0, x), v3, v4] st t g Q = Xp 121 d 66 [v0, v1, (0, x), v3, v4] ((0, x) :: st) t g Q := Xp_go (i := .iload_n 2) (len := 1) (by decide +kernel) rfl
theorem x_121_66 : Xp 121 d 66 ls ((0, b) :: (0, a) :: st) t g Q = Xp 121 d 67 ls ((0, hkW (a + b)) :: st) t g Q := Xp_go (i := .iadd) (len := 1) (by decide +kernel) rfl
theorem x_121_67 : Xp 121 d 67 ls st t g Q = Xp 121 d 68 ls ((0, 1) :: st) t g Q := xr_const (c := 1) (by decide +kernel) (by decide)
theorem x_121_68 : Xp 121 d 68 ls ((0, x) :: (0, a) :: (2, p) :: st) t g Q = ((hkJK p = 102 ∧ (102 = 102 → x = 0 ∨ x = 1) ∧ 0 ≤ a ∧ a < jL p) ∧ Xp 121 d 69 ls st t (hkSet g p a x) Q) := Xp_chk (i := .bastore) (len := 1) (by decide +kernel) rfl
theorem x_121_69 : Xp 121 d 69 [(2, x), v1, v2, v3, v4] st t g Q = Xp 121 d 70 [(2, x), v1, v2, v3, v4] ((2, x) :: st) t g Q := Xp_go (i := .aload_n 0) (len := 1) (by decide +kernel) rfl
theorem x_121_70 : Xp 121 d 70 ls ((2, p) :: st) t g Q = (hkJK p = 10 ∧ jA p 6 ≤ t ∧ Xp 121 d 73 ls ((2, jR p 6) :: st) t g Q) := xr_getR (idx := 29) (ci := 10) (k := 6) (by decide +kernel) (by decide +kernel) (by decide +kernel)
theorem x_121_73 : Xp 121 d 73 ls st t g Q = Xp 121 d 75 ls ((0, 35) :: st) t g Q := xr_bi (c := 35) (by decide +kernel) (by decide)
theorem x_121_75 : Xp 121 d 75 ls st t g Q = Xp 121 d 77 ls ((0, 35) :: st) t g Q := xr_bi (c := 35) (by decide +kernel) (by decide)
theorem x_121_77 : Xp 121 d 77 [v0, (0, x), v2, v3, v4] st t g Q = Xp 121 d 78 [v0, (0, x), v2, v3, v4] ((0, x) :: st) t g Q := Xp_go (i := .iload_n 1) (len := 1) (by decide +kernel) rfl
theorem x_121_78 : Xp 121 d 78 ls ((0, b) :: (0, a) :: st) t g Q = Xp 121 d 79 ls ((0, hkW (a * b)) :: st) t g Q := Xp_go (i := .imul) (len := 1) (by decide +kernel) rfl
theorem x_121_79 : Xp 121 d 79 [v0, v1, (0, x), v3, v4] st t g Q = Xp 121 d 80 [v0, v1, (0, x), v3, v4] ((0, x) :: st) t g Q := Xp_go (i := .iload_n 2) (len := 1) (by decide +kernel) rfl
theorem x_121_80 : Xp 121 d 80 ls ((0, b) :: (0, a) :: st) t g Q = Xp 121 d 81 ls ((0, hkW (a + b)) :: st) t g Q := Xp_go (i := .iadd) (len := 1) (by decide +kernel) rfl
theorem x_121_81 : Xp 121 d 81 ls ((0, b) :: (0, a) :: st) t g Q = Xp 121 d 82 ls ((0, hkW (a * b)) :: st) t g Q := Xp_go (i := .imul) (len := 1) (by decide +kernel) rfl
theorem x_121_82 : Xp 121 d 82 [v0, v1, v2, (0, x), v4] st t g Q = Xp 121 d 83 [v0, v1, v2, (0, x), v4] ((0, x) :: st) t g Q := Xp_go (i := .iload_n 3) (len := 1) (by decide +kernel) rfl
theorem x_121_83 : Xp 121 d 83 ls ((0, b) :: (0, a) :: st) t g Q = Xp 121 d 84 ls ((0, hkW (a + b)) :: st) t g Q := Xp_go (i := .iadd) (len := 1) (by decide +kernel) rfl
theorem x_121_84 : Xp 121 d 84 ls ((0, a) :: (2, p) :: st) t g Q = ((hkJK p = 100 ∧ 0 ≤ a ∧ a < jL p) ∧ Xp 121 d 85 ls ((0, g p a) :: st) t g Q) := Xp_chk (i := .iaload) (len := 1) (by decide +kernel) rfl
theorem x_121_85 : Xp 121 d 85 ls [(0, x)] t g Q = Q (some (0, x)) t g := xr_retI (by decide +kernel) (by decide +kernel)
-- 122: HookBoxesModel.orders(IIIII)V
theorem x_122_0 : Xp 122 d 0 [(2, x), v1, v2, v3, v4, v5, v6, v7] st t g Q = Xp 122 d 1 [(2, x), v1, v2, v3, v4, v5, v6, v7] ((2, x) :: st) t g Q := Xp_go (i := .aload_n 0) (len := 1) (by decide +kernel) rfl
theorem x_122_1 : Xp 122 d 1 [v0, v1, (0, x), v3, v4, v5, v6, v7] st t g Q = Xp 122 d 2 [v0, v1, (0, x), v3, v4, v5, v6, v7] ((0, x) :: st) t g Q := Xp_go (i := .iload_n 2) (len := 1) (by decide +kernel) rfl
theorem x_122_2 : Xp 122 (d + 1) 2 ls ((0, a1) :: (2, a0) :: st) t g Q = (hkJK a0 = 10 ∧ hkC8 st ∧ Xp 115 d 0 [(2, a0), (0, a1), hkU, hkU] [] t g (fun r t g => Xp 122 (d + 1) 5 ls (hkPush r st) t g Q)) := xr_invV (idx := 130) (y' := 115) (ci := 10) (tg := [2, 0]) (by decide +kernel) (by decide +kernel) (by decide +kernel) (by decide +kernel) rfl rfl rfl
theorem x_122_5 : Xp 122 d 5 [v0, v1, v2, v3, v4, v5, v6, v7] ((0, x) :: st) t g Q = (hkP1 v5 ∧ Xp 122 d 7 [v0, v1, v2, v3, v4, v5, (0, x), v7] st t g Q) := Xp_chk (i := .istore 6) (len := 2) (by decide +kernel) rfl
theorem x_122_7 : Xp 122 d 7 [v0, v1, v2, (0, x), v4, v5, v6, v7] st t g Q = Xp 122 d 8 [v0, v1, v2, (0, x), v4, v5, v6, v7] ((0, x) :: st) t g Q := Xp_go (i := .iload_n 3) (len := 1) (by decide +kernel) rfl
theorem x_122_8 : Xp 122 d 8 [v0, v1, v2, v3, v4, v5, (0, x), v7] st t g Q = Xp 122 d 10 [v0, v1, v2, v3, v4, v5, (0, x), v7] ((0, x) :: st) t g Q := Xp_go (i := .iload 6) (len := 2) (by decide +kernel) rfl
theorem x_122_10 : Xp 122 d 10 ls ((0, b) :: (0, a) :: st) t g Q = ((¬ (a = b) → Xp 122 d 134 ls st t g Q) ∧ (¬ (¬ (a = b)) → Xp 122 d 13 ls st t g Q)) := xr_if2 (cd := .ne) (off := 124) (by decide +kernel) (by decide)
theorem x_122_13 : Xp 122 d 13 ls st t g Q = Xp 122 d 14 ls ((0, 0) :: st) t g Q := xr_const (c := 0) (by decide +kernel) (by decide)
theorem x_122_14 : Xp 122 d 14 [v0, v1, v2, v3, v4, v5, v6, v7] ((0, x) :: st) t g Q = (hkP1 v6 ∧ Xp 122 d 16 [v0, v1, v2, v3, v4, v5, v6, (0, x)] st t g Q) := Xp_chk (i := .istore 7) (len := 2) (by decide +kernel) rfl
theorem x_122_16 : Xp 122 d 16 [v0, v1, v2, v3, v4, v5, v6, (0, x)] st t g Q = Xp 122 d 18 [v0, v1, v2, v3, v4, v5, v6, (0, x)] ((0, x) :: st) t g Q := Xp_go (i := .iload 7) (len := 2) (by decide +kernel) rfl
theorem x_122_18 : Xp 122 d 18 [(2, x), v1, v2, v3, v4, v5, v6, v7] st t g Q = Xp 122 d 19 [(2, x), v1, v2, v3, v4, v5, v6, v7] ((2, x) :: st) t g Q := Xp_go (i := .aload_n 0) (len := 1) (by decide +kernel) rfl
theorem x_122_19 : Xp 122 d 19 ls ((2, p) :: st) t g Q = (hkJK p = 10 ∧ Xp 122 d 22 ls ((0, g p 2) :: st) t g Q) := xr_getI (idx := 97) (ci := 10) (k := 2) (by decide +kernel) (by decide +kernel) (by decide +kernel)
theorem x_122_22 : Xp 122 d 22 ls ((0, b) :: (0, a) :: st) t g Q = ((b ≤ a → Xp 122 d 50 ls st t g Q) ∧ (¬ (b ≤ a) → Xp 122 d 25 ls st t g Q)) := xr_if2 (cd := .ge) (off := 28) (by decide +kernel) (by decide)
theorem x_122_25 : Xp 122 d 25 [(2, x), v1, v2, v3, v4, v5, v6, v7] st t g Q = Xp 122 d 26 [(2, x), v1, v2, v3, v4, v5, v6, v7] ((2, x) :: st) t g Q := Xp_go (i := .aload_n 0) (len := 1) (by decide +kernel) rfl
theorem x_122_26 : Xp 122 d 26 ls ((2, p) :: st) t g Q = (hkJK p = 10 ∧ jA p 19 ≤ t ∧ Xp 122 d 29 ls ((2, jR p 19) :: st) t g Q) := xr_getR (idx := 48) (ci := 10) (k := 19) (by decide +kernel) (by decide +kernel) (by decide +kernel)
theorem x_122_29 : Xp 122 d 29 [v0, v1, v2, v3, v4, v5, v6, (0, x)] st t g Q = Xp 122 d 31 [v0, v1, v2, v3, v4, v5, v6, (0, x)] ((0, x) :: st) t g Q := Xp_go (i := .iload 7) (len := 2) (by decide +kernel) rfl
theorem x_122_31 : Xp 122 d 31 [v0, v1, v2, v3, v4, v5, v6, (0, x)] st t g Q = Xp 122 d 33 [v0, v1, v2, v3, v4, v5, v6, (0, x)] ((0, x) :: st) t g Q := Xp_go (i := .iload 7) (len := 2) (by decide +kernel) rfl
theorem x_122_33 : Xp 122 d 33 [v0, (0, x), v2, v3, v4, v5, v6, v7] st t g Q = Xp 122 d 34 [v0, (0, x), v2, v3, v4, v5, v6, v7] ((0, x) :: st) t g Q := Xp_go (i := .iload_n 1) (len := 1) (by decide +kernel) rfl
theorem x_122_34 : Xp 122 d 34 ls ((0, b) :: (0, a) :: st) t g Q = ((¬ (a = b) → Xp 122 d 42 ls st t g Q) ∧ (¬ (¬ (a = b)) → Xp 122 d 37 ls st t g Q)) := xr_if2 (cd := .ne) (off := 8) (by decide +kernel) (by decide)
theorem x_122_37 : Xp 122 d 37 [v0, v1, v2, v3, v4, (0, x), v6, v7] st t g Q = Xp 122 d 39 [v0, v1, v2, v3, v4, (0, x), v6, v7] ((0, x) :: st) t g Q := Xp_go (i := .iload 5) (len := 2) (by decide +kernel) rfl
theorem x_122_39 : Xp 122 d 39 ls st t g Q = Xp 122 d 43 ls st t g Q := xr_goto (off := 4) (by decide +kernel) (by decide)
theorem x_122_42 : Xp 122 d 42 ls st t g Q = Xp 122 d 43 ls ((0, 0) :: st) t g Q := xr_const (c := 0) (by decide +kernel) (by decide)
theorem x_122_43 : Xp 122 d 43 ls ((0, x) :: (0, a) :: (2, p) :: st) t g Q = ((hkJK p = 100 ∧ (100 = 102 → x = 0 ∨ x = 1) ∧ 0 ≤ a ∧ a < jL p) ∧ Xp 122 d 44 ls st t (hkSet g p a x) Q) := Xp_chk (i := .iastore) (len := 1) (by decide +kernel) rfl
theorem x_122_44 : Xp 122 d 44 [v0, v1, v2, v3, v4, v5, v6, (0, x)] st t g Q = (hkP1 v6 ∧ Xp 122 d 47 [v0, v1, v2, v3, v4, v5, v6, (0, hkW (x + 1))] st t g Q) := Xp_chk (i := .iinc 7 (1)) (len := 3) (by decide +kernel) rfl
theorem x_122_47 : Xp 122 d 47 ls st t g Q = Xp 122 d 16 ls st t g Q := xr_goto (off := -31) (by decide +kernel) (by decide)
theorem x_122_50 : Xp 122 d 50 ls st t g Q = Xp 122 d 51 ls ((0, 0) :: st) t g Q := xr_const (c := 0) (by decide +kernel) (by decide)
theorem x_122_51 : Xp 122 d 51 [v0, v1, v2, v3, v4, v5, v6, v7] ((0, x) :: st) t g Q = (hkP1 v6 ∧ Xp 122 d 53 [v0, v1, v2, v3, v4, v5, v6, (0, x)] st t g Q) := Xp_chk (i := .istore 7) (len := 2) (by decide +kernel) rfl
theorem x_122_53 : Xp 122 d 53 [v0, v1, v2, v3, v4, v5, v6, (0, x)] st t g Q = Xp 122 d 55 [v0, v1, v2, v3, v4, v5, v6, (0, x)] ((0, x) :: st) t g Q := Xp_go (i := .iload 7) (len := 2) (by decide +kernel) rfl
theorem x_122_55 : Xp 122 d 55 [v0, v1, v2, v3, v4, v5, (0, x), v7] st t g Q = Xp 122 d 57 [v0, v1, v2, v3, v4, v5, (0, x), v7] ((0, x) :: st) t g Q := Xp_go (i := .iload 6) (len := 2) (by decide +kernel) rfl
theorem x_122_57 : Xp 122 d 57 ls ((0, b) :: (0, a) :: st) t g Q = ((b ≤ a → Xp 122 d 88 ls st t g Q) ∧ (¬ (b ≤ a) → Xp 122 d 60 ls st t g Q)) := xr_if2 (cd := .ge) (off := 31) (by decide +kernel) (by decide)
theorem x_122_60 : Xp 122 d 60 [(2, x), v1, v2, v3, v4, v5, v6, v7] st t g Q = Xp 122 d 61 [(2, x), v1, v2, v3, v4, v5, v6, v7] ((2, x) :: st) t g Q := Xp_go (i := .aload_n 0) (len := 1) (by decide +kernel) rfl
theorem x_122_61 : Xp 122 d 61 [(2, x), v1, v2, v3, v4, v5, v6, v7] st t g Q = Xp 122 d 62 [(2, x), v1, v2, v3, v4, v5, v6, v7] ((2, x) :: st) t g Q := Xp_go (i := .aload_n 0) (len := 1) (by decide +kernel) rfl
theorem x_122_62 : Xp 122 d 62 [v0, v1, (0, x), v3, v4, v5, v6, v7] st t g Q = Xp 122 d 63 [v0, v1, (0, x), v3, v4, v5, v6, v7] ((0, x) :: st) t g Q := Xp_go (i := .iload_n 2) (len := 1) (by decide +kernel) rfl
theorem x_122_63 : Xp 122 d 63 [v0, v1, v2, v3, v4, v5, v6, (0, x)] st t g Q = Xp 122 d 65 [v0, v1, v2, v3, v4, v5, v6, (0, x)] ((0, x) :: st) t g Q := Xp_go (i := .iload 7) (len := 2) (by decide +kernel) rfl
theorem x_122_65 : Xp 122 (d + 1) 65 ls ((0, a2) :: (0, a1) :: (2, a0) :: st) t g Q = (hkJK a0 = 10 ∧ hkC8 st ∧ Xp 110 d 0 [(2, a0), (0, a1), (0, a2)] [] t g (fun r t g => Xp 122 (d + 1) 68 ls (hkPush r st) t g Q)) := xr_invV (idx := 111) (y' := 110) (ci := 10) (tg := [2, 0, 0]) (by decide +kernel) (by decide +kernel) (by decide +kernel) (by decide +kernel) rfl rfl rfl
theorem x_122_68 : Xp 122 d 68 [(2, x), v1, v2, v3, v4, v5, v6, v7] st t g Q = Xp 122 d 69 [(2, x), v1, v2, v3, v4, v5, v6, v7] ((2, x) :: st) t g Q := Xp_go (i := .aload_n 0) (len := 1) (by decide +kernel) rfl
theorem x_122_69 : Xp 122 d 69 ls ((2, p) :: st) t g Q = (hkJK p = 10 ∧ jA p 22 ≤ t ∧ Xp 122 d 72 ls ((2, jR p 22) :: st) t g Q) := xr_getR (idx := 57) (ci := 10) (k := 22) (by decide +kernel) (by decide +kernel) (by decide +kernel)
theorem x_122_72 : Xp 122 d 72 [v0, v1, v2, v3, v4, v5, v6, (0, x)] st t g Q = Xp 122 d 74 [v0, v1, v2, v3, v4, v5, v6, (0, x)] ((0, x) :: st) t g Q := Xp_go (i := .iload 7) (len := 2) (by decide +kernel) rfl
theorem x_122_74 : Xp 122 d 74 ls ((0, a) :: (2, p) :: st) t g Q = ((hkJK p = 100 ∧ 0 ≤ a ∧ a < jL p) ∧ Xp 122 d 75 ls ((0, g p a) :: st) t g Q) := Xp_chk (i := .iaload) (len := 1) (by decide +kernel) rfl
theorem x_122_75 : Xp 122 d 75 ls ((0, b) :: (0, a) :: st) t g Q = Xp 122 d 76 ls ((0, hkW (a + b)) :: st) t g Q := Xp_go (i := .iadd) (len := 1) (by decide +kernel) rfl
theorem x_122_76 : Xp 122 d 76 [v0, v1, v2, v3, v4, v5, v6, (0, x)] st t g Q = Xp 122 d 78 [v0, v1, v2, v3, v4, v5, v6, (0, x)] ((0, x) :: st) t g Q := Xp_go (i := .iload 7) (len := 2) (by decide +kernel) rfl
theorem x_122_78 : Xp 122 d 78 ls ((0, b) :: (0, a) :: st) t g Q = Xp 122 d 79 ls ((0, hkW (a - b)) :: st) t g Q := Xp_go (i := .isub) (len := 1) (by decide +kernel) rfl
theorem x_122_79 : Xp 122 (d + 1) 79 ls ((0, a1) :: (2, a0) :: st) t g Q = (hkJK a0 = 10 ∧ hkC8 st ∧ Xp 123 d 0 [(2, a0), (0, a1), hkU] [] t g (fun r t g => Xp 122 (d + 1) 82 ls (hkPush r st) t g Q)) := xr_invV (idx := 169) (y' := 123) (ci := 10) (tg := [2, 0]) (by decide +kernel) (by decide +kernel) (by decide +kernel) (by decide +kernel) rfl rfl rfl
theorem x_122_82 : Xp 122 d 82 [v0, v1, v2, v3, v4, v5, v6, (0, x)] st t g Q = (hkP1 v6 ∧ Xp 122 d 85 [v0, v1, v2, v3, v4, v5, v6, (0, hkW (x + 1))] st t g Q) := Xp_chk (i := .iinc 7 (1)) (len := 3) (by decide +kernel) rfl
theorem x_122_85 : Xp 122 d 85 ls st t g Q = Xp 122 d 53 ls st t g Q := xr_goto (off := -32) (by decide +kernel) (by decide)
theorem x_122_88 : Xp 122 d 88 ls st t g Q = Xp 122 d 89 ls ((0, 0) :: st) t g Q := xr_const (c := 0) (by decide +kernel) (by decide)
theorem x_122_89 : Xp 122 d 89 [v0, v1, v2, v3, v4, v5, v6, v7] ((0, x) :: st) t g Q = (hkP1 v6 ∧ Xp 122 d 91 [v0, v1, v2, v3, v4, v5, v6, (0, x)] st t g Q) := Xp_chk (i := .istore 7) (len := 2) (by decide +kernel) rfl
theorem x_122_91 : Xp 122 d 91 [v0, v1, v2, v3, v4, v5, v6, (0, x)] st t g Q = Xp 122 d 93 [v0, v1, v2, v3, v4, v5, v6, (0, x)] ((0, x) :: st) t g Q := Xp_go (i := .iload 7) (len := 2) (by decide +kernel) rfl
theorem x_122_93 : Xp 122 d 93 [(2, x), v1, v2, v3, v4, v5, v6, v7] st t g Q = Xp 122 d 94 [(2, x), v1, v2, v3, v4, v5, v6, v7] ((2, x) :: st) t g Q := Xp_go (i := .aload_n 0) (len := 1) (by decide +kernel) rfl
theorem x_122_94 : Xp 122 d 94 ls ((2, p) :: st) t g Q = (hkJK p = 10 ∧ Xp 122 d 97 ls ((0, g p 2) :: st) t g Q) := xr_getI (idx := 97) (ci := 10) (k := 2) (by decide +kernel) (by decide +kernel) (by decide +kernel)
theorem x_122_97 : Xp 122 d 97 ls ((0, b) :: (0, a) :: st) t g Q = ((b ≤ a → Xp 122 d 133 ls st t g Q) ∧ (¬ (b ≤ a) → Xp 122 d 100 ls st t g Q)) := xr_if2 (cd := .ge) (off := 36) (by decide +kernel) (by decide)
theorem x_122_100 : Xp 122 d 100 [(2, x), v1, v2, v3, v4, v5, v6, v7] st t g Q = Xp 122 d 101 [(2, x), v1, v2, v3, v4, v5, v6, v7] ((2, x) :: st) t g Q := Xp_go (i := .aload_n 0) (len := 1) (by decide +kernel) rfl
theorem x_122_101 : Xp 122 d 101 ls ((2, p) :: st) t g Q = (hkJK p = 10 ∧ jA p 6 ≤ t ∧ Xp 122 d 104 ls ((2, jR p 6) :: st) t g Q) := xr_getR (idx := 29) (ci := 10) (k := 6) (by decide +kernel) (by decide +kernel) (by decide +kernel)
theorem x_122_104 : Xp 122 d 104 ls st t g Q = Xp 122 d 106 ls ((0, 35) :: st) t g Q := xr_bi (c := 35) (by decide +kernel) (by decide)
theorem x_122_106 : Xp 122 d 106 ls st t g Q = Xp 122 d 108 ls ((0, 35) :: st) t g Q := xr_bi (c := 35) (by decide +kernel) (by decide)
theorem x_122_108 : Xp 122 d 108 [v0, (0, x), v2, v3, v4, v5, v6, v7] st t g Q = Xp 122 d 109 [v0, (0, x), v2, v3, v4, v5, v6, v7] ((0, x) :: st) t g Q := Xp_go (i := .iload_n 1) (len := 1) (by decide +kernel) rfl
theorem x_122_109 : Xp 122 d 109 ls ((0, b) :: (0, a) :: st) t g Q = Xp 122 d 110 ls ((0, hkW (a * b)) :: st) t g Q := Xp_go (i := .imul) (len := 1) (by decide +kernel) rfl
theorem x_122_110 : Xp 122 d 110 [v0, v1, (0, x), v3, v4, v5, v6, v7] st t g Q = Xp 122 d 111 [v0, v1, (0, x), v3, v4, v5, v6, v7] ((0, x) :: st) t g Q := Xp_go (i := .iload_n 2) (len := 1) (by decide +kernel) rfl
theorem x_122_111 : Xp 122 d 111 ls ((0, b) :: (0, a) :: st) t g Q = Xp 122 d 112 ls ((0, hkW (a + b)) :: st) t g Q := Xp_go (i := .iadd) (len := 1) (by decide +kernel) rfl
theorem x_122_112 : Xp 122 d 112 ls ((0, b) :: (0, a) :: st) t g Q = Xp 122 d 113 ls ((0, hkW (a * b)) :: st) t g Q := Xp_go (i := .imul) (len := 1) (by decide +kernel) rfl
theorem x_122_113 : Xp 122 d 113 [v0, v1, v2, v3, v4, v5, v6, (0, x)] st t g Q = Xp 122 d 115 [v0, v1, v2, v3, v4, v5, v6, (0, x)] ((0, x) :: st) t g Q := Xp_go (i := .iload 7) (len := 2) (by decide +kernel) rfl
theorem x_122_115 : Xp 122 d 115 ls ((0, b) :: (0, a) :: st) t g Q = Xp 122 d 116 ls ((0, hkW (a + b)) :: st) t g Q := Xp_go (i := .iadd) (len := 1) (by decide +kernel) rfl
theorem x_122_116 : Xp 122 d 116 ls (v :: w :: st) t g Q = ((hkP1 v ∧ hkP1 w) ∧ Xp 122 d 117 ls (v :: w :: v :: w :: st) t g Q) := Xp_chk (i := .dup2) (len := 1) (by decide +kernel) rfl
theorem x_122_117 : Xp 122 d 117 ls ((0, a) :: (2, p) :: st) t g Q = ((hkJK p = 100 ∧ 0 ≤ a ∧ a < jL p) ∧ Xp 122 d 118 ls ((0, g p a) :: st) t g Q) := Xp_chk (i := .iaload) (len := 1) (by decide +kernel) rfl
theorem x_122_118 : Xp 122 d 118 [(2, x), v1, v2, v3, v4, v5, v6, v7] st t g Q = Xp 122 d 119 [(2, x), v1, v2, v3, v4, v5, v6, v7] ((2, x) :: st) t g Q := Xp_go (i := .aload_n 0) (len := 1) (by decide +kernel) rfl
theorem x_122_119 : Xp 122 d 119 ls ((2, p) :: st) t g Q = (hkJK p = 10 ∧ jA p 19 ≤ t ∧ Xp 122 d 122 ls ((2, jR p 19) :: st) t g Q) := xr_getR (idx := 48) (ci := 10) (k := 19) (by decide +kernel) (by decide +kernel) (by decide +kernel)
theorem x_122_122 : Xp 122 d 122 [v0, v1, v2, v3, v4, v5, v6, (0, x)] st t g Q = Xp 122 d 124 [v0, v1, v2, v3, v4, v5, v6, (0, x)] ((0, x) :: st) t g Q := Xp_go (i := .iload 7) (len := 2) (by decide +kernel) rfl
theorem x_122_124 : Xp 122 d 124 ls ((0, a) :: (2, p) :: st) t g Q = ((hkJK p = 100 ∧ 0 ≤ a ∧ a < jL p) ∧ Xp 122 d 125 ls ((0, g p a) :: st) t g Q) := Xp_chk (i := .iaload) (len := 1) (by decide +kernel) rfl
theorem x_122_125 : Xp 122 d 125 ls ((0, b) :: (0, a) :: st) t g Q = Xp 122 d 126 ls ((0, hkW (a + b)) :: st) t g Q := Xp_go (i := .iadd) (len := 1) (by decide +kernel) rfl
theorem x_122_126 : Xp 122 d 126 ls ((0, x) :: (0, a) :: (2, p) :: st) t g Q = ((hkJK p = 100 ∧ (100 = 102 → x = 0 ∨ x = 1) ∧ 0 ≤ a ∧ a < jL p) ∧ Xp 122 d 127 ls st t (hkSet g p a x) Q) := Xp_chk (i := .iastore) (len := 1) (by decide +kernel) rfl
theorem x_122_127 : Xp 122 d 127 [v0, v1, v2, v3, v4, v5, v6, (0, x)] st t g Q = (hkP1 v6 ∧ Xp 122 d 130 [v0, v1, v2, v3, v4, v5, v6, (0, hkW (x + 1))] st t g Q) := Xp_chk (i := .iinc 7 (1)) (len := 3) (by decide +kernel) rfl
theorem x_122_130 : Xp 122 d 130 ls st t g Q = Xp 122 d 91 ls st t g Q := xr_goto (off := -39) (by decide +kernel) (by decide)
theorem x_122_133 : Xp 122 d 133 ls [] t g Q = Q none t g := xr_retV (by decide +kernel) (by decide +kernel)
theorem x_122_134 : Xp 122 d 134 ls st t g Q = Xp 122 d 135 ls ((0, 0) :: st) t g Q := xr_const (c := 0) (by decide +kernel) (by decide)
theorem x_122_135 : Xp 122 d 135 [v0, v1, v2, v3, v4, v5, v6, v7] ((0, x) :: st) t g Q = (hkP1 v6 ∧ Xp 122 d 137 [v0, v1, v2, v3, v4, v5, v6, (0, x)] st t g Q) := Xp_chk (i := .istore 7) (len := 2) (by decide +kernel) rfl
theorem x_122_137 : Xp 122 d 137 [v0, v1, v2, v3, v4, v5, v6, (0, x)] st t g Q = Xp 122 d 139 [v0, v1, v2, v3, v4, v5, v6, (0, x)] ((0, x) :: st) t g Q := Xp_go (i := .iload 7) (len := 2) (by decide +kernel) rfl
theorem x_122_139 : Xp 122 d 139 [v0, v1, v2, v3, v4, v5, (0, x), v7] st t g Q = Xp 122 d 141 [v0, v1, v2, v3, v4, v5, (0, x), v7] ((0, x) :: st) t g Q := Xp_go (i := .iload 6) (len := 2) (by decide +kernel) rfl
theorem x_122_141 : Xp 122 d 141 ls ((0, b) :: (0, a) :: st) t g Q = ((b ≤ a → Xp 122 d 208 ls st t g Q) ∧ (¬ (b ≤ a) → Xp 122 d 144 ls st t g Q)) := xr_if2 (cd := .ge) (off := 67) (by decide +kernel) (by decide)
theorem x_122_144 : Xp 122 d 144 [v0, v1, v2, v3, (0, x), v5, v6, v7] st t g Q = Xp 122 d 146 [v0, v1, v2, v3, (0, x), v5, v6, v7] ((0, x) :: st) t g Q := Xp_go (i := .iload 4) (len := 2) (by decide +kernel) rfl
theorem x_122_146 : Xp 122 d 146 [v0, v1, v2, v3, v4, v5, v6, (0, x)] st t g Q = Xp 122 d 148 [v0, v1, v2, v3, v4, v5, v6, (0, x)] ((0, x) :: st) t g Q := Xp_go (i := .iload 7) (len := 2) (by decide +kernel) rfl
theorem x_122_148 : Xp 122 d 148 ls ((0, b) :: (0, a) :: st) t g Q = Xp 122 d 149 ls ((0, hkShr a b) :: st) t g Q := Xp_go (i := .ishr) (len := 1) (by decide +kernel) rfl
theorem x_122_149 : Xp 122 d 149 ls st t g Q = Xp 122 d 150 ls ((0, 1) :: st) t g Q := xr_const (c := 1) (by decide +kernel) (by decide)
theorem x_122_150 : Xp 122 d 150 ls ((0, b) :: (0, a) :: st) t g Q = Xp 122 d 151 ls ((0, hkAnd a b) :: st) t g Q := Xp_go (i := .iand) (len := 1) (by decide +kernel) rfl
theorem x_122_151 : Xp 122 d 151 ls ((0, a) :: st) t g Q = ((¬ (a = 0) → Xp 122 d 202 ls st t g Q) ∧ (¬ (¬ (a = 0)) → Xp 122 d 154 ls st t g Q)) := xr_if1 (cd := .ne) (off := 51) (by decide +kernel) (by decide)
theorem x_122_154 : Xp 122 d 154 [(2, x), v1, v2, v3, v4, v5, v6, v7] st t g Q = Xp 122 d 155 [(2, x), v1, v2, v3, v4, v5, v6, v7] ((2, x) :: st) t g Q := Xp_go (i := .aload_n 0) (len := 1) (by decide +kernel) rfl
theorem x_122_155 : Xp 122 d 155 ls ((2, p) :: st) t g Q = (hkJK p = 10 ∧ jA p 22 ≤ t ∧ Xp 122 d 158 ls ((2, jR p 22) :: st) t g Q) := xr_getR (idx := 57) (ci := 10) (k := 22) (by decide +kernel) (by decide +kernel) (by decide +kernel)
theorem x_122_158 : Xp 122 d 158 [v0, v1, v2, (0, x), v4, v5, v6, v7] st t g Q = Xp 122 d 159 [v0, v1, v2, (0, x), v4, v5, v6, v7] ((0, x) :: st) t g Q := Xp_go (i := .iload_n 3) (len := 1) (by decide +kernel) rfl
theorem x_122_159 : Xp 122 d 159 [v0, v1, v2, v3, v4, v5, v6, (0, x)] st t g Q = Xp 122 d 161 [v0, v1, v2, v3, v4, v5, v6, (0, x)] ((0, x) :: st) t g Q := Xp_go (i := .iload 7) (len := 2) (by decide +kernel) rfl
theorem x_122_161 : Xp 122 d 161 ls ((0, x) :: (0, a) :: (2, p) :: st) t g Q = ((hkJK p = 100 ∧ (100 = 102 → x = 0 ∨ x = 1) ∧ 0 ≤ a ∧ a < jL p) ∧ Xp 122 d 162 ls st t (hkSet g p a x) Q) := Xp_chk (i := .iastore) (len := 1) (by decide +kernel) rfl
theorem x_122_162 : Xp 122 d 162 [(2, x), v1, v2, v3, v4, v5, v6, v7] st t g Q = Xp 122 d 163 [(2, x), v1, v2, v3, v4, v5, v6, v7] ((2, x) :: st) t g Q := Xp_go (i := .aload_n 0) (len := 1) (by decide +kernel) rfl
theorem x_122_163 : Xp 122 d 163 [v0, (0, x), v2, v3, v4, v5, v6, v7] st t g Q = Xp 122 d 164 [v0, (0, x), v2, v3, v4, v5, v6, v7] ((0, x) :: st) t g Q := Xp_go (i := .iload_n 1) (len := 1) (by decide +kernel) rfl
theorem x_122_164 : Xp 122 d 164 [v0, v1, (0, x), v3, v4, v5, v6, v7] st t g Q = Xp 122 d 165 [v0, v1, (0, x), v3, v4, v5, v6, v7] ((0, x) :: st) t g Q := Xp_go (i := .iload_n 2) (len := 1) (by decide +kernel) rfl
theorem x_122_165 : Xp 122 d 165 [v0, v1, v2, (0, x), v4, v5, v6, v7] st t g Q = Xp 122 d 166 [v0, v1, v2, (0, x), v4, v5, v6, v7] ((0, x) :: st) t g Q := Xp_go (i := .iload_n 3) (len := 1) (by decide +kernel) rfl
theorem x_122_166 : Xp 122 d 166 ls st t g Q = Xp 122 d 167 ls ((0, 1) :: st) t g Q := xr_const (c := 1) (by decide +kernel) (by decide)
theorem x_122_167 : Xp 122 d 167 ls ((0, b) :: (0, a) :: st) t g Q = Xp 122 d 168 ls ((0, hkW (a + b)) :: st) t g Q := Xp_go (i := .iadd) (len := 1) (by decide +kernel) rfl
theorem x_122_168 : Xp 122 d 168 [v0, v1, v2, v3, (0, x), v5, v6, v7] st t g Q = Xp 122 d 170 [v0, v1, v2, v3, (0, x), v5, v6, v7] ((0, x) :: st) t g Q := Xp_go (i := .iload 4) (len := 2) (by decide +kernel) rfl
theorem x_122_170 : Xp 122 d 170 ls st t g Q = Xp 122 d 171 ls ((0, 1) :: st) t g Q := xr_const (c := 1) (by decide +kernel) (by decide)
theorem x_122_171 : Xp 122 d 171 [v0, v1, v2, v3, v4, v5, v6, (0, x)] st t g Q = Xp 122 d 173 [v0, v1, v2, v3, v4, v5, v6, (0, x)] ((0, x) :: st) t g Q := Xp_go (i := .iload 7) (len := 2) (by decide +kernel) rfl
theorem x_122_173 : Xp 122 d 173 ls ((0, b) :: (0, a) :: st) t g Q = Xp 122 d 174 ls ((0, hkShl a b) :: st) t g Q := Xp_go (i := .ishl) (len := 1) (by decide +kernel) rfl
theorem x_122_174 : Xp 122 d 174 ls ((0, b) :: (0, a) :: st) t g Q = Xp 122 d 175 ls ((0, hkOr a b) :: st) t g Q := Xp_go (i := .ior) (len := 1) (by decide +kernel) rfl
theorem x_122_175 : Xp 122 d 175 [v0, v1, v2, v3, (0, x), v5, v6, v7] st t g Q = Xp 122 d 177 [v0, v1, v2, v3, (0, x), v5, v6, v7] ((0, x) :: st) t g Q := Xp_go (i := .iload 4) (len := 2) (by decide +kernel) rfl
theorem x_122_177 : Xp 122 d 177 [v0, v1, v2, v3, v4, v5, v6, (0, x)] st t g Q = Xp 122 d 179 [v0, v1, v2, v3, v4, v5, v6, (0, x)] ((0, x) :: st) t g Q := Xp_go (i := .iload 7) (len := 2) (by decide +kernel) rfl
theorem x_122_179 : Xp 122 d 179 ls st t g Q = Xp 122 d 180 ls ((0, 1) :: st) t g Q := xr_const (c := 1) (by decide +kernel) (by decide)
theorem x_122_180 : Xp 122 d 180 ls ((0, b) :: (0, a) :: st) t g Q = Xp 122 d 181 ls ((0, hkW (a + b)) :: st) t g Q := Xp_go (i := .iadd) (len := 1) (by decide +kernel) rfl
theorem x_122_181 : Xp 122 d 181 ls ((0, b) :: (0, a) :: st) t g Q = Xp 122 d 182 ls ((0, hkShr a b) :: st) t g Q := Xp_go (i := .ishr) (len := 1) (by decide +kernel) rfl
theorem x_122_182 : Xp 122 (d + 1) 182 ls ((0, a0) :: st) t g Q = (hkC8 st ∧ Xp 104 d 0 [(0, a0), hkU, hkU] [] t g (fun r t g => Xp 122 (d + 1) 185 ls (hkPush r st) t g Q)) := xr_invS (idx := 104) (y' := 104) (tg := [0]) (by decide +kernel) (by decide +kernel) (by decide +kernel) rfl rfl
theorem x_122_185 : Xp 122 d 185 ls st t g Q = Xp 122 d 186 ls ((0, 2) :: st) t g Q := xr_const (c := 2) (by decide +kernel) (by decide)
theorem x_122_186 : Xp 122 d 186 ls ((0, b) :: (0, a) :: st) t g Q = (b ≠ 0 ∧ Xp 122 d 187 ls ((0, a.tmod b) :: st) t g Q) := Xp_chk (i := .irem) (len := 1) (by decide +kernel) rfl
theorem x_122_187 : Xp 122 d 187 ls st t g Q = Xp 122 d 188 ls ((0, 1) :: st) t g Q := xr_const (c := 1) (by decide +kernel) (by decide)
theorem x_122_188 : Xp 122 d 188 ls ((0, b) :: (0, a) :: st) t g Q = ((¬ (a = b) → Xp 122 d 197 ls st t g Q) ∧ (¬ (¬ (a = b)) → Xp 122 d 191 ls st t g Q)) := xr_if2 (cd := .ne) (off := 9) (by decide +kernel) (by decide)
theorem x_122_191 : Xp 122 d 191 [v0, v1, v2, v3, v4, (0, x), v6, v7] st t g Q = Xp 122 d 193 [v0, v1, v2, v3, v4, (0, x), v6, v7] ((0, x) :: st) t g Q := Xp_go (i := .iload 5) (len := 2) (by decide +kernel) rfl
theorem x_122_193 : Xp 122 d 193 ls ((0, a) :: st) t g Q = Xp 122 d 194 ls ((0, hkW (-a)) :: st) t g Q := Xp_go (i := .ineg) (len := 1) (by decide +kernel) rfl
theorem x_122_194 : Xp 122 d 194 ls st t g Q = Xp 122 d 199 ls st t g Q := xr_goto (off := 5) (by decide +kernel) (by decide)
theorem x_122_197 : Xp 122 d 197 [v0, v1, v2, v3, v4, (0, x), v6, v7] st t g Q = Xp 122 d 199 [v0, v1, v2, v3, v4, (0, x), v6, v7] ((0, x) :: st) t g Q := Xp_go (i := .iload 5) (len := 2) (by decide +kernel) rfl
theorem x_122_199 : Xp 122 (d + 1) 199 ls ((0, a5) :: (0, a4) :: (0, a3) :: (0, a2) :: (0, a1) :: (2, a0) :: st) t g Q = (hkJK a0 = 10 ∧ hkC8 st ∧ Xp 122 d 0 [(2, a0), (0, a1), (0, a2), (0, a3), (0, a4), (0, a5), hkU, hkU] [] t g (fun r t g => Xp 122 (d + 1) 202 ls (hkPush r st) t g Q)) := xr_invV (idx := 173) (y' := 122) (ci := 10) (tg := [2, 0, 0, 0, 0, 0]) (by decide +kernel) (by decide +kernel) (by decide +kernel) (by decide +kernel) rfl rfl rfl
theorem x_122_202 : Xp 122 d 202 [v0, v1, v2, v3, v4, v5, v6, (0, x)] st t g Q = (hkP1 v6 ∧ Xp 122 d 205 [v0, v1, v2, v3, v4, v5, v6, (0, hkW (x + 1))] st t g Q) := Xp_chk (i := .iinc 7 (1)) (len := 3) (by decide +kernel) rfl
theorem x_122_205 : Xp 122 d 205 ls st t g Q = Xp 122 d 137 ls st t g Q := xr_goto (off := -68) (by decide +kernel) (by decide)
theorem x_122_208 : Xp 122 d 208 ls [] t g Q = Q none t g := xr_retV (by decide +kernel) (by decide +kernel)
-- 123: HookBoxesModel.timesRow(I)V
theorem x_123_0 : Xp 123 d 0 ls st t g Q = Xp 123 d 1 ls ((0, 0) :: st) t g Q := xr_const (c := 0) (by decide +kernel) (by decide)
theorem x_123_1 : Xp 123 d 1 [v0, v1, v2] ((0, x) :: st) t g Q = (hkP1 v1 ∧ Xp 123 d 2 [v0, v1, (0, x)] st t g Q) := Xp_chk (i := .istore_n 2) (len := 1) (by decide +kernel) rfl
theorem x_123_2 : Xp 123 d 2 [v0, v1, (0, x)] st t g Q = Xp 123 d 3 [v0, v1, (0, x)] ((0, x) :: st) t g Q := Xp_go (i := .iload_n 2) (len := 1) (by decide +kernel) rfl
theorem x_123_3 : Xp 123 d 3 [(2, x), v1, v2] st t g Q = Xp 123 d 4 [(2, x), v1, v2] ((2, x) :: st) t g Q := Xp_go (i := .aload_n 0) (len := 1) (by decide +kernel) rfl
theorem x_123_4 : Xp 123 d 4 ls ((2, p) :: st) t g Q = (hkJK p = 10 ∧ Xp 123 d 7 ls ((0, g p 2) :: st) t g Q) := xr_getI (idx := 97) (ci := 10) (k := 2) (by decide +kernel) (by decide +kernel) (by decide +kernel)
theorem x_123_7 : Xp 123 d 7 ls ((0, b) :: (0, a) :: st) t g Q = ((b ≤ a → Xp 123 d 23 ls st t g Q) ∧ (¬ (b ≤ a) → Xp 123 d 10 ls st t g Q)) := xr_if2 (cd := .ge) (off := 16) (by decide +kernel) (by decide)
theorem x_123_10 : Xp 123 d 10 [(2, x), v1, v2] st t g Q = Xp 123 d 11 [(2, x), v1, v2] ((2, x) :: st) t g Q := Xp_go (i := .aload_n 0) (len := 1) (by decide +kernel) rfl
theorem x_123_11 : Xp 123 d 11 ls ((2, p) :: st) t g Q = (hkJK p = 10 ∧ jA p 20 ≤ t ∧ Xp 123 d 14 ls ((2, jR p 20) :: st) t g Q) := xr_getR (idx := 51) (ci := 10) (k := 20) (by decide +kernel) (by decide +kernel) (by decide +kernel)
theorem x_123_14 : Xp 123 d 14 [v0, v1, (0, x)] st t g Q = Xp 123 d 15 [v0, v1, (0, x)] ((0, x) :: st) t g Q := Xp_go (i := .iload_n 2) (len := 1) (by decide +kernel) rfl
theorem x_123_15 : Xp 123 d 15 ls st t g Q = Xp 123 d 16 ls ((0, 0) :: st) t g Q := xr_const (c := 0) (by decide +kernel) (by decide)
theorem x_123_16 : Xp 123 d 16 ls ((0, x) :: (0, a) :: (2, p) :: st) t g Q = ((hkJK p = 100 ∧ (100 = 102 → x = 0 ∨ x = 1) ∧ 0 ≤ a ∧ a < jL p) ∧ Xp 123 d 17 ls st t (hkSet g p a x) Q) := Xp_chk (i := .iastore) (len := 1) (by decide +kernel) rfl
theorem x_123_17 : Xp 123 d 17 [v0, v1, (0, x)] st t g Q = (hkP1 v1 ∧ Xp 123 d 20 [v0, v1, (0, hkW (x + 1))] st t g Q) := Xp_chk (i := .iinc 2 (1)) (len := 3) (by decide +kernel) rfl
theorem x_123_20 : Xp 123 d 20 ls st t g Q = Xp 123 d 2 ls st t g Q := xr_goto (off := -18) (by decide +kernel) (by decide)
theorem x_123_23 : Xp 123 d 23 ls st t g Q = Xp 123 d 24 ls ((0, 0) :: st) t g Q := xr_const (c := 0) (by decide +kernel) (by decide)
theorem x_123_24 : Xp 123 d 24 [v0, v1, v2] ((0, x) :: st) t g Q = (hkP1 v1 ∧ Xp 123 d 25 [v0, v1, (0, x)] st t g Q) := Xp_chk (i := .istore_n 2) (len := 1) (by decide +kernel) rfl
theorem x_123_25 : Xp 123 d 25 [v0, v1, (0, x)] st t g Q = Xp 123 d 26 [v0, v1, (0, x)] ((0, x) :: st) t g Q := Xp_go (i := .iload_n 2) (len := 1) (by decide +kernel) rfl
theorem x_123_26 : Xp 123 d 26 [(2, x), v1, v2] st t g Q = Xp 123 d 27 [(2, x), v1, v2] ((2, x) :: st) t g Q := Xp_go (i := .aload_n 0) (len := 1) (by decide +kernel) rfl
theorem x_123_27 : Xp 123 d 27 ls ((2, p) :: st) t g Q = (hkJK p = 10 ∧ Xp 123 d 30 ls ((0, g p 2) :: st) t g Q) := xr_getI (idx := 97) (ci := 10) (k := 2) (by decide +kernel) (by decide +kernel) (by decide +kernel)
theorem x_123_30 : Xp 123 d 30 ls ((0, b) :: (0, a) :: st) t g Q = ((b ≤ a → Xp 123 d 80 ls st t g Q) ∧ (¬ (b ≤ a) → Xp 123 d 33 ls st t g Q)) := xr_if2 (cd := .ge) (off := 50) (by decide +kernel) (by decide)
theorem x_123_33 : Xp 123 d 33 [(2, x), v1, v2] st t g Q = Xp 123 d 34 [(2, x), v1, v2] ((2, x) :: st) t g Q := Xp_go (i := .aload_n 0) (len := 1) (by decide +kernel) rfl
theorem x_123_34 : Xp 123 d 34 ls ((2, p) :: st) t g Q = (hkJK p = 10 ∧ jA p 19 ≤ t ∧ Xp 123 d 37 ls ((2, jR p 19) :: st) t g Q) := xr_getR (idx := 48) (ci := 10) (k := 19) (by decide +kernel) (by decide +kernel) (by decide +kernel)
theorem x_123_37 : Xp 123 d 37 [v0, v1, (0, x)] st t g Q = Xp 123 d 38 [v0, v1, (0, x)] ((0, x) :: st) t g Q := Xp_go (i := .iload_n 2) (len := 1) (by decide +kernel) rfl
theorem x_123_38 : Xp 123 d 38 ls ((0, a) :: (2, p) :: st) t g Q = ((hkJK p = 100 ∧ 0 ≤ a ∧ a < jL p) ∧ Xp 123 d 39 ls ((0, g p a) :: st) t g Q) := Xp_chk (i := .iaload) (len := 1) (by decide +kernel) rfl
theorem x_123_39 : Xp 123 d 39 ls ((0, a) :: st) t g Q = ((a = 0 → Xp 123 d 74 ls st t g Q) ∧ (¬ (a = 0) → Xp 123 d 42 ls st t g Q)) := xr_if1 (cd := .eq) (off := 35) (by decide +kernel) (by decide)
theorem x_123_42 : Xp 123 d 42 [v0, (0, x), v2] st t g Q = Xp 123 d 43 [v0, (0, x), v2] ((0, x) :: st) t g Q := Xp_go (i := .iload_n 1) (len := 1) (by decide +kernel) rfl
theorem x_123_43 : Xp 123 d 43 ls ((0, a) :: st) t g Q = Xp 123 d 44 ls ((1, a) :: st) t g Q := Xp_go (i := .i2l) (len := 1) (by decide +kernel) rfl
theorem x_123_44 : Xp 123 d 44 ls st t g Q = Xp 123 d 45 ls ((1, 0) :: st) t g Q := Xp_go (i := .lconst 0) (len := 1) (by decide +kernel) rfl
theorem x_123_45 : Xp 123 d 45 [(2, x), v1, v2] st t g Q = Xp 123 d 46 [(2, x), v1, v2] ((2, x) :: st) t g Q := Xp_go (i := .aload_n 0) (len := 1) (by decide +kernel) rfl
theorem x_123_46 : Xp 123 (d + 1) 46 ls ((2, a0) :: st) t g Q = (hkJK a0 = 10 ∧ hkC8 st ∧ Xp 103 d 0 [(2, a0)] [] t g (fun r t g => Xp 123 (d + 1) 49 ls (hkPush r st) t g Q)) := xr_invV (idx := 100) (y' := 103) (ci := 10) (tg := [2]) (by decide +kernel) (by decide +kernel) (by decide +kernel) (by decide +kernel) rfl rfl rfl
theorem x_123_49 : Xp 123 d 49 ls ((0, a) :: st) t g Q = Xp 123 d 50 ls ((1, a) :: st) t g Q := Xp_go (i := .i2l) (len := 1) (by decide +kernel) rfl
theorem x_123_50 : Xp 123 (d + 1) 50 ls ((1, a2) :: (1, a1) :: (1, a0) :: st) t g Q = (hkC8 st ∧ Xp 107 d 0 [(1, a0), hkU, (1, a1), hkU, (1, a2), hkU] [] t g (fun r t g => Xp 123 (d + 1) 53 ls (hkPush r st) t g Q)) := xr_invS (idx := 115) (y' := 107) (tg := [1, 1, 1]) (by decide +kernel) (by decide +kernel) (by decide +kernel) rfl rfl
theorem x_123_53 : Xp 123 d 53 ls ((0, a) :: st) t g Q = ((a = 0 → Xp 123 d 74 ls st t g Q) ∧ (¬ (a = 0) → Xp 123 d 56 ls st t g Q)) := xr_if1 (cd := .eq) (off := 21) (by decide +kernel) (by decide)
theorem x_123_56 : Xp 123 d 56 [(2, x), v1, v2] st t g Q = Xp 123 d 57 [(2, x), v1, v2] ((2, x) :: st) t g Q := Xp_go (i := .aload_n 0) (len := 1) (by decide +kernel) rfl
theorem x_123_57 : Xp 123 d 57 [v0, v1, (0, x)] st t g Q = Xp 123 d 58 [v0, v1, (0, x)] ((0, x) :: st) t g Q := Xp_go (i := .iload_n 2) (len := 1) (by decide +kernel) rfl
theorem x_123_58 : Xp 123 d 58 [(2, x), v1, v2] st t g Q = Xp 123 d 59 [(2, x), v1, v2] ((2, x) :: st) t g Q := Xp_go (i := .aload_n 0) (len := 1) (by decide +kernel) rfl
theorem x_123_59 : Xp 123 d 59 ls ((2, p) :: st) t g Q = (hkJK p = 10 ∧ Xp 123 d 62 ls ((0, g p 0) :: st) t g Q) := xr_getI (idx := 11) (ci := 10) (k := 0) (by decide +kernel) (by decide +kernel) (by decide +kernel)
theorem x_123_62 : Xp 123 d 62 ls st t g Q = Xp 123 d 63 ls ((0, 1) :: st) t g Q := xr_const (c := 1) (by decide +kernel) (by decide)
theorem x_123_63 : Xp 123 d 63 ls ((0, b) :: (0, a) :: st) t g Q = Xp 123 d 64 ls ((0, hkW (a - b)) :: st) t g Q := Xp_go (i := .isub) (len := 1) (by decide +kernel) rfl
theorem x_123_64 : Xp 123 d 64 [v0, (0, x), v2] st t g Q = Xp 123 d 65 [v0, (0, x), v2] ((0, x) :: st) t g Q := Xp_go (i := .iload_n 1) (len := 1) (by decide +kernel) rfl
theorem x_123_65 : Xp 123 d 65 [(2, x), v1, v2] st t g Q = Xp 123 d 66 [(2, x), v1, v2] ((2, x) :: st) t g Q := Xp_go (i := .aload_n 0) (len := 1) (by decide +kernel) rfl
theorem x_123_66 : Xp 123 d 66 ls ((2, p) :: st) t g Q = (hkJK p = 10 ∧ jA p 19 ≤ t ∧ Xp 123 d 69 ls ((2, jR p 19) :: st) t g Q) := xr_getR (idx := 48) (ci := 10) (k := 19) (by decide +kernel) (by decide +kernel) (by decide +kernel)
theorem x_123_69 : Xp 123 d 69 [v0, v1, (0, x)] st t g Q = Xp 123 d 70 [v0, v1, (0, x)] ((0, x) :: st) t g Q := Xp_go (i := .iload_n 2) (len := 1) (by decide +kernel) rfl
theorem x_123_70 : Xp 123 d 70 ls ((0, a) :: (2, p) :: st) t g Q = ((hkJK p = 100 ∧ 0 ≤ a ∧ a < jL p) ∧ Xp 123 d 71 ls ((0, g p a) :: st) t g Q) := Xp_chk (i := .iaload) (len := 1) (by decide +kernel) rfl
theorem x_123_71 : Xp 123 (d + 1) 71 ls ((0, a4) :: (0, a3) :: (0, a2) :: (0, a1) :: (2, a0) :: st) t g Q = (hkJK a0 = 10 ∧ hkC8 st ∧ Xp 124 d 0 [(2, a0), (0, a1), (0, a2), (0, a3), (0, a4), hkU, hkU] [] t g (fun r t g => Xp 123 (d + 1) 74 ls (hkPush r st) t g Q)) := xr_invV (idx := 161) (y' := 124) (ci := 10) (tg := [2, 0, 0, 0, 0]) (by decide +kernel) (by decide +kernel) (by decide +kernel) (by decide +kernel) rfl rfl rfl
theorem x_123_74 : Xp 123 d 74 [v0, v1, (0, x)] st t g Q = (hkP1 v1 ∧ Xp 123 d 77 [v0, v1, (0, hkW (x + 1))] st t g Q) := Xp_chk (i := .iinc 2 (1)) (len := 3) (by decide +kernel) rfl
theorem x_123_77 : Xp 123 d 77 ls st t g Q = Xp 123 d 25 ls st t g Q := xr_goto (off := -52) (by decide +kernel) (by decide)
theorem x_123_80 : Xp 123 d 80 ls st t g Q = Xp 123 d 81 ls ((0, 0) :: st) t g Q := xr_const (c := 0) (by decide +kernel) (by decide)
theorem x_123_81 : Xp 123 d 81 [v0, v1, v2] ((0, x) :: st) t g Q = (hkP1 v1 ∧ Xp 123 d 82 [v0, v1, (0, x)] st t g Q) := Xp_chk (i := .istore_n 2) (len := 1) (by decide +kernel) rfl
theorem x_123_82 : Xp 123 d 82 [v0, v1, (0, x)] st t g Q = Xp 123 d 83 [v0, v1, (0, x)] ((0, x) :: st) t g Q := Xp_go (i := .iload_n 2) (len := 1) (by decide +kernel) rfl
theorem x_123_83 : Xp 123 d 83 [(2, x), v1, v2] st t g Q = Xp 123 d 84 [(2, x), v1, v2] ((2, x) :: st) t g Q := Xp_go (i := .aload_n 0) (len := 1) (by decide +kernel) rfl
theorem x_123_84 : Xp 123 d 84 ls ((2, p) :: st) t g Q = (hkJK p = 10 ∧ Xp 123 d 87 ls ((0, g p 2) :: st) t g Q) := xr_getI (idx := 97) (ci := 10) (k := 2) (by decide +kernel) (by decide +kernel) (by decide +kernel)
theorem x_123_87 : Xp 123 d 87 ls ((0, b) :: (0, a) :: st) t g Q = ((b ≤ a → Xp 123 d 108 ls st t g Q) ∧ (¬ (b ≤ a) → Xp 123 d 90 ls st t g Q)) := xr_if2 (cd := .ge) (off := 21) (by decide +kernel) (by decide)
theorem x_123_90 : Xp 123 d 90 [(2, x), v1, v2] st t g Q = Xp 123 d 91 [(2, x), v1, v2] ((2, x) :: st) t g Q := Xp_go (i := .aload_n 0) (len := 1) (by decide +kernel) rfl
theorem x_123_91 : Xp 123 d 91 ls ((2, p) :: st) t g Q = (hkJK p = 10 ∧ jA p 19 ≤ t ∧ Xp 123 d 94 ls ((2, jR p 19) :: st) t g Q) := xr_getR (idx := 48) (ci := 10) (k := 19) (by decide +kernel) (by decide +kernel) (by decide +kernel)
theorem x_123_94 : Xp 123 d 94 [v0, v1, (0, x)] st t g Q = Xp 123 d 95 [v0, v1, (0, x)] ((0, x) :: st) t g Q := Xp_go (i := .iload_n 2) (len := 1) (by decide +kernel) rfl
theorem x_123_95 : Xp 123 d 95 [(2, x), v1, v2] st t g Q = Xp 123 d 96 [(2, x), v1, v2] ((2, x) :: st) t g Q := Xp_go (i := .aload_n 0) (len := 1) (by decide +kernel) rfl
theorem x_123_96 : Xp 123 d 96 ls ((2, p) :: st) t g Q = (hkJK p = 10 ∧ jA p 20 ≤ t ∧ Xp 123 d 99 ls ((2, jR p 20) :: st) t g Q) := xr_getR (idx := 51) (ci := 10) (k := 20) (by decide +kernel) (by decide +kernel) (by decide +kernel)
theorem x_123_99 : Xp 123 d 99 [v0, v1, (0, x)] st t g Q = Xp 123 d 100 [v0, v1, (0, x)] ((0, x) :: st) t g Q := Xp_go (i := .iload_n 2) (len := 1) (by decide +kernel) rfl
theorem x_123_100 : Xp 123 d 100 ls ((0, a) :: (2, p) :: st) t g Q = ((hkJK p = 100 ∧ 0 ≤ a ∧ a < jL p) ∧ Xp 123 d 101 ls ((0, g p a) :: st) t g Q) := Xp_chk (i := .iaload) (len := 1) (by decide +kernel) rfl
theorem x_123_101 : Xp 123 d 101 ls ((0, x) :: (0, a) :: (2, p) :: st) t g Q = ((hkJK p = 100 ∧ (100 = 102 → x = 0 ∨ x = 1) ∧ 0 ≤ a ∧ a < jL p) ∧ Xp 123 d 102 ls st t (hkSet g p a x) Q) := Xp_chk (i := .iastore) (len := 1) (by decide +kernel) rfl
theorem x_123_102 : Xp 123 d 102 [v0, v1, (0, x)] st t g Q = (hkP1 v1 ∧ Xp 123 d 105 [v0, v1, (0, hkW (x + 1))] st t g Q) := Xp_chk (i := .iinc 2 (1)) (len := 3) (by decide +kernel) rfl
theorem x_123_105 : Xp 123 d 105 ls st t g Q = Xp 123 d 82 ls st t g Q := xr_goto (off := -23) (by decide +kernel) (by decide)
theorem x_123_108 : Xp 123 d 108 ls [] t g Q = Q none t g := xr_retV (by decide +kernel) (by decide +kernel)
-- 124: HookBoxesModel.strips(IIII)V
theorem x_124_0 : Xp 124 d 0 [v0, v1, (0, x), v3, v4, v5, v6] st t g Q = Xp 124 d 1 [v0, v1, (0, x), v3, v4, v5, v6] ((0, x) :: st) t g Q := Xp_go (i := .iload_n 2) (len := 1) (by decide +kernel) rfl
theorem x_124_1 : Xp 124 d 1 ls ((0, a) :: st) t g Q = ((0 ≤ a → Xp 124 d 5 ls st t g Q) ∧ (¬ (0 ≤ a) → Xp 124 d 4 ls st t g Q)) := xr_if1 (cd := .ge) (off := 4) (by decide +kernel) (by decide)
theorem x_124_4 : Xp 124 d 4 ls [] t g Q = Q none t g := xr_retV (by decide +kernel) (by decide +kernel)
theorem x_124_5 : Xp 124 d 5 [v0, v1, (0, x), v3, v4, v5, v6] st t g Q = Xp 124 d 6 [v0, v1, (0, x), v3, v4, v5, v6] ((0, x) :: st) t g Q := Xp_go (i := .iload_n 2) (len := 1) (by decide +kernel) rfl
theorem x_124_6 : Xp 124 d 6 ls ((0, a) :: st) t g Q = ((¬ (a = 0) → Xp 124 d 13 ls st t g Q) ∧ (¬ (¬ (a = 0)) → Xp 124 d 9 ls st t g Q)) := xr_if1 (cd := .ne) (off := 7) (by decide +kernel) (by decide)
theorem x_124_9 : Xp 124 d 9 [v0, v1, v2, (0, x), v4, v5, v6] st t g Q = Xp 124 d 10 [v0, v1, v2, (0, x), v4, v5, v6] ((0, x) :: st) t g Q := Xp_go (i := .iload_n 3) (len := 1) (by decide +kernel) rfl
theorem x_124_10 : Xp 124 d 10 ls st t g Q = Xp 124 d 32 ls st t g Q := xr_goto (off := 22) (by decide +kernel) (by decide)
theorem x_124_13 : Xp 124 d 13 [v0, v1, v2, (0, x), v4, v5, v6] st t g Q = Xp 124 d 14 [v0, v1, v2, (0, x), v4, v5, v6] ((0, x) :: st) t g Q := Xp_go (i := .iload_n 3) (len := 1) (by decide +kernel) rfl
theorem x_124_14 : Xp 124 d 14 [(2, x), v1, v2, v3, v4, v5, v6] st t g Q = Xp 124 d 15 [(2, x), v1, v2, v3, v4, v5, v6] ((2, x) :: st) t g Q := Xp_go (i := .aload_n 0) (len := 1) (by decide +kernel) rfl
theorem x_124_15 : Xp 124 d 15 [v0, (0, x), v2, v3, v4, v5, v6] st t g Q = Xp 124 d 16 [v0, (0, x), v2, v3, v4, v5, v6] ((0, x) :: st) t g Q := Xp_go (i := .iload_n 1) (len := 1) (by decide +kernel) rfl
theorem x_124_16 : Xp 124 d 16 [v0, v1, (0, x), v3, v4, v5, v6] st t g Q = Xp 124 d 17 [v0, v1, (0, x), v3, v4, v5, v6] ((0, x) :: st) t g Q := Xp_go (i := .iload_n 2) (len := 1) (by decide +kernel) rfl
theorem x_124_17 : Xp 124 d 17 ls st t g Q = Xp 124 d 18 ls ((0, 1) :: st) t g Q := xr_const (c := 1) (by decide +kernel) (by decide)
theorem x_124_18 : Xp 124 d 18 ls ((0, b) :: (0, a) :: st) t g Q = Xp 124 d 19 ls ((0, hkW (a - b)) :: st) t g Q := Xp_go (i := .isub) (len := 1) (by decide +kernel) rfl
theorem x_124_19 : Xp 124 (d + 1) 19 ls ((0, a2) :: (0, a1) :: (2, a0) :: st) t g Q = (hkJK a0 = 10 ∧ hkC8 st ∧ Xp 110 d 0 [(2, a0), (0, a1), (0, a2)] [] t g (fun r t g => Xp 124 (d + 1) 22 ls (hkPush r st) t g Q)) := xr_invV (idx := 111) (y' := 110) (ci := 10) (tg := [2, 0, 0]) (by decide +kernel) (by decide +kernel) (by decide +kernel) (by decide +kernel) rfl rfl rfl
theorem x_124_22 : Xp 124 d 22 [(2, x), v1, v2, v3, v4, v5, v6] st t g Q = Xp 124 d 23 [(2, x), v1, v2, v3, v4, v5, v6] ((2, x) :: st) t g Q := Xp_go (i := .aload_n 0) (len := 1) (by decide +kernel) rfl
theorem x_124_23 : Xp 124 d 23 [v0, (0, x), v2, v3, v4, v5, v6] st t g Q = Xp 124 d 24 [v0, (0, x), v2, v3, v4, v5, v6] ((0, x) :: st) t g Q := Xp_go (i := .iload_n 1) (len := 1) (by decide +kernel) rfl
theorem x_124_24 : Xp 124 d 24 [v0, v1, (0, x), v3, v4, v5, v6] st t g Q = Xp 124 d 25 [v0, v1, (0, x), v3, v4, v5, v6] ((0, x) :: st) t g Q := Xp_go (i := .iload_n 2) (len := 1) (by decide +kernel) rfl
theorem x_124_25 : Xp 124 (d + 1) 25 ls ((0, a2) :: (0, a1) :: (2, a0) :: st) t g Q = (hkJK a0 = 10 ∧ hkC8 st ∧ Xp 110 d 0 [(2, a0), (0, a1), (0, a2)] [] t g (fun r t g => Xp 124 (d + 1) 28 ls (hkPush r st) t g Q)) := xr_invV (idx := 111) (y' := 110) (ci := 10) (tg := [2, 0, 0]) (by decide +kernel) (by decide +kernel) (by decide +kernel) (by decide +kernel) rfl rfl rfl
theorem x_124_28 : Xp 124 d 28 ls ((0, b) :: (0, a) :: st) t g Q = Xp 124 d 29 ls ((0, hkW (a - b)) :: st) t g Q := Xp_go (i := .isub) (len := 1) (by decide +kernel) rfl
theorem x_124_29 : Xp 124 (d + 1) 29 ls ((0, a1) :: (0, a0) :: st) t g Q = (hkC8 st ∧ Xp 174 d 0 [(0, a0), (0, a1)] [] t g (fun r t g => Xp 124 (d + 1) 32 ls (hkPush r st) t g Q)) := xr_invS (idx := 156) (y' := 174) (tg := [0, 0]) (by decide +kernel) (by decide +kernel) (by decide +kernel) rfl rfl
theorem x_124_32 : Xp 124 d 32 [v0, v1, v2, v3, v4, v5, v6] ((0, x) :: st) t g Q = (hkP1 v4 ∧ Xp 124 d 34 [v0, v1, v2, v3, v4, (0, x), v6] st t g Q) := Xp_chk (i := .istore 5) (len := 2) (by decide +kernel) rfl
theorem x_124_34 : Xp 124 d 34 [v0, v1, (0, x), v3, v4, v5, v6] st t g Q = Xp 124 d 35 [v0, v1, (0, x), v3, v4, v5, v6] ((0, x) :: st) t g Q := Xp_go (i := .iload_n 2) (len := 1) (by decide +kernel) rfl
theorem x_124_35 : Xp 124 d 35 ls ((0, a) :: st) t g Q = ((¬ (a = 0) → Xp 124 d 42 ls st t g Q) ∧ (¬ (¬ (a = 0)) → Xp 124 d 38 ls st t g Q)) := xr_if1 (cd := .ne) (off := 7) (by decide +kernel) (by decide)
theorem x_124_38 : Xp 124 d 38 [v0, v1, v2, (0, x), v4, v5, v6] st t g Q = Xp 124 d 39 [v0, v1, v2, (0, x), v4, v5, v6] ((0, x) :: st) t g Q := Xp_go (i := .iload_n 3) (len := 1) (by decide +kernel) rfl
theorem x_124_39 : Xp 124 d 39 ls st t g Q = Xp 124 d 43 ls st t g Q := xr_goto (off := 4) (by decide +kernel) (by decide)
theorem x_124_42 : Xp 124 d 42 ls st t g Q = Xp 124 d 43 ls ((0, 0) :: st) t g Q := xr_const (c := 0) (by decide +kernel) (by decide)
theorem x_124_43 : Xp 124 d 43 [v0, v1, v2, v3, v4, v5, v6] ((0, x) :: st) t g Q = (hkP1 v5 ∧ Xp 124 d 45 [v0, v1, v2, v3, v4, v5, (0, x)] st t g Q) := Xp_chk (i := .istore 6) (len := 2) (by decide +kernel) rfl
theorem x_124_45 : Xp 124 d 45 [v0, v1, v2, v3, v4, v5, (0, x)] st t g Q = Xp 124 d 47 [v0, v1, v2, v3, v4, v5, (0, x)] ((0, x) :: st) t g Q := Xp_go (i := .iload 6) (len := 2) (by decide +kernel) rfl
theorem x_124_47 : Xp 124 d 47 [v0, v1, v2, v3, v4, (0, x), v6] st t g Q = Xp 124 d 49 [v0, v1, v2, v3, v4, (0, x), v6] ((0, x) :: st) t g Q := Xp_go (i := .iload 5) (len := 2) (by decide +kernel) rfl
theorem x_124_49 : Xp 124 d 49 ls ((0, b) :: (0, a) :: st) t g Q = ((b < a → Xp 124 d 128 ls st t g Q) ∧ (¬ (b < a) → Xp 124 d 52 ls st t g Q)) := xr_if2 (cd := .gt) (off := 79) (by decide +kernel) (by decide)
theorem x_124_52 : Xp 124 d 52 [(2, x), v1, v2, v3, v4, v5, v6] st t g Q = Xp 124 d 53 [(2, x), v1, v2, v3, v4, v5, v6] ((2, x) :: st) t g Q := Xp_go (i := .aload_n 0) (len := 1) (by decide +kernel) rfl
theorem x_124_53 : Xp 124 d 53 ls ((2, p) :: st) t g Q = (hkJK p = 10 ∧ jA p 21 ≤ t ∧ Xp 124 d 56 ls ((2, jR p 21) :: st) t g Q) := xr_getR (idx := 54) (ci := 10) (k := 21) (by decide +kernel) (by decide +kernel) (by decide +kernel)
theorem x_124_56 : Xp 124 d 56 [v0, v1, (0, x), v3, v4, v5, v6] st t g Q = Xp 124 d 57 [v0, v1, (0, x), v3, v4, v5, v6] ((0, x) :: st) t g Q := Xp_go (i := .iload_n 2) (len := 1) (by decide +kernel) rfl
theorem x_124_57 : Xp 124 d 57 [(2, x), v1, v2, v3, v4, v5, v6] st t g Q = Xp 124 d 58 [(2, x), v1, v2, v3, v4, v5, v6] ((2, x) :: st) t g Q := Xp_go (i := .aload_n 0) (len := 1) (by decide +kernel) rfl
theorem x_124_58 : Xp 124 d 58 [v0, (0, x), v2, v3, v4, v5, v6] st t g Q = Xp 124 d 59 [v0, (0, x), v2, v3, v4, v5, v6] ((0, x) :: st) t g Q := Xp_go (i := .iload_n 1) (len := 1) (by decide +kernel) rfl
theorem x_124_59 : Xp 124 d 59 [v0, v1, (0, x), v3, v4, v5, v6] st t g Q = Xp 124 d 60 [v0, v1, (0, x), v3, v4, v5, v6] ((0, x) :: st) t g Q := Xp_go (i := .iload_n 2) (len := 1) (by decide +kernel) rfl
theorem x_124_60 : Xp 124 (d + 1) 60 ls ((0, a2) :: (0, a1) :: (2, a0) :: st) t g Q = (hkJK a0 = 10 ∧ hkC8 st ∧ Xp 110 d 0 [(2, a0), (0, a1), (0, a2)] [] t g (fun r t g => Xp 124 (d + 1) 63 ls (hkPush r st) t g Q)) := xr_invV (idx := 111) (y' := 110) (ci := 10) (tg := [2, 0, 0]) (by decide +kernel) (by decide +kernel) (by decide +kernel) (by decide +kernel) rfl rfl rfl
theorem x_124_63 : Xp 124 d 63 [v0, v1, v2, v3, v4, v5, (0, x)] st t g Q = Xp 124 d 65 [v0, v1, v2, v3, v4, v5, (0, x)] ((0, x) :: st) t g Q := Xp_go (i := .iload 6) (len := 2) (by decide +kernel) rfl
theorem x_124_65 : Xp 124 d 65 ls ((0, b) :: (0, a) :: st) t g Q = Xp 124 d 66 ls ((0, hkW (a + b)) :: st) t g Q := Xp_go (i := .iadd) (len := 1) (by decide +kernel) rfl
theorem x_124_66 : Xp 124 d 66 ls ((0, x) :: (0, a) :: (2, p) :: st) t g Q = ((hkJK p = 100 ∧ (100 = 102 → x = 0 ∨ x = 1) ∧ 0 ≤ a ∧ a < jL p) ∧ Xp 124 d 67 ls st t (hkSet g p a x) Q) := Xp_chk (i := .iastore) (len := 1) (by decide +kernel) rfl
theorem x_124_67 : Xp 124 d 67 [v0, v1, (0, x), v3, v4, v5, v6] st t g Q = Xp 124 d 68 [v0, v1, (0, x), v3, v4, v5, v6] ((0, x) :: st) t g Q := Xp_go (i := .iload_n 2) (len := 1) (by decide +kernel) rfl
theorem x_124_68 : Xp 124 d 68 ls ((0, a) :: st) t g Q = ((a ≤ 0 → Xp 124 d 88 ls st t g Q) ∧ (¬ (a ≤ 0) → Xp 124 d 71 ls st t g Q)) := xr_if1 (cd := .le) (off := 20) (by decide +kernel) (by decide)
theorem x_124_71 : Xp 124 d 71 [(2, x), v1, v2, v3, v4, v5, v6] st t g Q = Xp 124 d 72 [(2, x), v1, v2, v3, v4, v5, v6] ((2, x) :: st) t g Q := Xp_go (i := .aload_n 0) (len := 1) (by decide +kernel) rfl
theorem x_124_72 : Xp 124 d 72 [v0, (0, x), v2, v3, v4, v5, v6] st t g Q = Xp 124 d 73 [v0, (0, x), v2, v3, v4, v5, v6] ((0, x) :: st) t g Q := Xp_go (i := .iload_n 1) (len := 1) (by decide +kernel) rfl
theorem x_124_73 : Xp 124 d 73 [v0, v1, (0, x), v3, v4, v5, v6] st t g Q = Xp 124 d 74 [v0, v1, (0, x), v3, v4, v5, v6] ((0, x) :: st) t g Q := Xp_go (i := .iload_n 2) (len := 1) (by decide +kernel) rfl
theorem x_124_74 : Xp 124 d 74 ls st t g Q = Xp 124 d 75 ls ((0, 1) :: st) t g Q := xr_const (c := 1) (by decide +kernel) (by decide)
theorem x_124_75 : Xp 124 d 75 ls ((0, b) :: (0, a) :: st) t g Q = Xp 124 d 76 ls ((0, hkW (a - b)) :: st) t g Q := Xp_go (i := .isub) (len := 1) (by decide +kernel) rfl
theorem x_124_76 : Xp 124 d 76 [v0, v1, v2, (0, x), v4, v5, v6] st t g Q = Xp 124 d 77 [v0, v1, v2, (0, x), v4, v5, v6] ((0, x) :: st) t g Q := Xp_go (i := .iload_n 3) (len := 1) (by decide +kernel) rfl
theorem x_124_77 : Xp 124 d 77 [v0, v1, v2, v3, v4, v5, (0, x)] st t g Q = Xp 124 d 79 [v0, v1, v2, v3, v4, v5, (0, x)] ((0, x) :: st) t g Q := Xp_go (i := .iload 6) (len := 2) (by decide +kernel) rfl
theorem x_124_79 : Xp 124 d 79 ls ((0, b) :: (0, a) :: st) t g Q = Xp 124 d 80 ls ((0, hkW (a - b)) :: st) t g Q := Xp_go (i := .isub) (len := 1) (by decide +kernel) rfl
theorem x_124_80 : Xp 124 d 80 [v0, v1, v2, v3, (0, x), v5, v6] st t g Q = Xp 124 d 82 [v0, v1, v2, v3, (0, x), v5, v6] ((0, x) :: st) t g Q := Xp_go (i := .iload 4) (len := 2) (by decide +kernel) rfl
theorem x_124_82 : Xp 124 (d + 1) 82 ls ((0, a4) :: (0, a3) :: (0, a2) :: (0, a1) :: (2, a0) :: st) t g Q = (hkJK a0 = 10 ∧ hkC8 st ∧ Xp 124 d 0 [(2, a0), (0, a1), (0, a2), (0, a3), (0, a4), hkU, hkU] [] t g (fun r t g => Xp 124 (d + 1) 85 ls (hkPush r st) t g Q)) := xr_invV (idx := 161) (y' := 124) (ci := 10) (tg := [2, 0, 0, 0, 0]) (by decide +kernel) (by decide +kernel) (by decide +kernel) (by decide +kernel) rfl rfl rfl
theorem x_124_85 : Xp 124 d 85 ls st t g Q = Xp 124 d 122 ls st t g Q := xr_goto (off := 37) (by decide +kernel) (by decide)
theorem x_124_88 : Xp 124 d 88 [(2, x), v1, v2, v3, v4, v5, v6] st t g Q = Xp 124 d 89 [(2, x), v1, v2, v3, v4, v5, v6] ((2, x) :: st) t g Q := Xp_go (i := .aload_n 0) (len := 1) (by decide +kernel) rfl
theorem x_124_89 : Xp 124 d 89 [(2, x), v1, v2, v3, v4, v5, v6] st t g Q = Xp 124 d 90 [(2, x), v1, v2, v3, v4, v5, v6] ((2, x) :: st) t g Q := Xp_go (i := .aload_n 0) (len := 1) (by decide +kernel) rfl
theorem x_124_90 : Xp 124 d 90 ls ((2, p) :: st) t g Q = (hkJK p = 10 ∧ jA p 21 ≤ t ∧ Xp 124 d 93 ls ((2, jR p 21) :: st) t g Q) := xr_getR (idx := 54) (ci := 10) (k := 21) (by decide +kernel) (by decide +kernel) (by decide +kernel)
theorem x_124_93 : Xp 124 (d + 1) 93 ls ((2, a1) :: (2, a0) :: st) t g Q = (hkJK a0 = 10 ∧ hkC8 st ∧ Xp 125 d 0 [(2, a0), (2, a1), hkU, hkU, hkU] [] t g (fun r t g => Xp 124 (d + 1) 96 ls (hkPush r st) t g Q)) := xr_invV (idx := 165) (y' := 125) (ci := 10) (tg := [2, 2]) (by decide +kernel) (by decide +kernel) (by decide +kernel) (by decide +kernel) rfl rfl rfl
theorem x_124_96 : Xp 124 d 96 [(2, x), v1, v2, v3, v4, v5, v6] st t g Q = Xp 124 d 97 [(2, x), v1, v2, v3, v4, v5, v6] ((2, x) :: st) t g Q := Xp_go (i := .aload_n 0) (len := 1) (by decide +kernel) rfl
theorem x_124_97 : Xp 124 d 97 ls ((2, p) :: st) t g Q = (hkJK p = 10 ∧ Xp 124 d 100 ls ((0, g p 16) :: st) t g Q) := xr_getI (idx := 147) (ci := 10) (k := 16) (by decide +kernel) (by decide +kernel) (by decide +kernel)
theorem x_124_100 : Xp 124 d 100 ls ((0, a) :: st) t g Q = ((a = 0 → Xp 124 d 122 ls st t g Q) ∧ (¬ (a = 0) → Xp 124 d 103 ls st t g Q)) := xr_if1 (cd := .eq) (off := 22) (by decide +kernel) (by decide)
theorem x_124_103 : Xp 124 d 103 [(2, x), v1, v2, v3, v4, v5, v6] st t g Q = Xp 124 d 104 [(2, x), v1, v2, v3, v4, v5, v6] ((2, x) :: st) t g Q := Xp_go (i := .aload_n 0) (len := 1) (by decide +kernel) rfl
theorem x_124_104 : Xp 124 d 104 ls ((2, p) :: st) t g Q = (hkJK p = 10 ∧ jA p 20 ≤ t ∧ Xp 124 d 107 ls ((2, jR p 20) :: st) t g Q) := xr_getR (idx := 51) (ci := 10) (k := 20) (by decide +kernel) (by decide +kernel) (by decide +kernel)
theorem x_124_107 : Xp 124 d 107 [(2, x), v1, v2, v3, v4, v5, v6] st t g Q = Xp 124 d 108 [(2, x), v1, v2, v3, v4, v5, v6] ((2, x) :: st) t g Q := Xp_go (i := .aload_n 0) (len := 1) (by decide +kernel) rfl
theorem x_124_108 : Xp 124 d 108 ls ((2, p) :: st) t g Q = (hkJK p = 10 ∧ Xp 124 d 111 ls ((0, g p 18) :: st) t g Q) := xr_getI (idx := 153) (ci := 10) (k := 18) (by decide +kernel) (by decide +kernel) (by decide +kernel)
theorem x_124_111 : Xp 124 d 111 ls (v :: w :: st) t g Q = ((hkP1 v ∧ hkP1 w) ∧ Xp 124 d 112 ls (v :: w :: v :: w :: st) t g Q) := Xp_chk (i := .dup2) (len := 1) (by decide +kernel) rfl
theorem x_124_112 : Xp 124 d 112 ls ((0, a) :: (2, p) :: st) t g Q = ((hkJK p = 100 ∧ 0 ≤ a ∧ a < jL p) ∧ Xp 124 d 113 ls ((0, g p a) :: st) t g Q) := Xp_chk (i := .iaload) (len := 1) (by decide +kernel) rfl
theorem x_124_113 : Xp 124 d 113 [(2, x), v1, v2, v3, v4, v5, v6] st t g Q = Xp 124 d 114 [(2, x), v1, v2, v3, v4, v5, v6] ((2, x) :: st) t g Q := Xp_go (i := .aload_n 0) (len := 1) (by decide +kernel) rfl
theorem x_124_114 : Xp 124 d 114 ls ((2, p) :: st) t g Q = (hkJK p = 10 ∧ Xp 124 d 117 ls ((0, g p 16) :: st) t g Q) := xr_getI (idx := 147) (ci := 10) (k := 16) (by decide +kernel) (by decide +kernel) (by decide +kernel)
theorem x_124_117 : Xp 124 d 117 [v0, v1, v2, v3, (0, x), v5, v6] st t g Q = Xp 124 d 119 [v0, v1, v2, v3, (0, x), v5, v6] ((0, x) :: st) t g Q := Xp_go (i := .iload 4) (len := 2) (by decide +kernel) rfl
theorem x_124_119 : Xp 124 d 119 ls ((0, b) :: (0, a) :: st) t g Q = Xp 124 d 120 ls ((0, hkW (a * b)) :: st) t g Q := Xp_go (i := .imul) (len := 1) (by decide +kernel) rfl
theorem x_124_120 : Xp 124 d 120 ls ((0, b) :: (0, a) :: st) t g Q = Xp 124 d 121 ls ((0, hkW (a + b)) :: st) t g Q := Xp_go (i := .iadd) (len := 1) (by decide +kernel) rfl
theorem x_124_121 : Xp 124 d 121 ls ((0, x) :: (0, a) :: (2, p) :: st) t g Q = ((hkJK p = 100 ∧ (100 = 102 → x = 0 ∨ x = 1) ∧ 0 ≤ a ∧ a < jL p) ∧ Xp 124 d 122 ls st t (hkSet g p a x) Q) := Xp_chk (i := .iastore) (len := 1) (by decide +kernel) rfl
theorem x_124_122 : Xp 124 d 122 [v0, v1, v2, v3, v4, v5, (0, x)] st t g Q = (hkP1 v5 ∧ Xp 124 d 125 [v0, v1, v2, v3, v4, v5, (0, hkW (x + 1))] st t g Q) := Xp_chk (i := .iinc 6 (1)) (len := 3) (by decide +kernel) rfl
theorem x_124_125 : Xp 124 d 125 ls st t g Q = Xp 124 d 45 ls st t g Q := xr_goto (off := -80) (by decide +kernel) (by decide)
theorem x_124_128 : Xp 124 d 128 ls [] t g Q = Q none t g := xr_retV (by decide +kernel) (by decide +kernel)
-- 125: HookBoxesModel.takesRound([I)V
theorem x_125_0 : Xp 125 d 0 [(2, x), v1, v2, v3, v4] st t g Q = Xp 125 d 1 [(2, x), v1, v2, v3, v4] ((2, x) :: st) t g Q := Xp_go (i := .aload_n 0) (len := 1) (by decide +kernel) rfl
theorem x_125_1 : Xp 125 d 1 ls st t g Q = Xp 125 d 2 ls ((0, 1) :: st) t g Q := xr_const (c := 1) (by decide +kernel) (by decide)
theorem x_125_2 : Xp 125 d 2 ls ((0, x) :: (2, p) :: st) t g Q = (hkJK p = 10 ∧ Xp 125 d 5 ls st t (hkSet g p 16 x) Q) := xr_putI (idx := 147) (ci := 10) (k := 16) (by decide +kernel) (by decide +kernel) (by decide +kernel)
theorem x_125_5 : Xp 125 d 5 [(2, x), v1, v2, v3, v4] st t g Q = Xp 125 d 6 [(2, x), v1, v2, v3, v4] ((2, x) :: st) t g Q := Xp_go (i := .aload_n 0) (len := 1) (by decide +kernel) rfl
theorem x_125_6 : Xp 125 d 6 ls st t g Q = Xp 125 d 7 ls ((0, 0) :: st) t g Q := xr_const (c := 0) (by decide +kernel) (by decide)
theorem x_125_7 : Xp 125 d 7 ls ((0, x) :: (2, p) :: st) t g Q = (hkJK p = 10 ∧ Xp 125 d 10 ls st t (hkSet g p 17 x) Q) := xr_putI (idx := 150) (ci := 10) (k := 17) (by decide +kernel) (by decide +kernel) (by decide +kernel)
theorem x_125_10 : Xp 125 d 10 ls st t g Q = Xp 125 d 11 ls ((0, 0) :: st) t g Q := xr_const (c := 0) (by decide +kernel) (by decide)
theorem x_125_11 : Xp 125 d 11 [v0, v1, v2, v3, v4] ((0, x) :: st) t g Q = (hkP1 v1 ∧ Xp 125 d 12 [v0, v1, (0, x), v3, v4] st t g Q) := Xp_chk (i := .istore_n 2) (len := 1) (by decide +kernel) rfl
theorem x_125_12 : Xp 125 d 12 ls st t g Q = Xp 125 d 13 ls ((0, 0) :: st) t g Q := xr_const (c := 0) (by decide +kernel) (by decide)
theorem x_125_13 : Xp 125 d 13 [v0, v1, v2, v3, v4] ((0, x) :: st) t g Q = (hkP1 v2 ∧ Xp 125 d 14 [v0, v1, v2, (0, x), v4] st t g Q) := Xp_chk (i := .istore_n 3) (len := 1) (by decide +kernel) rfl
theorem x_125_14 : Xp 125 d 14 [v0, v1, v2, (0, x), v4] st t g Q = Xp 125 d 15 [v0, v1, v2, (0, x), v4] ((0, x) :: st) t g Q := Xp_go (i := .iload_n 3) (len := 1) (by decide +kernel) rfl
theorem x_125_15 : Xp 125 d 15 [(2, x), v1, v2, v3, v4] st t g Q = Xp 125 d 16 [(2, x), v1, v2, v3, v4] ((2, x) :: st) t g Q := Xp_go (i := .aload_n 0) (len := 1) (by decide +kernel) rfl
theorem x_125_16 : Xp 125 d 16 ls ((2, p) :: st) t g Q = (hkJK p = 10 ∧ Xp 125 d 19 ls ((0, g p 0) :: st) t g Q) := xr_getI (idx := 11) (ci := 10) (k := 0) (by decide +kernel) (by decide +kernel) (by decide +kernel)
theorem x_125_19 : Xp 125 d 19 ls ((0, b) :: (0, a) :: st) t g Q = ((b ≤ a → Xp 125 d 188 ls st t g Q) ∧ (¬ (b ≤ a) → Xp 125 d 22 ls st t g Q)) := xr_if2 (cd := .ge) (off := 169) (by decide +kernel) (by decide)
theorem x_125_22 : Xp 125 d 22 [(2, x), v1, v2, v3, v4] st t g Q = Xp 125 d 23 [(2, x), v1, v2, v3, v4] ((2, x) :: st) t g Q := Xp_go (i := .aload_n 0) (len := 1) (by decide +kernel) rfl
theorem x_125_23 : Xp 125 d 23 ls ((2, p) :: st) t g Q = (hkJK p = 10 ∧ jA p 15 ≤ t ∧ Xp 125 d 26 ls ((2, jR p 15) :: st) t g Q) := xr_getR (idx := 45) (ci := 10) (k := 15) (by decide +kernel) (by decide +kernel) (by decide +kernel)
theorem x_125_26 : Xp 125 d 26 [v0, v1, v2, (0, x), v4] st t g Q = Xp 125 d 27 [v0, v1, v2, (0, x), v4] ((0, x) :: st) t g Q := Xp_go (i := .iload_n 3) (len := 1) (by decide +kernel) rfl
theorem x_125_27 : Xp 125 d 27 [v0, (2, x), v2, v3, v4] st t g Q = Xp 125 d 28 [v0, (2, x), v2, v3, v4] ((2, x) :: st) t g Q := Xp_go (i := .aload_n 1) (len := 1) (by decide +kernel) rfl
theorem x_125_28 : Xp 125 d 28 [v0, v1, v2, (0, x), v4] st t g Q = Xp 125 d 29 [v0, v1, v2, (0, x), v4] ((0, x) :: st) t g Q := Xp_go (i := .iload_n 3) (len := 1) (by decide +kernel) rfl
theorem x_125_29 : Xp 125 d 29 ls ((0, a) :: (2, p) :: st) t g Q = ((hkJK p = 100 ∧ 0 ≤ a ∧ a < jL p) ∧ Xp 125 d 30 ls ((0, g p a) :: st) t g Q) := Xp_chk (i := .iaload) (len := 1) (by decide +kernel) rfl
theorem x_125_30 : Xp 125 d 30 [(2, x), v1, v2, v3, v4] st t g Q = Xp 125 d 31 [(2, x), v1, v2, v3, v4] ((2, x) :: st) t g Q := Xp_go (i := .aload_n 0) (len := 1) (by decide +kernel) rfl
theorem x_125_31 : Xp 125 d 31 ls ((2, p) :: st) t g Q = (hkJK p = 10 ∧ Xp 125 d 34 ls ((0, g p 0) :: st) t g Q) := xr_getI (idx := 11) (ci := 10) (k := 0) (by decide +kernel) (by decide +kernel) (by decide +kernel)
theorem x_125_34 : Xp 125 d 34 ls ((0, b) :: (0, a) :: st) t g Q = Xp 125 d 35 ls ((0, hkW (a + b)) :: st) t g Q := Xp_go (i := .iadd) (len := 1) (by decide +kernel) rfl
theorem x_125_35 : Xp 125 d 35 ls st t g Q = Xp 125 d 36 ls ((0, 1) :: st) t g Q := xr_const (c := 1) (by decide +kernel) (by decide)
theorem x_125_36 : Xp 125 d 36 ls ((0, b) :: (0, a) :: st) t g Q = Xp 125 d 37 ls ((0, hkW (a - b)) :: st) t g Q := Xp_go (i := .isub) (len := 1) (by decide +kernel) rfl
theorem x_125_37 : Xp 125 d 37 [v0, v1, v2, (0, x), v4] st t g Q = Xp 125 d 38 [v0, v1, v2, (0, x), v4] ((0, x) :: st) t g Q := Xp_go (i := .iload_n 3) (len := 1) (by decide +kernel) rfl
theorem x_125_38 : Xp 125 d 38 ls ((0, b) :: (0, a) :: st) t g Q = Xp 125 d 39 ls ((0, hkW (a - b)) :: st) t g Q := Xp_go (i := .isub) (len := 1) (by decide +kernel) rfl
theorem x_125_39 : Xp 125 d 39 ls ((0, x) :: (0, a) :: (2, p) :: st) t g Q = ((hkJK p = 100 ∧ (100 = 102 → x = 0 ∨ x = 1) ∧ 0 ≤ a ∧ a < jL p) ∧ Xp 125 d 40 ls st t (hkSet g p a x) Q) := Xp_chk (i := .iastore) (len := 1) (by decide +kernel) rfl
theorem x_125_40 : Xp 125 d 40 [(2, x), v1, v2, v3, v4] st t g Q = Xp 125 d 41 [(2, x), v1, v2, v3, v4] ((2, x) :: st) t g Q := Xp_go (i := .aload_n 0) (len := 1) (by decide +kernel) rfl
theorem x_125_41 : Xp 125 d 41 ls ((2, p) :: st) t g Q = (hkJK p = 10 ∧ jA p 15 ≤ t ∧ Xp 125 d 44 ls ((2, jR p 15) :: st) t g Q) := xr_getR (idx := 45) (ci := 10) (k := 15) (by decide +kernel) (by decide +kernel) (by decide +kernel)
theorem x_125_44 : Xp 125 d 44 [v0, v1, v2, (0, x), v4] st t g Q = Xp 125 d 45 [v0, v1, v2, (0, x), v4] ((0, x) :: st) t g Q := Xp_go (i := .iload_n 3) (len := 1) (by decide +kernel) rfl
theorem x_125_45 : Xp 125 d 45 ls ((0, a) :: (2, p) :: st) t g Q = ((hkJK p = 100 ∧ 0 ≤ a ∧ a < jL p) ∧ Xp 125 d 46 ls ((0, g p a) :: st) t g Q) := Xp_chk (i := .iaload) (len := 1) (by decide +kernel) rfl
theorem x_125_46 : Xp 125 d 46 [(2, x), v1, v2, v3, v4] st t g Q = Xp 125 d 47 [(2, x), v1, v2, v3, v4] ((2, x) :: st) t g Q := Xp_go (i := .aload_n 0) (len := 1) (by decide +kernel) rfl
theorem x_125_47 : Xp 125 d 47 ls ((2, p) :: st) t g Q = (hkJK p = 10 ∧ Xp 125 d 50 ls ((0, g p 1) :: st) t g Q) := xr_getI (idx := 15) (ci := 10) (k := 1) (by decide +kernel) (by decide +kernel) (by decide +kernel)
theorem x_125_50 : Xp 125 d 50 ls ((0, b) :: (0, a) :: st) t g Q = ((a < b → Xp 125 d 104 ls st t g Q) ∧ (¬ (a < b) → Xp 125 d 53 ls st t g Q)) := xr_if2 (cd := .lt) (off := 54) (by decide +kernel) (by decide)
theorem x_125_53 : Xp 125 d 53 [(2, x), v1, v2, v3, v4] st t g Q = Xp 125 d 54 [(2, x), v1, v2, v3, v4] ((2, x) :: st) t g Q := Xp_go (i := .aload_n 0) (len := 1) (by decide +kernel) rfl
theorem x_125_54 : Xp 125 d 54 ls ((2, p) :: st) t g Q = (hkJK p = 10 ∧ jA p 15 ≤ t ∧ Xp 125 d 57 ls ((2, jR p 15) :: st) t g Q) := xr_getR (idx := 45) (ci := 10) (k := 15) (by decide +kernel) (by decide +kernel) (by decide +kernel)
theorem x_125_57 : Xp 125 d 57 [v0, v1, v2, (0, x), v4] st t g Q = Xp 125 d 58 [v0, v1, v2, (0, x), v4] ((0, x) :: st) t g Q := Xp_go (i := .iload_n 3) (len := 1) (by decide +kernel) rfl
theorem x_125_58 : Xp 125 d 58 ls (v :: w :: st) t g Q = ((hkP1 v ∧ hkP1 w) ∧ Xp 125 d 59 ls (v :: w :: v :: w :: st) t g Q) := Xp_chk (i := .dup2) (len := 1) (by decide +kernel) rfl
theorem x_125_59 : Xp 125 d 59 ls ((0, a) :: (2, p) :: st) t g Q = ((hkJK p = 100 ∧ 0 ≤ a ∧ a < jL p) ∧ Xp 125 d 60 ls ((0, g p a) :: st) t g Q) := Xp_chk (i := .iaload) (len := 1) (by decide +kernel) rfl
theorem x_125_60 : Xp 125 d 60 [(2, x), v1, v2, v3, v4] st t g Q = Xp 125 d 61 [(2, x), v1, v2, v3, v4] ((2, x) :: st) t g Q := Xp_go (i := .aload_n 0) (len := 1) (by decide +kernel) rfl
theorem x_125_61 : Xp 125 d 61 ls ((2, p) :: st) t g Q = (hkJK p = 10 ∧ Xp 125 d 64 ls ((0, g p 1) :: st) t g Q) := xr_getI (idx := 15) (ci := 10) (k := 1) (by decide +kernel) (by decide +kernel) (by decide +kernel)
theorem x_125_64 : Xp 125 d 64 ls ((0, b) :: (0, a) :: st) t g Q = Xp 125 d 65 ls ((0, hkW (a - b)) :: st) t g Q := Xp_go (i := .isub) (len := 1) (by decide +kernel) rfl
theorem x_125_65 : Xp 125 d 65 ls ((0, x) :: (0, a) :: (2, p) :: st) t g Q = ((hkJK p = 100 ∧ (100 = 102 → x = 0 ∨ x = 1) ∧ 0 ≤ a ∧ a < jL p) ∧ Xp 125 d 66 ls st t (hkSet g p a x) Q) := Xp_chk (i := .iastore) (len := 1) (by decide +kernel) rfl
theorem x_125_66 : Xp 125 d 66 [(2, x), v1, v2, v3, v4] st t g Q = Xp 125 d 67 [(2, x), v1, v2, v3, v4] ((2, x) :: st) t g Q := Xp_go (i := .aload_n 0) (len := 1) (by decide +kernel) rfl
theorem x_125_67 : Xp 125 d 67 ls (v :: st) t g Q = (hkP1 v ∧ Xp 125 d 68 ls (v :: v :: st) t g Q) := Xp_chk (i := .dup) (len := 1) (by decide +kernel) rfl
theorem x_125_68 : Xp 125 d 68 ls ((2, p) :: st) t g Q = (hkJK p = 10 ∧ Xp 125 d 71 ls ((0, g p 17) :: st) t g Q) := xr_getI (idx := 150) (ci := 10) (k := 17) (by decide +kernel) (by decide +kernel) (by decide +kernel)
theorem x_125_71 : Xp 125 d 71 ls st t g Q = Xp 125 d 72 ls ((0, 1) :: st) t g Q := xr_const (c := 1) (by decide +kernel) (by decide)
theorem x_125_72 : Xp 125 d 72 ls ((0, b) :: (0, a) :: st) t g Q = Xp 125 d 73 ls ((0, hkW (a + b)) :: st) t g Q := Xp_go (i := .iadd) (len := 1) (by decide +kernel) rfl
theorem x_125_73 : Xp 125 d 73 ls ((0, x) :: (2, p) :: st) t g Q = (hkJK p = 10 ∧ Xp 125 d 76 ls st t (hkSet g p 17 x) Q) := xr_putI (idx := 150) (ci := 10) (k := 17) (by decide +kernel) (by decide +kernel) (by decide +kernel)
theorem x_125_76 : Xp 125 d 76 [(2, x), v1, v2, v3, v4] st t g Q = Xp 125 d 77 [(2, x), v1, v2, v3, v4] ((2, x) :: st) t g Q := Xp_go (i := .aload_n 0) (len := 1) (by decide +kernel) rfl
theorem x_125_77 : Xp 125 d 77 [(2, x), v1, v2, v3, v4] st t g Q = Xp 125 d 78 [(2, x), v1, v2, v3, v4] ((2, x) :: st) t g Q := Xp_go (i := .aload_n 0) (len := 1) (by decide +kernel) rfl
theorem x_125_78 : Xp 125 d 78 ls ((2, p) :: st) t g Q = (hkJK p = 10 ∧ Xp 125 d 81 ls ((0, g p 0) :: st) t g Q) := xr_getI (idx := 11) (ci := 10) (k := 0) (by decide +kernel) (by decide +kernel) (by decide +kernel)
theorem x_125_81 : Xp 125 d 81 ls st t g Q = Xp 125 d 82 ls ((0, 2) :: st) t g Q := xr_const (c := 2) (by decide +kernel) (by decide)
theorem x_125_82 : Xp 125 d 82 ls ((0, b) :: (0, a) :: st) t g Q = (b ≠ 0 ∧ Xp 125 d 83 ls ((0, a.tmod b) :: st) t g Q) := Xp_chk (i := .irem) (len := 1) (by decide +kernel) rfl
theorem x_125_83 : Xp 125 d 83 ls ((0, a) :: st) t g Q = ((¬ (a = 0) → Xp 125 d 94 ls st t g Q) ∧ (¬ (¬ (a = 0)) → Xp 125 d 86 ls st t g Q)) := xr_if1 (cd := .ne) (off := 11) (by decide +kernel) (by decide)
theorem x_125_86 : Xp 125 d 86 [(2, x), v1, v2, v3, v4] st t g Q = Xp 125 d 87 [(2, x), v1, v2, v3, v4] ((2, x) :: st) t g Q := Xp_go (i := .aload_n 0) (len := 1) (by decide +kernel) rfl
theorem x_125_87 : Xp 125 d 87 ls ((2, p) :: st) t g Q = (hkJK p = 10 ∧ Xp 125 d 90 ls ((0, g p 16) :: st) t g Q) := xr_getI (idx := 147) (ci := 10) (k := 16) (by decide +kernel) (by decide +kernel) (by decide +kernel)
theorem x_125_90 : Xp 125 d 90 ls ((0, a) :: st) t g Q = Xp 125 d 91 ls ((0, hkW (-a)) :: st) t g Q := Xp_go (i := .ineg) (len := 1) (by decide +kernel) rfl
theorem x_125_91 : Xp 125 d 91 ls st t g Q = Xp 125 d 98 ls st t g Q := xr_goto (off := 7) (by decide +kernel) (by decide)
theorem x_125_94 : Xp 125 d 94 [(2, x), v1, v2, v3, v4] st t g Q = Xp 125 d 95 [(2, x), v1, v2, v3, v4] ((2, x) :: st) t g Q := Xp_go (i := .aload_n 0) (len := 1) (by decide +kernel) rfl
theorem x_125_95 : Xp 125 d 95 ls ((2, p) :: st) t g Q = (hkJK p = 10 ∧ Xp 125 d 98 ls ((0, g p 16) :: st) t g Q) := xr_getI (idx := 147) (ci := 10) (k := 16) (by decide +kernel) (by decide +kernel) (by decide +kernel)
theorem x_125_98 : Xp 125 d 98 ls ((0, x) :: (2, p) :: st) t g Q = (hkJK p = 10 ∧ Xp 125 d 101 ls st t (hkSet g p 16 x) Q) := xr_putI (idx := 147) (ci := 10) (k := 16) (by decide +kernel) (by decide +kernel) (by decide +kernel)
theorem x_125_101 : Xp 125 d 101 ls st t g Q = Xp 125 d 40 ls st t g Q := xr_goto (off := -61) (by decide +kernel) (by decide)
theorem x_125_104 : Xp 125 d 104 [v0, v1, (0, x), v3, v4] st t g Q = Xp 125 d 105 [v0, v1, (0, x), v3, v4] ((0, x) :: st) t g Q := Xp_go (i := .iload_n 2) (len := 1) (by decide +kernel) rfl
theorem x_125_105 : Xp 125 d 105 [(2, x), v1, v2, v3, v4] st t g Q = Xp 125 d 106 [(2, x), v1, v2, v3, v4] ((2, x) :: st) t g Q := Xp_go (i := .aload_n 0) (len := 1) (by decide +kernel) rfl
theorem x_125_106 : Xp 125 d 106 ls ((2, p) :: st) t g Q = (hkJK p = 10 ∧ jA p 15 ≤ t ∧ Xp 125 d 109 ls ((2, jR p 15) :: st) t g Q) := xr_getR (idx := 45) (ci := 10) (k := 15) (by decide +kernel) (by decide +kernel) (by decide +kernel)
theorem x_125_109 : Xp 125 d 109 [v0, v1, v2, (0, x), v4] st t g Q = Xp 125 d 110 [v0, v1, v2, (0, x), v4] ((0, x) :: st) t g Q := Xp_go (i := .iload_n 3) (len := 1) (by decide +kernel) rfl
theorem x_125_110 : Xp 125 d 110 ls ((0, a) :: (2, p) :: st) t g Q = ((hkJK p = 100 ∧ 0 ≤ a ∧ a < jL p) ∧ Xp 125 d 111 ls ((0, g p a) :: st) t g Q) := Xp_chk (i := .iaload) (len := 1) (by decide +kernel) rfl
theorem x_125_111 : Xp 125 d 111 ls ((0, b) :: (0, a) :: st) t g Q = Xp 125 d 112 ls ((0, hkShr a b) :: st) t g Q := Xp_go (i := .ishr) (len := 1) (by decide +kernel) rfl
theorem x_125_112 : Xp 125 d 112 ls st t g Q = Xp 125 d 113 ls ((0, 1) :: st) t g Q := xr_const (c := 1) (by decide +kernel) (by decide)
theorem x_125_113 : Xp 125 d 113 ls ((0, b) :: (0, a) :: st) t g Q = Xp 125 d 114 ls ((0, hkAnd a b) :: st) t g Q := Xp_go (i := .iand) (len := 1) (by decide +kernel) rfl
theorem x_125_114 : Xp 125 d 114 ls st t g Q = Xp 125 d 115 ls ((0, 1) :: st) t g Q := xr_const (c := 1) (by decide +kernel) (by decide)
theorem x_125_115 : Xp 125 d 115 ls ((0, b) :: (0, a) :: st) t g Q = ((¬ (a = b) → Xp 125 d 124 ls st t g Q) ∧ (¬ (¬ (a = b)) → Xp 125 d 118 ls st t g Q)) := xr_if2 (cd := .ne) (off := 9) (by decide +kernel) (by decide)
theorem x_125_118 : Xp 125 d 118 [(2, x), v1, v2, v3, v4] st t g Q = Xp 125 d 119 [(2, x), v1, v2, v3, v4] ((2, x) :: st) t g Q := Xp_go (i := .aload_n 0) (len := 1) (by decide +kernel) rfl
theorem x_125_119 : Xp 125 d 119 ls st t g Q = Xp 125 d 120 ls ((0, 0) :: st) t g Q := xr_const (c := 0) (by decide +kernel) (by decide)
theorem x_125_120 : Xp 125 d 120 ls ((0, x) :: (2, p) :: st) t g Q = (hkJK p = 10 ∧ Xp 125 d 123 ls st t (hkSet g p 16 x) Q) := xr_putI (idx := 147) (ci := 10) (k := 16) (by decide +kernel) (by decide +kernel) (by decide +kernel)
theorem x_125_123 : Xp 125 d 123 ls [] t g Q = Q none t g := xr_retV (by decide +kernel) (by decide +kernel)
theorem x_125_124 : Xp 125 d 124 [v0, v1, (0, x), v3, v4] st t g Q = Xp 125 d 125 [v0, v1, (0, x), v3, v4] ((0, x) :: st) t g Q := Xp_go (i := .iload_n 2) (len := 1) (by decide +kernel) rfl
theorem x_125_125 : Xp 125 d 125 ls st t g Q = Xp 125 d 126 ls ((0, 1) :: st) t g Q := xr_const (c := 1) (by decide +kernel) (by decide)
theorem x_125_126 : Xp 125 d 126 [(2, x), v1, v2, v3, v4] st t g Q = Xp 125 d 127 [(2, x), v1, v2, v3, v4] ((2, x) :: st) t g Q := Xp_go (i := .aload_n 0) (len := 1) (by decide +kernel) rfl
theorem x_125_127 : Xp 125 d 127 ls ((2, p) :: st) t g Q = (hkJK p = 10 ∧ jA p 15 ≤ t ∧ Xp 125 d 130 ls ((2, jR p 15) :: st) t g Q) := xr_getR (idx := 45) (ci := 10) (k := 15) (by decide +kernel) (by decide +kernel) (by decide +kernel)
theorem x_125_130 : Xp 125 d 130 [v0, v1, v2, (0, x), v4] st t g Q = Xp 125 d 131 [v0, v1, v2, (0, x), v4] ((0, x) :: st) t g Q := Xp_go (i := .iload_n 3) (len := 1) (by decide +kernel) rfl
theorem x_125_131 : Xp 125 d 131 ls ((0, a) :: (2, p) :: st) t g Q = ((hkJK p = 100 ∧ 0 ≤ a ∧ a < jL p) ∧ Xp 125 d 132 ls ((0, g p a) :: st) t g Q) := Xp_chk (i := .iaload) (len := 1) (by decide +kernel) rfl
theorem x_125_132 : Xp 125 d 132 ls ((0, b) :: (0, a) :: st) t g Q = Xp 125 d 133 ls ((0, hkShl a b) :: st) t g Q := Xp_go (i := .ishl) (len := 1) (by decide +kernel) rfl
theorem x_125_133 : Xp 125 d 133 ls ((0, b) :: (0, a) :: st) t g Q = Xp 125 d 134 ls ((0, hkOr a b) :: st) t g Q := Xp_go (i := .ior) (len := 1) (by decide +kernel) rfl
theorem x_125_134 : Xp 125 d 134 [v0, v1, v2, v3, v4] ((0, x) :: st) t g Q = (hkP1 v1 ∧ Xp 125 d 135 [v0, v1, (0, x), v3, v4] st t g Q) := Xp_chk (i := .istore_n 2) (len := 1) (by decide +kernel) rfl
theorem x_125_135 : Xp 125 d 135 ls st t g Q = Xp 125 d 136 ls ((0, 0) :: st) t g Q := xr_const (c := 0) (by decide +kernel) (by decide)
theorem x_125_136 : Xp 125 d 136 [v0, v1, v2, v3, v4] ((0, x) :: st) t g Q = (hkP1 v3 ∧ Xp 125 d 138 [v0, v1, v2, v3, (0, x)] st t g Q) := Xp_chk (i := .istore 4) (len := 2) (by decide +kernel) rfl
theorem x_125_138 : Xp 125 d 138 [v0, v1, v2, v3, (0, x)] st t g Q = Xp 125 d 140 [v0, v1, v2, v3, (0, x)] ((0, x) :: st) t g Q := Xp_go (i := .iload 4) (len := 2) (by decide +kernel) rfl
theorem x_125_140 : Xp 125 d 140 [v0, v1, v2, (0, x), v4] st t g Q = Xp 125 d 141 [v0, v1, v2, (0, x), v4] ((0, x) :: st) t g Q := Xp_go (i := .iload_n 3) (len := 1) (by decide +kernel) rfl
theorem x_125_141 : Xp 125 d 141 ls ((0, b) :: (0, a) :: st) t g Q = ((b ≤ a → Xp 125 d 182 ls st t g Q) ∧ (¬ (b ≤ a) → Xp 125 d 144 ls st t g Q)) := xr_if2 (cd := .ge) (off := 41) (by decide +kernel) (by decide)
theorem x_125_144 : Xp 125 d 144 [(2, x), v1, v2, v3, v4] st t g Q = Xp 125 d 145 [(2, x), v1, v2, v3, v4] ((2, x) :: st) t g Q := Xp_go (i := .aload_n 0) (len := 1) (by decide +kernel) rfl
theorem x_125_145 : Xp 125 d 145 [(2, x), v1, v2, v3, v4] st t g Q = Xp 125 d 146 [(2, x), v1, v2, v3, v4] ((2, x) :: st) t g Q := Xp_go (i := .aload_n 0) (len := 1) (by decide +kernel) rfl
theorem x_125_146 : Xp 125 d 146 ls ((2, p) :: st) t g Q = (hkJK p = 10 ∧ jA p 15 ≤ t ∧ Xp 125 d 149 ls ((2, jR p 15) :: st) t g Q) := xr_getR (idx := 45) (ci := 10) (k := 15) (by decide +kernel) (by decide +kernel) (by decide +kernel)
theorem x_125_149 : Xp 125 d 149 [v0, v1, v2, v3, (0, x)] st t g Q = Xp 125 d 151 [v0, v1, v2, v3, (0, x)] ((0, x) :: st) t g Q := Xp_go (i := .iload 4) (len := 2) (by decide +kernel) rfl
theorem x_125_151 : Xp 125 d 151 ls ((0, a) :: (2, p) :: st) t g Q = ((hkJK p = 100 ∧ 0 ≤ a ∧ a < jL p) ∧ Xp 125 d 152 ls ((0, g p a) :: st) t g Q) := Xp_chk (i := .iaload) (len := 1) (by decide +kernel) rfl
theorem x_125_152 : Xp 125 d 152 [(2, x), v1, v2, v3, v4] st t g Q = Xp 125 d 153 [(2, x), v1, v2, v3, v4] ((2, x) :: st) t g Q := Xp_go (i := .aload_n 0) (len := 1) (by decide +kernel) rfl
theorem x_125_153 : Xp 125 d 153 ls ((2, p) :: st) t g Q = (hkJK p = 10 ∧ jA p 15 ≤ t ∧ Xp 125 d 156 ls ((2, jR p 15) :: st) t g Q) := xr_getR (idx := 45) (ci := 10) (k := 15) (by decide +kernel) (by decide +kernel) (by decide +kernel)
theorem x_125_156 : Xp 125 d 156 [v0, v1, v2, (0, x), v4] st t g Q = Xp 125 d 157 [v0, v1, v2, (0, x), v4] ((0, x) :: st) t g Q := Xp_go (i := .iload_n 3) (len := 1) (by decide +kernel) rfl
theorem x_125_157 : Xp 125 d 157 ls ((0, a) :: (2, p) :: st) t g Q = ((hkJK p = 100 ∧ 0 ≤ a ∧ a < jL p) ∧ Xp 125 d 158 ls ((0, g p a) :: st) t g Q) := Xp_chk (i := .iaload) (len := 1) (by decide +kernel) rfl
theorem x_125_158 : Xp 125 d 158 ls ((0, b) :: (0, a) :: st) t g Q = ((b ≤ a → Xp 125 d 169 ls st t g Q) ∧ (¬ (b ≤ a) → Xp 125 d 161 ls st t g Q)) := xr_if2 (cd := .ge) (off := 11) (by decide +kernel) (by decide)
theorem x_125_161 : Xp 125 d 161 [(2, x), v1, v2, v3, v4] st t g Q = Xp 125 d 162 [(2, x), v1, v2, v3, v4] ((2, x) :: st) t g Q := Xp_go (i := .aload_n 0) (len := 1) (by decide +kernel) rfl
theorem x_125_162 : Xp 125 d 162 ls ((2, p) :: st) t g Q = (hkJK p = 10 ∧ Xp 125 d 165 ls ((0, g p 16) :: st) t g Q) := xr_getI (idx := 147) (ci := 10) (k := 16) (by decide +kernel) (by decide +kernel) (by decide +kernel)
theorem x_125_165 : Xp 125 d 165 ls ((0, a) :: st) t g Q = Xp 125 d 166 ls ((0, hkW (-a)) :: st) t g Q := Xp_go (i := .ineg) (len := 1) (by decide +kernel) rfl
theorem x_125_166 : Xp 125 d 166 ls st t g Q = Xp 125 d 173 ls st t g Q := xr_goto (off := 7) (by decide +kernel) (by decide)
theorem x_125_169 : Xp 125 d 169 [(2, x), v1, v2, v3, v4] st t g Q = Xp 125 d 170 [(2, x), v1, v2, v3, v4] ((2, x) :: st) t g Q := Xp_go (i := .aload_n 0) (len := 1) (by decide +kernel) rfl
theorem x_125_170 : Xp 125 d 170 ls ((2, p) :: st) t g Q = (hkJK p = 10 ∧ Xp 125 d 173 ls ((0, g p 16) :: st) t g Q) := xr_getI (idx := 147) (ci := 10) (k := 16) (by decide +kernel) (by decide +kernel) (by decide +kernel)
theorem x_125_173 : Xp 125 d 173 ls ((0, x) :: (2, p) :: st) t g Q = (hkJK p = 10 ∧ Xp 125 d 176 ls st t (hkSet g p 16 x) Q) := xr_putI (idx := 147) (ci := 10) (k := 16) (by decide +kernel) (by decide +kernel) (by decide +kernel)
theorem x_125_176 : Xp 125 d 176 [v0, v1, v2, v3, (0, x)] st t g Q = (hkP1 v3 ∧ Xp 125 d 179 [v0, v1, v2, v3, (0, hkW (x + 1))] st t g Q) := Xp_chk (i := .iinc 4 (1)) (len := 3) (by decide +kernel) rfl
theorem x_125_179 : Xp 125 d 179 ls st t g Q = Xp 125 d 138 ls st t g Q := xr_goto (off := -41) (by decide +kernel) (by decide)
theorem x_125_182 : Xp 125 d 182 [v0, v1, v2, (0, x), v4] st t g Q = (hkP1 v2 ∧ Xp 125 d 185 [v0, v1, v2, (0, hkW (x + 1)), v4] st t g Q) := Xp_chk (i := .iinc 3 (1)) (len := 3) (by decide +kernel) rfl
theorem x_125_185 : Xp 125 d 185 ls st t g Q = Xp 125 d 14 ls st t g Q := xr_goto (off := -171) (by decide +kernel) (by decide)
theorem x_125_188 : Xp 125 d 188 [(2, x), v1, v2, v3, v4] st t g Q = Xp 125 d 189 [(2, x), v1, v2, v3, v4] ((2, x) :: st) t g Q := Xp_go (i := .aload_n 0) (len := 1) (by decide +kernel) rfl
theorem x_125_189 : Xp 125 d 189 [(2, x), v1, v2, v3, v4] st t g Q = Xp 125 d 190 [(2, x), v1, v2, v3, v4] ((2, x) :: st) t g Q := Xp_go (i := .aload_n 0) (len := 1) (by decide +kernel) rfl
theorem x_125_190 : Xp 125 d 190 ls ((2, p) :: st) t g Q = (hkJK p = 10 ∧ jA p 4 ≤ t ∧ Xp 125 d 193 ls ((2, jR p 4) :: st) t g Q) := xr_getR (idx := 22) (ci := 10) (k := 4) (by decide +kernel) (by decide +kernel) (by decide +kernel)
theorem x_125_193 : Xp 125 d 193 [v0, v1, (0, x), v3, v4] st t g Q = Xp 125 d 194 [v0, v1, (0, x), v3, v4] ((0, x) :: st) t g Q := Xp_go (i := .iload_n 2) (len := 1) (by decide +kernel) rfl
theorem x_125_194 : Xp 125 d 194 ls ((0, a) :: (2, p) :: st) t g Q = ((hkJK p = 100 ∧ 0 ≤ a ∧ a < jL p) ∧ Xp 125 d 195 ls ((0, g p a) :: st) t g Q) := Xp_chk (i := .iaload) (len := 1) (by decide +kernel) rfl
theorem x_125_195 : Xp 125 d 195 ls ((0, x) :: (2, p) :: st) t g Q = (hkJK p = 10 ∧ Xp 125 d 198 ls st t (hkSet g p 18 x) Q) := xr_putI (idx := 153) (ci := 10) (k := 18) (by decide +kernel) (by decide +kernel) (by decide +kernel)
theorem x_125_198 : Xp 125 d 198 ls [] t g Q = Q none t g := xr_retV (by decide +kernel) (by decide +kernel)
-- 126: HookBoxesModel.turnsOf(III)I
theorem x_126_0 : Xp 126 d 0 [(2, x), v1, v2, v3] st t g Q = Xp 126 d 1 [(2, x), v1, v2, v3] ((2, x) :: st) t g Q := Xp_go (i := .aload_n 0) (len := 1) (by decide +kernel) rfl
theorem x_126_1 : Xp 126 d 1 ls ((2, p) :: st) t g Q = (hkJK p = 10 ∧ jA p 5 ≤ t ∧ Xp 126 d 4 ls ((2, jR p 5) :: st) t g Q) := xr_getR (idx := 25) (ci := 10) (k := 5) (by decide +kernel) (by decide +kernel) (by decide +kernel)
theorem x_126_4 : Xp 126 d 4 [v0, (0, x), v2, v3] st t g Q = Xp 126 d 5 [v0, (0, x), v2, v3] ((0, x) :: st) t g Q := Xp_go (i := .iload_n 1) (len := 1) (by decide +kernel) rfl
theorem x_126_5 : Xp 126 d 5 ls ((0, a) :: (2, p) :: st) t g Q = ((hkJK p = 100 ∧ 0 ≤ a ∧ a < jL p) ∧ Xp 126 d 6 ls ((0, g p a) :: st) t g Q) := Xp_chk (i := .iaload) (len := 1) (by decide +kernel) rfl
theorem x_126_6 : Xp 126 d 6 [(2, x), v1, v2, v3] st t g Q = Xp 126 d 7 [(2, x), v1, v2, v3] ((2, x) :: st) t g Q := Xp_go (i := .aload_n 0) (len := 1) (by decide +kernel) rfl
theorem x_126_7 : Xp 126 d 7 ls ((2, p) :: st) t g Q = (hkJK p = 10 ∧ jA p 5 ≤ t ∧ Xp 126 d 10 ls ((2, jR p 5) :: st) t g Q) := xr_getR (idx := 25) (ci := 10) (k := 5) (by decide +kernel) (by decide +kernel) (by decide +kernel)
theorem x_126_10 : Xp 126 d 10 [v0, v1, (0, x), v3] st t g Q = Xp 126 d 11 [v0, v1, (0, x), v3] ((0, x) :: st) t g Q := Xp_go (i := .iload_n 2) (len := 1) (by decide +kernel) rfl
theorem x_126_11 : Xp 126 d 11 ls ((0, a) :: (2, p) :: st) t g Q = ((hkJK p = 100 ∧ 0 ≤ a ∧ a < jL p) ∧ Xp 126 d 12 ls ((0, g p a) :: st) t g Q) := Xp_chk (i := .iaload) (len := 1) (by decide +kernel) rfl
theorem x_126_12 : Xp 126 d 12 ls ((0, b) :: (0, a) :: st) t g Q = Xp 126 d 13 ls ((0, hkW (a + b)) :: st) t g Q := Xp_go (i := .iadd) (len := 1) (by decide +kernel) rfl
theorem x_126_13 : Xp 126 d 13 [(2, x), v1, v2, v3] st t g Q = Xp 126 d 14 [(2, x), v1, v2, v3] ((2, x) :: st) t g Q := Xp_go (i := .aload_n 0) (len := 1) (by decide +kernel) rfl
theorem x_126_14 : Xp 126 d 14 ls ((2, p) :: st) t g Q = (hkJK p = 10 ∧ jA p 5 ≤ t ∧ Xp 126 d 17 ls ((2, jR p 5) :: st) t g Q) := xr_getR (idx := 25) (ci := 10) (k := 5) (by decide +kernel) (by decide +kernel) (by decide +kernel)
theorem x_126_17 : Xp 126 d 17 [v0, v1, v2, (0, x)] st t g Q = Xp 126 d 18 [v0, v1, v2, (0, x)] ((0, x) :: st) t g Q := Xp_go (i := .iload_n 3) (len := 1) (by decide +kernel) rfl
theorem x_126_18 : Xp 126 d 18 ls ((0, a) :: (2, p) :: st) t g Q = ((hkJK p = 100 ∧ 0 ≤ a ∧ a < jL p) ∧ Xp 126 d 19 ls ((0, g p a) :: st) t g Q) := Xp_chk (i := .iaload) (len := 1) (by decide +kernel) rfl
theorem x_126_19 : Xp 126 d 19 ls ((0, b) :: (0, a) :: st) t g Q = Xp 126 d 20 ls ((0, hkW (a - b)) :: st) t g Q := Xp_go (i := .isub) (len := 1) (by decide +kernel) rfl
theorem x_126_20 : Xp 126 d 20 [(2, x), v1, v2, v3] st t g Q = Xp 126 d 21 [(2, x), v1, v2, v3] ((2, x) :: st) t g Q := Xp_go (i := .aload_n 0) (len := 1) (by decide +kernel) rfl
theorem x_126_21 : Xp 126 d 21 ls ((2, p) :: st) t g Q = (hkJK p = 10 ∧ Xp 126 d 24 ls ((0, g p 1) :: st) t g Q) := xr_getI (idx := 15) (ci := 10) (k := 1) (by decide +kernel) (by decide +kernel) (by decide +kernel)
theorem x_126_24 : Xp 126 d 24 ls ((0, b) :: (0, a) :: st) t g Q = (b ≠ 0 ∧ Xp 126 d 25 ls ((0, hkW (a.tdiv b)) :: st) t g Q) := Xp_chk (i := .idiv) (len := 1) (by decide +kernel) rfl
theorem x_126_25 : Xp 126 d 25 ls [(0, x)] t g Q = Q (some (0, x)) t g := xr_retI (by decide +kernel) (by decide +kernel)
-- 127: HookBoxesModel.turns(III)I
theorem x_127_0 : Xp 127 d 0 [(2, x), v1, v2, v3, v4, v5, v6, v7, v8, v9, v10] st t g Q = Xp 127 d 1 [(2, x), v1, v2, v3, v4, v5, v6, v7, v8, v9, v10] ((2, x) :: st) t g Q := Xp_go (i := .aload_n 0) (len := 1) (by decide +kernel) rfl
theorem x_127_1 : Xp 127 d 1 [v0, (0, x), v2, v3, v4, v5, v6, v7, v8, v9, v10] st t g Q = Xp 127 d 2 [v0, (0, x), v2, v3, v4, v5, v6, v7, v8, v9, v10] ((0, x) :: st) t g Q := Xp_go (i := .iload_n 1) (len := 1) (by decide +kernel) rfl
theorem x_127_2 : Xp 127 (d + 1) 2 ls ((0, a1) :: (2, a0) :: st) t g Q = (hkJK a0 = 10 ∧ hkC8 st ∧ Xp 109 d 0 [(2, a0), (0, a1)] [] t g (fun r t g => Xp 127 (d + 1) 5 ls (hkPush r st) t g Q)) := xr_invV (idx := 123) (y' := 109) (ci := 10) (tg := [2, 0]) (by decide +kernel) (by decide +kernel) (by decide +kernel) (by decide +kernel) rfl rfl rfl
theorem x_127_5 : Xp 127 d 5 ls ((0, a) :: st) t g Q = ((a = 0 → Xp 127 d 28 ls st t g Q) ∧ (¬ (a = 0) → Xp 127 d 8 ls st t g Q)) := xr_if1 (cd := .eq) (off := 23) (by decide +kernel) (by decide)
theorem x_127_8 : Xp 127 d 8 [(2, x), v1, v2, v3, v4, v5, v6, v7, v8, v9, v10] st t g Q = Xp 127 d 9 [(2, x), v1, v2, v3, v4, v5, v6, v7, v8, v9, v10] ((2, x) :: st) t g Q := Xp_go (i := .aload_n 0) (len := 1) (by decide +kernel) rfl
theorem x_127_9 : Xp 127 d 9 [v0, v1, (0, x), v3, v4, v5, v6, v7, v8, v9, v10] st t g Q = Xp 127 d 10 [v0, v1, (0, x), v3, v4, v5, v6, v7, v8, v9, v10] ((0, x) :: st) t g Q := Xp_go (i := .iload_n 2) (len := 1) (by decide +kernel) rfl
theorem x_127_10 : Xp 127 (d + 1) 10 ls ((0, a1) :: (2, a0) :: st) t g Q = (hkJK a0 = 10 ∧ hkC8 st ∧ Xp 109 d 0 [(2, a0), (0, a1)] [] t g (fun r t g => Xp 127 (d + 1) 13 ls (hkPush r st) t g Q)) := xr_invV (idx := 123) (y' := 109) (ci := 10) (tg := [2, 0]) (by decide +kernel) (by decide +kernel) (by decide +kernel) (by decide +kernel) rfl rfl rfl
theorem x_127_13 : Xp 127 d 13 ls ((0, a) :: st) t g Q = ((a = 0 → Xp 127 d 28 ls st t g Q) ∧ (¬ (a = 0) → Xp 127 d 16 ls st t g Q)) := xr_if1 (cd := .eq) (off := 15) (by decide +kernel) (by decide)
theorem x_127_16 : Xp 127 d 16 [v0, v1, v2, (0, x), v4, v5, v6, v7, v8, v9, v10] st t g Q = Xp 127 d 17 [v0, v1, v2, (0, x), v4, v5, v6, v7, v8, v9, v10] ((0, x) :: st) t g Q := Xp_go (i := .iload_n 3) (len := 1) (by decide +kernel) rfl
theorem x_127_17 : Xp 127 d 17 ls ((0, a) :: st) t g Q = Xp 127 d 18 ls ((1, a) :: st) t g Q := Xp_go (i := .i2l) (len := 1) (by decide +kernel) rfl
theorem x_127_18 : Xp 127 d 18 ls st t g Q = Xp 127 d 19 ls ((1, 0) :: st) t g Q := Xp_go (i := .lconst 0) (len := 1) (by decide +kernel) rfl
theorem x_127_19 : Xp 127 d 19 ls st t g Q = Xp 127 d 22 ls ((1, 3) :: st) t g Q := xr_ldc2 (idx := 184) (by decide +kernel) (by decide +kernel)
theorem x_127_22 : Xp 127 (d + 1) 22 ls ((1, a2) :: (1, a1) :: (1, a0) :: st) t g Q = (hkC8 st ∧ Xp 107 d 0 [(1, a0), hkU, (1, a1), hkU, (1, a2), hkU] [] t g (fun r t g => Xp 127 (d + 1) 25 ls (hkPush r st) t g Q)) := xr_invS (idx := 115) (y' := 107) (tg := [1, 1, 1]) (by decide +kernel) (by decide +kernel) (by decide +kernel) rfl rfl
theorem x_127_25 : Xp 127 d 25 ls ((0, a) :: st) t g Q = ((¬ (a = 0) → Xp 127 d 31 ls st t g Q) ∧ (¬ (¬ (a = 0)) → Xp 127 d 28 ls st t g Q)) := xr_if1 (cd := .ne) (off := 6) (by decide +kernel) (by decide)
theorem x_127_28 : Xp 127 d 28 ls st t g Q = Xp 127 d 30 ls ((0, -2) :: st) t g Q := xr_bi (c := -2) (by decide +kernel) (by decide)
theorem x_127_30 : Xp 127 d 30 ls [(0, x)] t g Q = Q (some (0, x)) t g := xr_retI (by decide +kernel) (by decide +kernel)
theorem x_127_31 : Xp 127 d 31 ls st t g Q = Xp 127 d 32 ls ((0, -1) :: st) t g Q := xr_const (c := -1) (by decide +kernel) (by decide)
theorem x_127_32 : Xp 127 d 32 [v0, v1, v2, v3, v4, v5, v6, v7, v8, v9, v10] ((0, x) :: st) t g Q = (hkP1 v3 ∧ Xp 127 d 34 [v0, v1, v2, v3, (0, x), v5, v6, v7, v8, v9, v10] st t g Q) := Xp_chk (i := .istore 4) (len := 2) (by decide +kernel) rfl
theorem x_127_34 : Xp 127 d 34 ls st t g Q = Xp 127 d 35 ls ((0, -1) :: st) t g Q := xr_const (c := -1) (by decide +kernel) (by decide)
theorem x_127_35 : Xp 127 d 35 [v0, v1, v2, v3, v4, v5, v6, v7, v8, v9, v10] ((0, x) :: st) t g Q = (hkP1 v4 ∧ Xp 127 d 37 [v0, v1, v2, v3, v4, (0, x), v6, v7, v8, v9, v10] st t g Q) := Xp_chk (i := .istore 5) (len := 2) (by decide +kernel) rfl
theorem x_127_37 : Xp 127 d 37 ls st t g Q = Xp 127 d 38 ls ((0, 0) :: st) t g Q := xr_const (c := 0) (by decide +kernel) (by decide)
theorem x_127_38 : Xp 127 d 38 [v0, v1, v2, v3, v4, v5, v6, v7, v8, v9, v10] ((0, x) :: st) t g Q = (hkP1 v5 ∧ Xp 127 d 40 [v0, v1, v2, v3, v4, v5, (0, x), v7, v8, v9, v10] st t g Q) := Xp_chk (i := .istore 6) (len := 2) (by decide +kernel) rfl
theorem x_127_40 : Xp 127 d 40 ls st t g Q = Xp 127 d 41 ls ((0, 0) :: st) t g Q := xr_const (c := 0) (by decide +kernel) (by decide)
theorem x_127_41 : Xp 127 d 41 [v0, v1, v2, v3, v4, v5, v6, v7, v8, v9, v10] ((0, x) :: st) t g Q = (hkP1 v6 ∧ Xp 127 d 43 [v0, v1, v2, v3, v4, v5, v6, (0, x), v8, v9, v10] st t g Q) := Xp_chk (i := .istore 7) (len := 2) (by decide +kernel) rfl
theorem x_127_43 : Xp 127 d 43 ls st t g Q = Xp 127 d 44 ls ((0, 0) :: st) t g Q := xr_const (c := 0) (by decide +kernel) (by decide)
theorem x_127_44 : Xp 127 d 44 [v0, v1, v2, v3, v4, v5, v6, v7, v8, v9, v10] ((0, x) :: st) t g Q = (hkP1 v7 ∧ Xp 127 d 46 [v0, v1, v2, v3, v4, v5, v6, v7, (0, x), v9, v10] st t g Q) := Xp_chk (i := .istore 8) (len := 2) (by decide +kernel) rfl
theorem x_127_46 : Xp 127 d 46 [v0, v1, v2, v3, v4, v5, v6, v7, (0, x), v9, v10] st t g Q = Xp 127 d 48 [v0, v1, v2, v3, v4, v5, v6, v7, (0, x), v9, v10] ((0, x) :: st) t g Q := Xp_go (i := .iload 8) (len := 2) (by decide +kernel) rfl
theorem x_127_48 : Xp 127 d 48 [(2, x), v1, v2, v3, v4, v5, v6, v7, v8, v9, v10] st t g Q = Xp 127 d 49 [(2, x), v1, v2, v3, v4, v5, v6, v7, v8, v9, v10] ((2, x) :: st) t g Q := Xp_go (i := .aload_n 0) (len := 1) (by decide +kernel) rfl
theorem x_127_49 : Xp 127 d 49 ls ((2, p) :: st) t g Q = (hkJK p = 10 ∧ Xp 127 d 52 ls ((0, g p 2) :: st) t g Q) := xr_getI (idx := 97) (ci := 10) (k := 2) (by decide +kernel) (by decide +kernel) (by decide +kernel)
theorem x_127_52 : Xp 127 d 52 ls ((0, b) :: (0, a) :: st) t g Q = ((b ≤ a → Xp 127 d 126 ls st t g Q) ∧ (¬ (b ≤ a) → Xp 127 d 55 ls st t g Q)) := xr_if2 (cd := .ge) (off := 74) (by decide +kernel) (by decide)
theorem x_127_55 : Xp 127 d 55 [(2, x), v1, v2, v3, v4, v5, v6, v7, v8, v9, v10] st t g Q = Xp 127 d 56 [(2, x), v1, v2, v3, v4, v5, v6, v7, v8, v9, v10] ((2, x) :: st) t g Q := Xp_go (i := .aload_n 0) (len := 1) (by decide +kernel) rfl
theorem x_127_56 : Xp 127 d 56 [v0, (0, x), v2, v3, v4, v5, v6, v7, v8, v9, v10] st t g Q = Xp 127 d 57 [v0, (0, x), v2, v3, v4, v5, v6, v7, v8, v9, v10] ((0, x) :: st) t g Q := Xp_go (i := .iload_n 1) (len := 1) (by decide +kernel) rfl
theorem x_127_57 : Xp 127 d 57 [v0, v1, (0, x), v3, v4, v5, v6, v7, v8, v9, v10] st t g Q = Xp 127 d 58 [v0, v1, (0, x), v3, v4, v5, v6, v7, v8, v9, v10] ((0, x) :: st) t g Q := Xp_go (i := .iload_n 2) (len := 1) (by decide +kernel) rfl
theorem x_127_58 : Xp 127 d 58 [v0, v1, v2, v3, v4, v5, v6, v7, (0, x), v9, v10] st t g Q = Xp 127 d 60 [v0, v1, v2, v3, v4, v5, v6, v7, (0, x), v9, v10] ((0, x) :: st) t g Q := Xp_go (i := .iload 8) (len := 2) (by decide +kernel) rfl
theorem x_127_60 : Xp 127 (d + 1) 60 ls ((0, a3) :: (0, a2) :: (0, a1) :: (2, a0) :: st) t g Q = (hkJK a0 = 10 ∧ hkC8 st ∧ Xp 121 d 0 [(2, a0), (0, a1), (0, a2), (0, a3), hkU] [] t g (fun r t g => Xp 127 (d + 1) 63 ls (hkPush r st) t g Q)) := xr_invV (idx := 177) (y' := 121) (ci := 10) (tg := [2, 0, 0, 0]) (by decide +kernel) (by decide +kernel) (by decide +kernel) (by decide +kernel) rfl rfl rfl
theorem x_127_63 : Xp 127 d 63 [v0, v1, v2, v3, v4, v5, v6, v7, v8, v9, v10] ((0, x) :: st) t g Q = (hkP1 v8 ∧ Xp 127 d 65 [v0, v1, v2, v3, v4, v5, v6, v7, v8, (0, x), v10] st t g Q) := Xp_chk (i := .istore 9) (len := 2) (by decide +kernel) rfl
theorem x_127_65 : Xp 127 d 65 [v0, v1, v2, v3, v4, v5, v6, v7, v8, (0, x), v10] st t g Q = Xp 127 d 67 [v0, v1, v2, v3, v4, v5, v6, v7, v8, (0, x), v10] ((0, x) :: st) t g Q := Xp_go (i := .iload 9) (len := 2) (by decide +kernel) rfl
theorem x_127_67 : Xp 127 d 67 ls ((0, a) :: st) t g Q = ((a = 0 → Xp 127 d 120 ls st t g Q) ∧ (¬ (a = 0) → Xp 127 d 70 ls st t g Q)) := xr_if1 (cd := .eq) (off := 53) (by decide +kernel) (by decide)
theorem x_127_70 : Xp 127 d 70 [(2, x), v1, v2, v3, v4, v5, v6, v7, v8, v9, v10] st t g Q = Xp 127 d 71 [(2, x), v1, v2, v3, v4, v5, v6, v7, v8, v9, v10] ((2, x) :: st) t g Q := Xp_go (i := .aload_n 0) (len := 1) (by decide +kernel) rfl
theorem x_127_71 : Xp 127 d 71 [v0, (0, x), v2, v3, v4, v5, v6, v7, v8, v9, v10] st t g Q = Xp 127 d 72 [v0, (0, x), v2, v3, v4, v5, v6, v7, v8, v9, v10] ((0, x) :: st) t g Q := Xp_go (i := .iload_n 1) (len := 1) (by decide +kernel) rfl
theorem x_127_72 : Xp 127 d 72 [v0, v1, (0, x), v3, v4, v5, v6, v7, v8, v9, v10] st t g Q = Xp 127 d 73 [v0, v1, (0, x), v3, v4, v5, v6, v7, v8, v9, v10] ((0, x) :: st) t g Q := Xp_go (i := .iload_n 2) (len := 1) (by decide +kernel) rfl
theorem x_127_73 : Xp 127 d 73 [v0, v1, v2, v3, v4, v5, v6, v7, (0, x), v9, v10] st t g Q = Xp 127 d 75 [v0, v1, v2, v3, v4, v5, v6, v7, (0, x), v9, v10] ((0, x) :: st) t g Q := Xp_go (i := .iload 8) (len := 2) (by decide +kernel) rfl
theorem x_127_75 : Xp 127 (d + 1) 75 ls ((0, a3) :: (0, a2) :: (0, a1) :: (2, a0) :: st) t g Q = (hkJK a0 = 10 ∧ hkC8 st ∧ Xp 126 d 0 [(2, a0), (0, a1), (0, a2), (0, a3)] [] t g (fun r t g => Xp 127 (d + 1) 78 ls (hkPush r st) t g Q)) := xr_invV (idx := 181) (y' := 126) (ci := 10) (tg := [2, 0, 0, 0]) (by decide +kernel) (by decide +kernel) (by decide +kernel) (by decide +kernel) rfl rfl rfl
theorem x_127_78 : Xp 127 d 78 [v0, v1, v2, v3, v4, v5, v6, v7, v8, v9, v10] ((0, x) :: st) t g Q = (hkP1 v9 ∧ Xp 127 d 80 [v0, v1, v2, v3, v4, v5, v6, v7, v8, v9, (0, x)] st t g Q) := Xp_chk (i := .istore 10) (len := 2) (by decide +kernel) rfl
theorem x_127_80 : Xp 127 d 80 [v0, v1, v2, v3, v4, v5, (0, x), v7, v8, v9, v10] st t g Q = Xp 127 d 82 [v0, v1, v2, v3, v4, v5, (0, x), v7, v8, v9, v10] ((0, x) :: st) t g Q := Xp_go (i := .iload 6) (len := 2) (by decide +kernel) rfl
theorem x_127_82 : Xp 127 d 82 ls ((0, a) :: st) t g Q = ((a = 0 → Xp 127 d 92 ls st t g Q) ∧ (¬ (a = 0) → Xp 127 d 85 ls st t g Q)) := xr_if1 (cd := .eq) (off := 10) (by decide +kernel) (by decide)
theorem x_127_85 : Xp 127 d 85 [v0, v1, v2, v3, v4, v5, v6, v7, v8, v9, (0, x)] st t g Q = Xp 127 d 87 [v0, v1, v2, v3, v4, v5, v6, v7, v8, v9, (0, x)] ((0, x) :: st) t g Q := Xp_go (i := .iload 10) (len := 2) (by decide +kernel) rfl
theorem x_127_87 : Xp 127 d 87 [v0, v1, v2, v3, (0, x), v5, v6, v7, v8, v9, v10] st t g Q = Xp 127 d 89 [v0, v1, v2, v3, (0, x), v5, v6, v7, v8, v9, v10] ((0, x) :: st) t g Q := Xp_go (i := .iload 4) (len := 2) (by decide +kernel) rfl
theorem x_127_89 : Xp 127 d 89 ls ((0, b) :: (0, a) :: st) t g Q = ((b ≤ a → Xp 127 d 97 ls st t g Q) ∧ (¬ (b ≤ a) → Xp 127 d 92 ls st t g Q)) := xr_if2 (cd := .ge) (off := 8) (by decide +kernel) (by decide)
theorem x_127_92 : Xp 127 d 92 [v0, v1, v2, v3, v4, v5, v6, v7, v8, v9, (0, x)] st t g Q = Xp 127 d 94 [v0, v1, v2, v3, v4, v5, v6, v7, v8, v9, (0, x)] ((0, x) :: st) t g Q := Xp_go (i := .iload 10) (len := 2) (by decide +kernel) rfl
theorem x_127_94 : Xp 127 d 94 ls st t g Q = Xp 127 d 99 ls st t g Q := xr_goto (off := 5) (by decide +kernel) (by decide)
theorem x_127_97 : Xp 127 d 97 [v0, v1, v2, v3, (0, x), v5, v6, v7, v8, v9, v10] st t g Q = Xp 127 d 99 [v0, v1, v2, v3, (0, x), v5, v6, v7, v8, v9, v10] ((0, x) :: st) t g Q := Xp_go (i := .iload 4) (len := 2) (by decide +kernel) rfl
theorem x_127_99 : Xp 127 d 99 [v0, v1, v2, v3, v4, v5, v6, v7, v8, v9, v10] ((0, x) :: st) t g Q = (hkP1 v3 ∧ Xp 127 d 101 [v0, v1, v2, v3, (0, x), v5, v6, v7, v8, v9, v10] st t g Q) := Xp_chk (i := .istore 4) (len := 2) (by decide +kernel) rfl
theorem x_127_101 : Xp 127 d 101 [v0, v1, v2, v3, v4, (0, x), v6, v7, v8, v9, v10] st t g Q = Xp 127 d 103 [v0, v1, v2, v3, v4, (0, x), v6, v7, v8, v9, v10] ((0, x) :: st) t g Q := Xp_go (i := .iload 5) (len := 2) (by decide +kernel) rfl
theorem x_127_103 : Xp 127 d 103 [v0, v1, v2, v3, v4, v5, v6, v7, v8, v9, (0, x)] st t g Q = Xp 127 d 105 [v0, v1, v2, v3, v4, v5, v6, v7, v8, v9, (0, x)] ((0, x) :: st) t g Q := Xp_go (i := .iload 10) (len := 2) (by decide +kernel) rfl
theorem x_127_105 : Xp 127 (d + 1) 105 ls ((0, a1) :: (0, a0) :: st) t g Q = (hkC8 st ∧ Xp 175 d 0 [(0, a0), (0, a1)] [] t g (fun r t g => Xp 127 (d + 1) 108 ls (hkPush r st) t g Q)) := xr_invS (idx := 186) (y' := 175) (tg := [0, 0]) (by decide +kernel) (by decide +kernel) (by decide +kernel) rfl rfl
theorem x_127_108 : Xp 127 d 108 [v0, v1, v2, v3, v4, v5, v6, v7, v8, v9, v10] ((0, x) :: st) t g Q = (hkP1 v4 ∧ Xp 127 d 110 [v0, v1, v2, v3, v4, (0, x), v6, v7, v8, v9, v10] st t g Q) := Xp_chk (i := .istore 5) (len := 2) (by decide +kernel) rfl
theorem x_127_110 : Xp 127 d 110 [v0, v1, v2, v3, v4, v5, (0, x), v7, v8, v9, v10] st t g Q = (hkP1 v5 ∧ Xp 127 d 113 [v0, v1, v2, v3, v4, v5, (0, hkW (x + 1)), v7, v8, v9, v10] st t g Q) := Xp_chk (i := .iinc 6 (1)) (len := 3) (by decide +kernel) rfl
theorem x_127_113 : Xp 127 d 113 [v0, v1, v2, v3, v4, v5, v6, (0, x), v8, v9, v10] st t g Q = Xp 127 d 115 [v0, v1, v2, v3, v4, v5, v6, (0, x), v8, v9, v10] ((0, x) :: st) t g Q := Xp_go (i := .iload 7) (len := 2) (by decide +kernel) rfl
theorem x_127_115 : Xp 127 d 115 [v0, v1, v2, v3, v4, v5, v6, v7, v8, (0, x), v10] st t g Q = Xp 127 d 117 [v0, v1, v2, v3, v4, v5, v6, v7, v8, (0, x), v10] ((0, x) :: st) t g Q := Xp_go (i := .iload 9) (len := 2) (by decide +kernel) rfl
theorem x_127_117 : Xp 127 d 117 ls ((0, b) :: (0, a) :: st) t g Q = Xp 127 d 118 ls ((0, hkW (a + b)) :: st) t g Q := Xp_go (i := .iadd) (len := 1) (by decide +kernel) rfl
theorem x_127_118 : Xp 127 d 118 [v0, v1, v2, v3, v4, v5, v6, v7, v8, v9, v10] ((0, x) :: st) t g Q = (hkP1 v6 ∧ Xp 127 d 120 [v0, v1, v2, v3, v4, v5, v6, (0, x), v8, v9, v10] st t g Q) := Xp_chk (i := .istore 7) (len := 2) (by decide +kernel) rfl
theorem x_127_120 : Xp 127 d 120 [v0, v1, v2, v3, v4, v5, v6, v7, (0, x), v9, v10] st t g Q = (hkP1 v7 ∧ Xp 127 d 123 [v0, v1, v2, v3, v4, v5, v6, v7, (0, hkW (x + 1)), v9, v10] st t g Q) := Xp_chk (i := .iinc 8 (1)) (len := 3) (by decide +kernel) rfl
theorem x_127_123 : Xp 127 d 123 ls st t g Q = Xp 127 d 46 ls st t g Q := xr_goto (off := -77) (by decide +kernel) (by decide)
theorem x_127_126 : Xp 127 d 126 [v0, v1, v2, (0, x), v4, v5, v6, v7, v8, v9, v10] st t g Q = Xp 127 d 127 [v0, v1, v2, (0, x), v4, v5, v6, v7, v8, v9, v10] ((0, x) :: st) t g Q := Xp_go (i := .iload_n 3) (len := 1) (by decide +kernel) rfl
theorem x_127_127 : Xp 127 d 127 ls ((0, a) :: st) t g Q = ((¬ (a = 0) → Xp 127 d 135 ls st t g Q) ∧ (¬ (¬ (a = 0)) → Xp 127 d 130 ls st t g Q)) := xr_if1 (cd := .ne) (off := 8) (by decide +kernel) (by decide)
theorem x_127_130 : Xp 127 d 130 [v0, v1, v2, v3, (0, x), v5, v6, v7, v8, v9, v10] st t g Q = Xp 127 d 132 [v0, v1, v2, v3, (0, x), v5, v6, v7, v8, v9, v10] ((0, x) :: st) t g Q := Xp_go (i := .iload 4) (len := 2) (by decide +kernel) rfl
theorem x_127_132 : Xp 127 d 132 ls st t g Q = Xp 127 d 157 ls st t g Q := xr_goto (off := 25) (by decide +kernel) (by decide)
theorem x_127_135 : Xp 127 d 135 [v0, v1, v2, (0, x), v4, v5, v6, v7, v8, v9, v10] st t g Q = Xp 127 d 136 [v0, v1, v2, (0, x), v4, v5, v6, v7, v8, v9, v10] ((0, x) :: st) t g Q := Xp_go (i := .iload_n 3) (len := 1) (by decide +kernel) rfl
theorem x_127_136 : Xp 127 d 136 ls st t g Q = Xp 127 d 137 ls ((0, 1) :: st) t g Q := xr_const (c := 1) (by decide +kernel) (by decide)
theorem x_127_137 : Xp 127 d 137 ls ((0, b) :: (0, a) :: st) t g Q = ((¬ (a = b) → Xp 127 d 145 ls st t g Q) ∧ (¬ (¬ (a = b)) → Xp 127 d 140 ls st t g Q)) := xr_if2 (cd := .ne) (off := 8) (by decide +kernel) (by decide)
theorem x_127_140 : Xp 127 d 140 [v0, v1, v2, v3, v4, (0, x), v6, v7, v8, v9, v10] st t g Q = Xp 127 d 142 [v0, v1, v2, v3, v4, (0, x), v6, v7, v8, v9, v10] ((0, x) :: st) t g Q := Xp_go (i := .iload 5) (len := 2) (by decide +kernel) rfl
theorem x_127_142 : Xp 127 d 142 ls st t g Q = Xp 127 d 157 ls st t g Q := xr_goto (off := 15) (by decide +kernel) (by decide)
theorem x_127_145 : Xp 127 d 145 [v0, v1, v2, (0, x), v4, v5, v6, v7, v8, v9, v10] st t g Q = Xp 127 d 146 [v0, v1, v2, (0, x), v4, v5, v6, v7, v8, v9, v10] ((0, x) :: st) t g Q := Xp_go (i := .iload_n 3) (len := 1) (by decide +kernel) rfl
theorem x_127_146 : Xp 127 d 146 ls st t g Q = Xp 127 d 147 ls ((0, 2) :: st) t g Q := xr_const (c := 2) (by decide +kernel) (by decide)
theorem x_127_147 : Xp 127 d 147 ls ((0, b) :: (0, a) :: st) t g Q = ((¬ (a = b) → Xp 127 d 155 ls st t g Q) ∧ (¬ (¬ (a = b)) → Xp 127 d 150 ls st t g Q)) := xr_if2 (cd := .ne) (off := 8) (by decide +kernel) (by decide)
theorem x_127_150 : Xp 127 d 150 [v0, v1, v2, v3, v4, v5, (0, x), v7, v8, v9, v10] st t g Q = Xp 127 d 152 [v0, v1, v2, v3, v4, v5, (0, x), v7, v8, v9, v10] ((0, x) :: st) t g Q := Xp_go (i := .iload 6) (len := 2) (by decide +kernel) rfl
theorem x_127_152 : Xp 127 d 152 ls st t g Q = Xp 127 d 157 ls st t g Q := xr_goto (off := 5) (by decide +kernel) (by decide)
theorem x_127_155 : Xp 127 d 155 [v0, v1, v2, v3, v4, v5, v6, (0, x), v8, v9, v10] st t g Q = Xp 127 d 157 [v0, v1, v2, v3, v4, v5, v6, (0, x), v8, v9, v10] ((0, x) :: st) t g Q := Xp_go (i := .iload 7) (len := 2) (by decide +kernel) rfl
theorem x_127_157 : Xp 127 d 157 ls [(0, x)] t g Q = Q (some (0, x)) t g := xr_retI (by decide +kernel) (by decide +kernel)
-- 128: HookBoxesModel.around(IIII)I
theorem x_128_0 : Xp 128 d 0 [(2, x), v1, v2, v3, v4, v5, v6, v7] st t g Q = Xp 128 d 1 [(2, x), v1, v2, v3, v4, v5, v6, v7] ((2, x) :: st) t g Q := Xp_go (i := .aload_n 0) (len := 1) (by decide +kernel) rfl
theorem x_128_1 : Xp 128 d 1 [v0, (0, x), v2, v3, v4, v5, v6, v7] st t g Q = Xp 128 d 2 [v0, (0, x), v2, v3, v4, v5, v6, v7] ((0, x) :: st) t g Q := Xp_go (i := .iload_n 1) (len := 1) (by decide +kernel) rfl
theorem x_128_2 : Xp 128 (d + 1) 2 ls ((0, a1) :: (2, a0) :: st) t g Q = (hkJK a0 = 10 ∧ hkC8 st ∧ Xp 109 d 0 [(2, a0), (0, a1)] [] t g (fun r t g => Xp 128 (d + 1) 5 ls (hkPush r st) t g Q)) := xr_invV (idx := 123) (y' := 109) (ci := 10) (tg := [2, 0]) (by decide +kernel) (by decide +kernel) (by decide +kernel) (by decide +kernel) rfl rfl rfl
theorem x_128_5 : Xp 128 d 5 ls ((0, a) :: st) t g Q = ((a = 0 → Xp 128 d 39 ls st t g Q) ∧ (¬ (a = 0) → Xp 128 d 8 ls st t g Q)) := xr_if1 (cd := .eq) (off := 34) (by decide +kernel) (by decide)
theorem x_128_8 : Xp 128 d 8 [(2, x), v1, v2, v3, v4, v5, v6, v7] st t g Q = Xp 128 d 9 [(2, x), v1, v2, v3, v4, v5, v6, v7] ((2, x) :: st) t g Q := Xp_go (i := .aload_n 0) (len := 1) (by decide +kernel) rfl
theorem x_128_9 : Xp 128 d 9 [v0, v1, (0, x), v3, v4, v5, v6, v7] st t g Q = Xp 128 d 10 [v0, v1, (0, x), v3, v4, v5, v6, v7] ((0, x) :: st) t g Q := Xp_go (i := .iload_n 2) (len := 1) (by decide +kernel) rfl
theorem x_128_10 : Xp 128 (d + 1) 10 ls ((0, a1) :: (2, a0) :: st) t g Q = (hkJK a0 = 10 ∧ hkC8 st ∧ Xp 109 d 0 [(2, a0), (0, a1)] [] t g (fun r t g => Xp 128 (d + 1) 13 ls (hkPush r st) t g Q)) := xr_invV (idx := 123) (y' := 109) (ci := 10) (tg := [2, 0]) (by decide +kernel) (by decide +kernel) (by decide +kernel) (by decide +kernel) rfl rfl rfl
theorem x_128_13 : Xp 128 d 13 ls ((0, a) :: st) t g Q = ((a = 0 → Xp 128 d 39 ls st t g Q) ∧ (¬ (a = 0) → Xp 128 d 16 ls st t g Q)) := xr_if1 (cd := .eq) (off := 26) (by decide +kernel) (by decide)
theorem x_128_16 : Xp 128 d 16 [v0, v1, v2, (0, x), v4, v5, v6, v7] st t g Q = Xp 128 d 17 [v0, v1, v2, (0, x), v4, v5, v6, v7] ((0, x) :: st) t g Q := Xp_go (i := .iload_n 3) (len := 1) (by decide +kernel) rfl
theorem x_128_17 : Xp 128 d 17 ls ((0, a) :: st) t g Q = Xp 128 d 18 ls ((1, a) :: st) t g Q := Xp_go (i := .i2l) (len := 1) (by decide +kernel) rfl
theorem x_128_18 : Xp 128 d 18 ls st t g Q = Xp 128 d 19 ls ((1, 0) :: st) t g Q := Xp_go (i := .lconst 0) (len := 1) (by decide +kernel) rfl
theorem x_128_19 : Xp 128 d 19 ls st t g Q = Xp 128 d 22 ls ((1, 7) :: st) t g Q := xr_ldc2 (idx := 121) (by decide +kernel) (by decide +kernel)
theorem x_128_22 : Xp 128 (d + 1) 22 ls ((1, a2) :: (1, a1) :: (1, a0) :: st) t g Q = (hkC8 st ∧ Xp 107 d 0 [(1, a0), hkU, (1, a1), hkU, (1, a2), hkU] [] t g (fun r t g => Xp 128 (d + 1) 25 ls (hkPush r st) t g Q)) := xr_invS (idx := 115) (y' := 107) (tg := [1, 1, 1]) (by decide +kernel) (by decide +kernel) (by decide +kernel) rfl rfl
theorem x_128_25 : Xp 128 d 25 ls ((0, a) :: st) t g Q = ((a = 0 → Xp 128 d 39 ls st t g Q) ∧ (¬ (a = 0) → Xp 128 d 28 ls st t g Q)) := xr_if1 (cd := .eq) (off := 14) (by decide +kernel) (by decide)
theorem x_128_28 : Xp 128 d 28 [v0, v1, v2, v3, (0, x), v5, v6, v7] st t g Q = Xp 128 d 30 [v0, v1, v2, v3, (0, x), v5, v6, v7] ((0, x) :: st) t g Q := Xp_go (i := .iload 4) (len := 2) (by decide +kernel) rfl
theorem x_128_30 : Xp 128 d 30 ls ((0, a) :: st) t g Q = Xp 128 d 31 ls ((1, a) :: st) t g Q := Xp_go (i := .i2l) (len := 1) (by decide +kernel) rfl
theorem x_128_31 : Xp 128 d 31 ls st t g Q = Xp 128 d 32 ls ((1, 0) :: st) t g Q := Xp_go (i := .lconst 0) (len := 1) (by decide +kernel) rfl
theorem x_128_32 : Xp 128 d 32 ls st t g Q = Xp 128 d 33 ls ((1, 1) :: st) t g Q := Xp_go (i := .lconst 1) (len := 1) (by decide +kernel) rfl
theorem x_128_33 : Xp 128 (d + 1) 33 ls ((1, a2) :: (1, a1) :: (1, a0) :: st) t g Q = (hkC8 st ∧ Xp 107 d 0 [(1, a0), hkU, (1, a1), hkU, (1, a2), hkU] [] t g (fun r t g => Xp 128 (d + 1) 36 ls (hkPush r st) t g Q)) := xr_invS (idx := 115) (y' := 107) (tg := [1, 1, 1]) (by decide +kernel) (by decide +kernel) (by decide +kernel) rfl rfl
theorem x_128_36 : Xp 128 d 36 ls ((0, a) :: st) t g Q = ((¬ (a = 0) → Xp 128 d 42 ls st t g Q) ∧ (¬ (¬ (a = 0)) → Xp 128 d 39 ls st t g Q)) := xr_if1 (cd := .ne) (off := 6) (by decide +kernel) (by decide)
theorem x_128_39 : Xp 128 d 39 ls st t g Q = Xp 128 d 41 ls ((0, -2) :: st) t g Q := xr_bi (c := -2) (by decide +kernel) (by decide)
theorem x_128_41 : Xp 128 d 41 ls [(0, x)] t g Q = Q (some (0, x)) t g := xr_retI (by decide +kernel) (by decide +kernel)
theorem x_128_42 : Xp 128 d 42 ls st t g Q = Xp 128 d 43 ls ((0, 0) :: st) t g Q := xr_const (c := 0) (by decide +kernel) (by decide)
theorem x_128_43 : Xp 128 d 43 [v0, v1, v2, v3, v4, v5, v6, v7] ((0, x) :: st) t g Q = (hkP1 v4 ∧ Xp 128 d 45 [v0, v1, v2, v3, v4, (0, x), v6, v7] st t g Q) := Xp_chk (i := .istore 5) (len := 2) (by decide +kernel) rfl
theorem x_128_45 : Xp 128 d 45 ls st t g Q = Xp 128 d 46 ls ((0, -1) :: st) t g Q := xr_const (c := -1) (by decide +kernel) (by decide)
theorem x_128_46 : Xp 128 d 46 [v0, v1, v2, v3, v4, v5, v6, v7] ((0, x) :: st) t g Q = (hkP1 v5 ∧ Xp 128 d 48 [v0, v1, v2, v3, v4, v5, (0, x), v7] st t g Q) := Xp_chk (i := .istore 6) (len := 2) (by decide +kernel) rfl
theorem x_128_48 : Xp 128 d 48 [(2, x), v1, v2, v3, v4, v5, v6, v7] st t g Q = Xp 128 d 49 [(2, x), v1, v2, v3, v4, v5, v6, v7] ((2, x) :: st) t g Q := Xp_go (i := .aload_n 0) (len := 1) (by decide +kernel) rfl
theorem x_128_49 : Xp 128 d 49 ls ((2, p) :: st) t g Q = (hkJK p = 10 ∧ Xp 128 d 52 ls ((0, g p 2) :: st) t g Q) := xr_getI (idx := 97) (ci := 10) (k := 2) (by decide +kernel) (by decide +kernel) (by decide +kernel)
theorem x_128_52 : Xp 128 d 52 ls st t g Q = Xp 128 d 53 ls ((0, 1) :: st) t g Q := xr_const (c := 1) (by decide +kernel) (by decide)
theorem x_128_53 : Xp 128 d 53 ls ((0, b) :: (0, a) :: st) t g Q = Xp 128 d 54 ls ((0, hkW (a - b)) :: st) t g Q := Xp_go (i := .isub) (len := 1) (by decide +kernel) rfl
theorem x_128_54 : Xp 128 d 54 [v0, v1, v2, v3, v4, v5, v6, v7] ((0, x) :: st) t g Q = (hkP1 v6 ∧ Xp 128 d 56 [v0, v1, v2, v3, v4, v5, v6, (0, x)] st t g Q) := Xp_chk (i := .istore 7) (len := 2) (by decide +kernel) rfl
theorem x_128_56 : Xp 128 d 56 [v0, v1, v2, v3, v4, v5, v6, (0, x)] st t g Q = Xp 128 d 58 [v0, v1, v2, v3, v4, v5, v6, (0, x)] ((0, x) :: st) t g Q := Xp_go (i := .iload 7) (len := 2) (by decide +kernel) rfl
theorem x_128_58 : Xp 128 d 58 ls ((0, a) :: st) t g Q = ((a < 0 → Xp 128 d 97 ls st t g Q) ∧ (¬ (a < 0) → Xp 128 d 61 ls st t g Q)) := xr_if1 (cd := .lt) (off := 39) (by decide +kernel) (by decide)
theorem x_128_61 : Xp 128 d 61 [(2, x), v1, v2, v3, v4, v5, v6, v7] st t g Q = Xp 128 d 62 [(2, x), v1, v2, v3, v4, v5, v6, v7] ((2, x) :: st) t g Q := Xp_go (i := .aload_n 0) (len := 1) (by decide +kernel) rfl
theorem x_128_62 : Xp 128 d 62 [v0, v1, (0, x), v3, v4, v5, v6, v7] st t g Q = Xp 128 d 63 [v0, v1, (0, x), v3, v4, v5, v6, v7] ((0, x) :: st) t g Q := Xp_go (i := .iload_n 2) (len := 1) (by decide +kernel) rfl
theorem x_128_63 : Xp 128 d 63 [v0, v1, v2, v3, v4, v5, v6, (0, x)] st t g Q = Xp 128 d 65 [v0, v1, v2, v3, v4, v5, v6, (0, x)] ((0, x) :: st) t g Q := Xp_go (i := .iload 7) (len := 2) (by decide +kernel) rfl
theorem x_128_65 : Xp 128 d 65 [v0, (0, x), v2, v3, v4, v5, v6, v7] st t g Q = Xp 128 d 66 [v0, (0, x), v2, v3, v4, v5, v6, v7] ((0, x) :: st) t g Q := Xp_go (i := .iload_n 1) (len := 1) (by decide +kernel) rfl
theorem x_128_66 : Xp 128 (d + 1) 66 ls ((0, a3) :: (0, a2) :: (0, a1) :: (2, a0) :: st) t g Q = (hkJK a0 = 10 ∧ hkC8 st ∧ Xp 121 d 0 [(2, a0), (0, a1), (0, a2), (0, a3), hkU] [] t g (fun r t g => Xp 128 (d + 1) 69 ls (hkPush r st) t g Q)) := xr_invV (idx := 177) (y' := 121) (ci := 10) (tg := [2, 0, 0, 0]) (by decide +kernel) (by decide +kernel) (by decide +kernel) (by decide +kernel) rfl rfl rfl
theorem x_128_69 : Xp 128 d 69 ls ((0, a) :: st) t g Q = ((a = 0 → Xp 128 d 91 ls st t g Q) ∧ (¬ (a = 0) → Xp 128 d 72 ls st t g Q)) := xr_if1 (cd := .eq) (off := 22) (by decide +kernel) (by decide)
theorem x_128_72 : Xp 128 d 72 [(2, x), v1, v2, v3, v4, v5, v6, v7] st t g Q = Xp 128 d 73 [(2, x), v1, v2, v3, v4, v5, v6, v7] ((2, x) :: st) t g Q := Xp_go (i := .aload_n 0) (len := 1) (by decide +kernel) rfl
theorem x_128_73 : Xp 128 d 73 [v0, v1, (0, x), v3, v4, v5, v6, v7] st t g Q = Xp 128 d 74 [v0, v1, (0, x), v3, v4, v5, v6, v7] ((0, x) :: st) t g Q := Xp_go (i := .iload_n 2) (len := 1) (by decide +kernel) rfl
theorem x_128_74 : Xp 128 d 74 [v0, v1, v2, v3, v4, v5, v6, (0, x)] st t g Q = Xp 128 d 76 [v0, v1, v2, v3, v4, v5, v6, (0, x)] ((0, x) :: st) t g Q := Xp_go (i := .iload 7) (len := 2) (by decide +kernel) rfl
theorem x_128_76 : Xp 128 d 76 [v0, (0, x), v2, v3, v4, v5, v6, v7] st t g Q = Xp 128 d 77 [v0, (0, x), v2, v3, v4, v5, v6, v7] ((0, x) :: st) t g Q := Xp_go (i := .iload_n 1) (len := 1) (by decide +kernel) rfl
theorem x_128_77 : Xp 128 (d + 1) 77 ls ((0, a3) :: (0, a2) :: (0, a1) :: (2, a0) :: st) t g Q = (hkJK a0 = 10 ∧ hkC8 st ∧ Xp 126 d 0 [(2, a0), (0, a1), (0, a2), (0, a3)] [] t g (fun r t g => Xp 128 (d + 1) 80 ls (hkPush r st) t g Q)) := xr_invV (idx := 181) (y' := 126) (ci := 10) (tg := [2, 0, 0, 0]) (by decide +kernel) (by decide +kernel) (by decide +kernel) (by decide +kernel) rfl rfl rfl
theorem x_128_80 : Xp 128 d 80 [v0, v1, v2, (0, x), v4, v5, v6, v7] st t g Q = Xp 128 d 81 [v0, v1, v2, (0, x), v4, v5, v6, v7] ((0, x) :: st) t g Q := Xp_go (i := .iload_n 3) (len := 1) (by decide +kernel) rfl
theorem x_128_81 : Xp 128 d 81 ls ((0, b) :: (0, a) :: st) t g Q = ((¬ (a = b) → Xp 128 d 91 ls st t g Q) ∧ (¬ (¬ (a = b)) → Xp 128 d 84 ls st t g Q)) := xr_if2 (cd := .ne) (off := 10) (by decide +kernel) (by decide)
theorem x_128_84 : Xp 128 d 84 [v0, v1, v2, v3, v4, (0, x), v6, v7] st t g Q = (hkP1 v4 ∧ Xp 128 d 87 [v0, v1, v2, v3, v4, (0, hkW (x + 1)), v6, v7] st t g Q) := Xp_chk (i := .iinc 5 (1)) (len := 3) (by decide +kernel) rfl
theorem x_128_87 : Xp 128 d 87 [v0, v1, v2, v3, v4, v5, v6, (0, x)] st t g Q = Xp 128 d 89 [v0, v1, v2, v3, v4, v5, v6, (0, x)] ((0, x) :: st) t g Q := Xp_go (i := .iload 7) (len := 2) (by decide +kernel) rfl
theorem x_128_89 : Xp 128 d 89 [v0, v1, v2, v3, v4, v5, v6, v7] ((0, x) :: st) t g Q = (hkP1 v5 ∧ Xp 128 d 91 [v0, v1, v2, v3, v4, v5, (0, x), v7] st t g Q) := Xp_chk (i := .istore 6) (len := 2) (by decide +kernel) rfl
theorem x_128_91 : Xp 128 d 91 [v0, v1, v2, v3, v4, v5, v6, (0, x)] st t g Q = (hkP1 v6 ∧ Xp 128 d 94 [v0, v1, v2, v3, v4, v5, v6, (0, hkW (x + -1))] st t g Q) := Xp_chk (i := .iinc 7 (-1)) (len := 3) (by decide +kernel) rfl
theorem x_128_94 : Xp 128 d 94 ls st t g Q = Xp 128 d 56 ls st t g Q := xr_goto (off := -38) (by decide +kernel) (by decide)
theorem x_128_97 : Xp 128 d 97 [v0, v1, v2, v3, (0, x), v5, v6, v7] st t g Q = Xp 128 d 99 [v0, v1, v2, v3, (0, x), v5, v6, v7] ((0, x) :: st) t g Q := Xp_go (i := .iload 4) (len := 2) (by decide +kernel) rfl
theorem x_128_99 : Xp 128 d 99 ls ((0, a) :: st) t g Q = ((¬ (a = 0) → Xp 128 d 107 ls st t g Q) ∧ (¬ (¬ (a = 0)) → Xp 128 d 102 ls st t g Q)) := xr_if1 (cd := .ne) (off := 8) (by decide +kernel) (by decide)
theorem x_128_102 : Xp 128 d 102 [v0, v1, v2, v3, v4, (0, x), v6, v7] st t g Q = Xp 128 d 104 [v0, v1, v2, v3, v4, (0, x), v6, v7] ((0, x) :: st) t g Q := Xp_go (i := .iload 5) (len := 2) (by decide +kernel) rfl
theorem x_128_104 : Xp 128 d 104 ls st t g Q = Xp 128 d 109 ls st t g Q := xr_goto (off := 5) (by decide +kernel) (by decide)
theorem x_128_107 : Xp 128 d 107 [v0, v1, v2, v3, v4, v5, (0, x), v7] st t g Q = Xp 128 d 109 [v0, v1, v2, v3, v4, v5, (0, x), v7] ((0, x) :: st) t g Q := Xp_go (i := .iload 6) (len := 2) (by decide +kernel) rfl
theorem x_128_109 : Xp 128 d 109 ls [(0, x)] t g Q = Q (some (0, x)) t g := xr_retI (by decide +kernel) (by decide +kernel)
-- 129: HookBoxesModel.hooks(II)I
theorem x_129_0 : Xp 129 d 0 [v0, (0, x), v2, v3, v4] st t g Q = Xp 129 d 1 [v0, (0, x), v2, v3, v4] ((0, x) :: st) t g Q := Xp_go (i := .iload_n 1) (len := 1) (by decide +kernel) rfl
theorem x_129_1 : Xp 129 (d + 1) 1 ls ((0, a0) :: st) t g Q = (hkC8 st ∧ Xp 130 d 0 [(0, a0)] [] t g (fun r t g => Xp 129 (d + 1) 4 ls (hkPush r st) t g Q)) := xr_invS (idx := 189) (y' := 130) (tg := [0]) (by decide +kernel) (by decide +kernel) (by decide +kernel) rfl rfl
theorem x_129_4 : Xp 129 d 4 ls ((0, a) :: st) t g Q = ((a = 0 → Xp 129 d 19 ls st t g Q) ∧ (¬ (a = 0) → Xp 129 d 7 ls st t g Q)) := xr_if1 (cd := .eq) (off := 15) (by decide +kernel) (by decide)
theorem x_129_7 : Xp 129 d 7 [v0, v1, (0, x), v3, v4] st t g Q = Xp 129 d 8 [v0, v1, (0, x), v3, v4] ((0, x) :: st) t g Q := Xp_go (i := .iload_n 2) (len := 1) (by decide +kernel) rfl
theorem x_129_8 : Xp 129 d 8 ls ((0, a) :: st) t g Q = Xp 129 d 9 ls ((1, a) :: st) t g Q := Xp_go (i := .i2l) (len := 1) (by decide +kernel) rfl
theorem x_129_9 : Xp 129 d 9 ls st t g Q = Xp 129 d 10 ls ((1, 0) :: st) t g Q := Xp_go (i := .lconst 0) (len := 1) (by decide +kernel) rfl
theorem x_129_10 : Xp 129 d 10 ls st t g Q = Xp 129 d 13 ls ((1, 2) :: st) t g Q := xr_ldc2 (idx := 192) (by decide +kernel) (by decide +kernel)
theorem x_129_13 : Xp 129 (d + 1) 13 ls ((1, a2) :: (1, a1) :: (1, a0) :: st) t g Q = (hkC8 st ∧ Xp 107 d 0 [(1, a0), hkU, (1, a1), hkU, (1, a2), hkU] [] t g (fun r t g => Xp 129 (d + 1) 16 ls (hkPush r st) t g Q)) := xr_invS (idx := 115) (y' := 107) (tg := [1, 1, 1]) (by decide +kernel) (by decide +kernel) (by decide +kernel) rfl rfl
theorem x_129_16 : Xp 129 d 16 ls ((0, a) :: st) t g Q = ((¬ (a = 0) → Xp 129 d 23 ls st t g Q) ∧ (¬ (¬ (a = 0)) → Xp 129 d 19 ls st t g Q)) := xr_if1 (cd := .ne) (off := 7) (by decide +kernel) (by decide)
theorem x_129_19 : Xp 129 d 19 ls st t g Q = Xp 129 d 22 ls ((0, -1000) :: st) t g Q := xr_si (c := -1000) (by decide +kernel) (by decide)
theorem x_129_22 : Xp 129 d 22 ls [(0, x)] t g Q = Q (some (0, x)) t g := xr_retI (by decide +kernel) (by decide +kernel)
theorem x_129_23 : Xp 129 d 23 [(2, x), v1, v2, v3, v4] st t g Q = Xp 129 d 24 [(2, x), v1, v2, v3, v4] ((2, x) :: st) t g Q := Xp_go (i := .aload_n 0) (len := 1) (by decide +kernel) rfl
theorem x_129_24 : Xp 129 d 24 ls ((2, p) :: st) t g Q = (hkJK p = 10 ∧ jA p 36 ≤ t ∧ Xp 129 d 27 ls ((2, jR p 36) :: st) t g Q) := xr_getR (idx := 82) (ci := 10) (k := 36) (by decide +kernel) (by decide +kernel) (by decide +kernel)
theorem x_129_27 : Xp 129 d 27 [v0, (0, x), v2, v3, v4] st t g Q = Xp 129 d 28 [v0, (0, x), v2, v3, v4] ((0, x) :: st) t g Q := Xp_go (i := .iload_n 1) (len := 1) (by decide +kernel) rfl
theorem x_129_28 : Xp 129 d 28 ls ((0, a) :: (2, p) :: st) t g Q = ((hkJK p = 100 ∧ 0 ≤ a ∧ a < jL p) ∧ Xp 129 d 29 ls ((0, g p a) :: st) t g Q) := Xp_chk (i := .iaload) (len := 1) (by decide +kernel) rfl
theorem x_129_29 : Xp 129 d 29 ls st t g Q = Xp 129 d 30 ls ((0, -1) :: st) t g Q := xr_const (c := -1) (by decide +kernel) (by decide)
theorem x_129_30 : Xp 129 d 30 ls ((0, b) :: (0, a) :: st) t g Q = ((¬ (a = b) → Xp 129 d 37 ls st t g Q) ∧ (¬ (¬ (a = b)) → Xp 129 d 33 ls st t g Q)) := xr_if2 (cd := .ne) (off := 7) (by decide +kernel) (by decide)
theorem x_129_33 : Xp 129 d 33 ls st t g Q = Xp 129 d 36 ls ((0, -1011) :: st) t g Q := xr_si (c := -1011) (by decide +kernel) (by decide)
theorem x_129_36 : Xp 129 d 36 ls [(0, x)] t g Q = Q (some (0, x)) t g := xr_retI (by decide +kernel) (by decide +kernel)
theorem x_129_37 : Xp 129 d 37 [(2, x), v1, v2, v3, v4] st t g Q = Xp 129 d 38 [(2, x), v1, v2, v3, v4] ((2, x) :: st) t g Q := Xp_go (i := .aload_n 0) (len := 1) (by decide +kernel) rfl
theorem x_129_38 : Xp 129 d 38 ls ((2, p) :: st) t g Q = (hkJK p = 10 ∧ jA p 37 ≤ t ∧ Xp 129 d 41 ls ((2, jR p 37) :: st) t g Q) := xr_getR (idx := 85) (ci := 10) (k := 37) (by decide +kernel) (by decide +kernel) (by decide +kernel)
theorem x_129_41 : Xp 129 d 41 [v0, (0, x), v2, v3, v4] st t g Q = Xp 129 d 42 [v0, (0, x), v2, v3, v4] ((0, x) :: st) t g Q := Xp_go (i := .iload_n 1) (len := 1) (by decide +kernel) rfl
theorem x_129_42 : Xp 129 d 42 ls ((0, a) :: (2, p) :: st) t g Q = ((hkJK p = 100 ∧ 0 ≤ a ∧ a < jL p) ∧ Xp 129 d 43 ls ((0, g p a) :: st) t g Q) := Xp_chk (i := .iaload) (len := 1) (by decide +kernel) rfl
theorem x_129_43 : Xp 129 d 43 [(2, x), v1, v2, v3, v4] st t g Q = Xp 129 d 44 [(2, x), v1, v2, v3, v4] ((2, x) :: st) t g Q := Xp_go (i := .aload_n 0) (len := 1) (by decide +kernel) rfl
theorem x_129_44 : Xp 129 d 44 ls ((2, p) :: st) t g Q = (hkJK p = 10 ∧ Xp 129 d 47 ls ((0, g p 0) :: st) t g Q) := xr_getI (idx := 11) (ci := 10) (k := 0) (by decide +kernel) (by decide +kernel) (by decide +kernel)
theorem x_129_47 : Xp 129 d 47 ls ((0, b) :: (0, a) :: st) t g Q = ((¬ (a = b) → Xp 129 d 54 ls st t g Q) ∧ (¬ (¬ (a = b)) → Xp 129 d 50 ls st t g Q)) := xr_if2 (cd := .ne) (off := 7) (by decide +kernel) (by decide)
theorem x_129_50 : Xp 129 d 50 ls st t g Q = Xp 129 d 51 ls ((0, 1) :: st) t g Q := xr_const (c := 1) (by decide +kernel) (by decide)
theorem x_129_51 : Xp 129 d 51 ls st t g Q = Xp 129 d 55 ls st t g Q := xr_goto (off := 4) (by decide +kernel) (by decide)
theorem x_129_54 : Xp 129 d 54 ls st t g Q = Xp 129 d 55 ls ((0, 0) :: st) t g Q := xr_const (c := 0) (by decide +kernel) (by decide)
theorem x_129_55 : Xp 129 d 55 [v0, v1, v2, v3, v4] ((0, x) :: st) t g Q = (hkP1 v2 ∧ Xp 129 d 56 [v0, v1, v2, (0, x), v4] st t g Q) := Xp_chk (i := .istore_n 3) (len := 1) (by decide +kernel) rfl
theorem x_129_56 : Xp 129 d 56 ls st t g Q = Xp 129 d 57 ls ((0, 0) :: st) t g Q := xr_const (c := 0) (by decide +kernel) (by decide)
theorem x_129_57 : Xp 129 d 57 [v0, v1, v2, v3, v4] ((0, x) :: st) t g Q = (hkP1 v3 ∧ Xp 129 d 59 [v0, v1, v2, v3, (0, x)] st t g Q) := Xp_chk (i := .istore 4) (len := 2) (by decide +kernel) rfl
theorem x_129_59 : Xp 129 d 59 [v0, v1, v2, v3, (0, x)] st t g Q = Xp 129 d 61 [v0, v1, v2, v3, (0, x)] ((0, x) :: st) t g Q := Xp_go (i := .iload 4) (len := 2) (by decide +kernel) rfl
theorem x_129_61 : Xp 129 d 61 [(2, x), v1, v2, v3, v4] st t g Q = Xp 129 d 62 [(2, x), v1, v2, v3, v4] ((2, x) :: st) t g Q := Xp_go (i := .aload_n 0) (len := 1) (by decide +kernel) rfl
theorem x_129_62 : Xp 129 d 62 ls ((2, p) :: st) t g Q = (hkJK p = 10 ∧ Xp 129 d 65 ls ((0, g p 0) :: st) t g Q) := xr_getI (idx := 11) (ci := 10) (k := 0) (by decide +kernel) (by decide +kernel) (by decide +kernel)
theorem x_129_65 : Xp 129 d 65 ls ((0, b) :: (0, a) :: st) t g Q = ((b ≤ a → Xp 129 d 145 ls st t g Q) ∧ (¬ (b ≤ a) → Xp 129 d 68 ls st t g Q)) := xr_if2 (cd := .ge) (off := 80) (by decide +kernel) (by decide)
theorem x_129_68 : Xp 129 d 68 [v0, v1, v2, (0, x), v4] st t g Q = Xp 129 d 69 [v0, v1, v2, (0, x), v4] ((0, x) :: st) t g Q := Xp_go (i := .iload_n 3) (len := 1) (by decide +kernel) rfl
theorem x_129_69 : Xp 129 d 69 ls ((0, a) :: st) t g Q = ((a = 0 → Xp 129 d 145 ls st t g Q) ∧ (¬ (a = 0) → Xp 129 d 72 ls st t g Q)) := xr_if1 (cd := .eq) (off := 76) (by decide +kernel) (by decide)
theorem x_129_72 : Xp 129 d 72 [(2, x), v1, v2, v3, v4] st t g Q = Xp 129 d 73 [(2, x), v1, v2, v3, v4] ((2, x) :: st) t g Q := Xp_go (i := .aload_n 0) (len := 1) (by decide +kernel) rfl
theorem x_129_73 : Xp 129 d 73 ls ((2, p) :: st) t g Q = (hkJK p = 10 ∧ jA p 21 ≤ t ∧ Xp 129 d 76 ls ((2, jR p 21) :: st) t g Q) := xr_getR (idx := 54) (ci := 10) (k := 21) (by decide +kernel) (by decide +kernel) (by decide +kernel)
theorem x_129_76 : Xp 129 d 76 [v0, v1, v2, v3, (0, x)] st t g Q = Xp 129 d 78 [v0, v1, v2, v3, (0, x)] ((0, x) :: st) t g Q := Xp_go (i := .iload 4) (len := 2) (by decide +kernel) rfl
theorem x_129_78 : Xp 129 d 78 [(2, x), v1, v2, v3, v4] st t g Q = Xp 129 d 79 [(2, x), v1, v2, v3, v4] ((2, x) :: st) t g Q := Xp_go (i := .aload_n 0) (len := 1) (by decide +kernel) rfl
theorem x_129_79 : Xp 129 d 79 ls ((2, p) :: st) t g Q = (hkJK p = 10 ∧ jA p 38 ≤ t ∧ Xp 129 d 82 ls ((2, jR p 38) :: st) t g Q) := xr_getR (idx := 88) (ci := 10) (k := 38) (by decide +kernel) (by decide +kernel) (by decide +kernel)
theorem x_129_82 : Xp 129 d 82 ls st t g Q = Xp 129 d 84 ls ((0, 40) :: st) t g Q := xr_bi (c := 40) (by decide +kernel) (by decide)
theorem x_129_84 : Xp 129 d 84 [v0, (0, x), v2, v3, v4] st t g Q = Xp 129 d 85 [v0, (0, x), v2, v3, v4] ((0, x) :: st) t g Q := Xp_go (i := .iload_n 1) (len := 1) (by decide +kernel) rfl
theorem x_129_85 : Xp 129 d 85 ls ((0, b) :: (0, a) :: st) t g Q = Xp 129 d 86 ls ((0, hkW (a * b)) :: st) t g Q := Xp_go (i := .imul) (len := 1) (by decide +kernel) rfl
theorem x_129_86 : Xp 129 d 86 [v0, v1, v2, v3, (0, x)] st t g Q = Xp 129 d 88 [v0, v1, v2, v3, (0, x)] ((0, x) :: st) t g Q := Xp_go (i := .iload 4) (len := 2) (by decide +kernel) rfl
theorem x_129_88 : Xp 129 d 88 ls ((0, b) :: (0, a) :: st) t g Q = Xp 129 d 89 ls ((0, hkW (a + b)) :: st) t g Q := Xp_go (i := .iadd) (len := 1) (by decide +kernel) rfl
theorem x_129_89 : Xp 129 d 89 ls ((0, a) :: (2, p) :: st) t g Q = ((hkJK p = 100 ∧ 0 ≤ a ∧ a < jL p) ∧ Xp 129 d 90 ls ((0, g p a) :: st) t g Q) := Xp_chk (i := .iaload) (len := 1) (by decide +kernel) rfl
theorem x_129_90 : Xp 129 d 90 ls ((0, x) :: (0, a) :: (2, p) :: st) t g Q = ((hkJK p = 100 ∧ (100 = 102 → x = 0 ∨ x = 1) ∧ 0 ≤ a ∧ a < jL p) ∧ Xp 129 d 91 ls st t (hkSet g p a x) Q) := Xp_chk (i := .iastore) (len := 1) (by decide +kernel) rfl
theorem x_129_91 : Xp 129 d 91 [(2, x), v1, v2, v3, v4] st t g Q = Xp 129 d 92 [(2, x), v1, v2, v3, v4] ((2, x) :: st) t g Q := Xp_go (i := .aload_n 0) (len := 1) (by decide +kernel) rfl
theorem x_129_92 : Xp 129 d 92 ls ((2, p) :: st) t g Q = (hkJK p = 10 ∧ jA p 21 ≤ t ∧ Xp 129 d 95 ls ((2, jR p 21) :: st) t g Q) := xr_getR (idx := 54) (ci := 10) (k := 21) (by decide +kernel) (by decide +kernel) (by decide +kernel)
theorem x_129_95 : Xp 129 d 95 [v0, v1, v2, v3, (0, x)] st t g Q = Xp 129 d 97 [v0, v1, v2, v3, (0, x)] ((0, x) :: st) t g Q := Xp_go (i := .iload 4) (len := 2) (by decide +kernel) rfl
theorem x_129_97 : Xp 129 d 97 ls ((0, a) :: (2, p) :: st) t g Q = ((hkJK p = 100 ∧ 0 ≤ a ∧ a < jL p) ∧ Xp 129 d 98 ls ((0, g p a) :: st) t g Q) := Xp_chk (i := .iaload) (len := 1) (by decide +kernel) rfl
theorem x_129_98 : Xp 129 d 98 ls ((0, a) :: st) t g Q = Xp 129 d 99 ls ((1, a) :: st) t g Q := Xp_go (i := .i2l) (len := 1) (by decide +kernel) rfl
theorem x_129_99 : Xp 129 d 99 ls st t g Q = Xp 129 d 100 ls ((1, 0) :: st) t g Q := Xp_go (i := .lconst 0) (len := 1) (by decide +kernel) rfl
theorem x_129_100 : Xp 129 d 100 ls st t g Q = Xp 129 d 103 ls ((1, 20) :: st) t g Q := xr_ldc2 (idx := 194) (by decide +kernel) (by decide +kernel)
theorem x_129_103 : Xp 129 (d + 1) 103 ls ((1, a2) :: (1, a1) :: (1, a0) :: st) t g Q = (hkC8 st ∧ Xp 107 d 0 [(1, a0), hkU, (1, a1), hkU, (1, a2), hkU] [] t g (fun r t g => Xp 129 (d + 1) 106 ls (hkPush r st) t g Q)) := xr_invS (idx := 115) (y' := 107) (tg := [1, 1, 1]) (by decide +kernel) (by decide +kernel) (by decide +kernel) rfl rfl
theorem x_129_106 : Xp 129 d 106 ls ((0, a) :: st) t g Q = ((a = 0 → Xp 129 d 137 ls st t g Q) ∧ (¬ (a = 0) → Xp 129 d 109 ls st t g Q)) := xr_if1 (cd := .eq) (off := 31) (by decide +kernel) (by decide)
theorem x_129_109 : Xp 129 d 109 [v0, v1, v2, v3, (0, x)] st t g Q = Xp 129 d 111 [v0, v1, v2, v3, (0, x)] ((0, x) :: st) t g Q := Xp_go (i := .iload 4) (len := 2) (by decide +kernel) rfl
theorem x_129_111 : Xp 129 d 111 ls ((0, a) :: st) t g Q = ((a = 0 → Xp 129 d 133 ls st t g Q) ∧ (¬ (a = 0) → Xp 129 d 114 ls st t g Q)) := xr_if1 (cd := .eq) (off := 22) (by decide +kernel) (by decide)
theorem x_129_114 : Xp 129 d 114 [(2, x), v1, v2, v3, v4] st t g Q = Xp 129 d 115 [(2, x), v1, v2, v3, v4] ((2, x) :: st) t g Q := Xp_go (i := .aload_n 0) (len := 1) (by decide +kernel) rfl
theorem x_129_115 : Xp 129 d 115 ls ((2, p) :: st) t g Q = (hkJK p = 10 ∧ jA p 21 ≤ t ∧ Xp 129 d 118 ls ((2, jR p 21) :: st) t g Q) := xr_getR (idx := 54) (ci := 10) (k := 21) (by decide +kernel) (by decide +kernel) (by decide +kernel)
theorem x_129_118 : Xp 129 d 118 [v0, v1, v2, v3, (0, x)] st t g Q = Xp 129 d 120 [v0, v1, v2, v3, (0, x)] ((0, x) :: st) t g Q := Xp_go (i := .iload 4) (len := 2) (by decide +kernel) rfl
theorem x_129_120 : Xp 129 d 120 ls ((0, a) :: (2, p) :: st) t g Q = ((hkJK p = 100 ∧ 0 ≤ a ∧ a < jL p) ∧ Xp 129 d 121 ls ((0, g p a) :: st) t g Q) := Xp_chk (i := .iaload) (len := 1) (by decide +kernel) rfl
theorem x_129_121 : Xp 129 d 121 [(2, x), v1, v2, v3, v4] st t g Q = Xp 129 d 122 [(2, x), v1, v2, v3, v4] ((2, x) :: st) t g Q := Xp_go (i := .aload_n 0) (len := 1) (by decide +kernel) rfl
theorem x_129_122 : Xp 129 d 122 ls ((2, p) :: st) t g Q = (hkJK p = 10 ∧ jA p 21 ≤ t ∧ Xp 129 d 125 ls ((2, jR p 21) :: st) t g Q) := xr_getR (idx := 54) (ci := 10) (k := 21) (by decide +kernel) (by decide +kernel) (by decide +kernel)
theorem x_129_125 : Xp 129 d 125 [v0, v1, v2, v3, (0, x)] st t g Q = Xp 129 d 127 [v0, v1, v2, v3, (0, x)] ((0, x) :: st) t g Q := Xp_go (i := .iload 4) (len := 2) (by decide +kernel) rfl
theorem x_129_127 : Xp 129 d 127 ls st t g Q = Xp 129 d 128 ls ((0, 1) :: st) t g Q := xr_const (c := 1) (by decide +kernel) (by decide)
theorem x_129_128 : Xp 129 d 128 ls ((0, b) :: (0, a) :: st) t g Q = Xp 129 d 129 ls ((0, hkW (a - b)) :: st) t g Q := Xp_go (i := .isub) (len := 1) (by decide +kernel) rfl
theorem x_129_129 : Xp 129 d 129 ls ((0, a) :: (2, p) :: st) t g Q = ((hkJK p = 100 ∧ 0 ≤ a ∧ a < jL p) ∧ Xp 129 d 130 ls ((0, g p a) :: st) t g Q) := Xp_chk (i := .iaload) (len := 1) (by decide +kernel) rfl
theorem x_129_130 : Xp 129 d 130 ls ((0, b) :: (0, a) :: st) t g Q = ((b < a → Xp 129 d 137 ls st t g Q) ∧ (¬ (b < a) → Xp 129 d 133 ls st t g Q)) := xr_if2 (cd := .gt) (off := 7) (by decide +kernel) (by decide)
theorem x_129_133 : Xp 129 d 133 ls st t g Q = Xp 129 d 134 ls ((0, 1) :: st) t g Q := xr_const (c := 1) (by decide +kernel) (by decide)
theorem x_129_134 : Xp 129 d 134 ls st t g Q = Xp 129 d 138 ls st t g Q := xr_goto (off := 4) (by decide +kernel) (by decide)
theorem x_129_137 : Xp 129 d 137 ls st t g Q = Xp 129 d 138 ls ((0, 0) :: st) t g Q := xr_const (c := 0) (by decide +kernel) (by decide)
theorem x_129_138 : Xp 129 d 138 [v0, v1, v2, v3, v4] ((0, x) :: st) t g Q = (hkP1 v2 ∧ Xp 129 d 139 [v0, v1, v2, (0, x), v4] st t g Q) := Xp_chk (i := .istore_n 3) (len := 1) (by decide +kernel) rfl
theorem x_129_139 : Xp 129 d 139 [v0, v1, v2, v3, (0, x)] st t g Q = (hkP1 v3 ∧ Xp 129 d 142 [v0, v1, v2, v3, (0, hkW (x + 1))] st t g Q) := Xp_chk (i := .iinc 4 (1)) (len := 3) (by decide +kernel) rfl
theorem x_129_142 : Xp 129 d 142 ls st t g Q = Xp 129 d 59 ls st t g Q := xr_goto (off := -83) (by decide +kernel) (by decide)
theorem x_129_145 : Xp 129 d 145 [v0, v1, v2, (0, x), v4] st t g Q = Xp 129 d 146 [v0, v1, v2, (0, x), v4] ((0, x) :: st) t g Q := Xp_go (i := .iload_n 3) (len := 1) (by decide +kernel) rfl
theorem x_129_146 : Xp 129 d 146 ls ((0, a) :: st) t g Q = ((¬ (a = 0) → Xp 129 d 153 ls st t g Q) ∧ (¬ (¬ (a = 0)) → Xp 129 d 149 ls st t g Q)) := xr_if1 (cd := .ne) (off := 7) (by decide +kernel) (by decide)
theorem x_129_149 : Xp 129 d 149 ls st t g Q = Xp 129 d 152 ls ((0, -1000) :: st) t g Q := xr_si (c := -1000) (by decide +kernel) (by decide)
theorem x_129_152 : Xp 129 d 152 ls [(0, x)] t g Q = Q (some (0, x)) t g := xr_retI (by decide +kernel) (by decide +kernel)
theorem x_129_153 : Xp 129 d 153 [(2, x), v1, v2, v3, v4] st t g Q = Xp 129 d 154 [(2, x), v1, v2, v3, v4] ((2, x) :: st) t g Q := Xp_go (i := .aload_n 0) (len := 1) (by decide +kernel) rfl
theorem x_129_154 : Xp 129 d 154 [(2, x), v1, v2, v3, v4] st t g Q = Xp 129 d 155 [(2, x), v1, v2, v3, v4] ((2, x) :: st) t g Q := Xp_go (i := .aload_n 0) (len := 1) (by decide +kernel) rfl
theorem x_129_155 : Xp 129 d 155 ls ((2, p) :: st) t g Q = (hkJK p = 10 ∧ jA p 21 ≤ t ∧ Xp 129 d 158 ls ((2, jR p 21) :: st) t g Q) := xr_getR (idx := 54) (ci := 10) (k := 21) (by decide +kernel) (by decide +kernel) (by decide +kernel)
theorem x_129_158 : Xp 129 (d + 1) 158 ls ((2, a1) :: (2, a0) :: st) t g Q = (hkJK a0 = 10 ∧ hkC8 st ∧ Xp 125 d 0 [(2, a0), (2, a1), hkU, hkU, hkU] [] t g (fun r t g => Xp 129 (d + 1) 161 ls (hkPush r st) t g Q)) := xr_invV (idx := 165) (y' := 125) (ci := 10) (tg := [2, 2]) (by decide +kernel) (by decide +kernel) (by decide +kernel) (by decide +kernel) rfl rfl rfl
theorem x_129_161 : Xp 129 d 161 [v0, v1, (0, x), v3, v4] st t g Q = Xp 129 d 162 [v0, v1, (0, x), v3, v4] ((0, x) :: st) t g Q := Xp_go (i := .iload_n 2) (len := 1) (by decide +kernel) rfl
theorem x_129_162 : Xp 129 d 162 ls ((0, a) :: st) t g Q = ((¬ (a = 0) → Xp 129 d 172 ls st t g Q) ∧ (¬ (¬ (a = 0)) → Xp 129 d 165 ls st t g Q)) := xr_if1 (cd := .ne) (off := 10) (by decide +kernel) (by decide)
theorem x_129_165 : Xp 129 d 165 [(2, x), v1, v2, v3, v4] st t g Q = Xp 129 d 166 [(2, x), v1, v2, v3, v4] ((2, x) :: st) t g Q := Xp_go (i := .aload_n 0) (len := 1) (by decide +kernel) rfl
theorem x_129_166 : Xp 129 d 166 ls ((2, p) :: st) t g Q = (hkJK p = 10 ∧ Xp 129 d 169 ls ((0, g p 16) :: st) t g Q) := xr_getI (idx := 147) (ci := 10) (k := 16) (by decide +kernel) (by decide +kernel) (by decide +kernel)
theorem x_129_169 : Xp 129 d 169 ls st t g Q = Xp 129 d 199 ls st t g Q := xr_goto (off := 30) (by decide +kernel) (by decide)
theorem x_129_172 : Xp 129 d 172 [(2, x), v1, v2, v3, v4] st t g Q = Xp 129 d 173 [(2, x), v1, v2, v3, v4] ((2, x) :: st) t g Q := Xp_go (i := .aload_n 0) (len := 1) (by decide +kernel) rfl
theorem x_129_173 : Xp 129 d 173 ls ((2, p) :: st) t g Q = (hkJK p = 10 ∧ Xp 129 d 176 ls ((0, g p 16) :: st) t g Q) := xr_getI (idx := 147) (ci := 10) (k := 16) (by decide +kernel) (by decide +kernel) (by decide +kernel)
theorem x_129_176 : Xp 129 d 176 ls ((0, a) :: st) t g Q = ((¬ (a = 0) → Xp 129 d 183 ls st t g Q) ∧ (¬ (¬ (a = 0)) → Xp 129 d 179 ls st t g Q)) := xr_if1 (cd := .ne) (off := 7) (by decide +kernel) (by decide)
theorem x_129_179 : Xp 129 d 179 ls st t g Q = Xp 129 d 180 ls ((0, -1) :: st) t g Q := xr_const (c := -1) (by decide +kernel) (by decide)
theorem x_129_180 : Xp 129 d 180 ls st t g Q = Xp 129 d 199 ls st t g Q := xr_goto (off := 19) (by decide +kernel) (by decide)
theorem x_129_183 : Xp 129 d 183 [v0, v1, (0, x), v3, v4] st t g Q = Xp 129 d 184 [v0, v1, (0, x), v3, v4] ((0, x) :: st) t g Q := Xp_go (i := .iload_n 2) (len := 1) (by decide +kernel) rfl
theorem x_129_184 : Xp 129 d 184 ls st t g Q = Xp 129 d 185 ls ((0, 1) :: st) t g Q := xr_const (c := 1) (by decide +kernel) (by decide)
theorem x_129_185 : Xp 129 d 185 ls ((0, b) :: (0, a) :: st) t g Q = ((¬ (a = b) → Xp 129 d 195 ls st t g Q) ∧ (¬ (¬ (a = b)) → Xp 129 d 188 ls st t g Q)) := xr_if2 (cd := .ne) (off := 10) (by decide +kernel) (by decide)
theorem x_129_188 : Xp 129 d 188 [(2, x), v1, v2, v3, v4] st t g Q = Xp 129 d 189 [(2, x), v1, v2, v3, v4] ((2, x) :: st) t g Q := Xp_go (i := .aload_n 0) (len := 1) (by decide +kernel) rfl
theorem x_129_189 : Xp 129 d 189 ls ((2, p) :: st) t g Q = (hkJK p = 10 ∧ Xp 129 d 192 ls ((0, g p 17) :: st) t g Q) := xr_getI (idx := 150) (ci := 10) (k := 17) (by decide +kernel) (by decide +kernel) (by decide +kernel)
theorem x_129_192 : Xp 129 d 192 ls st t g Q = Xp 129 d 199 ls st t g Q := xr_goto (off := 7) (by decide +kernel) (by decide)
theorem x_129_195 : Xp 129 d 195 [(2, x), v1, v2, v3, v4] st t g Q = Xp 129 d 196 [(2, x), v1, v2, v3, v4] ((2, x) :: st) t g Q := Xp_go (i := .aload_n 0) (len := 1) (by decide +kernel) rfl
theorem x_129_196 : Xp 129 d 196 ls ((2, p) :: st) t g Q = (hkJK p = 10 ∧ Xp 129 d 199 ls ((0, g p 18) :: st) t g Q) := xr_getI (idx := 153) (ci := 10) (k := 18) (by decide +kernel) (by decide +kernel) (by decide +kernel)
theorem x_129_199 : Xp 129 d 199 ls [(0, x)] t g Q = Q (some (0, x)) t g := xr_retI (by decide +kernel) (by decide +kernel)
-- 130: HookBoxesModel.isSheet(I)Z
theorem x_130_0 : Xp 130 d 0 [(0, x)] st t g Q = Xp 130 d 1 [(0, x)] ((0, x) :: st) t g Q := Xp_go (i := .iload_n 0) (len := 1) (by decide +kernel) rfl
theorem x_130_1 : Xp 130 d 1 ls ((0, a) :: st) t g Q = Xp 130 d 2 ls ((1, a) :: st) t g Q := Xp_go (i := .i2l) (len := 1) (by decide +kernel) rfl
theorem x_130_2 : Xp 130 d 2 ls st t g Q = Xp 130 d 3 ls ((1, 0) :: st) t g Q := Xp_go (i := .lconst 0) (len := 1) (by decide +kernel) rfl
theorem x_130_3 : Xp 130 d 3 ls st t g Q = Xp 130 d 6 ls ((1, 3) :: st) t g Q := xr_ldc2 (idx := 184) (by decide +kernel) (by decide +kernel)
theorem x_130_6 : Xp 130 (d + 1) 6 ls ((1, a2) :: (1, a1) :: (1, a0) :: st) t g Q = (hkC8 st ∧ Xp 107 d 0 [(1, a0), hkU, (1, a1), hkU, (1, a2), hkU] [] t g (fun r t g => Xp 130 (d + 1) 9 ls (hkPush r st) t g Q)) := xr_invS (idx := 115) (y' := 107) (tg := [1, 1, 1]) (by decide +kernel) (by decide +kernel) (by decide +kernel) rfl rfl
theorem x_130_9 : Xp 130 d 9 ls [(0, x)] t g Q = ((x = 0 ∨ x = 1) ∧ Q (some (0, x)) t g) := xr_retZ (by decide +kernel) (by decide +kernel)
-- 131: HookBoxesModel.roots(III)I
theorem x_131_0 : Xp 131 d 0 [(2, x), v1, v2, v3] st t g Q = Xp 131 d 1 [(2, x), v1, v2, v3] ((2, x) :: st) t g Q := Xp_go (i := .aload_n 0) (len := 1) (by decide +kernel) rfl
theorem x_131_1 : Xp 131 d 1 [v0, (0, x), v2, v3] st t g Q = Xp 131 d 2 [v0, (0, x), v2, v3] ((0, x) :: st) t g Q := Xp_go (i := .iload_n 1) (len := 1) (by decide +kernel) rfl
theorem x_131_2 : Xp 131 (d + 1) 2 ls ((0, a1) :: (2, a0) :: st) t g Q = (hkJK a0 = 10 ∧ hkC8 st ∧ Xp 109 d 0 [(2, a0), (0, a1)] [] t g (fun r t g => Xp 131 (d + 1) 5 ls (hkPush r st) t g Q)) := xr_invV (idx := 123) (y' := 109) (ci := 10) (tg := [2, 0]) (by decide +kernel) (by decide +kernel) (by decide +kernel) (by decide +kernel) rfl rfl rfl
theorem x_131_5 : Xp 131 d 5 ls ((0, a) :: st) t g Q = ((a = 0 → Xp 131 d 24 ls st t g Q) ∧ (¬ (a = 0) → Xp 131 d 8 ls st t g Q)) := xr_if1 (cd := .eq) (off := 19) (by decide +kernel) (by decide)
theorem x_131_8 : Xp 131 d 8 [(2, x), v1, v2, v3] st t g Q = Xp 131 d 9 [(2, x), v1, v2, v3] ((2, x) :: st) t g Q := Xp_go (i := .aload_n 0) (len := 1) (by decide +kernel) rfl
theorem x_131_9 : Xp 131 d 9 [v0, v1, (0, x), v3] st t g Q = Xp 131 d 10 [v0, v1, (0, x), v3] ((0, x) :: st) t g Q := Xp_go (i := .iload_n 2) (len := 1) (by decide +kernel) rfl
theorem x_131_10 : Xp 131 (d + 1) 10 ls ((0, a1) :: (2, a0) :: st) t g Q = (hkJK a0 = 10 ∧ hkC8 st ∧ Xp 109 d 0 [(2, a0), (0, a1)] [] t g (fun r t g => Xp 131 (d + 1) 13 ls (hkPush r st) t g Q)) := xr_invV (idx := 123) (y' := 109) (ci := 10) (tg := [2, 0]) (by decide +kernel) (by decide +kernel) (by decide +kernel) (by decide +kernel) rfl rfl rfl
theorem x_131_13 : Xp 131 d 13 ls ((0, a) :: st) t g Q = ((a = 0 → Xp 131 d 24 ls st t g Q) ∧ (¬ (a = 0) → Xp 131 d 16 ls st t g Q)) := xr_if1 (cd := .eq) (off := 11) (by decide +kernel) (by decide)
theorem x_131_16 : Xp 131 d 16 [(2, x), v1, v2, v3] st t g Q = Xp 131 d 17 [(2, x), v1, v2, v3] ((2, x) :: st) t g Q := Xp_go (i := .aload_n 0) (len := 1) (by decide +kernel) rfl
theorem x_131_17 : Xp 131 d 17 [v0, v1, v2, (0, x)] st t g Q = Xp 131 d 18 [v0, v1, v2, (0, x)] ((0, x) :: st) t g Q := Xp_go (i := .iload_n 3) (len := 1) (by decide +kernel) rfl
theorem x_131_18 : Xp 131 (d + 1) 18 ls ((0, a1) :: (2, a0) :: st) t g Q = (hkJK a0 = 10 ∧ hkC8 st ∧ Xp 109 d 0 [(2, a0), (0, a1)] [] t g (fun r t g => Xp 131 (d + 1) 21 ls (hkPush r st) t g Q)) := xr_invV (idx := 123) (y' := 109) (ci := 10) (tg := [2, 0]) (by decide +kernel) (by decide +kernel) (by decide +kernel) (by decide +kernel) rfl rfl rfl
theorem x_131_21 : Xp 131 d 21 ls ((0, a) :: st) t g Q = ((¬ (a = 0) → Xp 131 d 27 ls st t g Q) ∧ (¬ (¬ (a = 0)) → Xp 131 d 24 ls st t g Q)) := xr_if1 (cd := .ne) (off := 6) (by decide +kernel) (by decide)
theorem x_131_24 : Xp 131 d 24 ls st t g Q = Xp 131 d 26 ls ((0, -2) :: st) t g Q := xr_bi (c := -2) (by decide +kernel) (by decide)
theorem x_131_26 : Xp 131 d 26 ls [(0, x)] t g Q = Q (some (0, x)) t g := xr_retI (by decide +kernel) (by decide +kernel)
theorem x_131_27 : Xp 131 d 27 [(2, x), v1, v2, v3] st t g Q = Xp 131 d 28 [(2, x), v1, v2, v3] ((2, x) :: st) t g Q := Xp_go (i := .aload_n 0) (len := 1) (by decide +kernel) rfl
theorem x_131_28 : Xp 131 d 28 ls ((2, p) :: st) t g Q = (hkJK p = 10 ∧ jA p 25 ≤ t ∧ Xp 131 d 31 ls ((2, jR p 25) :: st) t g Q) := xr_getR (idx := 66) (ci := 10) (k := 25) (by decide +kernel) (by decide +kernel) (by decide +kernel)
theorem x_131_31 : Xp 131 d 31 ls st t g Q = Xp 131 d 32 ls ((0, 0) :: st) t g Q := xr_const (c := 0) (by decide +kernel) (by decide)
theorem x_131_32 : Xp 131 d 32 [v0, (0, x), v2, v3] st t g Q = Xp 131 d 33 [v0, (0, x), v2, v3] ((0, x) :: st) t g Q := Xp_go (i := .iload_n 1) (len := 1) (by decide +kernel) rfl
theorem x_131_33 : Xp 131 d 33 ls ((0, x) :: (0, a) :: (2, p) :: st) t g Q = ((hkJK p = 100 ∧ (100 = 102 → x = 0 ∨ x = 1) ∧ 0 ≤ a ∧ a < jL p) ∧ Xp 131 d 34 ls st t (hkSet g p a x) Q) := Xp_chk (i := .iastore) (len := 1) (by decide +kernel) rfl
theorem x_131_34 : Xp 131 d 34 [(2, x), v1, v2, v3] st t g Q = Xp 131 d 35 [(2, x), v1, v2, v3] ((2, x) :: st) t g Q := Xp_go (i := .aload_n 0) (len := 1) (by decide +kernel) rfl
theorem x_131_35 : Xp 131 d 35 ls ((2, p) :: st) t g Q = (hkJK p = 10 ∧ jA p 25 ≤ t ∧ Xp 131 d 38 ls ((2, jR p 25) :: st) t g Q) := xr_getR (idx := 66) (ci := 10) (k := 25) (by decide +kernel) (by decide +kernel) (by decide +kernel)
theorem x_131_38 : Xp 131 d 38 ls st t g Q = Xp 131 d 39 ls ((0, 1) :: st) t g Q := xr_const (c := 1) (by decide +kernel) (by decide)
theorem x_131_39 : Xp 131 d 39 [v0, v1, (0, x), v3] st t g Q = Xp 131 d 40 [v0, v1, (0, x), v3] ((0, x) :: st) t g Q := Xp_go (i := .iload_n 2) (len := 1) (by decide +kernel) rfl
theorem x_131_40 : Xp 131 d 40 ls ((0, x) :: (0, a) :: (2, p) :: st) t g Q = ((hkJK p = 100 ∧ (100 = 102 → x = 0 ∨ x = 1) ∧ 0 ≤ a ∧ a < jL p) ∧ Xp 131 d 41 ls st t (hkSet g p a x) Q) := Xp_chk (i := .iastore) (len := 1) (by decide +kernel) rfl
theorem x_131_41 : Xp 131 d 41 [(2, x), v1, v2, v3] st t g Q = Xp 131 d 42 [(2, x), v1, v2, v3] ((2, x) :: st) t g Q := Xp_go (i := .aload_n 0) (len := 1) (by decide +kernel) rfl
theorem x_131_42 : Xp 131 d 42 ls st t g Q = Xp 131 d 43 ls ((0, 2) :: st) t g Q := xr_const (c := 2) (by decide +kernel) (by decide)
theorem x_131_43 : Xp 131 d 43 ls ((0, x) :: (2, p) :: st) t g Q = (hkJK p = 10 ∧ Xp 131 d 46 ls st t (hkSet g p 26 x) Q) := xr_putI (idx := 215) (ci := 10) (k := 26) (by decide +kernel) (by decide +kernel) (by decide +kernel)
theorem x_131_46 : Xp 131 d 46 [(2, x), v1, v2, v3] st t g Q = Xp 131 d 47 [(2, x), v1, v2, v3] ((2, x) :: st) t g Q := Xp_go (i := .aload_n 0) (len := 1) (by decide +kernel) rfl
theorem x_131_47 : Xp 131 d 47 [v0, v1, v2, (0, x)] st t g Q = Xp 131 d 48 [v0, v1, v2, (0, x)] ((0, x) :: st) t g Q := Xp_go (i := .iload_n 3) (len := 1) (by decide +kernel) rfl
theorem x_131_48 : Xp 131 (d + 1) 48 ls ((0, a1) :: (2, a0) :: st) t g Q = (hkJK a0 = 10 ∧ hkC8 st ∧ Xp 132 d 0 [(2, a0), (0, a1), hkU, hkU, hkU, hkU, hkU, hkU, hkU] [] t g (fun r t g => Xp 131 (d + 1) 51 ls (hkPush r st) t g Q)) := xr_invV (idx := 218) (y' := 132) (ci := 10) (tg := [2, 0]) (by decide +kernel) (by decide +kernel) (by decide +kernel) (by decide +kernel) rfl rfl rfl
theorem x_131_51 : Xp 131 d 51 ls [(0, x)] t g Q = Q (some (0, x)) t g := xr_retI (by decide +kernel) (by decide +kernel)
-- 132: HookBoxesModel.byRoots(I)I
theorem x_132_0 : Xp 132 d 0 [(2, x), v1, v2, v3, v4, v5, v6, v7, v8] st t g Q = Xp 132 d 1 [(2, x), v1, v2, v3, v4, v5, v6, v7, v8] ((2, x) :: st) t g Q := Xp_go (i := .aload_n 0) (len := 1) (by decide +kernel) rfl
theorem x_132_1 : Xp 132 (d + 1) 1 ls ((2, a0) :: st) t g Q = (hkJK a0 = 10 ∧ hkC8 st ∧ Xp 133 d 0 [(2, a0), hkU, hkU] [] t g (fun r t g => Xp 132 (d + 1) 4 ls (hkPush r st) t g Q)) := xr_invV (idx := 212) (y' := 133) (ci := 10) (tg := [2]) (by decide +kernel) (by decide +kernel) (by decide +kernel) (by decide +kernel) rfl rfl rfl
theorem x_132_4 : Xp 132 d 4 ls st t g Q = Xp 132 d 5 ls ((0, 0) :: st) t g Q := xr_const (c := 0) (by decide +kernel) (by decide)
theorem x_132_5 : Xp 132 d 5 [v0, v1, v2, v3, v4, v5, v6, v7, v8] ((0, x) :: st) t g Q = (hkP1 v1 ∧ Xp 132 d 6 [v0, v1, (0, x), v3, v4, v5, v6, v7, v8] st t g Q) := Xp_chk (i := .istore_n 2) (len := 1) (by decide +kernel) rfl
theorem x_132_6 : Xp 132 d 6 ls st t g Q = Xp 132 d 7 ls ((0, 0) :: st) t g Q := xr_const (c := 0) (by decide +kernel) (by decide)
theorem x_132_7 : Xp 132 d 7 [v0, v1, v2, v3, v4, v5, v6, v7, v8] ((0, x) :: st) t g Q = (hkP1 v2 ∧ Xp 132 d 8 [v0, v1, v2, (0, x), v4, v5, v6, v7, v8] st t g Q) := Xp_chk (i := .istore_n 3) (len := 1) (by decide +kernel) rfl
theorem x_132_8 : Xp 132 d 8 [v0, v1, v2, (0, x), v4, v5, v6, v7, v8] st t g Q = Xp 132 d 9 [v0, v1, v2, (0, x), v4, v5, v6, v7, v8] ((0, x) :: st) t g Q := Xp_go (i := .iload_n 3) (len := 1) (by decide +kernel) rfl
theorem x_132_9 : Xp 132 d 9 ls st t g Q = Xp 132 d 10 ls ((0, 1) :: st) t g Q := xr_const (c := 1) (by decide +kernel) (by decide)
theorem x_132_10 : Xp 132 d 10 [(2, x), v1, v2, v3, v4, v5, v6, v7, v8] st t g Q = Xp 132 d 11 [(2, x), v1, v2, v3, v4, v5, v6, v7, v8] ((2, x) :: st) t g Q := Xp_go (i := .aload_n 0) (len := 1) (by decide +kernel) rfl
theorem x_132_11 : Xp 132 d 11 ls ((2, p) :: st) t g Q = (hkJK p = 10 ∧ Xp 132 d 14 ls ((0, g p 1) :: st) t g Q) := xr_getI (idx := 15) (ci := 10) (k := 1) (by decide +kernel) (by decide +kernel) (by decide +kernel)
theorem x_132_14 : Xp 132 d 14 ls ((0, b) :: (0, a) :: st) t g Q = Xp 132 d 15 ls ((0, hkShl a b) :: st) t g Q := Xp_go (i := .ishl) (len := 1) (by decide +kernel) rfl
theorem x_132_15 : Xp 132 d 15 ls ((0, b) :: (0, a) :: st) t g Q = ((b ≤ a → Xp 132 d 177 ls st t g Q) ∧ (¬ (b ≤ a) → Xp 132 d 18 ls st t g Q)) := xr_if2 (cd := .ge) (off := 162) (by decide +kernel) (by decide)
theorem x_132_18 : Xp 132 d 18 [v0, v1, v2, (0, x), v4, v5, v6, v7, v8] st t g Q = Xp 132 d 19 [v0, v1, v2, (0, x), v4, v5, v6, v7, v8] ((0, x) :: st) t g Q := Xp_go (i := .iload_n 3) (len := 1) (by decide +kernel) rfl
theorem x_132_19 : Xp 132 (d + 1) 19 ls ((0, a0) :: st) t g Q = (hkC8 st ∧ Xp 104 d 0 [(0, a0), hkU, hkU] [] t g (fun r t g => Xp 132 (d + 1) 22 ls (hkPush r st) t g Q)) := xr_invS (idx := 104) (y' := 104) (tg := [0]) (by decide +kernel) (by decide +kernel) (by decide +kernel) rfl rfl
theorem x_132_22 : Xp 132 d 22 [(2, x), v1, v2, v3, v4, v5, v6, v7, v8] st t g Q = Xp 132 d 23 [(2, x), v1, v2, v3, v4, v5, v6, v7, v8] ((2, x) :: st) t g Q := Xp_go (i := .aload_n 0) (len := 1) (by decide +kernel) rfl
theorem x_132_23 : Xp 132 d 23 ls ((2, p) :: st) t g Q = (hkJK p = 10 ∧ Xp 132 d 26 ls ((0, g p 0) :: st) t g Q) := xr_getI (idx := 11) (ci := 10) (k := 0) (by decide +kernel) (by decide +kernel) (by decide +kernel)
theorem x_132_26 : Xp 132 d 26 ls ((0, b) :: (0, a) :: st) t g Q = ((a = b → Xp 132 d 32 ls st t g Q) ∧ (¬ (a = b) → Xp 132 d 29 ls st t g Q)) := xr_if2 (cd := .eq) (off := 6) (by decide +kernel) (by decide)
theorem x_132_29 : Xp 132 d 29 ls st t g Q = Xp 132 d 171 ls st t g Q := xr_goto (off := 142) (by decide +kernel) (by decide)
theorem x_132_32 : Xp 132 d 32 ls st t g Q = Xp 132 d 33 ls ((0, 0) :: st) t g Q := xr_const (c := 0) (by decide +kernel) (by decide)
theorem x_132_33 : Xp 132 d 33 [v0, v1, v2, v3, v4, v5, v6, v7, v8] ((0, x) :: st) t g Q = (hkP1 v3 ∧ Xp 132 d 35 [v0, v1, v2, v3, (0, x), v5, v6, v7, v8] st t g Q) := Xp_chk (i := .istore 4) (len := 2) (by decide +kernel) rfl
theorem x_132_35 : Xp 132 d 35 ls st t g Q = Xp 132 d 36 ls ((0, 0) :: st) t g Q := xr_const (c := 0) (by decide +kernel) (by decide)
theorem x_132_36 : Xp 132 d 36 [v0, v1, v2, v3, v4, v5, v6, v7, v8] ((0, x) :: st) t g Q = (hkP1 v4 ∧ Xp 132 d 38 [v0, v1, v2, v3, v4, (0, x), v6, v7, v8] st t g Q) := Xp_chk (i := .istore 5) (len := 2) (by decide +kernel) rfl
theorem x_132_38 : Xp 132 d 38 [v0, v1, v2, v3, v4, (0, x), v6, v7, v8] st t g Q = Xp 132 d 40 [v0, v1, v2, v3, v4, (0, x), v6, v7, v8] ((0, x) :: st) t g Q := Xp_go (i := .iload 5) (len := 2) (by decide +kernel) rfl
theorem x_132_40 : Xp 132 d 40 [(2, x), v1, v2, v3, v4, v5, v6, v7, v8] st t g Q = Xp 132 d 41 [(2, x), v1, v2, v3, v4, v5, v6, v7, v8] ((2, x) :: st) t g Q := Xp_go (i := .aload_n 0) (len := 1) (by decide +kernel) rfl
theorem x_132_41 : Xp 132 d 41 ls ((2, p) :: st) t g Q = (hkJK p = 10 ∧ Xp 132 d 44 ls ((0, g p 1) :: st) t g Q) := xr_getI (idx := 15) (ci := 10) (k := 1) (by decide +kernel) (by decide +kernel) (by decide +kernel)
theorem x_132_44 : Xp 132 d 44 ls ((0, b) :: (0, a) :: st) t g Q = ((b ≤ a → Xp 132 d 80 ls st t g Q) ∧ (¬ (b ≤ a) → Xp 132 d 47 ls st t g Q)) := xr_if2 (cd := .ge) (off := 36) (by decide +kernel) (by decide)
theorem x_132_47 : Xp 132 d 47 [v0, v1, v2, (0, x), v4, v5, v6, v7, v8] st t g Q = Xp 132 d 48 [v0, v1, v2, (0, x), v4, v5, v6, v7, v8] ((0, x) :: st) t g Q := Xp_go (i := .iload_n 3) (len := 1) (by decide +kernel) rfl
theorem x_132_48 : Xp 132 d 48 [v0, v1, v2, v3, v4, (0, x), v6, v7, v8] st t g Q = Xp 132 d 50 [v0, v1, v2, v3, v4, (0, x), v6, v7, v8] ((0, x) :: st) t g Q := Xp_go (i := .iload 5) (len := 2) (by decide +kernel) rfl
theorem x_132_50 : Xp 132 d 50 ls ((0, b) :: (0, a) :: st) t g Q = Xp 132 d 51 ls ((0, hkShr a b) :: st) t g Q := Xp_go (i := .ishr) (len := 1) (by decide +kernel) rfl
theorem x_132_51 : Xp 132 d 51 ls st t g Q = Xp 132 d 52 ls ((0, 1) :: st) t g Q := xr_const (c := 1) (by decide +kernel) (by decide)
theorem x_132_52 : Xp 132 d 52 ls ((0, b) :: (0, a) :: st) t g Q = Xp 132 d 53 ls ((0, hkAnd a b) :: st) t g Q := Xp_go (i := .iand) (len := 1) (by decide +kernel) rfl
theorem x_132_53 : Xp 132 d 53 ls st t g Q = Xp 132 d 54 ls ((0, 1) :: st) t g Q := xr_const (c := 1) (by decide +kernel) (by decide)
theorem x_132_54 : Xp 132 d 54 ls ((0, b) :: (0, a) :: st) t g Q = ((¬ (a = b) → Xp 132 d 74 ls st t g Q) ∧ (¬ (¬ (a = b)) → Xp 132 d 57 ls st t g Q)) := xr_if2 (cd := .ne) (off := 20) (by decide +kernel) (by decide)
theorem x_132_57 : Xp 132 d 57 [(2, x), v1, v2, v3, v4, v5, v6, v7, v8] st t g Q = Xp 132 d 58 [(2, x), v1, v2, v3, v4, v5, v6, v7, v8] ((2, x) :: st) t g Q := Xp_go (i := .aload_n 0) (len := 1) (by decide +kernel) rfl
theorem x_132_58 : Xp 132 d 58 ls ((2, p) :: st) t g Q = (hkJK p = 10 ∧ jA p 24 ≤ t ∧ Xp 132 d 61 ls ((2, jR p 24) :: st) t g Q) := xr_getR (idx := 63) (ci := 10) (k := 24) (by decide +kernel) (by decide +kernel) (by decide +kernel)
theorem x_132_61 : Xp 132 d 61 [v0, v1, v2, v3, (0, x), v5, v6, v7, v8] st t g Q = Xp 132 d 63 [v0, v1, v2, v3, (0, x), v5, v6, v7, v8] ((0, x) :: st) t g Q := Xp_go (i := .iload 4) (len := 2) (by decide +kernel) rfl
theorem x_132_63 : Xp 132 d 63 [(2, x), v1, v2, v3, v4, v5, v6, v7, v8] st t g Q = Xp 132 d 64 [(2, x), v1, v2, v3, v4, v5, v6, v7, v8] ((2, x) :: st) t g Q := Xp_go (i := .aload_n 0) (len := 1) (by decide +kernel) rfl
theorem x_132_64 : Xp 132 d 64 ls ((2, p) :: st) t g Q = (hkJK p = 10 ∧ jA p 23 ≤ t ∧ Xp 132 d 67 ls ((2, jR p 23) :: st) t g Q) := xr_getR (idx := 60) (ci := 10) (k := 23) (by decide +kernel) (by decide +kernel) (by decide +kernel)
theorem x_132_67 : Xp 132 d 67 [v0, v1, v2, v3, v4, (0, x), v6, v7, v8] st t g Q = Xp 132 d 69 [v0, v1, v2, v3, v4, (0, x), v6, v7, v8] ((0, x) :: st) t g Q := Xp_go (i := .iload 5) (len := 2) (by decide +kernel) rfl
theorem x_132_69 : Xp 132 d 69 ls ((0, a) :: (2, p) :: st) t g Q = ((hkJK p = 100 ∧ 0 ≤ a ∧ a < jL p) ∧ Xp 132 d 70 ls ((0, g p a) :: st) t g Q) := Xp_chk (i := .iaload) (len := 1) (by decide +kernel) rfl
theorem x_132_70 : Xp 132 d 70 ls ((0, x) :: (0, a) :: (2, p) :: st) t g Q = ((hkJK p = 100 ∧ (100 = 102 → x = 0 ∨ x = 1) ∧ 0 ≤ a ∧ a < jL p) ∧ Xp 132 d 71 ls st t (hkSet g p a x) Q) := Xp_chk (i := .iastore) (len := 1) (by decide +kernel) rfl
theorem x_132_71 : Xp 132 d 71 [v0, v1, v2, v3, (0, x), v5, v6, v7, v8] st t g Q = (hkP1 v3 ∧ Xp 132 d 74 [v0, v1, v2, v3, (0, hkW (x + 1)), v5, v6, v7, v8] st t g Q) := Xp_chk (i := .iinc 4 (1)) (len := 3) (by decide +kernel) rfl
theorem x_132_74 : Xp 132 d 74 [v0, v1, v2, v3, v4, (0, x), v6, v7, v8] st t g Q = (hkP1 v4 ∧ Xp 132 d 77 [v0, v1, v2, v3, v4, (0, hkW (x + 1)), v6, v7, v8] st t g Q) := Xp_chk (i := .iinc 5 (1)) (len := 3) (by decide +kernel) rfl
theorem x_132_77 : Xp 132 d 77 ls st t g Q = Xp 132 d 38 ls st t g Q := xr_goto (off := -39) (by decide +kernel) (by decide)
theorem x_132_80 : Xp 132 d 80 [(2, x), v1, v2, v3, v4, v5, v6, v7, v8] st t g Q = Xp 132 d 81 [(2, x), v1, v2, v3, v4, v5, v6, v7, v8] ((2, x) :: st) t g Q := Xp_go (i := .aload_n 0) (len := 1) (by decide +kernel) rfl
theorem x_132_81 : Xp 132 d 81 ls st t g Q = Xp 132 d 82 ls ((0, 0) :: st) t g Q := xr_const (c := 0) (by decide +kernel) (by decide)
theorem x_132_82 : Xp 132 d 82 ls st t g Q = Xp 132 d 83 ls ((0, 0) :: st) t g Q := xr_const (c := 0) (by decide +kernel) (by decide)
theorem x_132_83 : Xp 132 d 83 ls st t g Q = Xp 132 d 84 ls ((0, 0) :: st) t g Q := xr_const (c := 0) (by decide +kernel) (by decide)
theorem x_132_84 : Xp 132 d 84 ls st t g Q = Xp 132 d 85 ls ((0, 0) :: st) t g Q := xr_const (c := 0) (by decide +kernel) (by decide)
theorem x_132_85 : Xp 132 (d + 1) 85 ls ((0, a4) :: (0, a3) :: (0, a2) :: (0, a1) :: (2, a0) :: st) t g Q = (hkJK a0 = 10 ∧ hkC8 st ∧ Xp 135 d 0 [(2, a0), (0, a1), (0, a2), (0, a3), (0, a4), hkU, hkU, hkU, hkU] [] t g (fun r t g => Xp 132 (d + 1) 88 ls (hkPush r st) t g Q)) := xr_invV (idx := 204) (y' := 135) (ci := 10) (tg := [2, 0, 0, 0, 0]) (by decide +kernel) (by decide +kernel) (by decide +kernel) (by decide +kernel) rfl rfl rfl
theorem x_132_88 : Xp 132 d 88 [v0, v1, v2, v3, v4, v5, v6, v7, v8] ((0, x) :: st) t g Q = (hkP1 v4 ∧ Xp 132 d 90 [v0, v1, v2, v3, v4, (0, x), v6, v7, v8] st t g Q) := Xp_chk (i := .istore 5) (len := 2) (by decide +kernel) rfl
theorem x_132_90 : Xp 132 d 90 [v0, v1, v2, v3, v4, (0, x), v6, v7, v8] st t g Q = Xp 132 d 92 [v0, v1, v2, v3, v4, (0, x), v6, v7, v8] ((0, x) :: st) t g Q := Xp_go (i := .iload 5) (len := 2) (by decide +kernel) rfl
theorem x_132_92 : Xp 132 (d + 1) 92 ls ((0, a0) :: st) t g Q = (hkC8 st ∧ Xp 136 d 0 [(0, a0)] [] t g (fun r t g => Xp 132 (d + 1) 95 ls (hkPush r st) t g Q)) := xr_invS (idx := 201) (y' := 136) (tg := [0]) (by decide +kernel) (by decide +kernel) (by decide +kernel) rfl rfl
theorem x_132_95 : Xp 132 d 95 [v0, v1, v2, v3, v4, v5, v6, v7, v8] ((0, x) :: st) t g Q = (hkP1 v5 ∧ Xp 132 d 97 [v0, v1, v2, v3, v4, v5, (0, x), v7, v8] st t g Q) := Xp_chk (i := .istore 6) (len := 2) (by decide +kernel) rfl
theorem x_132_97 : Xp 132 d 97 [v0, v1, v2, v3, v4, (0, x), v6, v7, v8] st t g Q = Xp 132 d 99 [v0, v1, v2, v3, v4, (0, x), v6, v7, v8] ((0, x) :: st) t g Q := Xp_go (i := .iload 5) (len := 2) (by decide +kernel) rfl
theorem x_132_99 : Xp 132 d 99 [(2, x), v1, v2, v3, v4, v5, v6, v7, v8] st t g Q = Xp 132 d 100 [(2, x), v1, v2, v3, v4, v5, v6, v7, v8] ((2, x) :: st) t g Q := Xp_go (i := .aload_n 0) (len := 1) (by decide +kernel) rfl
theorem x_132_100 : Xp 132 d 100 [v0, (0, x), v2, v3, v4, v5, v6, v7, v8] st t g Q = Xp 132 d 101 [v0, (0, x), v2, v3, v4, v5, v6, v7, v8] ((0, x) :: st) t g Q := Xp_go (i := .iload_n 1) (len := 1) (by decide +kernel) rfl
theorem x_132_101 : Xp 132 d 101 ls st t g Q = Xp 132 d 102 ls ((0, 0) :: st) t g Q := xr_const (c := 0) (by decide +kernel) (by decide)
theorem x_132_102 : Xp 132 d 102 ls st t g Q = Xp 132 d 103 ls ((0, 0) :: st) t g Q := xr_const (c := 0) (by decide +kernel) (by decide)
theorem x_132_103 : Xp 132 d 103 ls st t g Q = Xp 132 d 104 ls ((0, 1) :: st) t g Q := xr_const (c := 1) (by decide +kernel) (by decide)
theorem x_132_104 : Xp 132 (d + 1) 104 ls ((0, a4) :: (0, a3) :: (0, a2) :: (0, a1) :: (2, a0) :: st) t g Q = (hkJK a0 = 10 ∧ hkC8 st ∧ Xp 135 d 0 [(2, a0), (0, a1), (0, a2), (0, a3), (0, a4), hkU, hkU, hkU, hkU] [] t g (fun r t g => Xp 132 (d + 1) 107 ls (hkPush r st) t g Q)) := xr_invV (idx := 204) (y' := 135) (ci := 10) (tg := [2, 0, 0, 0, 0]) (by decide +kernel) (by decide +kernel) (by decide +kernel) (by decide +kernel) rfl rfl rfl
theorem x_132_107 : Xp 132 d 107 ls ((0, b) :: (0, a) :: st) t g Q = Xp 132 d 108 ls ((0, hkW (a * b)) :: st) t g Q := Xp_go (i := .imul) (len := 1) (by decide +kernel) rfl
theorem x_132_108 : Xp 132 d 108 ls st t g Q = Xp 132 d 111 ls ((0, 2521) :: st) t g Q := xr_si (c := 2521) (by decide +kernel) (by decide)
theorem x_132_111 : Xp 132 d 111 ls ((0, b) :: (0, a) :: st) t g Q = (b ≠ 0 ∧ Xp 132 d 112 ls ((0, a.tmod b) :: st) t g Q) := Xp_chk (i := .irem) (len := 1) (by decide +kernel) rfl
theorem x_132_112 : Xp 132 d 112 [v0, v1, v2, v3, v4, v5, v6, v7, v8] ((0, x) :: st) t g Q = (hkP1 v6 ∧ Xp 132 d 114 [v0, v1, v2, v3, v4, v5, v6, (0, x), v8] st t g Q) := Xp_chk (i := .istore 7) (len := 2) (by decide +kernel) rfl
theorem x_132_114 : Xp 132 d 114 ls st t g Q = Xp 132 d 115 ls ((0, 0) :: st) t g Q := xr_const (c := 0) (by decide +kernel) (by decide)
theorem x_132_115 : Xp 132 d 115 [v0, v1, v2, v3, v4, v5, v6, v7, v8] ((0, x) :: st) t g Q = (hkP1 v7 ∧ Xp 132 d 117 [v0, v1, v2, v3, v4, v5, v6, v7, (0, x)] st t g Q) := Xp_chk (i := .istore 8) (len := 2) (by decide +kernel) rfl
theorem x_132_117 : Xp 132 d 117 [v0, v1, v2, v3, v4, v5, v6, v7, (0, x)] st t g Q = Xp 132 d 119 [v0, v1, v2, v3, v4, v5, v6, v7, (0, x)] ((0, x) :: st) t g Q := Xp_go (i := .iload 8) (len := 2) (by decide +kernel) rfl
theorem x_132_119 : Xp 132 d 119 [(2, x), v1, v2, v3, v4, v5, v6, v7, v8] st t g Q = Xp 132 d 120 [(2, x), v1, v2, v3, v4, v5, v6, v7, v8] ((2, x) :: st) t g Q := Xp_go (i := .aload_n 0) (len := 1) (by decide +kernel) rfl
theorem x_132_120 : Xp 132 d 120 ls ((2, p) :: st) t g Q = (hkJK p = 10 ∧ Xp 132 d 123 ls ((0, g p 26) :: st) t g Q) := xr_getI (idx := 215) (ci := 10) (k := 26) (by decide +kernel) (by decide +kernel) (by decide +kernel)
theorem x_132_123 : Xp 132 d 123 ls ((0, b) :: (0, a) :: st) t g Q = ((b ≤ a → Xp 132 d 162 ls st t g Q) ∧ (¬ (b ≤ a) → Xp 132 d 126 ls st t g Q)) := xr_if2 (cd := .ge) (off := 39) (by decide +kernel) (by decide)
theorem x_132_126 : Xp 132 d 126 [v0, v1, v2, v3, v4, v5, v6, (0, x), v8] st t g Q = Xp 132 d 128 [v0, v1, v2, v3, v4, v5, v6, (0, x), v8] ((0, x) :: st) t g Q := Xp_go (i := .iload 7) (len := 2) (by decide +kernel) rfl
theorem x_132_128 : Xp 132 d 128 [(2, x), v1, v2, v3, v4, v5, v6, v7, v8] st t g Q = Xp 132 d 129 [(2, x), v1, v2, v3, v4, v5, v6, v7, v8] ((2, x) :: st) t g Q := Xp_go (i := .aload_n 0) (len := 1) (by decide +kernel) rfl
theorem x_132_129 : Xp 132 d 129 [(2, x), v1, v2, v3, v4, v5, v6, v7, v8] st t g Q = Xp 132 d 130 [(2, x), v1, v2, v3, v4, v5, v6, v7, v8] ((2, x) :: st) t g Q := Xp_go (i := .aload_n 0) (len := 1) (by decide +kernel) rfl
theorem x_132_130 : Xp 132 d 130 ls ((2, p) :: st) t g Q = (hkJK p = 10 ∧ jA p 25 ≤ t ∧ Xp 132 d 133 ls ((2, jR p 25) :: st) t g Q) := xr_getR (idx := 66) (ci := 10) (k := 25) (by decide +kernel) (by decide +kernel) (by decide +kernel)
theorem x_132_133 : Xp 132 d 133 [v0, v1, v2, v3, v4, v5, v6, v7, (0, x)] st t g Q = Xp 132 d 135 [v0, v1, v2, v3, v4, v5, v6, v7, (0, x)] ((0, x) :: st) t g Q := Xp_go (i := .iload 8) (len := 2) (by decide +kernel) rfl
theorem x_132_135 : Xp 132 d 135 ls ((0, a) :: (2, p) :: st) t g Q = ((hkJK p = 100 ∧ 0 ≤ a ∧ a < jL p) ∧ Xp 132 d 136 ls ((0, g p a) :: st) t g Q) := Xp_chk (i := .iaload) (len := 1) (by decide +kernel) rfl
theorem x_132_136 : Xp 132 d 136 ls st t g Q = Xp 132 d 137 ls ((0, 0) :: st) t g Q := xr_const (c := 0) (by decide +kernel) (by decide)
theorem x_132_137 : Xp 132 d 137 ls st t g Q = Xp 132 d 138 ls ((0, 0) :: st) t g Q := xr_const (c := 0) (by decide +kernel) (by decide)
theorem x_132_138 : Xp 132 d 138 ls st t g Q = Xp 132 d 139 ls ((0, 0) :: st) t g Q := xr_const (c := 0) (by decide +kernel) (by decide)
theorem x_132_139 : Xp 132 (d + 1) 139 ls ((0, a4) :: (0, a3) :: (0, a2) :: (0, a1) :: (2, a0) :: st) t g Q = (hkJK a0 = 10 ∧ hkC8 st ∧ Xp 135 d 0 [(2, a0), (0, a1), (0, a2), (0, a3), (0, a4), hkU, hkU, hkU, hkU] [] t g (fun r t g => Xp 132 (d + 1) 142 ls (hkPush r st) t g Q)) := xr_invV (idx := 204) (y' := 135) (ci := 10) (tg := [2, 0, 0, 0, 0]) (by decide +kernel) (by decide +kernel) (by decide +kernel) (by decide +kernel) rfl rfl rfl
theorem x_132_142 : Xp 132 d 142 [v0, v1, v2, v3, v4, v5, (0, x), v7, v8] st t g Q = Xp 132 d 144 [v0, v1, v2, v3, v4, v5, (0, x), v7, v8] ((0, x) :: st) t g Q := Xp_go (i := .iload 6) (len := 2) (by decide +kernel) rfl
theorem x_132_144 : Xp 132 d 144 ls ((0, b) :: (0, a) :: st) t g Q = Xp 132 d 145 ls ((0, hkW (a * b)) :: st) t g Q := Xp_go (i := .imul) (len := 1) (by decide +kernel) rfl
theorem x_132_145 : Xp 132 d 145 ls st t g Q = Xp 132 d 148 ls ((0, 2521) :: st) t g Q := xr_si (c := 2521) (by decide +kernel) (by decide)
theorem x_132_148 : Xp 132 d 148 ls ((0, b) :: (0, a) :: st) t g Q = (b ≠ 0 ∧ Xp 132 d 149 ls ((0, a.tmod b) :: st) t g Q) := Xp_chk (i := .irem) (len := 1) (by decide +kernel) rfl
theorem x_132_149 : Xp 132 d 149 ls ((0, b) :: (0, a) :: st) t g Q = Xp 132 d 150 ls ((0, hkW (a * b)) :: st) t g Q := Xp_go (i := .imul) (len := 1) (by decide +kernel) rfl
theorem x_132_150 : Xp 132 d 150 ls st t g Q = Xp 132 d 153 ls ((0, 2521) :: st) t g Q := xr_si (c := 2521) (by decide +kernel) (by decide)
theorem x_132_153 : Xp 132 d 153 ls ((0, b) :: (0, a) :: st) t g Q = (b ≠ 0 ∧ Xp 132 d 154 ls ((0, a.tmod b) :: st) t g Q) := Xp_chk (i := .irem) (len := 1) (by decide +kernel) rfl
theorem x_132_154 : Xp 132 d 154 [v0, v1, v2, v3, v4, v5, v6, v7, v8] ((0, x) :: st) t g Q = (hkP1 v6 ∧ Xp 132 d 156 [v0, v1, v2, v3, v4, v5, v6, (0, x), v8] st t g Q) := Xp_chk (i := .istore 7) (len := 2) (by decide +kernel) rfl
theorem x_132_156 : Xp 132 d 156 [v0, v1, v2, v3, v4, v5, v6, v7, (0, x)] st t g Q = (hkP1 v7 ∧ Xp 132 d 159 [v0, v1, v2, v3, v4, v5, v6, v7, (0, hkW (x + 1))] st t g Q) := Xp_chk (i := .iinc 8 (1)) (len := 3) (by decide +kernel) rfl
theorem x_132_159 : Xp 132 d 159 ls st t g Q = Xp 132 d 117 ls st t g Q := xr_goto (off := -42) (by decide +kernel) (by decide)
theorem x_132_162 : Xp 132 d 162 [v0, v1, (0, x), v3, v4, v5, v6, v7, v8] st t g Q = Xp 132 d 163 [v0, v1, (0, x), v3, v4, v5, v6, v7, v8] ((0, x) :: st) t g Q := Xp_go (i := .iload_n 2) (len := 1) (by decide +kernel) rfl
theorem x_132_163 : Xp 132 d 163 [v0, v1, v2, v3, v4, v5, v6, (0, x), v8] st t g Q = Xp 132 d 165 [v0, v1, v2, v3, v4, v5, v6, (0, x), v8] ((0, x) :: st) t g Q := Xp_go (i := .iload 7) (len := 2) (by decide +kernel) rfl
theorem x_132_165 : Xp 132 d 165 ls ((0, b) :: (0, a) :: st) t g Q = Xp 132 d 166 ls ((0, hkW (a + b)) :: st) t g Q := Xp_go (i := .iadd) (len := 1) (by decide +kernel) rfl
theorem x_132_166 : Xp 132 d 166 ls st t g Q = Xp 132 d 169 ls ((0, 2521) :: st) t g Q := xr_si (c := 2521) (by decide +kernel) (by decide)
theorem x_132_169 : Xp 132 d 169 ls ((0, b) :: (0, a) :: st) t g Q = (b ≠ 0 ∧ Xp 132 d 170 ls ((0, a.tmod b) :: st) t g Q) := Xp_chk (i := .irem) (len := 1) (by decide +kernel) rfl
theorem x_132_170 : Xp 132 d 170 [v0, v1, v2, v3, v4, v5, v6, v7, v8] ((0, x) :: st) t g Q = (hkP1 v1 ∧ Xp 132 d 171 [v0, v1, (0, x), v3, v4, v5, v6, v7, v8] st t g Q) := Xp_chk (i := .istore_n 2) (len := 1) (by decide +kernel) rfl
theorem x_132_171 : Xp 132 d 171 [v0, v1, v2, (0, x), v4, v5, v6, v7, v8] st t g Q = (hkP1 v2 ∧ Xp 132 d 174 [v0, v1, v2, (0, hkW (x + 1)), v4, v5, v6, v7, v8] st t g Q) := Xp_chk (i := .iinc 3 (1)) (len := 3) (by decide +kernel) rfl
theorem x_132_174 : Xp 132 d 174 ls st t g Q = Xp 132 d 8 ls st t g Q := xr_goto (off := -166) (by decide +kernel) (by decide)
theorem x_132_177 : Xp 132 d 177 [v0, v1, (0, x), v3, v4, v5, v6, v7, v8] st t g Q = Xp 132 d 178 [v0, v1, (0, x), v3, v4, v5, v6, v7, v8] ((0, x) :: st) t g Q := Xp_go (i := .iload_n 2) (len := 1) (by decide +kernel) rfl
theorem x_132_178 : Xp 132 d 178 [(2, x), v1, v2, v3, v4, v5, v6, v7, v8] st t g Q = Xp 132 d 179 [(2, x), v1, v2, v3, v4, v5, v6, v7, v8] ((2, x) :: st) t g Q := Xp_go (i := .aload_n 0) (len := 1) (by decide +kernel) rfl
theorem x_132_179 : Xp 132 d 179 ls ((2, p) :: st) t g Q = (hkJK p = 10 ∧ Xp 132 d 182 ls ((0, g p 1) :: st) t g Q) := xr_getI (idx := 15) (ci := 10) (k := 1) (by decide +kernel) (by decide +kernel) (by decide +kernel)
theorem x_132_182 : Xp 132 d 182 [(2, x), v1, v2, v3, v4, v5, v6, v7, v8] st t g Q = Xp 132 d 183 [(2, x), v1, v2, v3, v4, v5, v6, v7, v8] ((2, x) :: st) t g Q := Xp_go (i := .aload_n 0) (len := 1) (by decide +kernel) rfl
theorem x_132_183 : Xp 132 d 183 ls ((2, p) :: st) t g Q = (hkJK p = 10 ∧ Xp 132 d 186 ls ((0, g p 0) :: st) t g Q) := xr_getI (idx := 11) (ci := 10) (k := 0) (by decide +kernel) (by decide +kernel) (by decide +kernel)
theorem x_132_186 : Xp 132 (d + 1) 186 ls ((0, a1) :: (0, a0) :: st) t g Q = (hkC8 st ∧ Xp 134 d 0 [(0, a0), (0, a1), hkU, hkU] [] t g (fun r t g => Xp 132 (d + 1) 189 ls (hkPush r st) t g Q)) := xr_invS (idx := 198) (y' := 134) (tg := [0, 0]) (by decide +kernel) (by decide +kernel) (by decide +kernel) rfl rfl
theorem x_132_189 : Xp 132 (d + 1) 189 ls ((0, a0) :: st) t g Q = (hkC8 st ∧ Xp 136 d 0 [(0, a0)] [] t g (fun r t g => Xp 132 (d + 1) 192 ls (hkPush r st) t g Q)) := xr_invS (idx := 201) (y' := 136) (tg := [0]) (by decide +kernel) (by decide +kernel) (by decide +kernel) rfl rfl
theorem x_132_192 : Xp 132 d 192 ls ((0, b) :: (0, a) :: st) t g Q = Xp 132 d 193 ls ((0, hkW (a * b)) :: st) t g Q := Xp_go (i := .imul) (len := 1) (by decide +kernel) rfl
theorem x_132_193 : Xp 132 d 193 ls st t g Q = Xp 132 d 196 ls ((0, 2521) :: st) t g Q := xr_si (c := 2521) (by decide +kernel) (by decide)
theorem x_132_196 : Xp 132 d 196 ls ((0, b) :: (0, a) :: st) t g Q = (b ≠ 0 ∧ Xp 132 d 197 ls ((0, a.tmod b) :: st) t g Q) := Xp_chk (i := .irem) (len := 1) (by decide +kernel) rfl
theorem x_132_197 : Xp 132 d 197 ls [(0, x)] t g Q = Q (some (0, x)) t g := xr_retI (by decide +kernel) (by decide +kernel)
-- 133: HookBoxesModel.rootsNow()V
theorem x_133_0 : Xp 133 d 0 ls st t g Q = Xp 133 d 1 ls ((0, 0) :: st) t g Q := xr_const (c := 0) (by decide +kernel) (by decide)
theorem x_133_1 : Xp 133 d 1 [v0, v1, v2] ((0, x) :: st) t g Q = (hkP1 v0 ∧ Xp 133 d 2 [v0, (0, x), v2] st t g Q) := Xp_chk (i := .istore_n 1) (len := 1) (by decide +kernel) rfl
theorem x_133_2 : Xp 133 d 2 ls st t g Q = Xp 133 d 3 ls ((0, 1) :: st) t g Q := xr_const (c := 1) (by decide +kernel) (by decide)
theorem x_133_3 : Xp 133 d 3 [v0, v1, v2] ((0, x) :: st) t g Q = (hkP1 v1 ∧ Xp 133 d 4 [v0, v1, (0, x)] st t g Q) := Xp_chk (i := .istore_n 2) (len := 1) (by decide +kernel) rfl
theorem x_133_4 : Xp 133 d 4 [v0, v1, (0, x)] st t g Q = Xp 133 d 5 [v0, v1, (0, x)] ((0, x) :: st) t g Q := Xp_go (i := .iload_n 2) (len := 1) (by decide +kernel) rfl
theorem x_133_5 : Xp 133 d 5 ls st t g Q = Xp 133 d 8 ls ((0, 2521) :: st) t g Q := xr_si (c := 2521) (by decide +kernel) (by decide)
theorem x_133_8 : Xp 133 d 8 ls ((0, b) :: (0, a) :: st) t g Q = ((b ≤ a → Xp 133 d 63 ls st t g Q) ∧ (¬ (b ≤ a) → Xp 133 d 11 ls st t g Q)) := xr_if2 (cd := .ge) (off := 55) (by decide +kernel) (by decide)
theorem x_133_11 : Xp 133 d 11 [v0, (0, x), v2] st t g Q = Xp 133 d 12 [v0, (0, x), v2] ((0, x) :: st) t g Q := Xp_go (i := .iload_n 1) (len := 1) (by decide +kernel) rfl
theorem x_133_12 : Xp 133 d 12 [(2, x), v1, v2] st t g Q = Xp 133 d 13 [(2, x), v1, v2] ((2, x) :: st) t g Q := Xp_go (i := .aload_n 0) (len := 1) (by decide +kernel) rfl
theorem x_133_13 : Xp 133 d 13 ls ((2, p) :: st) t g Q = (hkJK p = 10 ∧ Xp 133 d 16 ls ((0, g p 1) :: st) t g Q) := xr_getI (idx := 15) (ci := 10) (k := 1) (by decide +kernel) (by decide +kernel) (by decide +kernel)
theorem x_133_16 : Xp 133 d 16 ls ((0, b) :: (0, a) :: st) t g Q = ((b ≤ a → Xp 133 d 63 ls st t g Q) ∧ (¬ (b ≤ a) → Xp 133 d 19 ls st t g Q)) := xr_if2 (cd := .ge) (off := 47) (by decide +kernel) (by decide)
theorem x_133_19 : Xp 133 d 19 [v0, v1, (0, x)] st t g Q = Xp 133 d 20 [v0, v1, (0, x)] ((0, x) :: st) t g Q := Xp_go (i := .iload_n 2) (len := 1) (by decide +kernel) rfl
theorem x_133_20 : Xp 133 d 20 [(2, x), v1, v2] st t g Q = Xp 133 d 21 [(2, x), v1, v2] ((2, x) :: st) t g Q := Xp_go (i := .aload_n 0) (len := 1) (by decide +kernel) rfl
theorem x_133_21 : Xp 133 d 21 ls ((2, p) :: st) t g Q = (hkJK p = 10 ∧ Xp 133 d 24 ls ((0, g p 1) :: st) t g Q) := xr_getI (idx := 15) (ci := 10) (k := 1) (by decide +kernel) (by decide +kernel) (by decide +kernel)
theorem x_133_24 : Xp 133 (d + 1) 24 ls ((0, a1) :: (0, a0) :: st) t g Q = (hkC8 st ∧ Xp 134 d 0 [(0, a0), (0, a1), hkU, hkU] [] t g (fun r t g => Xp 133 (d + 1) 27 ls (hkPush r st) t g Q)) := xr_invS (idx := 198) (y' := 134) (tg := [0, 0]) (by decide +kernel) (by decide +kernel) (by decide +kernel) rfl rfl
theorem x_133_27 : Xp 133 d 27 [(2, x), v1, v2] st t g Q = Xp 133 d 28 [(2, x), v1, v2] ((2, x) :: st) t g Q := Xp_go (i := .aload_n 0) (len := 1) (by decide +kernel) rfl
theorem x_133_28 : Xp 133 d 28 ls ((2, p) :: st) t g Q = (hkJK p = 10 ∧ Xp 133 d 31 ls ((0, g p 0) :: st) t g Q) := xr_getI (idx := 11) (ci := 10) (k := 0) (by decide +kernel) (by decide +kernel) (by decide +kernel)
theorem x_133_31 : Xp 133 d 31 ls st t g Q = Xp 133 d 32 ls ((0, 2) :: st) t g Q := xr_const (c := 2) (by decide +kernel) (by decide)
theorem x_133_32 : Xp 133 d 32 ls ((0, b) :: (0, a) :: st) t g Q = (b ≠ 0 ∧ Xp 133 d 33 ls ((0, a.tmod b) :: st) t g Q) := Xp_chk (i := .irem) (len := 1) (by decide +kernel) rfl
theorem x_133_33 : Xp 133 d 33 ls st t g Q = Xp 133 d 34 ls ((0, 1) :: st) t g Q := xr_const (c := 1) (by decide +kernel) (by decide)
theorem x_133_34 : Xp 133 d 34 ls ((0, b) :: (0, a) :: st) t g Q = ((¬ (a = b) → Xp 133 d 41 ls st t g Q) ∧ (¬ (¬ (a = b)) → Xp 133 d 37 ls st t g Q)) := xr_if2 (cd := .ne) (off := 7) (by decide +kernel) (by decide)
theorem x_133_37 : Xp 133 d 37 ls st t g Q = Xp 133 d 38 ls ((0, 1) :: st) t g Q := xr_const (c := 1) (by decide +kernel) (by decide)
theorem x_133_38 : Xp 133 d 38 ls st t g Q = Xp 133 d 44 ls st t g Q := xr_goto (off := 6) (by decide +kernel) (by decide)
theorem x_133_41 : Xp 133 d 41 ls st t g Q = Xp 133 d 44 ls ((0, 2520) :: st) t g Q := xr_si (c := 2520) (by decide +kernel) (by decide)
theorem x_133_44 : Xp 133 d 44 ls ((0, b) :: (0, a) :: st) t g Q = ((¬ (a = b) → Xp 133 d 57 ls st t g Q) ∧ (¬ (¬ (a = b)) → Xp 133 d 47 ls st t g Q)) := xr_if2 (cd := .ne) (off := 13) (by decide +kernel) (by decide)
theorem x_133_47 : Xp 133 d 47 [(2, x), v1, v2] st t g Q = Xp 133 d 48 [(2, x), v1, v2] ((2, x) :: st) t g Q := Xp_go (i := .aload_n 0) (len := 1) (by decide +kernel) rfl
theorem x_133_48 : Xp 133 d 48 ls ((2, p) :: st) t g Q = (hkJK p = 10 ∧ jA p 23 ≤ t ∧ Xp 133 d 51 ls ((2, jR p 23) :: st) t g Q) := xr_getR (idx := 60) (ci := 10) (k := 23) (by decide +kernel) (by decide +kernel) (by decide +kernel)
theorem x_133_51 : Xp 133 d 51 [v0, (0, x), v2] st t g Q = Xp 133 d 52 [v0, (0, x), v2] ((0, x) :: st) t g Q := Xp_go (i := .iload_n 1) (len := 1) (by decide +kernel) rfl
theorem x_133_52 : Xp 133 d 52 [v0, v1, (0, x)] st t g Q = Xp 133 d 53 [v0, v1, (0, x)] ((0, x) :: st) t g Q := Xp_go (i := .iload_n 2) (len := 1) (by decide +kernel) rfl
theorem x_133_53 : Xp 133 d 53 ls ((0, x) :: (0, a) :: (2, p) :: st) t g Q = ((hkJK p = 100 ∧ (100 = 102 → x = 0 ∨ x = 1) ∧ 0 ≤ a ∧ a < jL p) ∧ Xp 133 d 54 ls st t (hkSet g p a x) Q) := Xp_chk (i := .iastore) (len := 1) (by decide +kernel) rfl
theorem x_133_54 : Xp 133 d 54 [v0, (0, x), v2] st t g Q = (hkP1 v0 ∧ Xp 133 d 57 [v0, (0, hkW (x + 1)), v2] st t g Q) := Xp_chk (i := .iinc 1 (1)) (len := 3) (by decide +kernel) rfl
theorem x_133_57 : Xp 133 d 57 [v0, v1, (0, x)] st t g Q = (hkP1 v1 ∧ Xp 133 d 60 [v0, v1, (0, hkW (x + 1))] st t g Q) := Xp_chk (i := .iinc 2 (1)) (len := 3) (by decide +kernel) rfl
theorem x_133_60 : Xp 133 d 60 ls st t g Q = Xp 133 d 4 ls st t g Q := xr_goto (off := -56) (by decide +kernel) (by decide)
theorem x_133_63 : Xp 133 d 63 ls [] t g Q = Q none t g := xr_retV (by decide +kernel) (by decide +kernel)
-- 134: HookBoxesModel.power(II)I
theorem x_134_0 : Xp 134 d 0 ls st t g Q = Xp 134 d 1 ls ((0, 1) :: st) t g Q := xr_const (c := 1) (by decide +kernel) (by decide)
theorem x_134_1 : Xp 134 d 1 [v0, v1, v2, v3] ((0, x) :: st) t g Q = (hkP1 v1 ∧ Xp 134 d 2 [v0, v1, (0, x), v3] st t g Q) := Xp_chk (i := .istore_n 2) (len := 1) (by decide +kernel) rfl
theorem x_134_2 : Xp 134 d 2 ls st t g Q = Xp 134 d 3 ls ((0, 0) :: st) t g Q := xr_const (c := 0) (by decide +kernel) (by decide)
theorem x_134_3 : Xp 134 d 3 [v0, v1, v2, v3] ((0, x) :: st) t g Q = (hkP1 v2 ∧ Xp 134 d 4 [v0, v1, v2, (0, x)] st t g Q) := Xp_chk (i := .istore_n 3) (len := 1) (by decide +kernel) rfl
theorem x_134_4 : Xp 134 d 4 [v0, v1, v2, (0, x)] st t g Q = Xp 134 d 5 [v0, v1, v2, (0, x)] ((0, x) :: st) t g Q := Xp_go (i := .iload_n 3) (len := 1) (by decide +kernel) rfl
theorem x_134_5 : Xp 134 d 5 [v0, (0, x), v2, v3] st t g Q = Xp 134 d 6 [v0, (0, x), v2, v3] ((0, x) :: st) t g Q := Xp_go (i := .iload_n 1) (len := 1) (by decide +kernel) rfl
theorem x_134_6 : Xp 134 d 6 ls ((0, b) :: (0, a) :: st) t g Q = ((b ≤ a → Xp 134 d 23 ls st t g Q) ∧ (¬ (b ≤ a) → Xp 134 d 9 ls st t g Q)) := xr_if2 (cd := .ge) (off := 17) (by decide +kernel) (by decide)
theorem x_134_9 : Xp 134 d 9 [v0, v1, (0, x), v3] st t g Q = Xp 134 d 10 [v0, v1, (0, x), v3] ((0, x) :: st) t g Q := Xp_go (i := .iload_n 2) (len := 1) (by decide +kernel) rfl
theorem x_134_10 : Xp 134 d 10 [(0, x), v1, v2, v3] st t g Q = Xp 134 d 11 [(0, x), v1, v2, v3] ((0, x) :: st) t g Q := Xp_go (i := .iload_n 0) (len := 1) (by decide +kernel) rfl
theorem x_134_11 : Xp 134 d 11 ls ((0, b) :: (0, a) :: st) t g Q = Xp 134 d 12 ls ((0, hkW (a * b)) :: st) t g Q := Xp_go (i := .imul) (len := 1) (by decide +kernel) rfl
theorem x_134_12 : Xp 134 d 12 ls st t g Q = Xp 134 d 15 ls ((0, 2521) :: st) t g Q := xr_si (c := 2521) (by decide +kernel) (by decide)
theorem x_134_15 : Xp 134 d 15 ls ((0, b) :: (0, a) :: st) t g Q = (b ≠ 0 ∧ Xp 134 d 16 ls ((0, a.tmod b) :: st) t g Q) := Xp_chk (i := .irem) (len := 1) (by decide +kernel) rfl
theorem x_134_16 : Xp 134 d 16 [v0, v1, v2, v3] ((0, x) :: st) t g Q = (hkP1 v1 ∧ Xp 134 d 17 [v0, v1, (0, x), v3] st t g Q) := Xp_chk (i := .istore_n 2) (len := 1) (by decide +kernel) rfl
theorem x_134_17 : Xp 134 d 17 [v0, v1, v2, (0, x)] st t g Q = (hkP1 v2 ∧ Xp 134 d 20 [v0, v1, v2, (0, hkW (x + 1))] st t g Q) := Xp_chk (i := .iinc 3 (1)) (len := 3) (by decide +kernel) rfl
theorem x_134_20 : Xp 134 d 20 ls st t g Q = Xp 134 d 4 ls st t g Q := xr_goto (off := -16) (by decide +kernel) (by decide)
theorem x_134_23 : Xp 134 d 23 [v0, v1, (0, x), v3] st t g Q = Xp 134 d 24 [v0, v1, (0, x), v3] ((0, x) :: st) t g Q := Xp_go (i := .iload_n 2) (len := 1) (by decide +kernel) rfl
theorem x_134_24 : Xp 134 d 24 ls [(0, x)] t g Q = Q (some (0, x)) t g := xr_retI (by decide +kernel) (by decide +kernel)
-- 135: HookBoxesModel.alternant(IIIZ)I
theorem x_135_0 : Xp 135 d 0 [v0, v1, (0, x), v3, v4, v5, v6, v7, v8] st t g Q = Xp 135 d 1 [v0, v1, (0, x), v3, v4, v5, v6, v7, v8] ((0, x) :: st) t g Q := Xp_go (i := .iload_n 2) (len := 1) (by decide +kernel) rfl
theorem x_135_1 : Xp 135 d 1 [(2, x), v1, v2, v3, v4, v5, v6, v7, v8] st t g Q = Xp 135 d 2 [(2, x), v1, v2, v3, v4, v5, v6, v7, v8] ((2, x) :: st) t g Q := Xp_go (i := .aload_n 0) (len := 1) (by decide +kernel) rfl
theorem x_135_2 : Xp 135 d 2 ls ((2, p) :: st) t g Q = (hkJK p = 10 ∧ Xp 135 d 5 ls ((0, g p 0) :: st) t g Q) := xr_getI (idx := 11) (ci := 10) (k := 0) (by decide +kernel) (by decide +kernel) (by decide +kernel)
theorem x_135_5 : Xp 135 d 5 ls ((0, b) :: (0, a) :: st) t g Q = ((¬ (a = b) → Xp 135 d 10 ls st t g Q) ∧ (¬ (¬ (a = b)) → Xp 135 d 8 ls st t g Q)) := xr_if2 (cd := .ne) (off := 5) (by decide +kernel) (by decide)
theorem x_135_8 : Xp 135 d 8 ls st t g Q = Xp 135 d 9 ls ((0, 1) :: st) t g Q := xr_const (c := 1) (by decide +kernel) (by decide)
theorem x_135_9 : Xp 135 d 9 ls [(0, x)] t g Q = Q (some (0, x)) t g := xr_retI (by decide +kernel) (by decide +kernel)
theorem x_135_10 : Xp 135 d 10 ls st t g Q = Xp 135 d 11 ls ((0, 0) :: st) t g Q := xr_const (c := 0) (by decide +kernel) (by decide)
theorem x_135_11 : Xp 135 d 11 [v0, v1, v2, v3, v4, v5, v6, v7, v8] ((0, x) :: st) t g Q = (hkP1 v4 ∧ Xp 135 d 13 [v0, v1, v2, v3, v4, (0, x), v6, v7, v8] st t g Q) := Xp_chk (i := .istore 5) (len := 2) (by decide +kernel) rfl
theorem x_135_13 : Xp 135 d 13 ls st t g Q = Xp 135 d 14 ls ((0, 1) :: st) t g Q := xr_const (c := 1) (by decide +kernel) (by decide)
theorem x_135_14 : Xp 135 d 14 [v0, v1, v2, v3, v4, v5, v6, v7, v8] ((0, x) :: st) t g Q = (hkP1 v5 ∧ Xp 135 d 16 [v0, v1, v2, v3, v4, v5, (0, x), v7, v8] st t g Q) := Xp_chk (i := .istore 6) (len := 2) (by decide +kernel) rfl
theorem x_135_16 : Xp 135 d 16 ls st t g Q = Xp 135 d 17 ls ((0, 0) :: st) t g Q := xr_const (c := 0) (by decide +kernel) (by decide)
theorem x_135_17 : Xp 135 d 17 [v0, v1, v2, v3, v4, v5, v6, v7, v8] ((0, x) :: st) t g Q = (hkP1 v6 ∧ Xp 135 d 19 [v0, v1, v2, v3, v4, v5, v6, (0, x), v8] st t g Q) := Xp_chk (i := .istore 7) (len := 2) (by decide +kernel) rfl
theorem x_135_19 : Xp 135 d 19 [v0, v1, v2, v3, v4, v5, v6, (0, x), v8] st t g Q = Xp 135 d 21 [v0, v1, v2, v3, v4, v5, v6, (0, x), v8] ((0, x) :: st) t g Q := Xp_go (i := .iload 7) (len := 2) (by decide +kernel) rfl
theorem x_135_21 : Xp 135 d 21 [(2, x), v1, v2, v3, v4, v5, v6, v7, v8] st t g Q = Xp 135 d 22 [(2, x), v1, v2, v3, v4, v5, v6, v7, v8] ((2, x) :: st) t g Q := Xp_go (i := .aload_n 0) (len := 1) (by decide +kernel) rfl
theorem x_135_22 : Xp 135 d 22 ls ((2, p) :: st) t g Q = (hkJK p = 10 ∧ Xp 135 d 25 ls ((0, g p 0) :: st) t g Q) := xr_getI (idx := 11) (ci := 10) (k := 0) (by decide +kernel) (by decide +kernel) (by decide +kernel)
theorem x_135_25 : Xp 135 d 25 ls ((0, b) :: (0, a) :: st) t g Q = ((b ≤ a → Xp 135 d 135 ls st t g Q) ∧ (¬ (b ≤ a) → Xp 135 d 28 ls st t g Q)) := xr_if2 (cd := .ge) (off := 110) (by decide +kernel) (by decide)
theorem x_135_28 : Xp 135 d 28 [v0, v1, v2, (0, x), v4, v5, v6, v7, v8] st t g Q = Xp 135 d 29 [v0, v1, v2, (0, x), v4, v5, v6, v7, v8] ((0, x) :: st) t g Q := Xp_go (i := .iload_n 3) (len := 1) (by decide +kernel) rfl
theorem x_135_29 : Xp 135 d 29 [v0, v1, v2, v3, v4, v5, v6, (0, x), v8] st t g Q = Xp 135 d 31 [v0, v1, v2, v3, v4, v5, v6, (0, x), v8] ((0, x) :: st) t g Q := Xp_go (i := .iload 7) (len := 2) (by decide +kernel) rfl
theorem x_135_31 : Xp 135 d 31 ls ((0, b) :: (0, a) :: st) t g Q = Xp 135 d 32 ls ((0, hkShr a b) :: st) t g Q := Xp_go (i := .ishr) (len := 1) (by decide +kernel) rfl
theorem x_135_32 : Xp 135 d 32 ls st t g Q = Xp 135 d 33 ls ((0, 1) :: st) t g Q := xr_const (c := 1) (by decide +kernel) (by decide)
theorem x_135_33 : Xp 135 d 33 ls ((0, b) :: (0, a) :: st) t g Q = Xp 135 d 34 ls ((0, hkAnd a b) :: st) t g Q := Xp_go (i := .iand) (len := 1) (by decide +kernel) rfl
theorem x_135_34 : Xp 135 d 34 ls st t g Q = Xp 135 d 35 ls ((0, 1) :: st) t g Q := xr_const (c := 1) (by decide +kernel) (by decide)
theorem x_135_35 : Xp 135 d 35 ls ((0, b) :: (0, a) :: st) t g Q = ((¬ (a = b) → Xp 135 d 41 ls st t g Q) ∧ (¬ (¬ (a = b)) → Xp 135 d 38 ls st t g Q)) := xr_if2 (cd := .ne) (off := 6) (by decide +kernel) (by decide)
theorem x_135_38 : Xp 135 d 38 ls st t g Q = Xp 135 d 129 ls st t g Q := xr_goto (off := 91) (by decide +kernel) (by decide)
theorem x_135_41 : Xp 135 d 41 [v0, v1, v2, v3, (0, x), v5, v6, v7, v8] st t g Q = Xp 135 d 43 [v0, v1, v2, v3, (0, x), v5, v6, v7, v8] ((0, x) :: st) t g Q := Xp_go (i := .iload 4) (len := 2) (by decide +kernel) rfl
theorem x_135_43 : Xp 135 d 43 ls ((0, a) :: st) t g Q = ((a = 0 → Xp 135 d 59 ls st t g Q) ∧ (¬ (a = 0) → Xp 135 d 46 ls st t g Q)) := xr_if1 (cd := .eq) (off := 16) (by decide +kernel) (by decide)
theorem x_135_46 : Xp 135 d 46 [(2, x), v1, v2, v3, v4, v5, v6, v7, v8] st t g Q = Xp 135 d 47 [(2, x), v1, v2, v3, v4, v5, v6, v7, v8] ((2, x) :: st) t g Q := Xp_go (i := .aload_n 0) (len := 1) (by decide +kernel) rfl
theorem x_135_47 : Xp 135 d 47 ls ((2, p) :: st) t g Q = (hkJK p = 10 ∧ jA p 24 ≤ t ∧ Xp 135 d 50 ls ((2, jR p 24) :: st) t g Q) := xr_getR (idx := 63) (ci := 10) (k := 24) (by decide +kernel) (by decide +kernel) (by decide +kernel)
theorem x_135_50 : Xp 135 d 50 [v0, v1, v2, v3, v4, v5, v6, (0, x), v8] st t g Q = Xp 135 d 52 [v0, v1, v2, v3, v4, v5, v6, (0, x), v8] ((0, x) :: st) t g Q := Xp_go (i := .iload 7) (len := 2) (by decide +kernel) rfl
theorem x_135_52 : Xp 135 d 52 ls ((0, a) :: (2, p) :: st) t g Q = ((hkJK p = 100 ∧ 0 ≤ a ∧ a < jL p) ∧ Xp 135 d 53 ls ((0, g p a) :: st) t g Q) := Xp_chk (i := .iaload) (len := 1) (by decide +kernel) rfl
theorem x_135_53 : Xp 135 (d + 1) 53 ls ((0, a0) :: st) t g Q = (hkC8 st ∧ Xp 136 d 0 [(0, a0)] [] t g (fun r t g => Xp 135 (d + 1) 56 ls (hkPush r st) t g Q)) := xr_invS (idx := 201) (y' := 136) (tg := [0]) (by decide +kernel) (by decide +kernel) (by decide +kernel) rfl rfl
theorem x_135_56 : Xp 135 d 56 ls st t g Q = Xp 135 d 66 ls st t g Q := xr_goto (off := 10) (by decide +kernel) (by decide)
theorem x_135_59 : Xp 135 d 59 [(2, x), v1, v2, v3, v4, v5, v6, v7, v8] st t g Q = Xp 135 d 60 [(2, x), v1, v2, v3, v4, v5, v6, v7, v8] ((2, x) :: st) t g Q := Xp_go (i := .aload_n 0) (len := 1) (by decide +kernel) rfl
theorem x_135_60 : Xp 135 d 60 ls ((2, p) :: st) t g Q = (hkJK p = 10 ∧ jA p 24 ≤ t ∧ Xp 135 d 63 ls ((2, jR p 24) :: st) t g Q) := xr_getR (idx := 63) (ci := 10) (k := 24) (by decide +kernel) (by decide +kernel) (by decide +kernel)
theorem x_135_63 : Xp 135 d 63 [v0, v1, v2, v3, v4, v5, v6, (0, x), v8] st t g Q = Xp 135 d 65 [v0, v1, v2, v3, v4, v5, v6, (0, x), v8] ((0, x) :: st) t g Q := Xp_go (i := .iload 7) (len := 2) (by decide +kernel) rfl
theorem x_135_65 : Xp 135 d 65 ls ((0, a) :: (2, p) :: st) t g Q = ((hkJK p = 100 ∧ 0 ≤ a ∧ a < jL p) ∧ Xp 135 d 66 ls ((0, g p a) :: st) t g Q) := Xp_chk (i := .iaload) (len := 1) (by decide +kernel) rfl
theorem x_135_66 : Xp 135 d 66 [v0, v1, v2, v3, v4, v5, v6, v7, v8] ((0, x) :: st) t g Q = (hkP1 v7 ∧ Xp 135 d 68 [v0, v1, v2, v3, v4, v5, v6, v7, (0, x)] st t g Q) := Xp_chk (i := .istore 8) (len := 2) (by decide +kernel) rfl
theorem x_135_68 : Xp 135 d 68 [v0, v1, v2, v3, v4, (0, x), v6, v7, v8] st t g Q = Xp 135 d 70 [v0, v1, v2, v3, v4, (0, x), v6, v7, v8] ((0, x) :: st) t g Q := Xp_go (i := .iload 5) (len := 2) (by decide +kernel) rfl
theorem x_135_70 : Xp 135 d 70 ls ((0, a) :: st) t g Q = Xp 135 d 71 ls ((1, a) :: st) t g Q := Xp_go (i := .i2l) (len := 1) (by decide +kernel) rfl
theorem x_135_71 : Xp 135 d 71 [v0, v1, v2, v3, v4, v5, (0, x), v7, v8] st t g Q = Xp 135 d 73 [v0, v1, v2, v3, v4, v5, (0, x), v7, v8] ((0, x) :: st) t g Q := Xp_go (i := .iload 6) (len := 2) (by decide +kernel) rfl
theorem x_135_73 : Xp 135 d 73 ls ((0, a) :: st) t g Q = Xp 135 d 74 ls ((1, a) :: st) t g Q := Xp_go (i := .i2l) (len := 1) (by decide +kernel) rfl
theorem x_135_74 : Xp 135 d 74 [v0, v1, v2, v3, v4, v5, v6, v7, (0, x)] st t g Q = Xp 135 d 76 [v0, v1, v2, v3, v4, v5, v6, v7, (0, x)] ((0, x) :: st) t g Q := Xp_go (i := .iload 8) (len := 2) (by decide +kernel) rfl
theorem x_135_76 : Xp 135 d 76 [(2, x), v1, v2, v3, v4, v5, v6, v7, v8] st t g Q = Xp 135 d 77 [(2, x), v1, v2, v3, v4, v5, v6, v7, v8] ((2, x) :: st) t g Q := Xp_go (i := .aload_n 0) (len := 1) (by decide +kernel) rfl
theorem x_135_77 : Xp 135 d 77 [v0, (0, x), v2, v3, v4, v5, v6, v7, v8] st t g Q = Xp 135 d 78 [v0, (0, x), v2, v3, v4, v5, v6, v7, v8] ((0, x) :: st) t g Q := Xp_go (i := .iload_n 1) (len := 1) (by decide +kernel) rfl
theorem x_135_78 : Xp 135 d 78 [v0, v1, (0, x), v3, v4, v5, v6, v7, v8] st t g Q = Xp 135 d 79 [v0, v1, (0, x), v3, v4, v5, v6, v7, v8] ((0, x) :: st) t g Q := Xp_go (i := .iload_n 2) (len := 1) (by decide +kernel) rfl
theorem x_135_79 : Xp 135 (d + 1) 79 ls ((0, a2) :: (0, a1) :: (2, a0) :: st) t g Q = (hkJK a0 = 10 ∧ hkC8 st ∧ Xp 110 d 0 [(2, a0), (0, a1), (0, a2)] [] t g (fun r t g => Xp 135 (d + 1) 82 ls (hkPush r st) t g Q)) := xr_invV (idx := 111) (y' := 110) (ci := 10) (tg := [2, 0, 0]) (by decide +kernel) (by decide +kernel) (by decide +kernel) (by decide +kernel) rfl rfl rfl
theorem x_135_82 : Xp 135 d 82 [(2, x), v1, v2, v3, v4, v5, v6, v7, v8] st t g Q = Xp 135 d 83 [(2, x), v1, v2, v3, v4, v5, v6, v7, v8] ((2, x) :: st) t g Q := Xp_go (i := .aload_n 0) (len := 1) (by decide +kernel) rfl
theorem x_135_83 : Xp 135 d 83 ls ((2, p) :: st) t g Q = (hkJK p = 10 ∧ Xp 135 d 86 ls ((0, g p 0) :: st) t g Q) := xr_getI (idx := 11) (ci := 10) (k := 0) (by decide +kernel) (by decide +kernel) (by decide +kernel)
theorem x_135_86 : Xp 135 d 86 ls ((0, b) :: (0, a) :: st) t g Q = Xp 135 d 87 ls ((0, hkW (a + b)) :: st) t g Q := Xp_go (i := .iadd) (len := 1) (by decide +kernel) rfl
theorem x_135_87 : Xp 135 d 87 ls st t g Q = Xp 135 d 88 ls ((0, 1) :: st) t g Q := xr_const (c := 1) (by decide +kernel) (by decide)
theorem x_135_88 : Xp 135 d 88 ls ((0, b) :: (0, a) :: st) t g Q = Xp 135 d 89 ls ((0, hkW (a - b)) :: st) t g Q := Xp_go (i := .isub) (len := 1) (by decide +kernel) rfl
theorem x_135_89 : Xp 135 d 89 [v0, v1, (0, x), v3, v4, v5, v6, v7, v8] st t g Q = Xp 135 d 90 [v0, v1, (0, x), v3, v4, v5, v6, v7, v8] ((0, x) :: st) t g Q := Xp_go (i := .iload_n 2) (len := 1) (by decide +kernel) rfl
theorem x_135_90 : Xp 135 d 90 ls ((0, b) :: (0, a) :: st) t g Q = Xp 135 d 91 ls ((0, hkW (a - b)) :: st) t g Q := Xp_go (i := .isub) (len := 1) (by decide +kernel) rfl
theorem x_135_91 : Xp 135 (d + 1) 91 ls ((0, a1) :: (0, a0) :: st) t g Q = (hkC8 st ∧ Xp 134 d 0 [(0, a0), (0, a1), hkU, hkU] [] t g (fun r t g => Xp 135 (d + 1) 94 ls (hkPush r st) t g Q)) := xr_invS (idx := 198) (y' := 134) (tg := [0, 0]) (by decide +kernel) (by decide +kernel) (by decide +kernel) rfl rfl
theorem x_135_94 : Xp 135 d 94 ls ((0, a) :: st) t g Q = Xp 135 d 95 ls ((1, a) :: st) t g Q := Xp_go (i := .i2l) (len := 1) (by decide +kernel) rfl
theorem x_135_95 : Xp 135 d 95 ls ((1, b) :: (1, a) :: st) t g Q = Xp 135 d 96 ls ((1, hkL (a * b)) :: st) t g Q := Xp_go (i := .lmul) (len := 1) (by decide +kernel) rfl
theorem x_135_96 : Xp 135 d 96 [(2, x), v1, v2, v3, v4, v5, v6, v7, v8] st t g Q = Xp 135 d 97 [(2, x), v1, v2, v3, v4, v5, v6, v7, v8] ((2, x) :: st) t g Q := Xp_go (i := .aload_n 0) (len := 1) (by decide +kernel) rfl
theorem x_135_97 : Xp 135 d 97 [v0, (0, x), v2, v3, v4, v5, v6, v7, v8] st t g Q = Xp 135 d 98 [v0, (0, x), v2, v3, v4, v5, v6, v7, v8] ((0, x) :: st) t g Q := Xp_go (i := .iload_n 1) (len := 1) (by decide +kernel) rfl
theorem x_135_98 : Xp 135 d 98 [v0, v1, (0, x), v3, v4, v5, v6, v7, v8] st t g Q = Xp 135 d 99 [v0, v1, (0, x), v3, v4, v5, v6, v7, v8] ((0, x) :: st) t g Q := Xp_go (i := .iload_n 2) (len := 1) (by decide +kernel) rfl
theorem x_135_99 : Xp 135 d 99 ls st t g Q = Xp 135 d 100 ls ((0, 1) :: st) t g Q := xr_const (c := 1) (by decide +kernel) (by decide)
theorem x_135_100 : Xp 135 d 100 ls ((0, b) :: (0, a) :: st) t g Q = Xp 135 d 101 ls ((0, hkW (a + b)) :: st) t g Q := Xp_go (i := .iadd) (len := 1) (by decide +kernel) rfl
theorem x_135_101 : Xp 135 d 101 [v0, v1, v2, (0, x), v4, v5, v6, v7, v8] st t g Q = Xp 135 d 102 [v0, v1, v2, (0, x), v4, v5, v6, v7, v8] ((0, x) :: st) t g Q := Xp_go (i := .iload_n 3) (len := 1) (by decide +kernel) rfl
theorem x_135_102 : Xp 135 d 102 ls st t g Q = Xp 135 d 103 ls ((0, 1) :: st) t g Q := xr_const (c := 1) (by decide +kernel) (by decide)
theorem x_135_103 : Xp 135 d 103 [v0, v1, v2, v3, v4, v5, v6, (0, x), v8] st t g Q = Xp 135 d 105 [v0, v1, v2, v3, v4, v5, v6, (0, x), v8] ((0, x) :: st) t g Q := Xp_go (i := .iload 7) (len := 2) (by decide +kernel) rfl
theorem x_135_105 : Xp 135 d 105 ls ((0, b) :: (0, a) :: st) t g Q = Xp 135 d 106 ls ((0, hkShl a b) :: st) t g Q := Xp_go (i := .ishl) (len := 1) (by decide +kernel) rfl
theorem x_135_106 : Xp 135 d 106 ls ((0, b) :: (0, a) :: st) t g Q = Xp 135 d 107 ls ((0, hkOr a b) :: st) t g Q := Xp_go (i := .ior) (len := 1) (by decide +kernel) rfl
theorem x_135_107 : Xp 135 d 107 [v0, v1, v2, v3, (0, x), v5, v6, v7, v8] st t g Q = Xp 135 d 109 [v0, v1, v2, v3, (0, x), v5, v6, v7, v8] ((0, x) :: st) t g Q := Xp_go (i := .iload 4) (len := 2) (by decide +kernel) rfl
theorem x_135_109 : Xp 135 (d + 1) 109 ls ((0, a4) :: (0, a3) :: (0, a2) :: (0, a1) :: (2, a0) :: st) t g Q = (hkJK a0 = 10 ∧ hkC8 st ∧ Xp 135 d 0 [(2, a0), (0, a1), (0, a2), (0, a3), (0, a4), hkU, hkU, hkU, hkU] [] t g (fun r t g => Xp 135 (d + 1) 112 ls (hkPush r st) t g Q)) := xr_invV (idx := 204) (y' := 135) (ci := 10) (tg := [2, 0, 0, 0, 0]) (by decide +kernel) (by decide +kernel) (by decide +kernel) (by decide +kernel) rfl rfl rfl
theorem x_135_112 : Xp 135 d 112 ls ((0, a) :: st) t g Q = Xp 135 d 113 ls ((1, a) :: st) t g Q := Xp_go (i := .i2l) (len := 1) (by decide +kernel) rfl
theorem x_135_113 : Xp 135 d 113 ls ((1, b) :: (1, a) :: st) t g Q = Xp 135 d 114 ls ((1, hkL (a * b)) :: st) t g Q := Xp_go (i := .lmul) (len := 1) (by decide +kernel) rfl
theorem x_135_114 : Xp 135 d 114 ls st t g Q = Xp 135 d 117 ls ((1, 2521) :: st) t g Q := xr_ldc2 (idx := 196) (by decide +kernel) (by decide +kernel)
theorem x_135_117 : Xp 135 d 117 ls ((1, b) :: (1, a) :: st) t g Q = (b ≠ 0 ∧ Xp 135 d 118 ls ((1, a.tmod b) :: st) t g Q) := Xp_chk (i := .lrem) (len := 1) (by decide +kernel) rfl
theorem x_135_118 : Xp 135 d 118 ls ((1, b) :: (1, a) :: st) t g Q = Xp 135 d 119 ls ((1, hkL (a + b)) :: st) t g Q := Xp_go (i := .ladd) (len := 1) (by decide +kernel) rfl
theorem x_135_119 : Xp 135 (d + 1) 119 ls ((1, a0) :: st) t g Q = (hkC8 st ∧ Xp 137 d 0 [(1, a0), hkU] [] t g (fun r t g => Xp 135 (d + 1) 122 ls (hkPush r st) t g Q)) := xr_invS (idx := 208) (y' := 137) (tg := [1]) (by decide +kernel) (by decide +kernel) (by decide +kernel) rfl rfl
theorem x_135_122 : Xp 135 d 122 [v0, v1, v2, v3, v4, v5, v6, v7, v8] ((0, x) :: st) t g Q = (hkP1 v4 ∧ Xp 135 d 124 [v0, v1, v2, v3, v4, (0, x), v6, v7, v8] st t g Q) := Xp_chk (i := .istore 5) (len := 2) (by decide +kernel) rfl
theorem x_135_124 : Xp 135 d 124 [v0, v1, v2, v3, v4, v5, (0, x), v7, v8] st t g Q = Xp 135 d 126 [v0, v1, v2, v3, v4, v5, (0, x), v7, v8] ((0, x) :: st) t g Q := Xp_go (i := .iload 6) (len := 2) (by decide +kernel) rfl
theorem x_135_126 : Xp 135 d 126 ls ((0, a) :: st) t g Q = Xp 135 d 127 ls ((0, hkW (-a)) :: st) t g Q := Xp_go (i := .ineg) (len := 1) (by decide +kernel) rfl
theorem x_135_127 : Xp 135 d 127 [v0, v1, v2, v3, v4, v5, v6, v7, v8] ((0, x) :: st) t g Q = (hkP1 v5 ∧ Xp 135 d 129 [v0, v1, v2, v3, v4, v5, (0, x), v7, v8] st t g Q) := Xp_chk (i := .istore 6) (len := 2) (by decide +kernel) rfl
theorem x_135_129 : Xp 135 d 129 [v0, v1, v2, v3, v4, v5, v6, (0, x), v8] st t g Q = (hkP1 v6 ∧ Xp 135 d 132 [v0, v1, v2, v3, v4, v5, v6, (0, hkW (x + 1)), v8] st t g Q) := Xp_chk (i := .iinc 7 (1)) (len := 3) (by decide +kernel) rfl
theorem x_135_132 : Xp 135 d 132 ls st t g Q = Xp 135 d 19 ls st t g Q := xr_goto (off := -113) (by decide +kernel) (by decide)
theorem x_135_135 : Xp 135 d 135 [v0, v1, v2, v3, v4, (0, x), v6, v7, v8] st t g Q = Xp 135 d 137 [v0, v1, v2, v3, v4, (0, x), v6, v7, v8] ((0, x) :: st) t g Q := Xp_go (i := .iload 5) (len := 2) (by decide +kernel) rfl
theorem x_135_137 : Xp 135 d 137 ls [(0, x)] t g Q = Q (some (0, x)) t g := xr_retI (by decide +kernel) (by decide +kernel)
-- 136: HookBoxesModel.inverse(I)I
theorem x_136_0 : Xp 136 d 0 [(0, x)] st t g Q = Xp 136 d 1 [(0, x)] ((0, x) :: st) t g Q := Xp_go (i := .iload_n 0) (len := 1) (by decide +kernel) rfl
theorem x_136_1 : Xp 136 d 1 ls st t g Q = Xp 136 d 4 ls ((0, 2519) :: st) t g Q := xr_si (c := 2519) (by decide +kernel) (by decide)
theorem x_136_4 : Xp 136 (d + 1) 4 ls ((0, a1) :: (0, a0) :: st) t g Q = (hkC8 st ∧ Xp 134 d 0 [(0, a0), (0, a1), hkU, hkU] [] t g (fun r t g => Xp 136 (d + 1) 7 ls (hkPush r st) t g Q)) := xr_invS (idx := 198) (y' := 134) (tg := [0, 0]) (by decide +kernel) (by decide +kernel) (by decide +kernel) rfl rfl
theorem x_136_7 : Xp 136 d 7 ls [(0, x)] t g Q = Q (some (0, x)) t g := xr_retI (by decide +kernel) (by decide +kernel)
end XROWS
