/-! rows of the reference, second half (by program: wip/whole/gen_rows.py) -/
section XROWS
variable {d t : Nat} {ls st : List hkV} {g : hkG} {Q : Option hkV → Nat → hkG → Prop} {v w v0 v1 v2 v3 v4 v5 v6 v7 v8 v9 v10 v11 v12 v13 v14 v15 : hkV} {a b x z p q a0 a1 a2 a3 a4 a5 a6 : Int}
-- 137: HookBoxesModel.mod(J)I
theorem x_137_0 : Xp 137 d 0 [(1, x), v1] st t g Q = Xp 137 d 1 [(1, x), v1] ((1, x) :: st) t g Q := Xp_go (i := .lload_n 0) (len := 1) (by decide +kernel) rfl
theorem x_137_1 : Xp 137 d 1 ls st t g Q = Xp 137 d 4 ls ((1, 2521) :: st) t g Q := xr_ldc2 (idx := 196) (by decide +kernel) (by decide +kernel)
theorem x_137_4 : Xp 137 d 4 ls ((1, b) :: (1, a) :: st) t g Q = (b ≠ 0 ∧ Xp 137 d 5 ls ((1, a.tmod b) :: st) t g Q) := Xp_chk (i := .lrem) (len := 1) (by decide +kernel) rfl
theorem x_137_5 : Xp 137 d 5 ls st t g Q = Xp 137 d 8 ls ((1, 2521) :: st) t g Q := xr_ldc2 (idx := 196) (by decide +kernel) (by decide +kernel)
theorem x_137_8 : Xp 137 d 8 ls ((1, b) :: (1, a) :: st) t g Q = Xp 137 d 9 ls ((1, hkL (a + b)) :: st) t g Q := Xp_go (i := .ladd) (len := 1) (by decide +kernel) rfl
theorem x_137_9 : Xp 137 d 9 ls st t g Q = Xp 137 d 12 ls ((1, 2521) :: st) t g Q := xr_ldc2 (idx := 196) (by decide +kernel) (by decide +kernel)
theorem x_137_12 : Xp 137 d 12 ls ((1, b) :: (1, a) :: st) t g Q = (b ≠ 0 ∧ Xp 137 d 13 ls ((1, a.tmod b) :: st) t g Q) := Xp_chk (i := .lrem) (len := 1) (by decide +kernel) rfl
theorem x_137_13 : Xp 137 d 13 ls ((1, a) :: st) t g Q = Xp 137 d 14 ls ((0, hkW a) :: st) t g Q := Xp_go (i := .l2i) (len := 1) (by decide +kernel) rfl
theorem x_137_14 : Xp 137 d 14 ls [(0, x)] t g Q = Q (some (0, x)) t g := xr_retI (by decide +kernel) (by decide +kernel)
-- 138: HookBoxesModel.rootsOf(II)I
theorem x_138_0 : Xp 138 d 0 [v0, (0, x), v2, v3] st t g Q = Xp 138 d 1 [v0, (0, x), v2, v3] ((0, x) :: st) t g Q := Xp_go (i := .iload_n 1) (len := 1) (by decide +kernel) rfl
theorem x_138_1 : Xp 138 (d + 1) 1 ls ((0, a0) :: st) t g Q = (hkC8 st ∧ Xp 130 d 0 [(0, a0)] [] t g (fun r t g => Xp 138 (d + 1) 4 ls (hkPush r st) t g Q)) := xr_invS (idx := 189) (y' := 130) (tg := [0]) (by decide +kernel) (by decide +kernel) (by decide +kernel) rfl rfl
theorem x_138_4 : Xp 138 d 4 ls ((0, a) :: st) t g Q = ((a = 0 → Xp 138 d 15 ls st t g Q) ∧ (¬ (a = 0) → Xp 138 d 7 ls st t g Q)) := xr_if1 (cd := .eq) (off := 11) (by decide +kernel) (by decide)
theorem x_138_7 : Xp 138 d 7 [(2, x), v1, v2, v3] st t g Q = Xp 138 d 8 [(2, x), v1, v2, v3] ((2, x) :: st) t g Q := Xp_go (i := .aload_n 0) (len := 1) (by decide +kernel) rfl
theorem x_138_8 : Xp 138 d 8 [v0, v1, (0, x), v3] st t g Q = Xp 138 d 9 [v0, v1, (0, x), v3] ((0, x) :: st) t g Q := Xp_go (i := .iload_n 2) (len := 1) (by decide +kernel) rfl
theorem x_138_9 : Xp 138 (d + 1) 9 ls ((0, a1) :: (2, a0) :: st) t g Q = (hkJK a0 = 10 ∧ hkC8 st ∧ Xp 109 d 0 [(2, a0), (0, a1)] [] t g (fun r t g => Xp 138 (d + 1) 12 ls (hkPush r st) t g Q)) := xr_invV (idx := 123) (y' := 109) (ci := 10) (tg := [2, 0]) (by decide +kernel) (by decide +kernel) (by decide +kernel) (by decide +kernel) rfl rfl rfl
theorem x_138_12 : Xp 138 d 12 ls ((0, a) :: st) t g Q = ((¬ (a = 0) → Xp 138 d 18 ls st t g Q) ∧ (¬ (¬ (a = 0)) → Xp 138 d 15 ls st t g Q)) := xr_if1 (cd := .ne) (off := 6) (by decide +kernel) (by decide)
theorem x_138_15 : Xp 138 d 15 ls st t g Q = Xp 138 d 17 ls ((0, -2) :: st) t g Q := xr_bi (c := -2) (by decide +kernel) (by decide)
theorem x_138_17 : Xp 138 d 17 ls [(0, x)] t g Q = Q (some (0, x)) t g := xr_retI (by decide +kernel) (by decide +kernel)
theorem x_138_18 : Xp 138 d 18 [(2, x), v1, v2, v3] st t g Q = Xp 138 d 19 [(2, x), v1, v2, v3] ((2, x) :: st) t g Q := Xp_go (i := .aload_n 0) (len := 1) (by decide +kernel) rfl
theorem x_138_19 : Xp 138 d 19 ls ((2, p) :: st) t g Q = (hkJK p = 10 ∧ jA p 36 ≤ t ∧ Xp 138 d 22 ls ((2, jR p 36) :: st) t g Q) := xr_getR (idx := 82) (ci := 10) (k := 36) (by decide +kernel) (by decide +kernel) (by decide +kernel)
theorem x_138_22 : Xp 138 d 22 [v0, (0, x), v2, v3] st t g Q = Xp 138 d 23 [v0, (0, x), v2, v3] ((0, x) :: st) t g Q := Xp_go (i := .iload_n 1) (len := 1) (by decide +kernel) rfl
theorem x_138_23 : Xp 138 d 23 ls ((0, a) :: (2, p) :: st) t g Q = ((hkJK p = 100 ∧ 0 ≤ a ∧ a < jL p) ∧ Xp 138 d 24 ls ((0, g p a) :: st) t g Q) := Xp_chk (i := .iaload) (len := 1) (by decide +kernel) rfl
theorem x_138_24 : Xp 138 d 24 ls st t g Q = Xp 138 d 25 ls ((0, -1) :: st) t g Q := xr_const (c := -1) (by decide +kernel) (by decide)
theorem x_138_25 : Xp 138 d 25 ls ((0, b) :: (0, a) :: st) t g Q = ((¬ (a = b) → Xp 138 d 31 ls st t g Q) ∧ (¬ (¬ (a = b)) → Xp 138 d 28 ls st t g Q)) := xr_if2 (cd := .ne) (off := 6) (by decide +kernel) (by decide)
theorem x_138_28 : Xp 138 d 28 ls st t g Q = Xp 138 d 30 ls ((0, -11) :: st) t g Q := xr_bi (c := -11) (by decide +kernel) (by decide)
theorem x_138_30 : Xp 138 d 30 ls [(0, x)] t g Q = Q (some (0, x)) t g := xr_retI (by decide +kernel) (by decide +kernel)
theorem x_138_31 : Xp 138 d 31 [(2, x), v1, v2, v3] st t g Q = Xp 138 d 32 [(2, x), v1, v2, v3] ((2, x) :: st) t g Q := Xp_go (i := .aload_n 0) (len := 1) (by decide +kernel) rfl
theorem x_138_32 : Xp 138 d 32 ls ((2, p) :: st) t g Q = (hkJK p = 10 ∧ jA p 37 ≤ t ∧ Xp 138 d 35 ls ((2, jR p 37) :: st) t g Q) := xr_getR (idx := 85) (ci := 10) (k := 37) (by decide +kernel) (by decide +kernel) (by decide +kernel)
theorem x_138_35 : Xp 138 d 35 [v0, (0, x), v2, v3] st t g Q = Xp 138 d 36 [v0, (0, x), v2, v3] ((0, x) :: st) t g Q := Xp_go (i := .iload_n 1) (len := 1) (by decide +kernel) rfl
theorem x_138_36 : Xp 138 d 36 ls ((0, a) :: (2, p) :: st) t g Q = ((hkJK p = 100 ∧ 0 ≤ a ∧ a < jL p) ∧ Xp 138 d 37 ls ((0, g p a) :: st) t g Q) := Xp_chk (i := .iaload) (len := 1) (by decide +kernel) rfl
theorem x_138_37 : Xp 138 d 37 ls st t g Q = Xp 138 d 39 ls ((0, 8) :: st) t g Q := xr_bi (c := 8) (by decide +kernel) (by decide)
theorem x_138_39 : Xp 138 d 39 ls ((0, b) :: (0, a) :: st) t g Q = ((a ≤ b → Xp 138 d 45 ls st t g Q) ∧ (¬ (a ≤ b) → Xp 138 d 42 ls st t g Q)) := xr_if2 (cd := .le) (off := 6) (by decide +kernel) (by decide)
theorem x_138_42 : Xp 138 d 42 ls st t g Q = Xp 138 d 44 ls ((0, -2) :: st) t g Q := xr_bi (c := -2) (by decide +kernel) (by decide)
theorem x_138_44 : Xp 138 d 44 ls [(0, x)] t g Q = Q (some (0, x)) t g := xr_retI (by decide +kernel) (by decide +kernel)
theorem x_138_45 : Xp 138 d 45 [(2, x), v1, v2, v3] st t g Q = Xp 138 d 46 [(2, x), v1, v2, v3] ((2, x) :: st) t g Q := Xp_go (i := .aload_n 0) (len := 1) (by decide +kernel) rfl
theorem x_138_46 : Xp 138 d 46 [(2, x), v1, v2, v3] st t g Q = Xp 138 d 47 [(2, x), v1, v2, v3] ((2, x) :: st) t g Q := Xp_go (i := .aload_n 0) (len := 1) (by decide +kernel) rfl
theorem x_138_47 : Xp 138 d 47 ls ((2, p) :: st) t g Q = (hkJK p = 10 ∧ jA p 37 ≤ t ∧ Xp 138 d 50 ls ((2, jR p 37) :: st) t g Q) := xr_getR (idx := 85) (ci := 10) (k := 37) (by decide +kernel) (by decide +kernel) (by decide +kernel)
theorem x_138_50 : Xp 138 d 50 [v0, (0, x), v2, v3] st t g Q = Xp 138 d 51 [v0, (0, x), v2, v3] ((0, x) :: st) t g Q := Xp_go (i := .iload_n 1) (len := 1) (by decide +kernel) rfl
theorem x_138_51 : Xp 138 d 51 ls ((0, a) :: (2, p) :: st) t g Q = ((hkJK p = 100 ∧ 0 ≤ a ∧ a < jL p) ∧ Xp 138 d 52 ls ((0, g p a) :: st) t g Q) := Xp_chk (i := .iaload) (len := 1) (by decide +kernel) rfl
theorem x_138_52 : Xp 138 d 52 ls ((0, x) :: (2, p) :: st) t g Q = (hkJK p = 10 ∧ Xp 138 d 55 ls st t (hkSet g p 26 x) Q) := xr_putI (idx := 215) (ci := 10) (k := 26) (by decide +kernel) (by decide +kernel) (by decide +kernel)
theorem x_138_55 : Xp 138 d 55 ls st t g Q = Xp 138 d 56 ls ((0, 0) :: st) t g Q := xr_const (c := 0) (by decide +kernel) (by decide)
theorem x_138_56 : Xp 138 d 56 [v0, v1, v2, v3] ((0, x) :: st) t g Q = (hkP1 v2 ∧ Xp 138 d 57 [v0, v1, v2, (0, x)] st t g Q) := Xp_chk (i := .istore_n 3) (len := 1) (by decide +kernel) rfl
theorem x_138_57 : Xp 138 d 57 [v0, v1, v2, (0, x)] st t g Q = Xp 138 d 58 [v0, v1, v2, (0, x)] ((0, x) :: st) t g Q := Xp_go (i := .iload_n 3) (len := 1) (by decide +kernel) rfl
theorem x_138_58 : Xp 138 d 58 [(2, x), v1, v2, v3] st t g Q = Xp 138 d 59 [(2, x), v1, v2, v3] ((2, x) :: st) t g Q := Xp_go (i := .aload_n 0) (len := 1) (by decide +kernel) rfl
theorem x_138_59 : Xp 138 d 59 ls ((2, p) :: st) t g Q = (hkJK p = 10 ∧ Xp 138 d 62 ls ((0, g p 26) :: st) t g Q) := xr_getI (idx := 215) (ci := 10) (k := 26) (by decide +kernel) (by decide +kernel) (by decide +kernel)
theorem x_138_62 : Xp 138 d 62 ls ((0, b) :: (0, a) :: st) t g Q = ((b ≤ a → Xp 138 d 104 ls st t g Q) ∧ (¬ (b ≤ a) → Xp 138 d 65 ls st t g Q)) := xr_if2 (cd := .ge) (off := 42) (by decide +kernel) (by decide)
theorem x_138_65 : Xp 138 d 65 [(2, x), v1, v2, v3] st t g Q = Xp 138 d 66 [(2, x), v1, v2, v3] ((2, x) :: st) t g Q := Xp_go (i := .aload_n 0) (len := 1) (by decide +kernel) rfl
theorem x_138_66 : Xp 138 d 66 ls ((2, p) :: st) t g Q = (hkJK p = 10 ∧ jA p 25 ≤ t ∧ Xp 138 d 69 ls ((2, jR p 25) :: st) t g Q) := xr_getR (idx := 66) (ci := 10) (k := 25) (by decide +kernel) (by decide +kernel) (by decide +kernel)
theorem x_138_69 : Xp 138 d 69 [v0, v1, v2, (0, x)] st t g Q = Xp 138 d 70 [v0, v1, v2, (0, x)] ((0, x) :: st) t g Q := Xp_go (i := .iload_n 3) (len := 1) (by decide +kernel) rfl
theorem x_138_70 : Xp 138 d 70 [(2, x), v1, v2, v3] st t g Q = Xp 138 d 71 [(2, x), v1, v2, v3] ((2, x) :: st) t g Q := Xp_go (i := .aload_n 0) (len := 1) (by decide +kernel) rfl
theorem x_138_71 : Xp 138 d 71 ls ((2, p) :: st) t g Q = (hkJK p = 10 ∧ jA p 38 ≤ t ∧ Xp 138 d 74 ls ((2, jR p 38) :: st) t g Q) := xr_getR (idx := 88) (ci := 10) (k := 38) (by decide +kernel) (by decide +kernel) (by decide +kernel)
theorem x_138_74 : Xp 138 d 74 ls st t g Q = Xp 138 d 76 ls ((0, 40) :: st) t g Q := xr_bi (c := 40) (by decide +kernel) (by decide)
theorem x_138_76 : Xp 138 d 76 [v0, (0, x), v2, v3] st t g Q = Xp 138 d 77 [v0, (0, x), v2, v3] ((0, x) :: st) t g Q := Xp_go (i := .iload_n 1) (len := 1) (by decide +kernel) rfl
theorem x_138_77 : Xp 138 d 77 ls ((0, b) :: (0, a) :: st) t g Q = Xp 138 d 78 ls ((0, hkW (a * b)) :: st) t g Q := Xp_go (i := .imul) (len := 1) (by decide +kernel) rfl
theorem x_138_78 : Xp 138 d 78 [v0, v1, v2, (0, x)] st t g Q = Xp 138 d 79 [v0, v1, v2, (0, x)] ((0, x) :: st) t g Q := Xp_go (i := .iload_n 3) (len := 1) (by decide +kernel) rfl
theorem x_138_79 : Xp 138 d 79 ls ((0, b) :: (0, a) :: st) t g Q = Xp 138 d 80 ls ((0, hkW (a + b)) :: st) t g Q := Xp_go (i := .iadd) (len := 1) (by decide +kernel) rfl
theorem x_138_80 : Xp 138 d 80 ls ((0, a) :: (2, p) :: st) t g Q = ((hkJK p = 100 ∧ 0 ≤ a ∧ a < jL p) ∧ Xp 138 d 81 ls ((0, g p a) :: st) t g Q) := Xp_chk (i := .iaload) (len := 1) (by decide +kernel) rfl
theorem x_138_81 : Xp 138 d 81 ls ((0, x) :: (0, a) :: (2, p) :: st) t g Q = ((hkJK p = 100 ∧ (100 = 102 → x = 0 ∨ x = 1) ∧ 0 ≤ a ∧ a < jL p) ∧ Xp 138 d 82 ls st t (hkSet g p a x) Q) := Xp_chk (i := .iastore) (len := 1) (by decide +kernel) rfl
theorem x_138_82 : Xp 138 d 82 [(2, x), v1, v2, v3] st t g Q = Xp 138 d 83 [(2, x), v1, v2, v3] ((2, x) :: st) t g Q := Xp_go (i := .aload_n 0) (len := 1) (by decide +kernel) rfl
theorem x_138_83 : Xp 138 d 83 [(2, x), v1, v2, v3] st t g Q = Xp 138 d 84 [(2, x), v1, v2, v3] ((2, x) :: st) t g Q := Xp_go (i := .aload_n 0) (len := 1) (by decide +kernel) rfl
theorem x_138_84 : Xp 138 d 84 ls ((2, p) :: st) t g Q = (hkJK p = 10 ∧ jA p 25 ≤ t ∧ Xp 138 d 87 ls ((2, jR p 25) :: st) t g Q) := xr_getR (idx := 66) (ci := 10) (k := 25) (by decide +kernel) (by decide +kernel) (by decide +kernel)
theorem x_138_87 : Xp 138 d 87 [v0, v1, v2, (0, x)] st t g Q = Xp 138 d 88 [v0, v1, v2, (0, x)] ((0, x) :: st) t g Q := Xp_go (i := .iload_n 3) (len := 1) (by decide +kernel) rfl
theorem x_138_88 : Xp 138 d 88 ls ((0, a) :: (2, p) :: st) t g Q = ((hkJK p = 100 ∧ 0 ≤ a ∧ a < jL p) ∧ Xp 138 d 89 ls ((0, g p a) :: st) t g Q) := Xp_chk (i := .iaload) (len := 1) (by decide +kernel) rfl
theorem x_138_89 : Xp 138 (d + 1) 89 ls ((0, a1) :: (2, a0) :: st) t g Q = (hkJK a0 = 10 ∧ hkC8 st ∧ Xp 109 d 0 [(2, a0), (0, a1)] [] t g (fun r t g => Xp 138 (d + 1) 92 ls (hkPush r st) t g Q)) := xr_invV (idx := 123) (y' := 109) (ci := 10) (tg := [2, 0]) (by decide +kernel) (by decide +kernel) (by decide +kernel) (by decide +kernel) rfl rfl rfl
theorem x_138_92 : Xp 138 d 92 ls ((0, a) :: st) t g Q = ((¬ (a = 0) → Xp 138 d 98 ls st t g Q) ∧ (¬ (¬ (a = 0)) → Xp 138 d 95 ls st t g Q)) := xr_if1 (cd := .ne) (off := 6) (by decide +kernel) (by decide)
theorem x_138_95 : Xp 138 d 95 ls st t g Q = Xp 138 d 97 ls ((0, -3) :: st) t g Q := xr_bi (c := -3) (by decide +kernel) (by decide)
theorem x_138_97 : Xp 138 d 97 ls [(0, x)] t g Q = Q (some (0, x)) t g := xr_retI (by decide +kernel) (by decide +kernel)
theorem x_138_98 : Xp 138 d 98 [v0, v1, v2, (0, x)] st t g Q = (hkP1 v2 ∧ Xp 138 d 101 [v0, v1, v2, (0, hkW (x + 1))] st t g Q) := Xp_chk (i := .iinc 3 (1)) (len := 3) (by decide +kernel) rfl
theorem x_138_101 : Xp 138 d 101 ls st t g Q = Xp 138 d 57 ls st t g Q := xr_goto (off := -44) (by decide +kernel) (by decide)
theorem x_138_104 : Xp 138 d 104 [(2, x), v1, v2, v3] st t g Q = Xp 138 d 105 [(2, x), v1, v2, v3] ((2, x) :: st) t g Q := Xp_go (i := .aload_n 0) (len := 1) (by decide +kernel) rfl
theorem x_138_105 : Xp 138 d 105 [v0, v1, (0, x), v3] st t g Q = Xp 138 d 106 [v0, v1, (0, x), v3] ((0, x) :: st) t g Q := Xp_go (i := .iload_n 2) (len := 1) (by decide +kernel) rfl
theorem x_138_106 : Xp 138 (d + 1) 106 ls ((0, a1) :: (2, a0) :: st) t g Q = (hkJK a0 = 10 ∧ hkC8 st ∧ Xp 132 d 0 [(2, a0), (0, a1), hkU, hkU, hkU, hkU, hkU, hkU, hkU] [] t g (fun r t g => Xp 138 (d + 1) 109 ls (hkPush r st) t g Q)) := xr_invV (idx := 218) (y' := 132) (ci := 10) (tg := [2, 0]) (by decide +kernel) (by decide +kernel) (by decide +kernel) (by decide +kernel) rfl rfl rfl
theorem x_138_109 : Xp 138 d 109 ls [(0, x)] t g Q = Q (some (0, x)) t g := xr_retI (by decide +kernel) (by decide +kernel)
-- 139: HookBoxesModel.term(II)I
theorem x_139_0 : Xp 139 d 0 [(2, x), v1, v2] st t g Q = Xp 139 d 1 [(2, x), v1, v2] ((2, x) :: st) t g Q := Xp_go (i := .aload_n 0) (len := 1) (by decide +kernel) rfl
theorem x_139_1 : Xp 139 d 1 [v0, (0, x), v2] st t g Q = Xp 139 d 2 [v0, (0, x), v2] ((0, x) :: st) t g Q := Xp_go (i := .iload_n 1) (len := 1) (by decide +kernel) rfl
theorem x_139_2 : Xp 139 d 2 [v0, v1, (0, x)] st t g Q = Xp 139 d 3 [v0, v1, (0, x)] ((0, x) :: st) t g Q := Xp_go (i := .iload_n 2) (len := 1) (by decide +kernel) rfl
theorem x_139_3 : Xp 139 (d + 1) 3 ls ((0, a2) :: (0, a1) :: (2, a0) :: st) t g Q = (hkJK a0 = 10 ∧ hkC8 st ∧ Xp 140 d 0 [(2, a0), (0, a1), (0, a2)] [] t g (fun r t g => Xp 139 (d + 1) 6 ls (hkPush r st) t g Q)) := xr_invV (idx := 221) (y' := 140) (ci := 10) (tg := [2, 0, 0]) (by decide +kernel) (by decide +kernel) (by decide +kernel) (by decide +kernel) rfl rfl rfl
theorem x_139_6 : Xp 139 d 6 ls ((0, a) :: st) t g Q = ((a = 0 → Xp 139 d 23 ls st t g Q) ∧ (¬ (a = 0) → Xp 139 d 9 ls st t g Q)) := xr_if1 (cd := .eq) (off := 17) (by decide +kernel) (by decide)
theorem x_139_9 : Xp 139 d 9 [(2, x), v1, v2] st t g Q = Xp 139 d 10 [(2, x), v1, v2] ((2, x) :: st) t g Q := Xp_go (i := .aload_n 0) (len := 1) (by decide +kernel) rfl
theorem x_139_10 : Xp 139 d 10 ls ((2, p) :: st) t g Q = (hkJK p = 10 ∧ jA p 8 ≤ t ∧ Xp 139 d 13 ls ((2, jR p 8) :: st) t g Q) := xr_getR (idx := 36) (ci := 10) (k := 8) (by decide +kernel) (by decide +kernel) (by decide +kernel)
theorem x_139_13 : Xp 139 d 13 ls st t g Q = Xp 139 d 15 ls ((0, 35) :: st) t g Q := xr_bi (c := 35) (by decide +kernel) (by decide)
theorem x_139_15 : Xp 139 d 15 [v0, (0, x), v2] st t g Q = Xp 139 d 16 [v0, (0, x), v2] ((0, x) :: st) t g Q := Xp_go (i := .iload_n 1) (len := 1) (by decide +kernel) rfl
theorem x_139_16 : Xp 139 d 16 ls ((0, b) :: (0, a) :: st) t g Q = Xp 139 d 17 ls ((0, hkW (a * b)) :: st) t g Q := Xp_go (i := .imul) (len := 1) (by decide +kernel) rfl
theorem x_139_17 : Xp 139 d 17 [v0, v1, (0, x)] st t g Q = Xp 139 d 18 [v0, v1, (0, x)] ((0, x) :: st) t g Q := Xp_go (i := .iload_n 2) (len := 1) (by decide +kernel) rfl
theorem x_139_18 : Xp 139 d 18 ls ((0, b) :: (0, a) :: st) t g Q = Xp 139 d 19 ls ((0, hkW (a + b)) :: st) t g Q := Xp_go (i := .iadd) (len := 1) (by decide +kernel) rfl
theorem x_139_19 : Xp 139 d 19 ls ((0, a) :: (2, p) :: st) t g Q = ((hkJK p = 100 ∧ 0 ≤ a ∧ a < jL p) ∧ Xp 139 d 20 ls ((0, g p a) :: st) t g Q) := Xp_chk (i := .iaload) (len := 1) (by decide +kernel) rfl
theorem x_139_20 : Xp 139 d 20 ls st t g Q = Xp 139 d 24 ls st t g Q := xr_goto (off := 4) (by decide +kernel) (by decide)
theorem x_139_23 : Xp 139 d 23 ls st t g Q = Xp 139 d 24 ls ((0, 0) :: st) t g Q := xr_const (c := 0) (by decide +kernel) (by decide)
theorem x_139_24 : Xp 139 d 24 ls [(0, x)] t g Q = Q (some (0, x)) t g := xr_retI (by decide +kernel) (by decide +kernel)
-- 140: HookBoxesModel.isTerm(II)Z
theorem x_140_0 : Xp 140 d 0 [v0, (0, x), v2] st t g Q = Xp 140 d 1 [v0, (0, x), v2] ((0, x) :: st) t g Q := Xp_go (i := .iload_n 1) (len := 1) (by decide +kernel) rfl
theorem x_140_1 : Xp 140 d 1 ls ((0, a) :: st) t g Q = Xp 140 d 2 ls ((1, a) :: st) t g Q := Xp_go (i := .i2l) (len := 1) (by decide +kernel) rfl
theorem x_140_2 : Xp 140 d 2 ls st t g Q = Xp 140 d 3 ls ((1, 0) :: st) t g Q := Xp_go (i := .lconst 0) (len := 1) (by decide +kernel) rfl
theorem x_140_3 : Xp 140 d 3 ls st t g Q = Xp 140 d 6 ls ((1, 7) :: st) t g Q := xr_ldc2 (idx := 121) (by decide +kernel) (by decide +kernel)
theorem x_140_6 : Xp 140 (d + 1) 6 ls ((1, a2) :: (1, a1) :: (1, a0) :: st) t g Q = (hkC8 st ∧ Xp 107 d 0 [(1, a0), hkU, (1, a1), hkU, (1, a2), hkU] [] t g (fun r t g => Xp 140 (d + 1) 9 ls (hkPush r st) t g Q)) := xr_invS (idx := 115) (y' := 107) (tg := [1, 1, 1]) (by decide +kernel) (by decide +kernel) (by decide +kernel) rfl rfl
theorem x_140_9 : Xp 140 d 9 ls ((0, a) :: st) t g Q = ((a = 0 → Xp 140 d 24 ls st t g Q) ∧ (¬ (a = 0) → Xp 140 d 12 ls st t g Q)) := xr_if1 (cd := .eq) (off := 15) (by decide +kernel) (by decide)
theorem x_140_12 : Xp 140 d 12 [(2, x), v1, v2] st t g Q = Xp 140 d 13 [(2, x), v1, v2] ((2, x) :: st) t g Q := Xp_go (i := .aload_n 0) (len := 1) (by decide +kernel) rfl
theorem x_140_13 : Xp 140 d 13 [v0, v1, (0, x)] st t g Q = Xp 140 d 14 [v0, v1, (0, x)] ((0, x) :: st) t g Q := Xp_go (i := .iload_n 2) (len := 1) (by decide +kernel) rfl
theorem x_140_14 : Xp 140 (d + 1) 14 ls ((0, a1) :: (2, a0) :: st) t g Q = (hkJK a0 = 10 ∧ hkC8 st ∧ Xp 109 d 0 [(2, a0), (0, a1)] [] t g (fun r t g => Xp 140 (d + 1) 17 ls (hkPush r st) t g Q)) := xr_invV (idx := 123) (y' := 109) (ci := 10) (tg := [2, 0]) (by decide +kernel) (by decide +kernel) (by decide +kernel) (by decide +kernel) rfl rfl rfl
theorem x_140_17 : Xp 140 d 17 ls ((0, a) :: st) t g Q = ((a = 0 → Xp 140 d 24 ls st t g Q) ∧ (¬ (a = 0) → Xp 140 d 20 ls st t g Q)) := xr_if1 (cd := .eq) (off := 7) (by decide +kernel) (by decide)
theorem x_140_20 : Xp 140 d 20 ls st t g Q = Xp 140 d 21 ls ((0, 1) :: st) t g Q := xr_const (c := 1) (by decide +kernel) (by decide)
theorem x_140_21 : Xp 140 d 21 ls st t g Q = Xp 140 d 25 ls st t g Q := xr_goto (off := 4) (by decide +kernel) (by decide)
theorem x_140_24 : Xp 140 d 24 ls st t g Q = Xp 140 d 25 ls ((0, 0) :: st) t g Q := xr_const (c := 0) (by decide +kernel) (by decide)
theorem x_140_25 : Xp 140 d 25 ls [(0, x)] t g Q = ((x = 0 ∨ x = 1) ∧ Q (some (0, x)) t g) := xr_retZ (by decide +kernel) (by decide +kernel)
-- 141: HookBoxesModel.scaled(III)J
theorem x_141_0 : Xp 141 d 0 [(2, x), v1, v2, v3, v4, v5] st t g Q = Xp 141 d 1 [(2, x), v1, v2, v3, v4, v5] ((2, x) :: st) t g Q := Xp_go (i := .aload_n 0) (len := 1) (by decide +kernel) rfl
theorem x_141_1 : Xp 141 d 1 [v0, (0, x), v2, v3, v4, v5] st t g Q = Xp 141 d 2 [v0, (0, x), v2, v3, v4, v5] ((0, x) :: st) t g Q := Xp_go (i := .iload_n 1) (len := 1) (by decide +kernel) rfl
theorem x_141_2 : Xp 141 d 2 [v0, v1, (0, x), v3, v4, v5] st t g Q = Xp 141 d 3 [v0, v1, (0, x), v3, v4, v5] ((0, x) :: st) t g Q := Xp_go (i := .iload_n 2) (len := 1) (by decide +kernel) rfl
theorem x_141_3 : Xp 141 (d + 1) 3 ls ((0, a2) :: (0, a1) :: (2, a0) :: st) t g Q = (hkJK a0 = 10 ∧ hkC8 st ∧ Xp 140 d 0 [(2, a0), (0, a1), (0, a2)] [] t g (fun r t g => Xp 141 (d + 1) 6 ls (hkPush r st) t g Q)) := xr_invV (idx := 221) (y' := 140) (ci := 10) (tg := [2, 0, 0]) (by decide +kernel) (by decide +kernel) (by decide +kernel) (by decide +kernel) rfl rfl rfl
theorem x_141_6 : Xp 141 d 6 ls ((0, a) :: st) t g Q = ((¬ (a = 0) → Xp 141 d 13 ls st t g Q) ∧ (¬ (¬ (a = 0)) → Xp 141 d 9 ls st t g Q)) := xr_if1 (cd := .ne) (off := 7) (by decide +kernel) (by decide)
theorem x_141_9 : Xp 141 d 9 ls st t g Q = Xp 141 d 12 ls ((1, -9223372036854775808) :: st) t g Q := xr_ldc2 (idx := 225) (by decide +kernel) (by decide +kernel)
theorem x_141_12 : Xp 141 d 12 ls [(1, x)] t g Q = Q (some (1, x)) t g := xr_retL (by decide +kernel) (by decide +kernel)
theorem x_141_13 : Xp 141 d 13 [(2, x), v1, v2, v3, v4, v5] st t g Q = Xp 141 d 14 [(2, x), v1, v2, v3, v4, v5] ((2, x) :: st) t g Q := Xp_go (i := .aload_n 0) (len := 1) (by decide +kernel) rfl
theorem x_141_14 : Xp 141 d 14 ls ((2, p) :: st) t g Q = (hkJK p = 10 ∧ jA p 8 ≤ t ∧ Xp 141 d 17 ls ((2, jR p 8) :: st) t g Q) := xr_getR (idx := 36) (ci := 10) (k := 8) (by decide +kernel) (by decide +kernel) (by decide +kernel)
theorem x_141_17 : Xp 141 d 17 ls st t g Q = Xp 141 d 19 ls ((0, 35) :: st) t g Q := xr_bi (c := 35) (by decide +kernel) (by decide)
theorem x_141_19 : Xp 141 d 19 [v0, (0, x), v2, v3, v4, v5] st t g Q = Xp 141 d 20 [v0, (0, x), v2, v3, v4, v5] ((0, x) :: st) t g Q := Xp_go (i := .iload_n 1) (len := 1) (by decide +kernel) rfl
theorem x_141_20 : Xp 141 d 20 ls ((0, b) :: (0, a) :: st) t g Q = Xp 141 d 21 ls ((0, hkW (a * b)) :: st) t g Q := Xp_go (i := .imul) (len := 1) (by decide +kernel) rfl
theorem x_141_21 : Xp 141 d 21 [v0, v1, (0, x), v3, v4, v5] st t g Q = Xp 141 d 22 [v0, v1, (0, x), v3, v4, v5] ((0, x) :: st) t g Q := Xp_go (i := .iload_n 2) (len := 1) (by decide +kernel) rfl
theorem x_141_22 : Xp 141 d 22 ls ((0, b) :: (0, a) :: st) t g Q = Xp 141 d 23 ls ((0, hkW (a + b)) :: st) t g Q := Xp_go (i := .iadd) (len := 1) (by decide +kernel) rfl
theorem x_141_23 : Xp 141 d 23 ls ((0, a) :: (2, p) :: st) t g Q = ((hkJK p = 100 ∧ 0 ≤ a ∧ a < jL p) ∧ Xp 141 d 24 ls ((0, g p a) :: st) t g Q) := Xp_chk (i := .iaload) (len := 1) (by decide +kernel) rfl
theorem x_141_24 : Xp 141 d 24 ls ((0, a) :: st) t g Q = Xp 141 d 25 ls ((1, a) :: st) t g Q := Xp_go (i := .i2l) (len := 1) (by decide +kernel) rfl
theorem x_141_25 : Xp 141 d 25 [v0, v1, v2, (0, x), v4, v5] st t g Q = Xp 141 d 26 [v0, v1, v2, (0, x), v4, v5] ((0, x) :: st) t g Q := Xp_go (i := .iload_n 3) (len := 1) (by decide +kernel) rfl
theorem x_141_26 : Xp 141 d 26 ls ((0, a) :: st) t g Q = Xp 141 d 27 ls ((1, a) :: st) t g Q := Xp_go (i := .i2l) (len := 1) (by decide +kernel) rfl
theorem x_141_27 : Xp 141 d 27 ls ((1, b) :: (1, a) :: st) t g Q = Xp 141 d 28 ls ((1, hkL (a * b)) :: st) t g Q := Xp_go (i := .lmul) (len := 1) (by decide +kernel) rfl
theorem x_141_28 : Xp 141 d 28 [v0, v1, v2, v3, v4, v5] ((1, x) :: st) t g Q = (hkP1 v3 ∧ Xp 141 d 30 [v0, v1, v2, v3, (1, x), hkU] st t g Q) := Xp_chk (i := .lstore 4) (len := 2) (by decide +kernel) rfl
theorem x_141_30 : Xp 141 d 30 [v0, v1, v2, v3, (1, x), v5] st t g Q = Xp 141 d 32 [v0, v1, v2, v3, (1, x), v5] ((1, x) :: st) t g Q := Xp_go (i := .lload 4) (len := 2) (by decide +kernel) rfl
theorem x_141_32 : Xp 141 d 32 [v0, v1, v2, v3, (1, x), v5] st t g Q = Xp 141 d 34 [v0, v1, v2, v3, (1, x), v5] ((1, x) :: st) t g Q := Xp_go (i := .lload 4) (len := 2) (by decide +kernel) rfl
theorem x_141_34 : Xp 141 d 34 ls ((1, a) :: st) t g Q = Xp 141 d 35 ls ((0, hkW a) :: st) t g Q := Xp_go (i := .l2i) (len := 1) (by decide +kernel) rfl
theorem x_141_35 : Xp 141 d 35 ls ((0, a) :: st) t g Q = Xp 141 d 36 ls ((1, a) :: st) t g Q := Xp_go (i := .i2l) (len := 1) (by decide +kernel) rfl
theorem x_141_36 : Xp 141 d 36 ls ((1, b) :: (1, a) :: st) t g Q = Xp 141 d 37 ls ((0, hkCmp a b) :: st) t g Q := Xp_go (i := .lcmp) (len := 1) (by decide +kernel) rfl
theorem x_141_37 : Xp 141 d 37 ls ((0, a) :: st) t g Q = ((¬ (a = 0) → Xp 141 d 45 ls st t g Q) ∧ (¬ (¬ (a = 0)) → Xp 141 d 40 ls st t g Q)) := xr_if1 (cd := .ne) (off := 8) (by decide +kernel) (by decide)
theorem x_141_40 : Xp 141 d 40 [v0, v1, v2, v3, (1, x), v5] st t g Q = Xp 141 d 42 [v0, v1, v2, v3, (1, x), v5] ((1, x) :: st) t g Q := Xp_go (i := .lload 4) (len := 2) (by decide +kernel) rfl
theorem x_141_42 : Xp 141 d 42 ls st t g Q = Xp 141 d 48 ls st t g Q := xr_goto (off := 6) (by decide +kernel) (by decide)
theorem x_141_45 : Xp 141 d 45 ls st t g Q = Xp 141 d 48 ls ((1, -9223372036854775808) :: st) t g Q := xr_ldc2 (idx := 225) (by decide +kernel) (by decide +kernel)
theorem x_141_48 : Xp 141 d 48 ls [(1, x)] t g Q = Q (some (1, x)) t g := xr_retL (by decide +kernel) (by decide +kernel)
-- 142: HookBoxesModel.multiply(I)I
theorem x_142_0 : Xp 142 d 0 [(2, x), v1, v2] st t g Q = Xp 142 d 1 [(2, x), v1, v2] ((2, x) :: st) t g Q := Xp_go (i := .aload_n 0) (len := 1) (by decide +kernel) rfl
theorem x_142_1 : Xp 142 d 1 [v0, (0, x), v2] st t g Q = Xp 142 d 2 [v0, (0, x), v2] ((0, x) :: st) t g Q := Xp_go (i := .iload_n 1) (len := 1) (by decide +kernel) rfl
theorem x_142_2 : Xp 142 (d + 1) 2 ls ((0, a1) :: (2, a0) :: st) t g Q = (hkJK a0 = 10 ∧ hkC8 st ∧ Xp 109 d 0 [(2, a0), (0, a1)] [] t g (fun r t g => Xp 142 (d + 1) 5 ls (hkPush r st) t g Q)) := xr_invV (idx := 123) (y' := 109) (ci := 10) (tg := [2, 0]) (by decide +kernel) (by decide +kernel) (by decide +kernel) (by decide +kernel) rfl rfl rfl
theorem x_142_5 : Xp 142 d 5 ls ((0, a) :: st) t g Q = ((¬ (a = 0) → Xp 142 d 11 ls st t g Q) ∧ (¬ (¬ (a = 0)) → Xp 142 d 8 ls st t g Q)) := xr_if1 (cd := .ne) (off := 6) (by decide +kernel) (by decide)
theorem x_142_8 : Xp 142 d 8 ls st t g Q = Xp 142 d 10 ls ((0, -2) :: st) t g Q := xr_bi (c := -2) (by decide +kernel) (by decide)
theorem x_142_10 : Xp 142 d 10 ls [(0, x)] t g Q = Q (some (0, x)) t g := xr_retI (by decide +kernel) (by decide +kernel)
theorem x_142_11 : Xp 142 d 11 [(2, x), v1, v2] st t g Q = Xp 142 d 12 [(2, x), v1, v2] ((2, x) :: st) t g Q := Xp_go (i := .aload_n 0) (len := 1) (by decide +kernel) rfl
theorem x_142_12 : Xp 142 d 12 ls st t g Q = Xp 142 d 13 ls ((0, 0) :: st) t g Q := xr_const (c := 0) (by decide +kernel) (by decide)
theorem x_142_13 : Xp 142 d 13 ls ((0, x) :: (2, p) :: st) t g Q = (hkJK p = 10 ∧ (x = 0 ∨ x = 1) ∧ Xp 142 d 16 ls st t (hkSet g p 29 x) Q) := xr_putB (idx := 227) (ci := 10) (k := 29) (by decide +kernel) (by decide +kernel) (by decide +kernel)
theorem x_142_16 : Xp 142 d 16 ls st t g Q = Xp 142 d 17 ls ((0, 0) :: st) t g Q := xr_const (c := 0) (by decide +kernel) (by decide)
theorem x_142_17 : Xp 142 d 17 [v0, v1, v2] ((0, x) :: st) t g Q = (hkP1 v1 ∧ Xp 142 d 18 [v0, v1, (0, x)] st t g Q) := Xp_chk (i := .istore_n 2) (len := 1) (by decide +kernel) rfl
theorem x_142_18 : Xp 142 d 18 [v0, v1, (0, x)] st t g Q = Xp 142 d 19 [v0, v1, (0, x)] ((0, x) :: st) t g Q := Xp_go (i := .iload_n 2) (len := 1) (by decide +kernel) rfl
theorem x_142_19 : Xp 142 d 19 ls st t g Q = Xp 142 d 22 ls ((0, 280) :: st) t g Q := xr_si (c := 280) (by decide +kernel) (by decide)
theorem x_142_22 : Xp 142 d 22 ls ((0, b) :: (0, a) :: st) t g Q = ((b ≤ a → Xp 142 d 43 ls st t g Q) ∧ (¬ (b ≤ a) → Xp 142 d 25 ls st t g Q)) := xr_if2 (cd := .ge) (off := 21) (by decide +kernel) (by decide)
theorem x_142_25 : Xp 142 d 25 [(2, x), v1, v2] st t g Q = Xp 142 d 26 [(2, x), v1, v2] ((2, x) :: st) t g Q := Xp_go (i := .aload_n 0) (len := 1) (by decide +kernel) rfl
theorem x_142_26 : Xp 142 d 26 ls ((2, p) :: st) t g Q = (hkJK p = 10 ∧ jA p 27 ≤ t ∧ Xp 142 d 29 ls ((2, jR p 27) :: st) t g Q) := xr_getR (idx := 69) (ci := 10) (k := 27) (by decide +kernel) (by decide +kernel) (by decide +kernel)
theorem x_142_29 : Xp 142 d 29 [v0, v1, (0, x)] st t g Q = Xp 142 d 30 [v0, v1, (0, x)] ((0, x) :: st) t g Q := Xp_go (i := .iload_n 2) (len := 1) (by decide +kernel) rfl
theorem x_142_30 : Xp 142 d 30 [(2, x), v1, v2] st t g Q = Xp 142 d 31 [(2, x), v1, v2] ((2, x) :: st) t g Q := Xp_go (i := .aload_n 0) (len := 1) (by decide +kernel) rfl
theorem x_142_31 : Xp 142 d 31 ls ((2, p) :: st) t g Q = (hkJK p = 10 ∧ jA p 8 ≤ t ∧ Xp 142 d 34 ls ((2, jR p 8) :: st) t g Q) := xr_getR (idx := 36) (ci := 10) (k := 8) (by decide +kernel) (by decide +kernel) (by decide +kernel)
theorem x_142_34 : Xp 142 d 34 [v0, v1, (0, x)] st t g Q = Xp 142 d 35 [v0, v1, (0, x)] ((0, x) :: st) t g Q := Xp_go (i := .iload_n 2) (len := 1) (by decide +kernel) rfl
theorem x_142_35 : Xp 142 d 35 ls ((0, a) :: (2, p) :: st) t g Q = ((hkJK p = 100 ∧ 0 ≤ a ∧ a < jL p) ∧ Xp 142 d 36 ls ((0, g p a) :: st) t g Q) := Xp_chk (i := .iaload) (len := 1) (by decide +kernel) rfl
theorem x_142_36 : Xp 142 d 36 ls ((0, x) :: (0, a) :: (2, p) :: st) t g Q = ((hkJK p = 100 ∧ (100 = 102 → x = 0 ∨ x = 1) ∧ 0 ≤ a ∧ a < jL p) ∧ Xp 142 d 37 ls st t (hkSet g p a x) Q) := Xp_chk (i := .iastore) (len := 1) (by decide +kernel) rfl
theorem x_142_37 : Xp 142 d 37 [v0, v1, (0, x)] st t g Q = (hkP1 v1 ∧ Xp 142 d 40 [v0, v1, (0, hkW (x + 1))] st t g Q) := Xp_chk (i := .iinc 2 (1)) (len := 3) (by decide +kernel) rfl
theorem x_142_40 : Xp 142 d 40 ls st t g Q = Xp 142 d 18 ls st t g Q := xr_goto (off := -22) (by decide +kernel) (by decide)
theorem x_142_43 : Xp 142 d 43 [(2, x), v1, v2] st t g Q = Xp 142 d 44 [(2, x), v1, v2] ((2, x) :: st) t g Q := Xp_go (i := .aload_n 0) (len := 1) (by decide +kernel) rfl
theorem x_142_44 : Xp 142 d 44 ls st t g Q = Xp 142 d 45 ls ((0, 1) :: st) t g Q := xr_const (c := 1) (by decide +kernel) (by decide)
theorem x_142_45 : Xp 142 d 45 ls st t g Q = Xp 142 d 46 ls ((0, 0) :: st) t g Q := xr_const (c := 0) (by decide +kernel) (by decide)
theorem x_142_46 : Xp 142 d 46 [v0, (0, x), v2] st t g Q = Xp 142 d 47 [v0, (0, x), v2] ((0, x) :: st) t g Q := Xp_go (i := .iload_n 1) (len := 1) (by decide +kernel) rfl
theorem x_142_47 : Xp 142 d 47 ls st t g Q = Xp 142 d 48 ls ((0, 1) :: st) t g Q := xr_const (c := 1) (by decide +kernel) (by decide)
theorem x_142_48 : Xp 142 (d + 1) 48 ls ((0, a4) :: (0, a3) :: (0, a2) :: (0, a1) :: (2, a0) :: st) t g Q = (hkJK a0 = 10 ∧ hkC8 st ∧ Xp 143 d 0 [(2, a0), (0, a1), (0, a2), (0, a3), (0, a4), hkU] [] t g (fun r t g => Xp 142 (d + 1) 51 ls (hkPush r st) t g Q)) := xr_invV (idx := 241) (y' := 143) (ci := 10) (tg := [2, 0, 0, 0, 0]) (by decide +kernel) (by decide +kernel) (by decide +kernel) (by decide +kernel) rfl rfl rfl
theorem x_142_51 : Xp 142 d 51 [(2, x), v1, v2] st t g Q = Xp 142 d 52 [(2, x), v1, v2] ((2, x) :: st) t g Q := Xp_go (i := .aload_n 0) (len := 1) (by decide +kernel) rfl
theorem x_142_52 : Xp 142 d 52 ls st t g Q = Xp 142 d 53 ls ((0, 0) :: st) t g Q := xr_const (c := 0) (by decide +kernel) (by decide)
theorem x_142_53 : Xp 142 d 53 ls st t g Q = Xp 142 d 54 ls ((0, 1) :: st) t g Q := xr_const (c := 1) (by decide +kernel) (by decide)
theorem x_142_54 : Xp 142 (d + 1) 54 ls ((0, a2) :: (0, a1) :: (2, a0) :: st) t g Q = (hkJK a0 = 10 ∧ hkC8 st ∧ Xp 144 d 0 [(2, a0), (0, a1), (0, a2), hkU, hkU, hkU, hkU, hkU, hkU] [] t g (fun r t g => Xp 142 (d + 1) 57 ls (hkPush r st) t g Q)) := xr_invV (idx := 244) (y' := 144) (ci := 10) (tg := [2, 0, 0]) (by decide +kernel) (by decide +kernel) (by decide +kernel) (by decide +kernel) rfl rfl rfl
theorem x_142_57 : Xp 142 d 57 [(2, x), v1, v2] st t g Q = Xp 142 d 58 [(2, x), v1, v2] ((2, x) :: st) t g Q := Xp_go (i := .aload_n 0) (len := 1) (by decide +kernel) rfl
theorem x_142_58 : Xp 142 (d + 1) 58 ls ((2, a0) :: st) t g Q = (hkJK a0 = 10 ∧ hkC8 st ∧ Xp 146 d 0 [(2, a0), hkU] [] t g (fun r t g => Xp 142 (d + 1) 61 ls (hkPush r st) t g Q)) := xr_invV (idx := 248) (y' := 146) (ci := 10) (tg := [2]) (by decide +kernel) (by decide +kernel) (by decide +kernel) (by decide +kernel) rfl rfl rfl
theorem x_142_61 : Xp 142 d 61 ls [(0, x)] t g Q = Q (some (0, x)) t g := xr_retI (by decide +kernel) (by decide +kernel)
-- 143: HookBoxesModel.becomes(IIII)V
theorem x_143_0 : Xp 143 d 0 ls st t g Q = Xp 143 d 1 ls ((0, 0) :: st) t g Q := xr_const (c := 0) (by decide +kernel) (by decide)
theorem x_143_1 : Xp 143 d 1 [v0, v1, v2, v3, v4, v5] ((0, x) :: st) t g Q = (hkP1 v4 ∧ Xp 143 d 3 [v0, v1, v2, v3, v4, (0, x)] st t g Q) := Xp_chk (i := .istore 5) (len := 2) (by decide +kernel) rfl
theorem x_143_3 : Xp 143 d 3 [v0, v1, v2, v3, v4, (0, x)] st t g Q = Xp 143 d 5 [v0, v1, v2, v3, v4, (0, x)] ((0, x) :: st) t g Q := Xp_go (i := .iload 5) (len := 2) (by decide +kernel) rfl
theorem x_143_5 : Xp 143 d 5 ls st t g Q = Xp 143 d 8 ls ((0, 280) :: st) t g Q := xr_si (c := 280) (by decide +kernel) (by decide)
theorem x_143_8 : Xp 143 d 8 ls ((0, b) :: (0, a) :: st) t g Q = ((b ≤ a → Xp 143 d 31 ls st t g Q) ∧ (¬ (b ≤ a) → Xp 143 d 11 ls st t g Q)) := xr_if2 (cd := .ge) (off := 23) (by decide +kernel) (by decide)
theorem x_143_11 : Xp 143 d 11 [(2, x), v1, v2, v3, v4, v5] st t g Q = Xp 143 d 12 [(2, x), v1, v2, v3, v4, v5] ((2, x) :: st) t g Q := Xp_go (i := .aload_n 0) (len := 1) (by decide +kernel) rfl
theorem x_143_12 : Xp 143 d 12 ls ((2, p) :: st) t g Q = (hkJK p = 10 ∧ jA p 27 ≤ t ∧ Xp 143 d 15 ls ((2, jR p 27) :: st) t g Q) := xr_getR (idx := 69) (ci := 10) (k := 27) (by decide +kernel) (by decide +kernel) (by decide +kernel)
theorem x_143_15 : Xp 143 d 15 ls st t g Q = Xp 143 d 18 ls ((0, 280) :: st) t g Q := xr_si (c := 280) (by decide +kernel) (by decide)
theorem x_143_18 : Xp 143 d 18 [v0, (0, x), v2, v3, v4, v5] st t g Q = Xp 143 d 19 [v0, (0, x), v2, v3, v4, v5] ((0, x) :: st) t g Q := Xp_go (i := .iload_n 1) (len := 1) (by decide +kernel) rfl
theorem x_143_19 : Xp 143 d 19 ls ((0, b) :: (0, a) :: st) t g Q = Xp 143 d 20 ls ((0, hkW (a * b)) :: st) t g Q := Xp_go (i := .imul) (len := 1) (by decide +kernel) rfl
theorem x_143_20 : Xp 143 d 20 [v0, v1, v2, v3, v4, (0, x)] st t g Q = Xp 143 d 22 [v0, v1, v2, v3, v4, (0, x)] ((0, x) :: st) t g Q := Xp_go (i := .iload 5) (len := 2) (by decide +kernel) rfl
theorem x_143_22 : Xp 143 d 22 ls ((0, b) :: (0, a) :: st) t g Q = Xp 143 d 23 ls ((0, hkW (a + b)) :: st) t g Q := Xp_go (i := .iadd) (len := 1) (by decide +kernel) rfl
theorem x_143_23 : Xp 143 d 23 ls st t g Q = Xp 143 d 24 ls ((0, 0) :: st) t g Q := xr_const (c := 0) (by decide +kernel) (by decide)
theorem x_143_24 : Xp 143 d 24 ls ((0, x) :: (0, a) :: (2, p) :: st) t g Q = ((hkJK p = 100 ∧ (100 = 102 → x = 0 ∨ x = 1) ∧ 0 ≤ a ∧ a < jL p) ∧ Xp 143 d 25 ls st t (hkSet g p a x) Q) := Xp_chk (i := .iastore) (len := 1) (by decide +kernel) rfl
theorem x_143_25 : Xp 143 d 25 [v0, v1, v2, v3, v4, (0, x)] st t g Q = (hkP1 v4 ∧ Xp 143 d 28 [v0, v1, v2, v3, v4, (0, hkW (x + 1))] st t g Q) := Xp_chk (i := .iinc 5 (1)) (len := 3) (by decide +kernel) rfl
theorem x_143_28 : Xp 143 d 28 ls st t g Q = Xp 143 d 3 ls st t g Q := xr_goto (off := -25) (by decide +kernel) (by decide)
theorem x_143_31 : Xp 143 d 31 [(2, x), v1, v2, v3, v4, v5] st t g Q = Xp 143 d 32 [(2, x), v1, v2, v3, v4, v5] ((2, x) :: st) t g Q := Xp_go (i := .aload_n 0) (len := 1) (by decide +kernel) rfl
theorem x_143_32 : Xp 143 d 32 ls ((2, p) :: st) t g Q = (hkJK p = 10 ∧ jA p 27 ≤ t ∧ Xp 143 d 35 ls ((2, jR p 27) :: st) t g Q) := xr_getR (idx := 69) (ci := 10) (k := 27) (by decide +kernel) (by decide +kernel) (by decide +kernel)
theorem x_143_35 : Xp 143 d 35 ls st t g Q = Xp 143 d 38 ls ((0, 280) :: st) t g Q := xr_si (c := 280) (by decide +kernel) (by decide)
theorem x_143_38 : Xp 143 d 38 [v0, (0, x), v2, v3, v4, v5] st t g Q = Xp 143 d 39 [v0, (0, x), v2, v3, v4, v5] ((0, x) :: st) t g Q := Xp_go (i := .iload_n 1) (len := 1) (by decide +kernel) rfl
theorem x_143_39 : Xp 143 d 39 ls ((0, b) :: (0, a) :: st) t g Q = Xp 143 d 40 ls ((0, hkW (a * b)) :: st) t g Q := Xp_go (i := .imul) (len := 1) (by decide +kernel) rfl
theorem x_143_40 : Xp 143 d 40 ls st t g Q = Xp 143 d 42 ls ((0, 35) :: st) t g Q := xr_bi (c := 35) (by decide +kernel) (by decide)
theorem x_143_42 : Xp 143 d 42 [v0, v1, (0, x), v3, v4, v5] st t g Q = Xp 143 d 43 [v0, v1, (0, x), v3, v4, v5] ((0, x) :: st) t g Q := Xp_go (i := .iload_n 2) (len := 1) (by decide +kernel) rfl
theorem x_143_43 : Xp 143 d 43 ls ((0, b) :: (0, a) :: st) t g Q = Xp 143 d 44 ls ((0, hkW (a * b)) :: st) t g Q := Xp_go (i := .imul) (len := 1) (by decide +kernel) rfl
theorem x_143_44 : Xp 143 d 44 ls ((0, b) :: (0, a) :: st) t g Q = Xp 143 d 45 ls ((0, hkW (a + b)) :: st) t g Q := Xp_go (i := .iadd) (len := 1) (by decide +kernel) rfl
theorem x_143_45 : Xp 143 d 45 [v0, v1, v2, (0, x), v4, v5] st t g Q = Xp 143 d 46 [v0, v1, v2, (0, x), v4, v5] ((0, x) :: st) t g Q := Xp_go (i := .iload_n 3) (len := 1) (by decide +kernel) rfl
theorem x_143_46 : Xp 143 d 46 ls ((0, b) :: (0, a) :: st) t g Q = Xp 143 d 47 ls ((0, hkW (a + b)) :: st) t g Q := Xp_go (i := .iadd) (len := 1) (by decide +kernel) rfl
theorem x_143_47 : Xp 143 d 47 [v0, v1, v2, v3, (0, x), v5] st t g Q = Xp 143 d 49 [v0, v1, v2, v3, (0, x), v5] ((0, x) :: st) t g Q := Xp_go (i := .iload 4) (len := 2) (by decide +kernel) rfl
theorem x_143_49 : Xp 143 d 49 ls ((0, x) :: (0, a) :: (2, p) :: st) t g Q = ((hkJK p = 100 ∧ (100 = 102 → x = 0 ∨ x = 1) ∧ 0 ≤ a ∧ a < jL p) ∧ Xp 143 d 50 ls st t (hkSet g p a x) Q) := Xp_chk (i := .iastore) (len := 1) (by decide +kernel) rfl
theorem x_143_50 : Xp 143 d 50 ls [] t g Q = Q none t g := xr_retV (by decide +kernel) (by decide +kernel)
-- 144: HookBoxesModel.multiplies(II)V
theorem x_144_0 : Xp 144 d 0 ls st t g Q = Xp 144 d 1 ls ((0, 0) :: st) t g Q := xr_const (c := 0) (by decide +kernel) (by decide)
theorem x_144_1 : Xp 144 d 1 [v0, v1, v2, v3, v4, v5, v6, v7, v8] ((0, x) :: st) t g Q = (hkP1 v2 ∧ Xp 144 d 2 [v0, v1, v2, (0, x), v4, v5, v6, v7, v8] st t g Q) := Xp_chk (i := .istore_n 3) (len := 1) (by decide +kernel) rfl
theorem x_144_2 : Xp 144 d 2 [v0, v1, v2, (0, x), v4, v5, v6, v7, v8] st t g Q = Xp 144 d 3 [v0, v1, v2, (0, x), v4, v5, v6, v7, v8] ((0, x) :: st) t g Q := Xp_go (i := .iload_n 3) (len := 1) (by decide +kernel) rfl
theorem x_144_3 : Xp 144 d 3 [(2, x), v1, v2, v3, v4, v5, v6, v7, v8] st t g Q = Xp 144 d 4 [(2, x), v1, v2, v3, v4, v5, v6, v7, v8] ((2, x) :: st) t g Q := Xp_go (i := .aload_n 0) (len := 1) (by decide +kernel) rfl
theorem x_144_4 : Xp 144 d 4 ls ((2, p) :: st) t g Q = (hkJK p = 10 ∧ jA p 28 ≤ t ∧ Xp 144 d 7 ls ((2, jR p 28) :: st) t g Q) := xr_getR (idx := 72) (ci := 10) (k := 28) (by decide +kernel) (by decide +kernel) (by decide +kernel)
theorem x_144_7 : Xp 144 d 7 ls ((2, p) :: st) t g Q = ((100 ≤ hkJK p ∧ hkJK p ≤ 104) ∧ Xp 144 d 8 ls ((0, jL p) :: st) t g Q) := Xp_chk (i := .arraylength) (len := 1) (by decide +kernel) rfl
theorem x_144_8 : Xp 144 d 8 ls ((0, b) :: (0, a) :: st) t g Q = ((b ≤ a → Xp 144 d 24 ls st t g Q) ∧ (¬ (b ≤ a) → Xp 144 d 11 ls st t g Q)) := xr_if2 (cd := .ge) (off := 16) (by decide +kernel) (by decide)
theorem x_144_11 : Xp 144 d 11 [(2, x), v1, v2, v3, v4, v5, v6, v7, v8] st t g Q = Xp 144 d 12 [(2, x), v1, v2, v3, v4, v5, v6, v7, v8] ((2, x) :: st) t g Q := Xp_go (i := .aload_n 0) (len := 1) (by decide +kernel) rfl
theorem x_144_12 : Xp 144 d 12 ls ((2, p) :: st) t g Q = (hkJK p = 10 ∧ jA p 28 ≤ t ∧ Xp 144 d 15 ls ((2, jR p 28) :: st) t g Q) := xr_getR (idx := 72) (ci := 10) (k := 28) (by decide +kernel) (by decide +kernel) (by decide +kernel)
theorem x_144_15 : Xp 144 d 15 [v0, v1, v2, (0, x), v4, v5, v6, v7, v8] st t g Q = Xp 144 d 16 [v0, v1, v2, (0, x), v4, v5, v6, v7, v8] ((0, x) :: st) t g Q := Xp_go (i := .iload_n 3) (len := 1) (by decide +kernel) rfl
theorem x_144_16 : Xp 144 d 16 ls st t g Q = Xp 144 d 17 ls ((1, 0) :: st) t g Q := Xp_go (i := .lconst 0) (len := 1) (by decide +kernel) rfl
theorem x_144_17 : Xp 144 d 17 ls ((1, x) :: (0, a) :: (2, p) :: st) t g Q = ((hkJK p = 101 ∧ (101 = 102 → x = 0 ∨ x = 1) ∧ 0 ≤ a ∧ a < jL p) ∧ Xp 144 d 18 ls st t (hkSet g p a x) Q) := Xp_chk (i := .lastore) (len := 1) (by decide +kernel) rfl
theorem x_144_18 : Xp 144 d 18 [v0, v1, v2, (0, x), v4, v5, v6, v7, v8] st t g Q = (hkP1 v2 ∧ Xp 144 d 21 [v0, v1, v2, (0, hkW (x + 1)), v4, v5, v6, v7, v8] st t g Q) := Xp_chk (i := .iinc 3 (1)) (len := 3) (by decide +kernel) rfl
theorem x_144_21 : Xp 144 d 21 ls st t g Q = Xp 144 d 2 ls st t g Q := xr_goto (off := -19) (by decide +kernel) (by decide)
theorem x_144_24 : Xp 144 d 24 ls st t g Q = Xp 144 d 25 ls ((0, 0) :: st) t g Q := xr_const (c := 0) (by decide +kernel) (by decide)
theorem x_144_25 : Xp 144 d 25 [v0, v1, v2, v3, v4, v5, v6, v7, v8] ((0, x) :: st) t g Q = (hkP1 v2 ∧ Xp 144 d 26 [v0, v1, v2, (0, x), v4, v5, v6, v7, v8] st t g Q) := Xp_chk (i := .istore_n 3) (len := 1) (by decide +kernel) rfl
theorem x_144_26 : Xp 144 d 26 [v0, v1, v2, (0, x), v4, v5, v6, v7, v8] st t g Q = Xp 144 d 27 [v0, v1, v2, (0, x), v4, v5, v6, v7, v8] ((0, x) :: st) t g Q := Xp_go (i := .iload_n 3) (len := 1) (by decide +kernel) rfl
theorem x_144_27 : Xp 144 d 27 ls st t g Q = Xp 144 d 30 ls ((0, 280) :: st) t g Q := xr_si (c := 280) (by decide +kernel) (by decide)
theorem x_144_30 : Xp 144 d 30 ls ((0, b) :: (0, a) :: st) t g Q = ((b ≤ a → Xp 144 d 186 ls st t g Q) ∧ (¬ (b ≤ a) → Xp 144 d 33 ls st t g Q)) := xr_if2 (cd := .ge) (off := 156) (by decide +kernel) (by decide)
theorem x_144_33 : Xp 144 d 33 [(2, x), v1, v2, v3, v4, v5, v6, v7, v8] st t g Q = Xp 144 d 34 [(2, x), v1, v2, v3, v4, v5, v6, v7, v8] ((2, x) :: st) t g Q := Xp_go (i := .aload_n 0) (len := 1) (by decide +kernel) rfl
theorem x_144_34 : Xp 144 d 34 ls ((2, p) :: st) t g Q = (hkJK p = 10 ∧ jA p 27 ≤ t ∧ Xp 144 d 37 ls ((2, jR p 27) :: st) t g Q) := xr_getR (idx := 69) (ci := 10) (k := 27) (by decide +kernel) (by decide +kernel) (by decide +kernel)
theorem x_144_37 : Xp 144 d 37 ls st t g Q = Xp 144 d 40 ls ((0, 280) :: st) t g Q := xr_si (c := 280) (by decide +kernel) (by decide)
theorem x_144_40 : Xp 144 d 40 [v0, (0, x), v2, v3, v4, v5, v6, v7, v8] st t g Q = Xp 144 d 41 [v0, (0, x), v2, v3, v4, v5, v6, v7, v8] ((0, x) :: st) t g Q := Xp_go (i := .iload_n 1) (len := 1) (by decide +kernel) rfl
theorem x_144_41 : Xp 144 d 41 ls ((0, b) :: (0, a) :: st) t g Q = Xp 144 d 42 ls ((0, hkW (a * b)) :: st) t g Q := Xp_go (i := .imul) (len := 1) (by decide +kernel) rfl
theorem x_144_42 : Xp 144 d 42 [v0, v1, v2, (0, x), v4, v5, v6, v7, v8] st t g Q = Xp 144 d 43 [v0, v1, v2, (0, x), v4, v5, v6, v7, v8] ((0, x) :: st) t g Q := Xp_go (i := .iload_n 3) (len := 1) (by decide +kernel) rfl
theorem x_144_43 : Xp 144 d 43 ls ((0, b) :: (0, a) :: st) t g Q = Xp 144 d 44 ls ((0, hkW (a + b)) :: st) t g Q := Xp_go (i := .iadd) (len := 1) (by decide +kernel) rfl
theorem x_144_44 : Xp 144 d 44 ls ((0, a) :: (2, p) :: st) t g Q = ((hkJK p = 100 ∧ 0 ≤ a ∧ a < jL p) ∧ Xp 144 d 45 ls ((0, g p a) :: st) t g Q) := Xp_chk (i := .iaload) (len := 1) (by decide +kernel) rfl
theorem x_144_45 : Xp 144 d 45 [v0, v1, v2, v3, v4, v5, v6, v7, v8] ((0, x) :: st) t g Q = (hkP1 v3 ∧ Xp 144 d 47 [v0, v1, v2, v3, (0, x), v5, v6, v7, v8] st t g Q) := Xp_chk (i := .istore 4) (len := 2) (by decide +kernel) rfl
theorem x_144_47 : Xp 144 d 47 ls st t g Q = Xp 144 d 48 ls ((0, 0) :: st) t g Q := xr_const (c := 0) (by decide +kernel) (by decide)
theorem x_144_48 : Xp 144 d 48 [v0, v1, v2, v3, v4, v5, v6, v7, v8] ((0, x) :: st) t g Q = (hkP1 v4 ∧ Xp 144 d 50 [v0, v1, v2, v3, v4, (0, x), v6, v7, v8] st t g Q) := Xp_chk (i := .istore 5) (len := 2) (by decide +kernel) rfl
theorem x_144_50 : Xp 144 d 50 [v0, v1, v2, v3, v4, (0, x), v6, v7, v8] st t g Q = Xp 144 d 52 [v0, v1, v2, v3, v4, (0, x), v6, v7, v8] ((0, x) :: st) t g Q := Xp_go (i := .iload 5) (len := 2) (by decide +kernel) rfl
theorem x_144_52 : Xp 144 d 52 ls st t g Q = Xp 144 d 55 ls ((0, 280) :: st) t g Q := xr_si (c := 280) (by decide +kernel) (by decide)
theorem x_144_55 : Xp 144 d 55 ls ((0, b) :: (0, a) :: st) t g Q = ((b ≤ a → Xp 144 d 180 ls st t g Q) ∧ (¬ (b ≤ a) → Xp 144 d 58 ls st t g Q)) := xr_if2 (cd := .ge) (off := 125) (by decide +kernel) (by decide)
theorem x_144_58 : Xp 144 d 58 [v0, v1, v2, v3, (0, x), v5, v6, v7, v8] st t g Q = Xp 144 d 60 [v0, v1, v2, v3, (0, x), v5, v6, v7, v8] ((0, x) :: st) t g Q := Xp_go (i := .iload 4) (len := 2) (by decide +kernel) rfl
theorem x_144_60 : Xp 144 d 60 ls ((0, a) :: st) t g Q = ((a = 0 → Xp 144 d 180 ls st t g Q) ∧ (¬ (a = 0) → Xp 144 d 63 ls st t g Q)) := xr_if1 (cd := .eq) (off := 120) (by decide +kernel) (by decide)
theorem x_144_63 : Xp 144 d 63 [(2, x), v1, v2, v3, v4, v5, v6, v7, v8] st t g Q = Xp 144 d 64 [(2, x), v1, v2, v3, v4, v5, v6, v7, v8] ((2, x) :: st) t g Q := Xp_go (i := .aload_n 0) (len := 1) (by decide +kernel) rfl
theorem x_144_64 : Xp 144 d 64 ls ((2, p) :: st) t g Q = (hkJK p = 10 ∧ jA p 27 ≤ t ∧ Xp 144 d 67 ls ((2, jR p 27) :: st) t g Q) := xr_getR (idx := 69) (ci := 10) (k := 27) (by decide +kernel) (by decide +kernel) (by decide +kernel)
theorem x_144_67 : Xp 144 d 67 ls st t g Q = Xp 144 d 70 ls ((0, 280) :: st) t g Q := xr_si (c := 280) (by decide +kernel) (by decide)
theorem x_144_70 : Xp 144 d 70 [v0, v1, (0, x), v3, v4, v5, v6, v7, v8] st t g Q = Xp 144 d 71 [v0, v1, (0, x), v3, v4, v5, v6, v7, v8] ((0, x) :: st) t g Q := Xp_go (i := .iload_n 2) (len := 1) (by decide +kernel) rfl
theorem x_144_71 : Xp 144 d 71 ls ((0, b) :: (0, a) :: st) t g Q = Xp 144 d 72 ls ((0, hkW (a * b)) :: st) t g Q := Xp_go (i := .imul) (len := 1) (by decide +kernel) rfl
theorem x_144_72 : Xp 144 d 72 [v0, v1, v2, v3, v4, (0, x), v6, v7, v8] st t g Q = Xp 144 d 74 [v0, v1, v2, v3, v4, (0, x), v6, v7, v8] ((0, x) :: st) t g Q := Xp_go (i := .iload 5) (len := 2) (by decide +kernel) rfl
theorem x_144_74 : Xp 144 d 74 ls ((0, b) :: (0, a) :: st) t g Q = Xp 144 d 75 ls ((0, hkW (a + b)) :: st) t g Q := Xp_go (i := .iadd) (len := 1) (by decide +kernel) rfl
theorem x_144_75 : Xp 144 d 75 ls ((0, a) :: (2, p) :: st) t g Q = ((hkJK p = 100 ∧ 0 ≤ a ∧ a < jL p) ∧ Xp 144 d 76 ls ((0, g p a) :: st) t g Q) := Xp_chk (i := .iaload) (len := 1) (by decide +kernel) rfl
theorem x_144_76 : Xp 144 d 76 [v0, v1, v2, v3, v4, v5, v6, v7, v8] ((0, x) :: st) t g Q = (hkP1 v5 ∧ Xp 144 d 78 [v0, v1, v2, v3, v4, v5, (0, x), v7, v8] st t g Q) := Xp_chk (i := .istore 6) (len := 2) (by decide +kernel) rfl
theorem x_144_78 : Xp 144 d 78 ls st t g Q = Xp 144 d 79 ls ((0, 0) :: st) t g Q := xr_const (c := 0) (by decide +kernel) (by decide)
theorem x_144_79 : Xp 144 d 79 [v0, v1, v2, v3, v4, v5, v6, v7, v8] ((0, x) :: st) t g Q = (hkP1 v6 ∧ Xp 144 d 81 [v0, v1, v2, v3, v4, v5, v6, (0, x), v8] st t g Q) := Xp_chk (i := .istore 7) (len := 2) (by decide +kernel) rfl
theorem x_144_81 : Xp 144 d 81 [v0, v1, v2, v3, v4, v5, v6, (0, x), v8] st t g Q = Xp 144 d 83 [v0, v1, v2, v3, v4, v5, v6, (0, x), v8] ((0, x) :: st) t g Q := Xp_go (i := .iload 7) (len := 2) (by decide +kernel) rfl
theorem x_144_83 : Xp 144 d 83 [(2, x), v1, v2, v3, v4, v5, v6, v7, v8] st t g Q = Xp 144 d 84 [(2, x), v1, v2, v3, v4, v5, v6, v7, v8] ((2, x) :: st) t g Q := Xp_go (i := .aload_n 0) (len := 1) (by decide +kernel) rfl
theorem x_144_84 : Xp 144 d 84 ls ((2, p) :: st) t g Q = (hkJK p = 10 ∧ Xp 144 d 87 ls ((0, g p 2) :: st) t g Q) := xr_getI (idx := 97) (ci := 10) (k := 2) (by decide +kernel) (by decide +kernel) (by decide +kernel)
theorem x_144_87 : Xp 144 d 87 ls ((0, b) :: (0, a) :: st) t g Q = ((b ≤ a → Xp 144 d 174 ls st t g Q) ∧ (¬ (b ≤ a) → Xp 144 d 90 ls st t g Q)) := xr_if2 (cd := .ge) (off := 87) (by decide +kernel) (by decide)
theorem x_144_90 : Xp 144 d 90 [v0, v1, v2, v3, v4, v5, (0, x), v7, v8] st t g Q = Xp 144 d 92 [v0, v1, v2, v3, v4, v5, (0, x), v7, v8] ((0, x) :: st) t g Q := Xp_go (i := .iload 6) (len := 2) (by decide +kernel) rfl
theorem x_144_92 : Xp 144 d 92 ls ((0, a) :: st) t g Q = ((a = 0 → Xp 144 d 174 ls st t g Q) ∧ (¬ (a = 0) → Xp 144 d 95 ls st t g Q)) := xr_if1 (cd := .eq) (off := 82) (by decide +kernel) (by decide)
theorem x_144_95 : Xp 144 d 95 [(2, x), v1, v2, v3, v4, v5, v6, v7, v8] st t g Q = Xp 144 d 96 [(2, x), v1, v2, v3, v4, v5, v6, v7, v8] ((2, x) :: st) t g Q := Xp_go (i := .aload_n 0) (len := 1) (by decide +kernel) rfl
theorem x_144_96 : Xp 144 d 96 [v0, v1, v2, (0, x), v4, v5, v6, v7, v8] st t g Q = Xp 144 d 97 [v0, v1, v2, (0, x), v4, v5, v6, v7, v8] ((0, x) :: st) t g Q := Xp_go (i := .iload_n 3) (len := 1) (by decide +kernel) rfl
theorem x_144_97 : Xp 144 d 97 ls st t g Q = Xp 144 d 99 ls ((0, 35) :: st) t g Q := xr_bi (c := 35) (by decide +kernel) (by decide)
theorem x_144_99 : Xp 144 d 99 ls ((0, b) :: (0, a) :: st) t g Q = (b ≠ 0 ∧ Xp 144 d 100 ls ((0, a.tmod b) :: st) t g Q) := Xp_chk (i := .irem) (len := 1) (by decide +kernel) rfl
theorem x_144_100 : Xp 144 d 100 [v0, v1, v2, v3, v4, (0, x), v6, v7, v8] st t g Q = Xp 144 d 102 [v0, v1, v2, v3, v4, (0, x), v6, v7, v8] ((0, x) :: st) t g Q := Xp_go (i := .iload 5) (len := 2) (by decide +kernel) rfl
theorem x_144_102 : Xp 144 d 102 ls st t g Q = Xp 144 d 104 ls ((0, 35) :: st) t g Q := xr_bi (c := 35) (by decide +kernel) (by decide)
theorem x_144_104 : Xp 144 d 104 ls ((0, b) :: (0, a) :: st) t g Q = (b ≠ 0 ∧ Xp 144 d 105 ls ((0, a.tmod b) :: st) t g Q) := Xp_chk (i := .irem) (len := 1) (by decide +kernel) rfl
theorem x_144_105 : Xp 144 d 105 [v0, v1, v2, v3, v4, v5, v6, (0, x), v8] st t g Q = Xp 144 d 107 [v0, v1, v2, v3, v4, v5, v6, (0, x), v8] ((0, x) :: st) t g Q := Xp_go (i := .iload 7) (len := 2) (by decide +kernel) rfl
theorem x_144_107 : Xp 144 (d + 1) 107 ls ((0, a3) :: (0, a2) :: (0, a1) :: (2, a0) :: st) t g Q = (hkJK a0 = 10 ∧ hkC8 st ∧ Xp 121 d 0 [(2, a0), (0, a1), (0, a2), (0, a3), hkU] [] t g (fun r t g => Xp 144 (d + 1) 110 ls (hkPush r st) t g Q)) := xr_invV (idx := 177) (y' := 121) (ci := 10) (tg := [2, 0, 0, 0]) (by decide +kernel) (by decide +kernel) (by decide +kernel) (by decide +kernel) rfl rfl rfl
theorem x_144_110 : Xp 144 d 110 [v0, v1, v2, v3, v4, v5, v6, v7, v8] ((0, x) :: st) t g Q = (hkP1 v7 ∧ Xp 144 d 112 [v0, v1, v2, v3, v4, v5, v6, v7, (0, x)] st t g Q) := Xp_chk (i := .istore 8) (len := 2) (by decide +kernel) rfl
theorem x_144_112 : Xp 144 d 112 [v0, v1, v2, v3, v4, v5, v6, v7, (0, x)] st t g Q = Xp 144 d 114 [v0, v1, v2, v3, v4, v5, v6, v7, (0, x)] ((0, x) :: st) t g Q := Xp_go (i := .iload 8) (len := 2) (by decide +kernel) rfl
theorem x_144_114 : Xp 144 d 114 ls ((0, a) :: st) t g Q = ((a = 0 → Xp 144 d 168 ls st t g Q) ∧ (¬ (a = 0) → Xp 144 d 117 ls st t g Q)) := xr_if1 (cd := .eq) (off := 54) (by decide +kernel) (by decide)
theorem x_144_117 : Xp 144 d 117 [(2, x), v1, v2, v3, v4, v5, v6, v7, v8] st t g Q = Xp 144 d 118 [(2, x), v1, v2, v3, v4, v5, v6, v7, v8] ((2, x) :: st) t g Q := Xp_go (i := .aload_n 0) (len := 1) (by decide +kernel) rfl
theorem x_144_118 : Xp 144 d 118 ls ((2, p) :: st) t g Q = (hkJK p = 10 ∧ jA p 28 ≤ t ∧ Xp 144 d 121 ls ((2, jR p 28) :: st) t g Q) := xr_getR (idx := 72) (ci := 10) (k := 28) (by decide +kernel) (by decide +kernel) (by decide +kernel)
theorem x_144_121 : Xp 144 d 121 ls st t g Q = Xp 144 d 123 ls ((0, 35) :: st) t g Q := xr_bi (c := 35) (by decide +kernel) (by decide)
theorem x_144_123 : Xp 144 d 123 [v0, v1, v2, (0, x), v4, v5, v6, v7, v8] st t g Q = Xp 144 d 124 [v0, v1, v2, (0, x), v4, v5, v6, v7, v8] ((0, x) :: st) t g Q := Xp_go (i := .iload_n 3) (len := 1) (by decide +kernel) rfl
theorem x_144_124 : Xp 144 d 124 ls st t g Q = Xp 144 d 126 ls ((0, 35) :: st) t g Q := xr_bi (c := 35) (by decide +kernel) (by decide)
theorem x_144_126 : Xp 144 d 126 ls ((0, b) :: (0, a) :: st) t g Q = (b ≠ 0 ∧ Xp 144 d 127 ls ((0, hkW (a.tdiv b)) :: st) t g Q) := Xp_chk (i := .idiv) (len := 1) (by decide +kernel) rfl
theorem x_144_127 : Xp 144 d 127 [v0, v1, v2, v3, v4, (0, x), v6, v7, v8] st t g Q = Xp 144 d 129 [v0, v1, v2, v3, v4, (0, x), v6, v7, v8] ((0, x) :: st) t g Q := Xp_go (i := .iload 5) (len := 2) (by decide +kernel) rfl
theorem x_144_129 : Xp 144 d 129 ls st t g Q = Xp 144 d 131 ls ((0, 35) :: st) t g Q := xr_bi (c := 35) (by decide +kernel) (by decide)
theorem x_144_131 : Xp 144 d 131 ls ((0, b) :: (0, a) :: st) t g Q = (b ≠ 0 ∧ Xp 144 d 132 ls ((0, hkW (a.tdiv b)) :: st) t g Q) := Xp_chk (i := .idiv) (len := 1) (by decide +kernel) rfl
theorem x_144_132 : Xp 144 d 132 ls ((0, b) :: (0, a) :: st) t g Q = Xp 144 d 133 ls ((0, hkW (a + b)) :: st) t g Q := Xp_go (i := .iadd) (len := 1) (by decide +kernel) rfl
theorem x_144_133 : Xp 144 d 133 [(2, x), v1, v2, v3, v4, v5, v6, v7, v8] st t g Q = Xp 144 d 134 [(2, x), v1, v2, v3, v4, v5, v6, v7, v8] ((2, x) :: st) t g Q := Xp_go (i := .aload_n 0) (len := 1) (by decide +kernel) rfl
theorem x_144_134 : Xp 144 d 134 [v0, v1, v2, (0, x), v4, v5, v6, v7, v8] st t g Q = Xp 144 d 135 [v0, v1, v2, (0, x), v4, v5, v6, v7, v8] ((0, x) :: st) t g Q := Xp_go (i := .iload_n 3) (len := 1) (by decide +kernel) rfl
theorem x_144_135 : Xp 144 d 135 ls st t g Q = Xp 144 d 137 ls ((0, 35) :: st) t g Q := xr_bi (c := 35) (by decide +kernel) (by decide)
theorem x_144_137 : Xp 144 d 137 ls ((0, b) :: (0, a) :: st) t g Q = (b ≠ 0 ∧ Xp 144 d 138 ls ((0, a.tmod b) :: st) t g Q) := Xp_chk (i := .irem) (len := 1) (by decide +kernel) rfl
theorem x_144_138 : Xp 144 d 138 [v0, v1, v2, v3, v4, (0, x), v6, v7, v8] st t g Q = Xp 144 d 140 [v0, v1, v2, v3, v4, (0, x), v6, v7, v8] ((0, x) :: st) t g Q := Xp_go (i := .iload 5) (len := 2) (by decide +kernel) rfl
theorem x_144_140 : Xp 144 d 140 ls st t g Q = Xp 144 d 142 ls ((0, 35) :: st) t g Q := xr_bi (c := 35) (by decide +kernel) (by decide)
theorem x_144_142 : Xp 144 d 142 ls ((0, b) :: (0, a) :: st) t g Q = (b ≠ 0 ∧ Xp 144 d 143 ls ((0, a.tmod b) :: st) t g Q) := Xp_chk (i := .irem) (len := 1) (by decide +kernel) rfl
theorem x_144_143 : Xp 144 d 143 [v0, v1, v2, v3, v4, v5, v6, (0, x), v8] st t g Q = Xp 144 d 145 [v0, v1, v2, v3, v4, v5, v6, (0, x), v8] ((0, x) :: st) t g Q := Xp_go (i := .iload 7) (len := 2) (by decide +kernel) rfl
theorem x_144_145 : Xp 144 (d + 1) 145 ls ((0, a3) :: (0, a2) :: (0, a1) :: (2, a0) :: st) t g Q = (hkJK a0 = 10 ∧ hkC8 st ∧ Xp 126 d 0 [(2, a0), (0, a1), (0, a2), (0, a3)] [] t g (fun r t g => Xp 144 (d + 1) 148 ls (hkPush r st) t g Q)) := xr_invV (idx := 181) (y' := 126) (ci := 10) (tg := [2, 0, 0, 0]) (by decide +kernel) (by decide +kernel) (by decide +kernel) (by decide +kernel) rfl rfl rfl
theorem x_144_148 : Xp 144 d 148 ls ((0, b) :: (0, a) :: st) t g Q = Xp 144 d 149 ls ((0, hkW (a + b)) :: st) t g Q := Xp_go (i := .iadd) (len := 1) (by decide +kernel) rfl
theorem x_144_149 : Xp 144 d 149 ls ((0, b) :: (0, a) :: st) t g Q = Xp 144 d 150 ls ((0, hkW (a * b)) :: st) t g Q := Xp_go (i := .imul) (len := 1) (by decide +kernel) rfl
theorem x_144_150 : Xp 144 d 150 [v0, v1, v2, v3, v4, v5, v6, (0, x), v8] st t g Q = Xp 144 d 152 [v0, v1, v2, v3, v4, v5, v6, (0, x), v8] ((0, x) :: st) t g Q := Xp_go (i := .iload 7) (len := 2) (by decide +kernel) rfl
theorem x_144_152 : Xp 144 d 152 ls ((0, b) :: (0, a) :: st) t g Q = Xp 144 d 153 ls ((0, hkW (a + b)) :: st) t g Q := Xp_go (i := .iadd) (len := 1) (by decide +kernel) rfl
theorem x_144_153 : Xp 144 d 153 ls (v :: w :: st) t g Q = ((hkP1 v ∧ hkP1 w) ∧ Xp 144 d 154 ls (v :: w :: v :: w :: st) t g Q) := Xp_chk (i := .dup2) (len := 1) (by decide +kernel) rfl
theorem x_144_154 : Xp 144 d 154 ls ((0, a) :: (2, p) :: st) t g Q = ((hkJK p = 101 ∧ 0 ≤ a ∧ a < jL p) ∧ Xp 144 d 155 ls ((1, g p a) :: st) t g Q) := Xp_chk (i := .laload) (len := 1) (by decide +kernel) rfl
theorem x_144_155 : Xp 144 d 155 [v0, v1, v2, v3, (0, x), v5, v6, v7, v8] st t g Q = Xp 144 d 157 [v0, v1, v2, v3, (0, x), v5, v6, v7, v8] ((0, x) :: st) t g Q := Xp_go (i := .iload 4) (len := 2) (by decide +kernel) rfl
theorem x_144_157 : Xp 144 d 157 ls ((0, a) :: st) t g Q = Xp 144 d 158 ls ((1, a) :: st) t g Q := Xp_go (i := .i2l) (len := 1) (by decide +kernel) rfl
theorem x_144_158 : Xp 144 d 158 [v0, v1, v2, v3, v4, v5, (0, x), v7, v8] st t g Q = Xp 144 d 160 [v0, v1, v2, v3, v4, v5, (0, x), v7, v8] ((0, x) :: st) t g Q := Xp_go (i := .iload 6) (len := 2) (by decide +kernel) rfl
theorem x_144_160 : Xp 144 d 160 ls ((0, a) :: st) t g Q = Xp 144 d 161 ls ((1, a) :: st) t g Q := Xp_go (i := .i2l) (len := 1) (by decide +kernel) rfl
theorem x_144_161 : Xp 144 d 161 ls ((1, b) :: (1, a) :: st) t g Q = Xp 144 d 162 ls ((1, hkL (a * b)) :: st) t g Q := Xp_go (i := .lmul) (len := 1) (by decide +kernel) rfl
theorem x_144_162 : Xp 144 d 162 [v0, v1, v2, v3, v4, v5, v6, v7, (0, x)] st t g Q = Xp 144 d 164 [v0, v1, v2, v3, v4, v5, v6, v7, (0, x)] ((0, x) :: st) t g Q := Xp_go (i := .iload 8) (len := 2) (by decide +kernel) rfl
theorem x_144_164 : Xp 144 d 164 ls ((0, a) :: st) t g Q = Xp 144 d 165 ls ((1, a) :: st) t g Q := Xp_go (i := .i2l) (len := 1) (by decide +kernel) rfl
theorem x_144_165 : Xp 144 d 165 ls ((1, b) :: (1, a) :: st) t g Q = Xp 144 d 166 ls ((1, hkL (a * b)) :: st) t g Q := Xp_go (i := .lmul) (len := 1) (by decide +kernel) rfl
theorem x_144_166 : Xp 144 d 166 ls ((1, b) :: (1, a) :: st) t g Q = Xp 144 d 167 ls ((1, hkL (a + b)) :: st) t g Q := Xp_go (i := .ladd) (len := 1) (by decide +kernel) rfl
theorem x_144_167 : Xp 144 d 167 ls ((1, x) :: (0, a) :: (2, p) :: st) t g Q = ((hkJK p = 101 ∧ (101 = 102 → x = 0 ∨ x = 1) ∧ 0 ≤ a ∧ a < jL p) ∧ Xp 144 d 168 ls st t (hkSet g p a x) Q) := Xp_chk (i := .lastore) (len := 1) (by decide +kernel) rfl
theorem x_144_168 : Xp 144 d 168 [v0, v1, v2, v3, v4, v5, v6, (0, x), v8] st t g Q = (hkP1 v6 ∧ Xp 144 d 171 [v0, v1, v2, v3, v4, v5, v6, (0, hkW (x + 1)), v8] st t g Q) := Xp_chk (i := .iinc 7 (1)) (len := 3) (by decide +kernel) rfl
theorem x_144_171 : Xp 144 d 171 ls st t g Q = Xp 144 d 81 ls st t g Q := xr_goto (off := -90) (by decide +kernel) (by decide)
theorem x_144_174 : Xp 144 d 174 [v0, v1, v2, v3, v4, (0, x), v6, v7, v8] st t g Q = (hkP1 v4 ∧ Xp 144 d 177 [v0, v1, v2, v3, v4, (0, hkW (x + 1)), v6, v7, v8] st t g Q) := Xp_chk (i := .iinc 5 (1)) (len := 3) (by decide +kernel) rfl
theorem x_144_177 : Xp 144 d 177 ls st t g Q = Xp 144 d 50 ls st t g Q := xr_goto (off := -127) (by decide +kernel) (by decide)
theorem x_144_180 : Xp 144 d 180 [v0, v1, v2, (0, x), v4, v5, v6, v7, v8] st t g Q = (hkP1 v2 ∧ Xp 144 d 183 [v0, v1, v2, (0, hkW (x + 1)), v4, v5, v6, v7, v8] st t g Q) := Xp_chk (i := .iinc 3 (1)) (len := 3) (by decide +kernel) rfl
theorem x_144_183 : Xp 144 d 183 ls st t g Q = Xp 144 d 26 ls st t g Q := xr_goto (off := -157) (by decide +kernel) (by decide)
theorem x_144_186 : Xp 144 d 186 [(2, x), v1, v2, v3, v4, v5, v6, v7, v8] st t g Q = Xp 144 d 187 [(2, x), v1, v2, v3, v4, v5, v6, v7, v8] ((2, x) :: st) t g Q := Xp_go (i := .aload_n 0) (len := 1) (by decide +kernel) rfl
theorem x_144_187 : Xp 144 d 187 [v0, (0, x), v2, v3, v4, v5, v6, v7, v8] st t g Q = Xp 144 d 188 [v0, (0, x), v2, v3, v4, v5, v6, v7, v8] ((0, x) :: st) t g Q := Xp_go (i := .iload_n 1) (len := 1) (by decide +kernel) rfl
theorem x_144_188 : Xp 144 (d + 1) 188 ls ((0, a1) :: (2, a0) :: st) t g Q = (hkJK a0 = 10 ∧ hkC8 st ∧ Xp 145 d 0 [(2, a0), (0, a1), hkU] [] t g (fun r t g => Xp 144 (d + 1) 191 ls (hkPush r st) t g Q)) := xr_invV (idx := 235) (y' := 145) (ci := 10) (tg := [2, 0]) (by decide +kernel) (by decide +kernel) (by decide +kernel) (by decide +kernel) rfl rfl rfl
theorem x_144_191 : Xp 144 d 191 ls [] t g Q = Q none t g := xr_retV (by decide +kernel) (by decide +kernel)
-- 145: HookBoxesModel.lays(I)V
theorem x_145_0 : Xp 145 d 0 ls st t g Q = Xp 145 d 1 ls ((0, 0) :: st) t g Q := xr_const (c := 0) (by decide +kernel) (by decide)
theorem x_145_1 : Xp 145 d 1 [v0, v1, v2] ((0, x) :: st) t g Q = (hkP1 v1 ∧ Xp 145 d 2 [v0, v1, (0, x)] st t g Q) := Xp_chk (i := .istore_n 2) (len := 1) (by decide +kernel) rfl
theorem x_145_2 : Xp 145 d 2 [v0, v1, (0, x)] st t g Q = Xp 145 d 3 [v0, v1, (0, x)] ((0, x) :: st) t g Q := Xp_go (i := .iload_n 2) (len := 1) (by decide +kernel) rfl
theorem x_145_3 : Xp 145 d 3 [(2, x), v1, v2] st t g Q = Xp 145 d 4 [(2, x), v1, v2] ((2, x) :: st) t g Q := Xp_go (i := .aload_n 0) (len := 1) (by decide +kernel) rfl
theorem x_145_4 : Xp 145 d 4 ls ((2, p) :: st) t g Q = (hkJK p = 10 ∧ jA p 28 ≤ t ∧ Xp 145 d 7 ls ((2, jR p 28) :: st) t g Q) := xr_getR (idx := 72) (ci := 10) (k := 28) (by decide +kernel) (by decide +kernel) (by decide +kernel)
theorem x_145_7 : Xp 145 d 7 ls ((2, p) :: st) t g Q = ((100 ≤ hkJK p ∧ hkJK p ≤ 104) ∧ Xp 145 d 8 ls ((0, jL p) :: st) t g Q) := Xp_chk (i := .arraylength) (len := 1) (by decide +kernel) rfl
theorem x_145_8 : Xp 145 d 8 ls ((0, b) :: (0, a) :: st) t g Q = ((b ≤ a → Xp 145 d 75 ls st t g Q) ∧ (¬ (b ≤ a) → Xp 145 d 11 ls st t g Q)) := xr_if2 (cd := .ge) (off := 67) (by decide +kernel) (by decide)
theorem x_145_11 : Xp 145 d 11 [(2, x), v1, v2] st t g Q = Xp 145 d 12 [(2, x), v1, v2] ((2, x) :: st) t g Q := Xp_go (i := .aload_n 0) (len := 1) (by decide +kernel) rfl
theorem x_145_12 : Xp 145 d 12 ls (v :: st) t g Q = (hkP1 v ∧ Xp 145 d 13 ls (v :: v :: st) t g Q) := Xp_chk (i := .dup) (len := 1) (by decide +kernel) rfl
theorem x_145_13 : Xp 145 d 13 ls ((2, p) :: st) t g Q = (hkJK p = 10 ∧ Xp 145 d 16 ls ((0, g p 29) :: st) t g Q) := xr_getI (idx := 227) (ci := 10) (k := 29) (by decide +kernel) (by decide +kernel) (by decide +kernel)
theorem x_145_16 : Xp 145 d 16 [v0, v1, (0, x)] st t g Q = Xp 145 d 17 [v0, v1, (0, x)] ((0, x) :: st) t g Q := Xp_go (i := .iload_n 2) (len := 1) (by decide +kernel) rfl
theorem x_145_17 : Xp 145 d 17 ls st t g Q = Xp 145 d 20 ls ((0, 280) :: st) t g Q := xr_si (c := 280) (by decide +kernel) (by decide)
theorem x_145_20 : Xp 145 d 20 ls ((0, b) :: (0, a) :: st) t g Q = ((b ≤ a → Xp 145 d 49 ls st t g Q) ∧ (¬ (b ≤ a) → Xp 145 d 23 ls st t g Q)) := xr_if2 (cd := .ge) (off := 29) (by decide +kernel) (by decide)
theorem x_145_23 : Xp 145 d 23 [(2, x), v1, v2] st t g Q = Xp 145 d 24 [(2, x), v1, v2] ((2, x) :: st) t g Q := Xp_go (i := .aload_n 0) (len := 1) (by decide +kernel) rfl
theorem x_145_24 : Xp 145 d 24 ls ((2, p) :: st) t g Q = (hkJK p = 10 ∧ jA p 28 ≤ t ∧ Xp 145 d 27 ls ((2, jR p 28) :: st) t g Q) := xr_getR (idx := 72) (ci := 10) (k := 28) (by decide +kernel) (by decide +kernel) (by decide +kernel)
theorem x_145_27 : Xp 145 d 27 [v0, v1, (0, x)] st t g Q = Xp 145 d 28 [v0, v1, (0, x)] ((0, x) :: st) t g Q := Xp_go (i := .iload_n 2) (len := 1) (by decide +kernel) rfl
theorem x_145_28 : Xp 145 d 28 ls ((0, a) :: (2, p) :: st) t g Q = ((hkJK p = 101 ∧ 0 ≤ a ∧ a < jL p) ∧ Xp 145 d 29 ls ((1, g p a) :: st) t g Q) := Xp_chk (i := .laload) (len := 1) (by decide +kernel) rfl
theorem x_145_29 : Xp 145 d 29 ls st t g Q = Xp 145 d 32 ls ((1, -1000000) :: st) t g Q := xr_ldc2 (idx := 231) (by decide +kernel) (by decide +kernel)
theorem x_145_32 : Xp 145 d 32 ls st t g Q = Xp 145 d 35 ls ((1, 1000000) :: st) t g Q := xr_ldc2 (idx := 233) (by decide +kernel) (by decide +kernel)
theorem x_145_35 : Xp 145 (d + 1) 35 ls ((1, a2) :: (1, a1) :: (1, a0) :: st) t g Q = (hkC8 st ∧ Xp 107 d 0 [(1, a0), hkU, (1, a1), hkU, (1, a2), hkU] [] t g (fun r t g => Xp 145 (d + 1) 38 ls (hkPush r st) t g Q)) := xr_invS (idx := 115) (y' := 107) (tg := [1, 1, 1]) (by decide +kernel) (by decide +kernel) (by decide +kernel) rfl rfl
theorem x_145_38 : Xp 145 d 38 ls ((0, a) :: st) t g Q = ((¬ (a = 0) → Xp 145 d 45 ls st t g Q) ∧ (¬ (¬ (a = 0)) → Xp 145 d 41 ls st t g Q)) := xr_if1 (cd := .ne) (off := 7) (by decide +kernel) (by decide)
theorem x_145_41 : Xp 145 d 41 ls st t g Q = Xp 145 d 42 ls ((0, 1) :: st) t g Q := xr_const (c := 1) (by decide +kernel) (by decide)
theorem x_145_42 : Xp 145 d 42 ls st t g Q = Xp 145 d 65 ls st t g Q := xr_goto (off := 23) (by decide +kernel) (by decide)
theorem x_145_45 : Xp 145 d 45 ls st t g Q = Xp 145 d 46 ls ((0, 0) :: st) t g Q := xr_const (c := 0) (by decide +kernel) (by decide)
theorem x_145_46 : Xp 145 d 46 ls st t g Q = Xp 145 d 65 ls st t g Q := xr_goto (off := 19) (by decide +kernel) (by decide)
theorem x_145_49 : Xp 145 d 49 [(2, x), v1, v2] st t g Q = Xp 145 d 50 [(2, x), v1, v2] ((2, x) :: st) t g Q := Xp_go (i := .aload_n 0) (len := 1) (by decide +kernel) rfl
theorem x_145_50 : Xp 145 d 50 ls ((2, p) :: st) t g Q = (hkJK p = 10 ∧ jA p 28 ≤ t ∧ Xp 145 d 53 ls ((2, jR p 28) :: st) t g Q) := xr_getR (idx := 72) (ci := 10) (k := 28) (by decide +kernel) (by decide +kernel) (by decide +kernel)
theorem x_145_53 : Xp 145 d 53 [v0, v1, (0, x)] st t g Q = Xp 145 d 54 [v0, v1, (0, x)] ((0, x) :: st) t g Q := Xp_go (i := .iload_n 2) (len := 1) (by decide +kernel) rfl
theorem x_145_54 : Xp 145 d 54 ls ((0, a) :: (2, p) :: st) t g Q = ((hkJK p = 101 ∧ 0 ≤ a ∧ a < jL p) ∧ Xp 145 d 55 ls ((1, g p a) :: st) t g Q) := Xp_chk (i := .laload) (len := 1) (by decide +kernel) rfl
theorem x_145_55 : Xp 145 d 55 ls st t g Q = Xp 145 d 56 ls ((1, 0) :: st) t g Q := Xp_go (i := .lconst 0) (len := 1) (by decide +kernel) rfl
theorem x_145_56 : Xp 145 d 56 ls ((1, b) :: (1, a) :: st) t g Q = Xp 145 d 57 ls ((0, hkCmp a b) :: st) t g Q := Xp_go (i := .lcmp) (len := 1) (by decide +kernel) rfl
theorem x_145_57 : Xp 145 d 57 ls ((0, a) :: st) t g Q = ((a = 0 → Xp 145 d 64 ls st t g Q) ∧ (¬ (a = 0) → Xp 145 d 60 ls st t g Q)) := xr_if1 (cd := .eq) (off := 7) (by decide +kernel) (by decide)
theorem x_145_60 : Xp 145 d 60 ls st t g Q = Xp 145 d 61 ls ((0, 1) :: st) t g Q := xr_const (c := 1) (by decide +kernel) (by decide)
theorem x_145_61 : Xp 145 d 61 ls st t g Q = Xp 145 d 65 ls st t g Q := xr_goto (off := 4) (by decide +kernel) (by decide)
theorem x_145_64 : Xp 145 d 64 ls st t g Q = Xp 145 d 65 ls ((0, 0) :: st) t g Q := xr_const (c := 0) (by decide +kernel) (by decide)
theorem x_145_65 : Xp 145 d 65 ls ((0, b) :: (0, a) :: st) t g Q = Xp 145 d 66 ls ((0, hkOr a b) :: st) t g Q := Xp_go (i := .ior) (len := 1) (by decide +kernel) rfl
theorem x_145_66 : Xp 145 d 66 ls ((0, x) :: (2, p) :: st) t g Q = (hkJK p = 10 ∧ (x = 0 ∨ x = 1) ∧ Xp 145 d 69 ls st t (hkSet g p 29 x) Q) := xr_putB (idx := 227) (ci := 10) (k := 29) (by decide +kernel) (by decide +kernel) (by decide +kernel)
theorem x_145_69 : Xp 145 d 69 [v0, v1, (0, x)] st t g Q = (hkP1 v1 ∧ Xp 145 d 72 [v0, v1, (0, hkW (x + 1))] st t g Q) := Xp_chk (i := .iinc 2 (1)) (len := 3) (by decide +kernel) rfl
theorem x_145_72 : Xp 145 d 72 ls st t g Q = Xp 145 d 2 ls st t g Q := xr_goto (off := -70) (by decide +kernel) (by decide)
theorem x_145_75 : Xp 145 d 75 ls st t g Q = Xp 145 d 76 ls ((0, 0) :: st) t g Q := xr_const (c := 0) (by decide +kernel) (by decide)
theorem x_145_76 : Xp 145 d 76 [v0, v1, v2] ((0, x) :: st) t g Q = (hkP1 v1 ∧ Xp 145 d 77 [v0, v1, (0, x)] st t g Q) := Xp_chk (i := .istore_n 2) (len := 1) (by decide +kernel) rfl
theorem x_145_77 : Xp 145 d 77 [v0, v1, (0, x)] st t g Q = Xp 145 d 78 [v0, v1, (0, x)] ((0, x) :: st) t g Q := Xp_go (i := .iload_n 2) (len := 1) (by decide +kernel) rfl
theorem x_145_78 : Xp 145 d 78 ls st t g Q = Xp 145 d 81 ls ((0, 280) :: st) t g Q := xr_si (c := 280) (by decide +kernel) (by decide)
theorem x_145_81 : Xp 145 d 81 ls ((0, b) :: (0, a) :: st) t g Q = ((b ≤ a → Xp 145 d 120 ls st t g Q) ∧ (¬ (b ≤ a) → Xp 145 d 84 ls st t g Q)) := xr_if2 (cd := .ge) (off := 39) (by decide +kernel) (by decide)
theorem x_145_84 : Xp 145 d 84 [(2, x), v1, v2] st t g Q = Xp 145 d 85 [(2, x), v1, v2] ((2, x) :: st) t g Q := Xp_go (i := .aload_n 0) (len := 1) (by decide +kernel) rfl
theorem x_145_85 : Xp 145 d 85 ls ((2, p) :: st) t g Q = (hkJK p = 10 ∧ jA p 27 ≤ t ∧ Xp 145 d 88 ls ((2, jR p 27) :: st) t g Q) := xr_getR (idx := 69) (ci := 10) (k := 27) (by decide +kernel) (by decide +kernel) (by decide +kernel)
theorem x_145_88 : Xp 145 d 88 ls st t g Q = Xp 145 d 91 ls ((0, 280) :: st) t g Q := xr_si (c := 280) (by decide +kernel) (by decide)
theorem x_145_91 : Xp 145 d 91 [v0, (0, x), v2] st t g Q = Xp 145 d 92 [v0, (0, x), v2] ((0, x) :: st) t g Q := Xp_go (i := .iload_n 1) (len := 1) (by decide +kernel) rfl
theorem x_145_92 : Xp 145 d 92 ls ((0, b) :: (0, a) :: st) t g Q = Xp 145 d 93 ls ((0, hkW (a * b)) :: st) t g Q := Xp_go (i := .imul) (len := 1) (by decide +kernel) rfl
theorem x_145_93 : Xp 145 d 93 [v0, v1, (0, x)] st t g Q = Xp 145 d 94 [v0, v1, (0, x)] ((0, x) :: st) t g Q := Xp_go (i := .iload_n 2) (len := 1) (by decide +kernel) rfl
theorem x_145_94 : Xp 145 d 94 ls ((0, b) :: (0, a) :: st) t g Q = Xp 145 d 95 ls ((0, hkW (a + b)) :: st) t g Q := Xp_go (i := .iadd) (len := 1) (by decide +kernel) rfl
theorem x_145_95 : Xp 145 d 95 [(2, x), v1, v2] st t g Q = Xp 145 d 96 [(2, x), v1, v2] ((2, x) :: st) t g Q := Xp_go (i := .aload_n 0) (len := 1) (by decide +kernel) rfl
theorem x_145_96 : Xp 145 d 96 ls ((2, p) :: st) t g Q = (hkJK p = 10 ∧ Xp 145 d 99 ls ((0, g p 29) :: st) t g Q) := xr_getI (idx := 227) (ci := 10) (k := 29) (by decide +kernel) (by decide +kernel) (by decide +kernel)
theorem x_145_99 : Xp 145 d 99 ls ((0, a) :: st) t g Q = ((a = 0 → Xp 145 d 106 ls st t g Q) ∧ (¬ (a = 0) → Xp 145 d 102 ls st t g Q)) := xr_if1 (cd := .eq) (off := 7) (by decide +kernel) (by decide)
theorem x_145_102 : Xp 145 d 102 ls st t g Q = Xp 145 d 103 ls ((0, 0) :: st) t g Q := xr_const (c := 0) (by decide +kernel) (by decide)
theorem x_145_103 : Xp 145 d 103 ls st t g Q = Xp 145 d 113 ls st t g Q := xr_goto (off := 10) (by decide +kernel) (by decide)
theorem x_145_106 : Xp 145 d 106 [(2, x), v1, v2] st t g Q = Xp 145 d 107 [(2, x), v1, v2] ((2, x) :: st) t g Q := Xp_go (i := .aload_n 0) (len := 1) (by decide +kernel) rfl
theorem x_145_107 : Xp 145 d 107 ls ((2, p) :: st) t g Q = (hkJK p = 10 ∧ jA p 28 ≤ t ∧ Xp 145 d 110 ls ((2, jR p 28) :: st) t g Q) := xr_getR (idx := 72) (ci := 10) (k := 28) (by decide +kernel) (by decide +kernel) (by decide +kernel)
theorem x_145_110 : Xp 145 d 110 [v0, v1, (0, x)] st t g Q = Xp 145 d 111 [v0, v1, (0, x)] ((0, x) :: st) t g Q := Xp_go (i := .iload_n 2) (len := 1) (by decide +kernel) rfl
theorem x_145_111 : Xp 145 d 111 ls ((0, a) :: (2, p) :: st) t g Q = ((hkJK p = 101 ∧ 0 ≤ a ∧ a < jL p) ∧ Xp 145 d 112 ls ((1, g p a) :: st) t g Q) := Xp_chk (i := .laload) (len := 1) (by decide +kernel) rfl
theorem x_145_112 : Xp 145 d 112 ls ((1, a) :: st) t g Q = Xp 145 d 113 ls ((0, hkW a) :: st) t g Q := Xp_go (i := .l2i) (len := 1) (by decide +kernel) rfl
theorem x_145_113 : Xp 145 d 113 ls ((0, x) :: (0, a) :: (2, p) :: st) t g Q = ((hkJK p = 100 ∧ (100 = 102 → x = 0 ∨ x = 1) ∧ 0 ≤ a ∧ a < jL p) ∧ Xp 145 d 114 ls st t (hkSet g p a x) Q) := Xp_chk (i := .iastore) (len := 1) (by decide +kernel) rfl
theorem x_145_114 : Xp 145 d 114 [v0, v1, (0, x)] st t g Q = (hkP1 v1 ∧ Xp 145 d 117 [v0, v1, (0, hkW (x + 1))] st t g Q) := Xp_chk (i := .iinc 2 (1)) (len := 3) (by decide +kernel) rfl
theorem x_145_117 : Xp 145 d 117 ls st t g Q = Xp 145 d 77 ls st t g Q := xr_goto (off := -40) (by decide +kernel) (by decide)
theorem x_145_120 : Xp 145 d 120 ls [] t g Q = Q none t g := xr_retV (by decide +kernel) (by decide +kernel)
-- 146: HookBoxesModel.ends()I
theorem x_146_0 : Xp 146 d 0 [(2, x), v1] st t g Q = Xp 146 d 1 [(2, x), v1] ((2, x) :: st) t g Q := Xp_go (i := .aload_n 0) (len := 1) (by decide +kernel) rfl
theorem x_146_1 : Xp 146 d 1 ls ((2, p) :: st) t g Q = (hkJK p = 10 ∧ Xp 146 d 4 ls ((0, g p 29) :: st) t g Q) := xr_getI (idx := 227) (ci := 10) (k := 29) (by decide +kernel) (by decide +kernel) (by decide +kernel)
theorem x_146_4 : Xp 146 d 4 ls ((0, a) :: st) t g Q = ((a = 0 → Xp 146 d 10 ls st t g Q) ∧ (¬ (a = 0) → Xp 146 d 7 ls st t g Q)) := xr_if1 (cd := .eq) (off := 6) (by decide +kernel) (by decide)
theorem x_146_7 : Xp 146 d 7 ls st t g Q = Xp 146 d 9 ls ((0, -3) :: st) t g Q := xr_bi (c := -3) (by decide +kernel) (by decide)
theorem x_146_9 : Xp 146 d 9 ls [(0, x)] t g Q = Q (some (0, x)) t g := xr_retI (by decide +kernel) (by decide +kernel)
theorem x_146_10 : Xp 146 d 10 ls st t g Q = Xp 146 d 11 ls ((0, 0) :: st) t g Q := xr_const (c := 0) (by decide +kernel) (by decide)
theorem x_146_11 : Xp 146 d 11 [v0, v1] ((0, x) :: st) t g Q = (hkP1 v0 ∧ Xp 146 d 12 [v0, (0, x)] st t g Q) := Xp_chk (i := .istore_n 1) (len := 1) (by decide +kernel) rfl
theorem x_146_12 : Xp 146 d 12 [v0, (0, x)] st t g Q = Xp 146 d 13 [v0, (0, x)] ((0, x) :: st) t g Q := Xp_go (i := .iload_n 1) (len := 1) (by decide +kernel) rfl
theorem x_146_13 : Xp 146 d 13 ls st t g Q = Xp 146 d 16 ls ((0, 280) :: st) t g Q := xr_si (c := 280) (by decide +kernel) (by decide)
theorem x_146_16 : Xp 146 d 16 ls ((0, b) :: (0, a) :: st) t g Q = ((b ≤ a → Xp 146 d 37 ls st t g Q) ∧ (¬ (b ≤ a) → Xp 146 d 19 ls st t g Q)) := xr_if2 (cd := .ge) (off := 21) (by decide +kernel) (by decide)
theorem x_146_19 : Xp 146 d 19 [(2, x), v1] st t g Q = Xp 146 d 20 [(2, x), v1] ((2, x) :: st) t g Q := Xp_go (i := .aload_n 0) (len := 1) (by decide +kernel) rfl
theorem x_146_20 : Xp 146 d 20 ls ((2, p) :: st) t g Q = (hkJK p = 10 ∧ jA p 8 ≤ t ∧ Xp 146 d 23 ls ((2, jR p 8) :: st) t g Q) := xr_getR (idx := 36) (ci := 10) (k := 8) (by decide +kernel) (by decide +kernel) (by decide +kernel)
theorem x_146_23 : Xp 146 d 23 [v0, (0, x)] st t g Q = Xp 146 d 24 [v0, (0, x)] ((0, x) :: st) t g Q := Xp_go (i := .iload_n 1) (len := 1) (by decide +kernel) rfl
theorem x_146_24 : Xp 146 d 24 [(2, x), v1] st t g Q = Xp 146 d 25 [(2, x), v1] ((2, x) :: st) t g Q := Xp_go (i := .aload_n 0) (len := 1) (by decide +kernel) rfl
theorem x_146_25 : Xp 146 d 25 ls ((2, p) :: st) t g Q = (hkJK p = 10 ∧ jA p 27 ≤ t ∧ Xp 146 d 28 ls ((2, jR p 27) :: st) t g Q) := xr_getR (idx := 69) (ci := 10) (k := 27) (by decide +kernel) (by decide +kernel) (by decide +kernel)
theorem x_146_28 : Xp 146 d 28 [v0, (0, x)] st t g Q = Xp 146 d 29 [v0, (0, x)] ((0, x) :: st) t g Q := Xp_go (i := .iload_n 1) (len := 1) (by decide +kernel) rfl
theorem x_146_29 : Xp 146 d 29 ls ((0, a) :: (2, p) :: st) t g Q = ((hkJK p = 100 ∧ 0 ≤ a ∧ a < jL p) ∧ Xp 146 d 30 ls ((0, g p a) :: st) t g Q) := Xp_chk (i := .iaload) (len := 1) (by decide +kernel) rfl
theorem x_146_30 : Xp 146 d 30 ls ((0, x) :: (0, a) :: (2, p) :: st) t g Q = ((hkJK p = 100 ∧ (100 = 102 → x = 0 ∨ x = 1) ∧ 0 ≤ a ∧ a < jL p) ∧ Xp 146 d 31 ls st t (hkSet g p a x) Q) := Xp_chk (i := .iastore) (len := 1) (by decide +kernel) rfl
theorem x_146_31 : Xp 146 d 31 [v0, (0, x)] st t g Q = (hkP1 v0 ∧ Xp 146 d 34 [v0, (0, hkW (x + 1))] st t g Q) := Xp_chk (i := .iinc 1 (1)) (len := 3) (by decide +kernel) rfl
theorem x_146_34 : Xp 146 d 34 ls st t g Q = Xp 146 d 12 ls st t g Q := xr_goto (off := -22) (by decide +kernel) (by decide)
theorem x_146_37 : Xp 146 d 37 [(2, x), v1] st t g Q = Xp 146 d 38 [(2, x), v1] ((2, x) :: st) t g Q := Xp_go (i := .aload_n 0) (len := 1) (by decide +kernel) rfl
theorem x_146_38 : Xp 146 (d + 1) 38 ls ((2, a0) :: st) t g Q = (hkJK a0 = 10 ∧ hkC8 st ∧ Xp 147 d 0 [(2, a0), hkU, hkU] [] t g (fun r t g => Xp 146 (d + 1) 41 ls (hkPush r st) t g Q)) := xr_invV (idx := 238) (y' := 147) (ci := 10) (tg := [2]) (by decide +kernel) (by decide +kernel) (by decide +kernel) (by decide +kernel) rfl rfl rfl
theorem x_146_41 : Xp 146 d 41 ls [(0, x)] t g Q = Q (some (0, x)) t g := xr_retI (by decide +kernel) (by decide +kernel)
-- 147: HookBoxesModel.there()I
theorem x_147_0 : Xp 147 d 0 ls st t g Q = Xp 147 d 1 ls ((0, 0) :: st) t g Q := xr_const (c := 0) (by decide +kernel) (by decide)
theorem x_147_1 : Xp 147 d 1 [v0, v1, v2] ((0, x) :: st) t g Q = (hkP1 v0 ∧ Xp 147 d 2 [v0, (0, x), v2] st t g Q) := Xp_chk (i := .istore_n 1) (len := 1) (by decide +kernel) rfl
theorem x_147_2 : Xp 147 d 2 ls st t g Q = Xp 147 d 3 ls ((0, 0) :: st) t g Q := xr_const (c := 0) (by decide +kernel) (by decide)
theorem x_147_3 : Xp 147 d 3 [v0, v1, v2] ((0, x) :: st) t g Q = (hkP1 v1 ∧ Xp 147 d 4 [v0, v1, (0, x)] st t g Q) := Xp_chk (i := .istore_n 2) (len := 1) (by decide +kernel) rfl
theorem x_147_4 : Xp 147 d 4 [v0, v1, (0, x)] st t g Q = Xp 147 d 5 [v0, v1, (0, x)] ((0, x) :: st) t g Q := Xp_go (i := .iload_n 2) (len := 1) (by decide +kernel) rfl
theorem x_147_5 : Xp 147 d 5 ls st t g Q = Xp 147 d 8 ls ((0, 280) :: st) t g Q := xr_si (c := 280) (by decide +kernel) (by decide)
theorem x_147_8 : Xp 147 d 8 ls ((0, b) :: (0, a) :: st) t g Q = ((b ≤ a → Xp 147 d 34 ls st t g Q) ∧ (¬ (b ≤ a) → Xp 147 d 11 ls st t g Q)) := xr_if2 (cd := .ge) (off := 26) (by decide +kernel) (by decide)
theorem x_147_11 : Xp 147 d 11 [v0, (0, x), v2] st t g Q = Xp 147 d 12 [v0, (0, x), v2] ((0, x) :: st) t g Q := Xp_go (i := .iload_n 1) (len := 1) (by decide +kernel) rfl
theorem x_147_12 : Xp 147 d 12 [(2, x), v1, v2] st t g Q = Xp 147 d 13 [(2, x), v1, v2] ((2, x) :: st) t g Q := Xp_go (i := .aload_n 0) (len := 1) (by decide +kernel) rfl
theorem x_147_13 : Xp 147 d 13 ls ((2, p) :: st) t g Q = (hkJK p = 10 ∧ jA p 8 ≤ t ∧ Xp 147 d 16 ls ((2, jR p 8) :: st) t g Q) := xr_getR (idx := 36) (ci := 10) (k := 8) (by decide +kernel) (by decide +kernel) (by decide +kernel)
theorem x_147_16 : Xp 147 d 16 [v0, v1, (0, x)] st t g Q = Xp 147 d 17 [v0, v1, (0, x)] ((0, x) :: st) t g Q := Xp_go (i := .iload_n 2) (len := 1) (by decide +kernel) rfl
theorem x_147_17 : Xp 147 d 17 ls ((0, a) :: (2, p) :: st) t g Q = ((hkJK p = 100 ∧ 0 ≤ a ∧ a < jL p) ∧ Xp 147 d 18 ls ((0, g p a) :: st) t g Q) := Xp_chk (i := .iaload) (len := 1) (by decide +kernel) rfl
theorem x_147_18 : Xp 147 d 18 ls ((0, a) :: st) t g Q = ((a = 0 → Xp 147 d 25 ls st t g Q) ∧ (¬ (a = 0) → Xp 147 d 21 ls st t g Q)) := xr_if1 (cd := .eq) (off := 7) (by decide +kernel) (by decide)
theorem x_147_21 : Xp 147 d 21 ls st t g Q = Xp 147 d 22 ls ((0, 1) :: st) t g Q := xr_const (c := 1) (by decide +kernel) (by decide)
theorem x_147_22 : Xp 147 d 22 ls st t g Q = Xp 147 d 26 ls st t g Q := xr_goto (off := 4) (by decide +kernel) (by decide)
theorem x_147_25 : Xp 147 d 25 ls st t g Q = Xp 147 d 26 ls ((0, 0) :: st) t g Q := xr_const (c := 0) (by decide +kernel) (by decide)
theorem x_147_26 : Xp 147 d 26 ls ((0, b) :: (0, a) :: st) t g Q = Xp 147 d 27 ls ((0, hkW (a + b)) :: st) t g Q := Xp_go (i := .iadd) (len := 1) (by decide +kernel) rfl
theorem x_147_27 : Xp 147 d 27 [v0, v1, v2] ((0, x) :: st) t g Q = (hkP1 v0 ∧ Xp 147 d 28 [v0, (0, x), v2] st t g Q) := Xp_chk (i := .istore_n 1) (len := 1) (by decide +kernel) rfl
theorem x_147_28 : Xp 147 d 28 [v0, v1, (0, x)] st t g Q = (hkP1 v1 ∧ Xp 147 d 31 [v0, v1, (0, hkW (x + 1))] st t g Q) := Xp_chk (i := .iinc 2 (1)) (len := 3) (by decide +kernel) rfl
theorem x_147_31 : Xp 147 d 31 ls st t g Q = Xp 147 d 4 ls st t g Q := xr_goto (off := -27) (by decide +kernel) (by decide)
theorem x_147_34 : Xp 147 d 34 [v0, (0, x), v2] st t g Q = Xp 147 d 35 [v0, (0, x), v2] ((0, x) :: st) t g Q := Xp_go (i := .iload_n 1) (len := 1) (by decide +kernel) rfl
theorem x_147_35 : Xp 147 d 35 ls [(0, x)] t g Q = Q (some (0, x)) t g := xr_retI (by decide +kernel) (by decide +kernel)
-- 148: HookBoxesModel.feed(IIIIII)I
theorem x_148_0 : Xp 148 d 0 [(2, x), v1, v2, v3, v4, v5, v6, v7, v8] st t g Q = Xp 148 d 1 [(2, x), v1, v2, v3, v4, v5, v6, v7, v8] ((2, x) :: st) t g Q := Xp_go (i := .aload_n 0) (len := 1) (by decide +kernel) rfl
theorem x_148_1 : Xp 148 d 1 ls ((2, p) :: st) t g Q = (hkJK p = 10 ∧ jA p 31 ≤ t ∧ Xp 148 d 4 ls ((2, jR p 31) :: st) t g Q) := xr_getR (idx := 79) (ci := 10) (k := 31) (by decide +kernel) (by decide +kernel) (by decide +kernel)
theorem x_148_4 : Xp 148 d 4 ls st t g Q = Xp 148 d 5 ls ((0, 0) :: st) t g Q := xr_const (c := 0) (by decide +kernel) (by decide)
theorem x_148_5 : Xp 148 d 5 [v0, v1, (0, x), v3, v4, v5, v6, v7, v8] st t g Q = Xp 148 d 6 [v0, v1, (0, x), v3, v4, v5, v6, v7, v8] ((0, x) :: st) t g Q := Xp_go (i := .iload_n 2) (len := 1) (by decide +kernel) rfl
theorem x_148_6 : Xp 148 d 6 ls ((0, x) :: (0, a) :: (2, p) :: st) t g Q = ((hkJK p = 100 ∧ (100 = 102 → x = 0 ∨ x = 1) ∧ 0 ≤ a ∧ a < jL p) ∧ Xp 148 d 7 ls st t (hkSet g p a x) Q) := Xp_chk (i := .iastore) (len := 1) (by decide +kernel) rfl
theorem x_148_7 : Xp 148 d 7 [(2, x), v1, v2, v3, v4, v5, v6, v7, v8] st t g Q = Xp 148 d 8 [(2, x), v1, v2, v3, v4, v5, v6, v7, v8] ((2, x) :: st) t g Q := Xp_go (i := .aload_n 0) (len := 1) (by decide +kernel) rfl
theorem x_148_8 : Xp 148 d 8 ls ((2, p) :: st) t g Q = (hkJK p = 10 ∧ jA p 31 ≤ t ∧ Xp 148 d 11 ls ((2, jR p 31) :: st) t g Q) := xr_getR (idx := 79) (ci := 10) (k := 31) (by decide +kernel) (by decide +kernel) (by decide +kernel)
theorem x_148_11 : Xp 148 d 11 ls st t g Q = Xp 148 d 12 ls ((0, 1) :: st) t g Q := xr_const (c := 1) (by decide +kernel) (by decide)
theorem x_148_12 : Xp 148 d 12 [v0, v1, v2, (0, x), v4, v5, v6, v7, v8] st t g Q = Xp 148 d 13 [v0, v1, v2, (0, x), v4, v5, v6, v7, v8] ((0, x) :: st) t g Q := Xp_go (i := .iload_n 3) (len := 1) (by decide +kernel) rfl
theorem x_148_13 : Xp 148 d 13 ls ((0, x) :: (0, a) :: (2, p) :: st) t g Q = ((hkJK p = 100 ∧ (100 = 102 → x = 0 ∨ x = 1) ∧ 0 ≤ a ∧ a < jL p) ∧ Xp 148 d 14 ls st t (hkSet g p a x) Q) := Xp_chk (i := .iastore) (len := 1) (by decide +kernel) rfl
theorem x_148_14 : Xp 148 d 14 [(2, x), v1, v2, v3, v4, v5, v6, v7, v8] st t g Q = Xp 148 d 15 [(2, x), v1, v2, v3, v4, v5, v6, v7, v8] ((2, x) :: st) t g Q := Xp_go (i := .aload_n 0) (len := 1) (by decide +kernel) rfl
theorem x_148_15 : Xp 148 d 15 ls ((2, p) :: st) t g Q = (hkJK p = 10 ∧ jA p 31 ≤ t ∧ Xp 148 d 18 ls ((2, jR p 31) :: st) t g Q) := xr_getR (idx := 79) (ci := 10) (k := 31) (by decide +kernel) (by decide +kernel) (by decide +kernel)
theorem x_148_18 : Xp 148 d 18 ls st t g Q = Xp 148 d 19 ls ((0, 2) :: st) t g Q := xr_const (c := 2) (by decide +kernel) (by decide)
theorem x_148_19 : Xp 148 d 19 [v0, v1, v2, v3, (0, x), v5, v6, v7, v8] st t g Q = Xp 148 d 21 [v0, v1, v2, v3, (0, x), v5, v6, v7, v8] ((0, x) :: st) t g Q := Xp_go (i := .iload 4) (len := 2) (by decide +kernel) rfl
theorem x_148_21 : Xp 148 d 21 ls ((0, x) :: (0, a) :: (2, p) :: st) t g Q = ((hkJK p = 100 ∧ (100 = 102 → x = 0 ∨ x = 1) ∧ 0 ≤ a ∧ a < jL p) ∧ Xp 148 d 22 ls st t (hkSet g p a x) Q) := Xp_chk (i := .iastore) (len := 1) (by decide +kernel) rfl
theorem x_148_22 : Xp 148 d 22 [(2, x), v1, v2, v3, v4, v5, v6, v7, v8] st t g Q = Xp 148 d 23 [(2, x), v1, v2, v3, v4, v5, v6, v7, v8] ((2, x) :: st) t g Q := Xp_go (i := .aload_n 0) (len := 1) (by decide +kernel) rfl
theorem x_148_23 : Xp 148 d 23 ls ((2, p) :: st) t g Q = (hkJK p = 10 ∧ jA p 31 ≤ t ∧ Xp 148 d 26 ls ((2, jR p 31) :: st) t g Q) := xr_getR (idx := 79) (ci := 10) (k := 31) (by decide +kernel) (by decide +kernel) (by decide +kernel)
theorem x_148_26 : Xp 148 d 26 ls st t g Q = Xp 148 d 27 ls ((0, 3) :: st) t g Q := xr_const (c := 3) (by decide +kernel) (by decide)
theorem x_148_27 : Xp 148 d 27 [v0, v1, v2, v3, v4, (0, x), v6, v7, v8] st t g Q = Xp 148 d 29 [v0, v1, v2, v3, v4, (0, x), v6, v7, v8] ((0, x) :: st) t g Q := Xp_go (i := .iload 5) (len := 2) (by decide +kernel) rfl
theorem x_148_29 : Xp 148 d 29 ls ((0, x) :: (0, a) :: (2, p) :: st) t g Q = ((hkJK p = 100 ∧ (100 = 102 → x = 0 ∨ x = 1) ∧ 0 ≤ a ∧ a < jL p) ∧ Xp 148 d 30 ls st t (hkSet g p a x) Q) := Xp_chk (i := .iastore) (len := 1) (by decide +kernel) rfl
theorem x_148_30 : Xp 148 d 30 [(2, x), v1, v2, v3, v4, v5, v6, v7, v8] st t g Q = Xp 148 d 31 [(2, x), v1, v2, v3, v4, v5, v6, v7, v8] ((2, x) :: st) t g Q := Xp_go (i := .aload_n 0) (len := 1) (by decide +kernel) rfl
theorem x_148_31 : Xp 148 d 31 ls ((2, p) :: st) t g Q = (hkJK p = 10 ∧ jA p 31 ≤ t ∧ Xp 148 d 34 ls ((2, jR p 31) :: st) t g Q) := xr_getR (idx := 79) (ci := 10) (k := 31) (by decide +kernel) (by decide +kernel) (by decide +kernel)
theorem x_148_34 : Xp 148 d 34 ls st t g Q = Xp 148 d 35 ls ((0, 4) :: st) t g Q := xr_const (c := 4) (by decide +kernel) (by decide)
theorem x_148_35 : Xp 148 d 35 [v0, v1, v2, v3, v4, v5, (0, x), v7, v8] st t g Q = Xp 148 d 37 [v0, v1, v2, v3, v4, v5, (0, x), v7, v8] ((0, x) :: st) t g Q := Xp_go (i := .iload 6) (len := 2) (by decide +kernel) rfl
theorem x_148_37 : Xp 148 d 37 ls ((0, x) :: (0, a) :: (2, p) :: st) t g Q = ((hkJK p = 100 ∧ (100 = 102 → x = 0 ∨ x = 1) ∧ 0 ≤ a ∧ a < jL p) ∧ Xp 148 d 38 ls st t (hkSet g p a x) Q) := Xp_chk (i := .iastore) (len := 1) (by decide +kernel) rfl
theorem x_148_38 : Xp 148 d 38 [v0, (0, x), v2, v3, v4, v5, v6, v7, v8] st t g Q = Xp 148 d 39 [v0, (0, x), v2, v3, v4, v5, v6, v7, v8] ((0, x) :: st) t g Q := Xp_go (i := .iload_n 1) (len := 1) (by decide +kernel) rfl
theorem x_148_39 : Xp 148 d 39 ls ((0, a) :: st) t g Q = Xp 148 d 40 ls ((1, a) :: st) t g Q := Xp_go (i := .i2l) (len := 1) (by decide +kernel) rfl
theorem x_148_40 : Xp 148 d 40 ls st t g Q = Xp 148 d 41 ls ((1, 1) :: st) t g Q := Xp_go (i := .lconst 1) (len := 1) (by decide +kernel) rfl
theorem x_148_41 : Xp 148 d 41 ls st t g Q = Xp 148 d 44 ls ((1, 5) :: st) t g Q := xr_ldc2 (idx := 145) (by decide +kernel) (by decide +kernel)
theorem x_148_44 : Xp 148 (d + 1) 44 ls ((1, a2) :: (1, a1) :: (1, a0) :: st) t g Q = (hkC8 st ∧ Xp 107 d 0 [(1, a0), hkU, (1, a1), hkU, (1, a2), hkU] [] t g (fun r t g => Xp 148 (d + 1) 47 ls (hkPush r st) t g Q)) := xr_invS (idx := 115) (y' := 107) (tg := [1, 1, 1]) (by decide +kernel) (by decide +kernel) (by decide +kernel) rfl rfl
theorem x_148_47 : Xp 148 d 47 [v0, v1, v2, v3, v4, v5, v6, v7, v8] ((0, x) :: st) t g Q = (hkP1 v6 ∧ Xp 148 d 49 [v0, v1, v2, v3, v4, v5, v6, (0, x), v8] st t g Q) := Xp_chk (i := .istore 7) (len := 2) (by decide +kernel) rfl
theorem x_148_49 : Xp 148 d 49 ls st t g Q = Xp 148 d 50 ls ((0, 0) :: st) t g Q := xr_const (c := 0) (by decide +kernel) (by decide)
theorem x_148_50 : Xp 148 d 50 [v0, v1, v2, v3, v4, v5, v6, v7, v8] ((0, x) :: st) t g Q = (hkP1 v7 ∧ Xp 148 d 52 [v0, v1, v2, v3, v4, v5, v6, v7, (0, x)] st t g Q) := Xp_chk (i := .istore 8) (len := 2) (by decide +kernel) rfl
theorem x_148_52 : Xp 148 d 52 [v0, v1, v2, v3, v4, v5, v6, v7, (0, x)] st t g Q = Xp 148 d 54 [v0, v1, v2, v3, v4, v5, v6, v7, (0, x)] ((0, x) :: st) t g Q := Xp_go (i := .iload 8) (len := 2) (by decide +kernel) rfl
theorem x_148_54 : Xp 148 d 54 ls st t g Q = Xp 148 d 55 ls ((0, 5) :: st) t g Q := xr_const (c := 5) (by decide +kernel) (by decide)
theorem x_148_55 : Xp 148 d 55 ls ((0, b) :: (0, a) :: st) t g Q = ((b ≤ a → Xp 148 d 84 ls st t g Q) ∧ (¬ (b ≤ a) → Xp 148 d 58 ls st t g Q)) := xr_if2 (cd := .ge) (off := 29) (by decide +kernel) (by decide)
theorem x_148_58 : Xp 148 d 58 [v0, v1, v2, v3, v4, v5, v6, (0, x), v8] st t g Q = Xp 148 d 60 [v0, v1, v2, v3, v4, v5, v6, (0, x), v8] ((0, x) :: st) t g Q := Xp_go (i := .iload 7) (len := 2) (by decide +kernel) rfl
theorem x_148_60 : Xp 148 d 60 [(2, x), v1, v2, v3, v4, v5, v6, v7, v8] st t g Q = Xp 148 d 61 [(2, x), v1, v2, v3, v4, v5, v6, v7, v8] ((2, x) :: st) t g Q := Xp_go (i := .aload_n 0) (len := 1) (by decide +kernel) rfl
theorem x_148_61 : Xp 148 d 61 ls ((2, p) :: st) t g Q = (hkJK p = 10 ∧ jA p 31 ≤ t ∧ Xp 148 d 64 ls ((2, jR p 31) :: st) t g Q) := xr_getR (idx := 79) (ci := 10) (k := 31) (by decide +kernel) (by decide +kernel) (by decide +kernel)
theorem x_148_64 : Xp 148 d 64 [v0, v1, v2, v3, v4, v5, v6, v7, (0, x)] st t g Q = Xp 148 d 66 [v0, v1, v2, v3, v4, v5, v6, v7, (0, x)] ((0, x) :: st) t g Q := Xp_go (i := .iload 8) (len := 2) (by decide +kernel) rfl
theorem x_148_66 : Xp 148 d 66 ls ((0, a) :: (2, p) :: st) t g Q = ((hkJK p = 100 ∧ 0 ≤ a ∧ a < jL p) ∧ Xp 148 d 67 ls ((0, g p a) :: st) t g Q) := Xp_chk (i := .iaload) (len := 1) (by decide +kernel) rfl
theorem x_148_67 : Xp 148 d 67 ls ((0, a) :: st) t g Q = Xp 148 d 68 ls ((1, a) :: st) t g Q := Xp_go (i := .i2l) (len := 1) (by decide +kernel) rfl
theorem x_148_68 : Xp 148 d 68 ls st t g Q = Xp 148 d 69 ls ((1, 0) :: st) t g Q := Xp_go (i := .lconst 0) (len := 1) (by decide +kernel) rfl
theorem x_148_69 : Xp 148 d 69 ls st t g Q = Xp 148 d 72 ls ((1, 255) :: st) t g Q := xr_ldc2 (idx := 251) (by decide +kernel) (by decide +kernel)
theorem x_148_72 : Xp 148 (d + 1) 72 ls ((1, a2) :: (1, a1) :: (1, a0) :: st) t g Q = (hkC8 st ∧ Xp 107 d 0 [(1, a0), hkU, (1, a1), hkU, (1, a2), hkU] [] t g (fun r t g => Xp 148 (d + 1) 75 ls (hkPush r st) t g Q)) := xr_invS (idx := 115) (y' := 107) (tg := [1, 1, 1]) (by decide +kernel) (by decide +kernel) (by decide +kernel) rfl rfl
theorem x_148_75 : Xp 148 d 75 ls ((0, b) :: (0, a) :: st) t g Q = Xp 148 d 76 ls ((0, hkAnd a b) :: st) t g Q := Xp_go (i := .iand) (len := 1) (by decide +kernel) rfl
theorem x_148_76 : Xp 148 d 76 [v0, v1, v2, v3, v4, v5, v6, v7, v8] ((0, x) :: st) t g Q = (hkP1 v6 ∧ Xp 148 d 78 [v0, v1, v2, v3, v4, v5, v6, (0, x), v8] st t g Q) := Xp_chk (i := .istore 7) (len := 2) (by decide +kernel) rfl
theorem x_148_78 : Xp 148 d 78 [v0, v1, v2, v3, v4, v5, v6, v7, (0, x)] st t g Q = (hkP1 v7 ∧ Xp 148 d 81 [v0, v1, v2, v3, v4, v5, v6, v7, (0, hkW (x + 1))] st t g Q) := Xp_chk (i := .iinc 8 (1)) (len := 3) (by decide +kernel) rfl
theorem x_148_81 : Xp 148 d 81 ls st t g Q = Xp 148 d 52 ls st t g Q := xr_goto (off := -29) (by decide +kernel) (by decide)
theorem x_148_84 : Xp 148 d 84 [v0, v1, v2, v3, v4, v5, v6, (0, x), v8] st t g Q = Xp 148 d 86 [v0, v1, v2, v3, v4, v5, v6, (0, x), v8] ((0, x) :: st) t g Q := Xp_go (i := .iload 7) (len := 2) (by decide +kernel) rfl
theorem x_148_86 : Xp 148 d 86 ls ((0, a) :: st) t g Q = ((¬ (a = 0) → Xp 148 d 92 ls st t g Q) ∧ (¬ (¬ (a = 0)) → Xp 148 d 89 ls st t g Q)) := xr_if1 (cd := .ne) (off := 6) (by decide +kernel) (by decide)
theorem x_148_89 : Xp 148 d 89 ls st t g Q = Xp 148 d 91 ls ((0, -2) :: st) t g Q := xr_bi (c := -2) (by decide +kernel) (by decide)
theorem x_148_91 : Xp 148 d 91 ls [(0, x)] t g Q = Q (some (0, x)) t g := xr_retI (by decide +kernel) (by decide +kernel)
theorem x_148_92 : Xp 148 d 92 [(2, x), v1, v2, v3, v4, v5, v6, v7, v8] st t g Q = Xp 148 d 93 [(2, x), v1, v2, v3, v4, v5, v6, v7, v8] ((2, x) :: st) t g Q := Xp_go (i := .aload_n 0) (len := 1) (by decide +kernel) rfl
theorem x_148_93 : Xp 148 d 93 ls ((2, p) :: st) t g Q = (hkJK p = 10 ∧ Xp 148 d 96 ls ((0, g p 32) :: st) t g Q) := xr_getI (idx := 253) (ci := 10) (k := 32) (by decide +kernel) (by decide +kernel) (by decide +kernel)
theorem x_148_96 : Xp 148 d 96 [v0, (0, x), v2, v3, v4, v5, v6, v7, v8] st t g Q = Xp 148 d 97 [v0, (0, x), v2, v3, v4, v5, v6, v7, v8] ((0, x) :: st) t g Q := Xp_go (i := .iload_n 1) (len := 1) (by decide +kernel) rfl
theorem x_148_97 : Xp 148 d 97 ls ((0, b) :: (0, a) :: st) t g Q = Xp 148 d 98 ls ((0, hkW (a + b)) :: st) t g Q := Xp_go (i := .iadd) (len := 1) (by decide +kernel) rfl
theorem x_148_98 : Xp 148 d 98 ls st t g Q = Xp 148 d 100 ls ((0, 60) :: st) t g Q := xr_bi (c := 60) (by decide +kernel) (by decide)
theorem x_148_100 : Xp 148 d 100 ls ((0, b) :: (0, a) :: st) t g Q = ((a ≤ b → Xp 148 d 106 ls st t g Q) ∧ (¬ (a ≤ b) → Xp 148 d 103 ls st t g Q)) := xr_if2 (cd := .le) (off := 6) (by decide +kernel) (by decide)
theorem x_148_103 : Xp 148 d 103 ls st t g Q = Xp 148 d 105 ls ((0, -4) :: st) t g Q := xr_bi (c := -4) (by decide +kernel) (by decide)
theorem x_148_105 : Xp 148 d 105 ls [(0, x)] t g Q = Q (some (0, x)) t g := xr_retI (by decide +kernel) (by decide +kernel)
theorem x_148_106 : Xp 148 d 106 ls st t g Q = Xp 148 d 107 ls ((0, 0) :: st) t g Q := xr_const (c := 0) (by decide +kernel) (by decide)
theorem x_148_107 : Xp 148 d 107 [v0, v1, v2, v3, v4, v5, v6, v7, v8] ((0, x) :: st) t g Q = (hkP1 v7 ∧ Xp 148 d 109 [v0, v1, v2, v3, v4, v5, v6, v7, (0, x)] st t g Q) := Xp_chk (i := .istore 8) (len := 2) (by decide +kernel) rfl
theorem x_148_109 : Xp 148 d 109 [v0, v1, v2, v3, v4, v5, v6, v7, (0, x)] st t g Q = Xp 148 d 111 [v0, v1, v2, v3, v4, v5, v6, v7, (0, x)] ((0, x) :: st) t g Q := Xp_go (i := .iload 8) (len := 2) (by decide +kernel) rfl
theorem x_148_111 : Xp 148 d 111 [v0, (0, x), v2, v3, v4, v5, v6, v7, v8] st t g Q = Xp 148 d 112 [v0, (0, x), v2, v3, v4, v5, v6, v7, v8] ((0, x) :: st) t g Q := Xp_go (i := .iload_n 1) (len := 1) (by decide +kernel) rfl
theorem x_148_112 : Xp 148 d 112 ls ((0, b) :: (0, a) :: st) t g Q = ((b ≤ a → Xp 148 d 147 ls st t g Q) ∧ (¬ (b ≤ a) → Xp 148 d 115 ls st t g Q)) := xr_if2 (cd := .ge) (off := 35) (by decide +kernel) (by decide)
theorem x_148_115 : Xp 148 d 115 [(2, x), v1, v2, v3, v4, v5, v6, v7, v8] st t g Q = Xp 148 d 116 [(2, x), v1, v2, v3, v4, v5, v6, v7, v8] ((2, x) :: st) t g Q := Xp_go (i := .aload_n 0) (len := 1) (by decide +kernel) rfl
theorem x_148_116 : Xp 148 d 116 ls ((2, p) :: st) t g Q = (hkJK p = 10 ∧ jA p 30 ≤ t ∧ Xp 148 d 119 ls ((2, jR p 30) :: st) t g Q) := xr_getR (idx := 76) (ci := 10) (k := 30) (by decide +kernel) (by decide +kernel) (by decide +kernel)
theorem x_148_119 : Xp 148 d 119 [(2, x), v1, v2, v3, v4, v5, v6, v7, v8] st t g Q = Xp 148 d 120 [(2, x), v1, v2, v3, v4, v5, v6, v7, v8] ((2, x) :: st) t g Q := Xp_go (i := .aload_n 0) (len := 1) (by decide +kernel) rfl
theorem x_148_120 : Xp 148 d 120 ls ((2, p) :: st) t g Q = (hkJK p = 10 ∧ Xp 148 d 123 ls ((0, g p 32) :: st) t g Q) := xr_getI (idx := 253) (ci := 10) (k := 32) (by decide +kernel) (by decide +kernel) (by decide +kernel)
theorem x_148_123 : Xp 148 d 123 [(2, x), v1, v2, v3, v4, v5, v6, v7, v8] st t g Q = Xp 148 d 124 [(2, x), v1, v2, v3, v4, v5, v6, v7, v8] ((2, x) :: st) t g Q := Xp_go (i := .aload_n 0) (len := 1) (by decide +kernel) rfl
theorem x_148_124 : Xp 148 d 124 ls ((2, p) :: st) t g Q = (hkJK p = 10 ∧ jA p 31 ≤ t ∧ Xp 148 d 127 ls ((2, jR p 31) :: st) t g Q) := xr_getR (idx := 79) (ci := 10) (k := 31) (by decide +kernel) (by decide +kernel) (by decide +kernel)
theorem x_148_127 : Xp 148 d 127 [v0, v1, v2, v3, v4, v5, v6, v7, (0, x)] st t g Q = Xp 148 d 129 [v0, v1, v2, v3, v4, v5, v6, v7, (0, x)] ((0, x) :: st) t g Q := Xp_go (i := .iload 8) (len := 2) (by decide +kernel) rfl
theorem x_148_129 : Xp 148 d 129 ls ((0, a) :: (2, p) :: st) t g Q = ((hkJK p = 100 ∧ 0 ≤ a ∧ a < jL p) ∧ Xp 148 d 130 ls ((0, g p a) :: st) t g Q) := Xp_chk (i := .iaload) (len := 1) (by decide +kernel) rfl
theorem x_148_130 : Xp 148 d 130 ls ((0, x) :: (0, a) :: (2, p) :: st) t g Q = ((hkJK p = 100 ∧ (100 = 102 → x = 0 ∨ x = 1) ∧ 0 ≤ a ∧ a < jL p) ∧ Xp 148 d 131 ls st t (hkSet g p a x) Q) := Xp_chk (i := .iastore) (len := 1) (by decide +kernel) rfl
theorem x_148_131 : Xp 148 d 131 [(2, x), v1, v2, v3, v4, v5, v6, v7, v8] st t g Q = Xp 148 d 132 [(2, x), v1, v2, v3, v4, v5, v6, v7, v8] ((2, x) :: st) t g Q := Xp_go (i := .aload_n 0) (len := 1) (by decide +kernel) rfl
theorem x_148_132 : Xp 148 d 132 ls (v :: st) t g Q = (hkP1 v ∧ Xp 148 d 133 ls (v :: v :: st) t g Q) := Xp_chk (i := .dup) (len := 1) (by decide +kernel) rfl
theorem x_148_133 : Xp 148 d 133 ls ((2, p) :: st) t g Q = (hkJK p = 10 ∧ Xp 148 d 136 ls ((0, g p 32) :: st) t g Q) := xr_getI (idx := 253) (ci := 10) (k := 32) (by decide +kernel) (by decide +kernel) (by decide +kernel)
theorem x_148_136 : Xp 148 d 136 ls st t g Q = Xp 148 d 137 ls ((0, 1) :: st) t g Q := xr_const (c := 1) (by decide +kernel) (by decide)
theorem x_148_137 : Xp 148 d 137 ls ((0, b) :: (0, a) :: st) t g Q = Xp 148 d 138 ls ((0, hkW (a + b)) :: st) t g Q := Xp_go (i := .iadd) (len := 1) (by decide +kernel) rfl
theorem x_148_138 : Xp 148 d 138 ls ((0, x) :: (2, p) :: st) t g Q = (hkJK p = 10 ∧ Xp 148 d 141 ls st t (hkSet g p 32 x) Q) := xr_putI (idx := 253) (ci := 10) (k := 32) (by decide +kernel) (by decide +kernel) (by decide +kernel)
theorem x_148_141 : Xp 148 d 141 [v0, v1, v2, v3, v4, v5, v6, v7, (0, x)] st t g Q = (hkP1 v7 ∧ Xp 148 d 144 [v0, v1, v2, v3, v4, v5, v6, v7, (0, hkW (x + 1))] st t g Q) := Xp_chk (i := .iinc 8 (1)) (len := 3) (by decide +kernel) rfl
theorem x_148_144 : Xp 148 d 144 ls st t g Q = Xp 148 d 109 ls st t g Q := xr_goto (off := -35) (by decide +kernel) (by decide)
theorem x_148_147 : Xp 148 d 147 [(2, x), v1, v2, v3, v4, v5, v6, v7, v8] st t g Q = Xp 148 d 148 [(2, x), v1, v2, v3, v4, v5, v6, v7, v8] ((2, x) :: st) t g Q := Xp_go (i := .aload_n 0) (len := 1) (by decide +kernel) rfl
theorem x_148_148 : Xp 148 d 148 ls ((2, p) :: st) t g Q = (hkJK p = 10 ∧ Xp 148 d 151 ls ((0, g p 32) :: st) t g Q) := xr_getI (idx := 253) (ci := 10) (k := 32) (by decide +kernel) (by decide +kernel) (by decide +kernel)
theorem x_148_151 : Xp 148 d 151 ls [(0, x)] t g Q = Q (some (0, x)) t g := xr_retI (by decide +kernel) (by decide +kernel)
-- 149: HookBoxesModel.read()I
theorem x_149_0 : Xp 149 d 0 [(2, x), v1] st t g Q = Xp 149 d 1 [(2, x), v1] ((2, x) :: st) t g Q := Xp_go (i := .aload_n 0) (len := 1) (by decide +kernel) rfl
theorem x_149_1 : Xp 149 d 1 ls st t g Q = Xp 149 d 2 ls ((0, 0) :: st) t g Q := xr_const (c := 0) (by decide +kernel) (by decide)
theorem x_149_2 : Xp 149 (d + 1) 2 ls ((0, a1) :: (2, a0) :: st) t g Q = (hkJK a0 = 10 ∧ hkC8 st ∧ Xp 150 d 0 [(2, a0), (0, a1), hkU] [] t g (fun r t g => Xp 149 (d + 1) 5 ls (hkPush r st) t g Q)) := xr_invV (idx := 293) (y' := 150) (ci := 10) (tg := [2, 0]) (by decide +kernel) (by decide +kernel) (by decide +kernel) (by decide +kernel) rfl rfl rfl
theorem x_149_5 : Xp 149 d 5 [v0, v1] ((0, x) :: st) t g Q = (hkP1 v0 ∧ Xp 149 d 6 [v0, (0, x)] st t g Q) := Xp_chk (i := .istore_n 1) (len := 1) (by decide +kernel) rfl
theorem x_149_6 : Xp 149 d 6 [v0, (0, x)] st t g Q = Xp 149 d 7 [v0, (0, x)] ((0, x) :: st) t g Q := Xp_go (i := .iload_n 1) (len := 1) (by decide +kernel) rfl
theorem x_149_7 : Xp 149 d 7 ls st t g Q = Xp 149 d 8 ls ((0, -1) :: st) t g Q := xr_const (c := -1) (by decide +kernel) (by decide)
theorem x_149_8 : Xp 149 d 8 ls ((0, b) :: (0, a) :: st) t g Q = ((¬ (a = b) → Xp 149 d 24 ls st t g Q) ∧ (¬ (¬ (a = b)) → Xp 149 d 11 ls st t g Q)) := xr_if2 (cd := .ne) (off := 16) (by decide +kernel) (by decide)
theorem x_149_11 : Xp 149 d 11 [(2, x), v1] st t g Q = Xp 149 d 12 [(2, x), v1] ((2, x) :: st) t g Q := Xp_go (i := .aload_n 0) (len := 1) (by decide +kernel) rfl
theorem x_149_12 : Xp 149 d 12 ls st t g Q = Xp 149 d 13 ls ((0, 0) :: st) t g Q := xr_const (c := 0) (by decide +kernel) (by decide)
theorem x_149_13 : Xp 149 d 13 ls ((0, x) :: (2, p) :: st) t g Q = (hkJK p = 10 ∧ Xp 149 d 16 ls st t (hkSet g p 32 x) Q) := xr_putI (idx := 253) (ci := 10) (k := 32) (by decide +kernel) (by decide +kernel) (by decide +kernel)
theorem x_149_16 : Xp 149 d 16 ls st t g Q = Xp 149 d 18 ls ((0, -100) :: st) t g Q := xr_bi (c := -100) (by decide +kernel) (by decide)
theorem x_149_18 : Xp 149 d 18 [(2, x), v1] st t g Q = Xp 149 d 19 [(2, x), v1] ((2, x) :: st) t g Q := Xp_go (i := .aload_n 0) (len := 1) (by decide +kernel) rfl
theorem x_149_19 : Xp 149 d 19 ls ((2, p) :: st) t g Q = (hkJK p = 10 ∧ Xp 149 d 22 ls ((0, g p 33) :: st) t g Q) := xr_getI (idx := 256) (ci := 10) (k := 33) (by decide +kernel) (by decide +kernel) (by decide +kernel)
theorem x_149_22 : Xp 149 d 22 ls ((0, b) :: (0, a) :: st) t g Q = Xp 149 d 23 ls ((0, hkW (a - b)) :: st) t g Q := Xp_go (i := .isub) (len := 1) (by decide +kernel) rfl
theorem x_149_23 : Xp 149 d 23 ls [(0, x)] t g Q = Q (some (0, x)) t g := xr_retI (by decide +kernel) (by decide +kernel)
theorem x_149_24 : Xp 149 d 24 [(2, x), v1] st t g Q = Xp 149 d 25 [(2, x), v1] ((2, x) :: st) t g Q := Xp_go (i := .aload_n 0) (len := 1) (by decide +kernel) rfl
theorem x_149_25 : Xp 149 d 25 [(2, x), v1] st t g Q = Xp 149 d 26 [(2, x), v1] ((2, x) :: st) t g Q := Xp_go (i := .aload_n 0) (len := 1) (by decide +kernel) rfl
theorem x_149_26 : Xp 149 d 26 ls st t g Q = Xp 149 d 27 ls ((0, 1) :: st) t g Q := xr_const (c := 1) (by decide +kernel) (by decide)
theorem x_149_27 : Xp 149 (d + 1) 27 ls ((0, a1) :: (2, a0) :: st) t g Q = (hkJK a0 = 10 ∧ hkC8 st ∧ Xp 150 d 0 [(2, a0), (0, a1), hkU] [] t g (fun r t g => Xp 149 (d + 1) 30 ls (hkPush r st) t g Q)) := xr_invV (idx := 293) (y' := 150) (ci := 10) (tg := [2, 0]) (by decide +kernel) (by decide +kernel) (by decide +kernel) (by decide +kernel) rfl rfl rfl
theorem x_149_30 : Xp 149 d 30 ls ((0, x) :: (2, p) :: st) t g Q = (hkJK p = 10 ∧ Xp 149 d 33 ls st t (hkSet g p 12 x) Q) := xr_putI (idx := 297) (ci := 10) (k := 12) (by decide +kernel) (by decide +kernel) (by decide +kernel)
theorem x_149_33 : Xp 149 d 33 [(2, x), v1] st t g Q = Xp 149 d 34 [(2, x), v1] ((2, x) :: st) t g Q := Xp_go (i := .aload_n 0) (len := 1) (by decide +kernel) rfl
theorem x_149_34 : Xp 149 d 34 ls st t g Q = Xp 149 d 35 ls ((0, 0) :: st) t g Q := xr_const (c := 0) (by decide +kernel) (by decide)
theorem x_149_35 : Xp 149 d 35 ls ((0, x) :: (2, p) :: st) t g Q = (hkJK p = 10 ∧ Xp 149 d 38 ls st t (hkSet g p 32 x) Q) := xr_putI (idx := 253) (ci := 10) (k := 32) (by decide +kernel) (by decide +kernel) (by decide +kernel)
theorem x_149_38 : Xp 149 d 38 [(2, x), v1] st t g Q = Xp 149 d 39 [(2, x), v1] ((2, x) :: st) t g Q := Xp_go (i := .aload_n 0) (len := 1) (by decide +kernel) rfl
theorem x_149_39 : Xp 149 (d + 1) 39 ls ((2, a0) :: st) t g Q = (hkJK a0 = 10 ∧ hkC8 st ∧ Xp 146 d 0 [(2, a0), hkU] [] t g (fun r t g => Xp 149 (d + 1) 42 ls (hkPush r st) t g Q)) := xr_invV (idx := 248) (y' := 146) (ci := 10) (tg := [2]) (by decide +kernel) (by decide +kernel) (by decide +kernel) (by decide +kernel) rfl rfl rfl
theorem x_149_42 : Xp 149 d 42 ls [(0, x)] t g Q = Q (some (0, x)) t g := xr_retI (by decide +kernel) (by decide +kernel)
-- 150: HookBoxesModel.goes(Z)I
theorem x_150_0 : Xp 150 d 0 [(2, x), v1, v2] st t g Q = Xp 150 d 1 [(2, x), v1, v2] ((2, x) :: st) t g Q := Xp_go (i := .aload_n 0) (len := 1) (by decide +kernel) rfl
theorem x_150_1 : Xp 150 d 1 ls st t g Q = Xp 150 d 2 ls ((0, 0) :: st) t g Q := xr_const (c := 0) (by decide +kernel) (by decide)
theorem x_150_2 : Xp 150 d 2 ls ((0, x) :: (2, p) :: st) t g Q = (hkJK p = 10 ∧ Xp 150 d 5 ls st t (hkSet g p 33 x) Q) := xr_putI (idx := 256) (ci := 10) (k := 33) (by decide +kernel) (by decide +kernel) (by decide +kernel)
theorem x_150_5 : Xp 150 d 5 [(2, x), v1, v2] st t g Q = Xp 150 d 6 [(2, x), v1, v2] ((2, x) :: st) t g Q := Xp_go (i := .aload_n 0) (len := 1) (by decide +kernel) rfl
theorem x_150_6 : Xp 150 d 6 ls st t g Q = Xp 150 d 7 ls ((0, 0) :: st) t g Q := xr_const (c := 0) (by decide +kernel) (by decide)
theorem x_150_7 : Xp 150 d 7 ls ((0, x) :: (2, p) :: st) t g Q = (hkJK p = 10 ∧ Xp 150 d 10 ls st t (hkSet g p 34 x) Q) := xr_putI (idx := 276) (ci := 10) (k := 34) (by decide +kernel) (by decide +kernel) (by decide +kernel)
theorem x_150_10 : Xp 150 d 10 [(2, x), v1, v2] st t g Q = Xp 150 d 11 [(2, x), v1, v2] ((2, x) :: st) t g Q := Xp_go (i := .aload_n 0) (len := 1) (by decide +kernel) rfl
theorem x_150_11 : Xp 150 d 11 ls st t g Q = Xp 150 d 12 ls ((0, 0) :: st) t g Q := xr_const (c := 0) (by decide +kernel) (by decide)
theorem x_150_12 : Xp 150 d 12 ls ((0, x) :: (2, p) :: st) t g Q = (hkJK p = 10 ∧ (x = 0 ∨ x = 1) ∧ Xp 150 d 15 ls st t (hkSet g p 29 x) Q) := xr_putB (idx := 227) (ci := 10) (k := 29) (by decide +kernel) (by decide +kernel) (by decide +kernel)
theorem x_150_15 : Xp 150 d 15 [(2, x), v1, v2] st t g Q = Xp 150 d 16 [(2, x), v1, v2] ((2, x) :: st) t g Q := Xp_go (i := .aload_n 0) (len := 1) (by decide +kernel) rfl
theorem x_150_16 : Xp 150 d 16 ls st t g Q = Xp 150 d 17 ls ((0, 0) :: st) t g Q := xr_const (c := 0) (by decide +kernel) (by decide)
theorem x_150_17 : Xp 150 d 17 [v0, (0, x), v2] st t g Q = Xp 150 d 18 [v0, (0, x), v2] ((0, x) :: st) t g Q := Xp_go (i := .iload_n 1) (len := 1) (by decide +kernel) rfl
theorem x_150_18 : Xp 150 (d + 1) 18 ls ((0, a2) :: (0, a1) :: (2, a0) :: st) t g Q = (hkJK a0 = 10 ∧ hkC8 st ∧ Xp 151 d 0 [(2, a0), (0, a1), (0, a2), hkU, hkU, hkU] [] t g (fun r t g => Xp 150 (d + 1) 21 ls (hkPush r st) t g Q)) := xr_invV (idx := 279) (y' := 151) (ci := 10) (tg := [2, 0, 0]) (by decide +kernel) (by decide +kernel) (by decide +kernel) (by decide +kernel) rfl rfl rfl
theorem x_150_21 : Xp 150 d 21 [v0, v1, v2] ((0, x) :: st) t g Q = (hkP1 v1 ∧ Xp 150 d 22 [v0, v1, (0, x)] st t g Q) := Xp_chk (i := .istore_n 2) (len := 1) (by decide +kernel) rfl
theorem x_150_22 : Xp 150 d 22 [v0, v1, (0, x)] st t g Q = Xp 150 d 23 [v0, v1, (0, x)] ((0, x) :: st) t g Q := Xp_go (i := .iload_n 2) (len := 1) (by decide +kernel) rfl
theorem x_150_23 : Xp 150 d 23 ls st t g Q = Xp 150 d 24 ls ((0, -1) :: st) t g Q := xr_const (c := -1) (by decide +kernel) (by decide)
theorem x_150_24 : Xp 150 d 24 ls ((0, b) :: (0, a) :: st) t g Q = ((a = b → Xp 150 d 38 ls st t g Q) ∧ (¬ (a = b) → Xp 150 d 27 ls st t g Q)) := xr_if2 (cd := .eq) (off := 14) (by decide +kernel) (by decide)
theorem x_150_27 : Xp 150 d 27 [(2, x), v1, v2] st t g Q = Xp 150 d 28 [(2, x), v1, v2] ((2, x) :: st) t g Q := Xp_go (i := .aload_n 0) (len := 1) (by decide +kernel) rfl
theorem x_150_28 : Xp 150 d 28 ls ((2, p) :: st) t g Q = (hkJK p = 10 ∧ Xp 150 d 31 ls ((0, g p 33) :: st) t g Q) := xr_getI (idx := 256) (ci := 10) (k := 33) (by decide +kernel) (by decide +kernel) (by decide +kernel)
theorem x_150_31 : Xp 150 d 31 [(2, x), v1, v2] st t g Q = Xp 150 d 32 [(2, x), v1, v2] ((2, x) :: st) t g Q := Xp_go (i := .aload_n 0) (len := 1) (by decide +kernel) rfl
theorem x_150_32 : Xp 150 d 32 ls ((2, p) :: st) t g Q = (hkJK p = 10 ∧ Xp 150 d 35 ls ((0, g p 32) :: st) t g Q) := xr_getI (idx := 253) (ci := 10) (k := 32) (by decide +kernel) (by decide +kernel) (by decide +kernel)
theorem x_150_35 : Xp 150 d 35 ls ((0, b) :: (0, a) :: st) t g Q = ((b ≤ a → Xp 150 d 42 ls st t g Q) ∧ (¬ (b ≤ a) → Xp 150 d 38 ls st t g Q)) := xr_if2 (cd := .ge) (off := 7) (by decide +kernel) (by decide)
theorem x_150_38 : Xp 150 d 38 ls st t g Q = Xp 150 d 39 ls ((0, -1) :: st) t g Q := xr_const (c := -1) (by decide +kernel) (by decide)
theorem x_150_39 : Xp 150 d 39 ls st t g Q = Xp 150 d 43 ls st t g Q := xr_goto (off := 4) (by decide +kernel) (by decide)
theorem x_150_42 : Xp 150 d 42 [v0, v1, (0, x)] st t g Q = Xp 150 d 43 [v0, v1, (0, x)] ((0, x) :: st) t g Q := Xp_go (i := .iload_n 2) (len := 1) (by decide +kernel) rfl
theorem x_150_43 : Xp 150 d 43 ls [(0, x)] t g Q = Q (some (0, x)) t g := xr_retI (by decide +kernel) (by decide +kernel)
-- 151: HookBoxesModel.sumOf(IZ)I
theorem x_151_0 : Xp 151 d 0 [(2, x), v1, v2, v3, v4, v5] st t g Q = Xp 151 d 1 [(2, x), v1, v2, v3, v4, v5] ((2, x) :: st) t g Q := Xp_go (i := .aload_n 0) (len := 1) (by decide +kernel) rfl
theorem x_151_1 : Xp 151 d 1 [v0, (0, x), v2, v3, v4, v5] st t g Q = Xp 151 d 2 [v0, (0, x), v2, v3, v4, v5] ((0, x) :: st) t g Q := Xp_go (i := .iload_n 1) (len := 1) (by decide +kernel) rfl
theorem x_151_2 : Xp 151 d 2 [v0, v1, (0, x), v3, v4, v5] st t g Q = Xp 151 d 3 [v0, v1, (0, x), v3, v4, v5] ((0, x) :: st) t g Q := Xp_go (i := .iload_n 2) (len := 1) (by decide +kernel) rfl
theorem x_151_3 : Xp 151 (d + 1) 3 ls ((0, a2) :: (0, a1) :: (2, a0) :: st) t g Q = (hkJK a0 = 10 ∧ hkC8 st ∧ Xp 152 d 0 [(2, a0), (0, a1), (0, a2), hkU, hkU] [] t g (fun r t g => Xp 151 (d + 1) 6 ls (hkPush r st) t g Q)) := xr_invV (idx := 286) (y' := 152) (ci := 10) (tg := [2, 0, 0]) (by decide +kernel) (by decide +kernel) (by decide +kernel) (by decide +kernel) rfl rfl rfl
theorem x_151_6 : Xp 151 d 6 [v0, v1, v2, v3, v4, v5] ((0, x) :: st) t g Q = (hkP1 v2 ∧ Xp 151 d 7 [v0, v1, v2, (0, x), v4, v5] st t g Q) := Xp_chk (i := .istore_n 3) (len := 1) (by decide +kernel) rfl
theorem x_151_7 : Xp 151 d 7 [v0, v1, v2, (0, x), v4, v5] st t g Q = Xp 151 d 8 [v0, v1, v2, (0, x), v4, v5] ((0, x) :: st) t g Q := Xp_go (i := .iload_n 3) (len := 1) (by decide +kernel) rfl
theorem x_151_8 : Xp 151 d 8 ls st t g Q = Xp 151 d 9 ls ((0, -1) :: st) t g Q := xr_const (c := -1) (by decide +kernel) (by decide)
theorem x_151_9 : Xp 151 d 9 ls ((0, b) :: (0, a) :: st) t g Q = ((a = b → Xp 151 d 98 ls st t g Q) ∧ (¬ (a = b) → Xp 151 d 12 ls st t g Q)) := xr_if2 (cd := .eq) (off := 89) (by decide +kernel) (by decide)
theorem x_151_12 : Xp 151 d 12 [(2, x), v1, v2, v3, v4, v5] st t g Q = Xp 151 d 13 [(2, x), v1, v2, v3, v4, v5] ((2, x) :: st) t g Q := Xp_go (i := .aload_n 0) (len := 1) (by decide +kernel) rfl
theorem x_151_13 : Xp 151 (d + 1) 13 ls ((2, a0) :: st) t g Q = (hkJK a0 = 10 ∧ hkC8 st ∧ Xp 155 d 0 [(2, a0)] [] t g (fun r t g => Xp 151 (d + 1) 16 ls (hkPush r st) t g Q)) := xr_invV (idx := 259) (y' := 155) (ci := 10) (tg := [2]) (by decide +kernel) (by decide +kernel) (by decide +kernel) (by decide +kernel) rfl rfl rfl
theorem x_151_16 : Xp 151 d 16 ls st t g Q = Xp 151 d 18 ls ((0, 43) :: st) t g Q := xr_bi (c := 43) (by decide +kernel) (by decide)
theorem x_151_18 : Xp 151 d 18 ls ((0, b) :: (0, a) :: st) t g Q = ((a = b → Xp 151 d 30 ls st t g Q) ∧ (¬ (a = b) → Xp 151 d 21 ls st t g Q)) := xr_if2 (cd := .eq) (off := 12) (by decide +kernel) (by decide)
theorem x_151_21 : Xp 151 d 21 [(2, x), v1, v2, v3, v4, v5] st t g Q = Xp 151 d 22 [(2, x), v1, v2, v3, v4, v5] ((2, x) :: st) t g Q := Xp_go (i := .aload_n 0) (len := 1) (by decide +kernel) rfl
theorem x_151_22 : Xp 151 (d + 1) 22 ls ((2, a0) :: st) t g Q = (hkJK a0 = 10 ∧ hkC8 st ∧ Xp 155 d 0 [(2, a0)] [] t g (fun r t g => Xp 151 (d + 1) 25 ls (hkPush r st) t g Q)) := xr_invV (idx := 259) (y' := 155) (ci := 10) (tg := [2]) (by decide +kernel) (by decide +kernel) (by decide +kernel) (by decide +kernel) rfl rfl rfl
theorem x_151_25 : Xp 151 d 25 ls st t g Q = Xp 151 d 27 ls ((0, 45) :: st) t g Q := xr_bi (c := 45) (by decide +kernel) (by decide)
theorem x_151_27 : Xp 151 d 27 ls ((0, b) :: (0, a) :: st) t g Q = ((¬ (a = b) → Xp 151 d 98 ls st t g Q) ∧ (¬ (¬ (a = b)) → Xp 151 d 30 ls st t g Q)) := xr_if2 (cd := .ne) (off := 71) (by decide +kernel) (by decide)
theorem x_151_30 : Xp 151 d 30 [(2, x), v1, v2, v3, v4, v5] st t g Q = Xp 151 d 31 [(2, x), v1, v2, v3, v4, v5] ((2, x) :: st) t g Q := Xp_go (i := .aload_n 0) (len := 1) (by decide +kernel) rfl
theorem x_151_31 : Xp 151 (d + 1) 31 ls ((2, a0) :: st) t g Q = (hkJK a0 = 10 ∧ hkC8 st ∧ Xp 155 d 0 [(2, a0)] [] t g (fun r t g => Xp 151 (d + 1) 34 ls (hkPush r st) t g Q)) := xr_invV (idx := 259) (y' := 155) (ci := 10) (tg := [2]) (by decide +kernel) (by decide +kernel) (by decide +kernel) (by decide +kernel) rfl rfl rfl
theorem x_151_34 : Xp 151 d 34 ls st t g Q = Xp 151 d 36 ls ((0, 43) :: st) t g Q := xr_bi (c := 43) (by decide +kernel) (by decide)
theorem x_151_36 : Xp 151 d 36 ls ((0, b) :: (0, a) :: st) t g Q = ((¬ (a = b) → Xp 151 d 43 ls st t g Q) ∧ (¬ (¬ (a = b)) → Xp 151 d 39 ls st t g Q)) := xr_if2 (cd := .ne) (off := 7) (by decide +kernel) (by decide)
theorem x_151_39 : Xp 151 d 39 ls st t g Q = Xp 151 d 40 ls ((0, 1) :: st) t g Q := xr_const (c := 1) (by decide +kernel) (by decide)
theorem x_151_40 : Xp 151 d 40 ls st t g Q = Xp 151 d 44 ls st t g Q := xr_goto (off := 4) (by decide +kernel) (by decide)
theorem x_151_43 : Xp 151 d 43 ls st t g Q = Xp 151 d 44 ls ((0, -1) :: st) t g Q := xr_const (c := -1) (by decide +kernel) (by decide)
theorem x_151_44 : Xp 151 d 44 [v0, v1, v2, v3, v4, v5] ((0, x) :: st) t g Q = (hkP1 v3 ∧ Xp 151 d 46 [v0, v1, v2, v3, (0, x), v5] st t g Q) := Xp_chk (i := .istore 4) (len := 2) (by decide +kernel) rfl
theorem x_151_46 : Xp 151 d 46 [(2, x), v1, v2, v3, v4, v5] st t g Q = Xp 151 d 47 [(2, x), v1, v2, v3, v4, v5] ((2, x) :: st) t g Q := Xp_go (i := .aload_n 0) (len := 1) (by decide +kernel) rfl
theorem x_151_47 : Xp 151 d 47 ls (v :: st) t g Q = (hkP1 v ∧ Xp 151 d 48 ls (v :: v :: st) t g Q) := Xp_chk (i := .dup) (len := 1) (by decide +kernel) rfl
theorem x_151_48 : Xp 151 d 48 ls ((2, p) :: st) t g Q = (hkJK p = 10 ∧ Xp 151 d 51 ls ((0, g p 33) :: st) t g Q) := xr_getI (idx := 256) (ci := 10) (k := 33) (by decide +kernel) (by decide +kernel) (by decide +kernel)
theorem x_151_51 : Xp 151 d 51 ls st t g Q = Xp 151 d 52 ls ((0, 1) :: st) t g Q := xr_const (c := 1) (by decide +kernel) (by decide)
theorem x_151_52 : Xp 151 d 52 ls ((0, b) :: (0, a) :: st) t g Q = Xp 151 d 53 ls ((0, hkW (a + b)) :: st) t g Q := Xp_go (i := .iadd) (len := 1) (by decide +kernel) rfl
theorem x_151_53 : Xp 151 d 53 ls ((0, x) :: (2, p) :: st) t g Q = (hkJK p = 10 ∧ Xp 151 d 56 ls st t (hkSet g p 33 x) Q) := xr_putI (idx := 256) (ci := 10) (k := 33) (by decide +kernel) (by decide +kernel) (by decide +kernel)
theorem x_151_56 : Xp 151 d 56 [(2, x), v1, v2, v3, v4, v5] st t g Q = Xp 151 d 57 [(2, x), v1, v2, v3, v4, v5] ((2, x) :: st) t g Q := Xp_go (i := .aload_n 0) (len := 1) (by decide +kernel) rfl
theorem x_151_57 : Xp 151 d 57 [v0, (0, x), v2, v3, v4, v5] st t g Q = Xp 151 d 58 [v0, (0, x), v2, v3, v4, v5] ((0, x) :: st) t g Q := Xp_go (i := .iload_n 1) (len := 1) (by decide +kernel) rfl
theorem x_151_58 : Xp 151 d 58 ls st t g Q = Xp 151 d 59 ls ((0, 1) :: st) t g Q := xr_const (c := 1) (by decide +kernel) (by decide)
theorem x_151_59 : Xp 151 d 59 ls ((0, b) :: (0, a) :: st) t g Q = Xp 151 d 60 ls ((0, hkW (a + b)) :: st) t g Q := Xp_go (i := .iadd) (len := 1) (by decide +kernel) rfl
theorem x_151_60 : Xp 151 d 60 [v0, v1, (0, x), v3, v4, v5] st t g Q = Xp 151 d 61 [v0, v1, (0, x), v3, v4, v5] ((0, x) :: st) t g Q := Xp_go (i := .iload_n 2) (len := 1) (by decide +kernel) rfl
theorem x_151_61 : Xp 151 (d + 1) 61 ls ((0, a2) :: (0, a1) :: (2, a0) :: st) t g Q = (hkJK a0 = 10 ∧ hkC8 st ∧ Xp 152 d 0 [(2, a0), (0, a1), (0, a2), hkU, hkU] [] t g (fun r t g => Xp 151 (d + 1) 64 ls (hkPush r st) t g Q)) := xr_invV (idx := 286) (y' := 152) (ci := 10) (tg := [2, 0, 0]) (by decide +kernel) (by decide +kernel) (by decide +kernel) (by decide +kernel) rfl rfl rfl
theorem x_151_64 : Xp 151 d 64 [v0, v1, v2, v3, v4, v5] ((0, x) :: st) t g Q = (hkP1 v4 ∧ Xp 151 d 66 [v0, v1, v2, v3, v4, (0, x)] st t g Q) := Xp_chk (i := .istore 5) (len := 2) (by decide +kernel) rfl
theorem x_151_66 : Xp 151 d 66 [v0, v1, v2, v3, v4, (0, x)] st t g Q = Xp 151 d 68 [v0, v1, v2, v3, v4, (0, x)] ((0, x) :: st) t g Q := Xp_go (i := .iload 5) (len := 2) (by decide +kernel) rfl
theorem x_151_68 : Xp 151 d 68 ls st t g Q = Xp 151 d 69 ls ((0, -1) :: st) t g Q := xr_const (c := -1) (by decide +kernel) (by decide)
theorem x_151_69 : Xp 151 d 69 ls ((0, b) :: (0, a) :: st) t g Q = ((¬ (a = b) → Xp 151 d 74 ls st t g Q) ∧ (¬ (¬ (a = b)) → Xp 151 d 72 ls st t g Q)) := xr_if2 (cd := .ne) (off := 5) (by decide +kernel) (by decide)
theorem x_151_72 : Xp 151 d 72 ls st t g Q = Xp 151 d 73 ls ((0, -1) :: st) t g Q := xr_const (c := -1) (by decide +kernel) (by decide)
theorem x_151_73 : Xp 151 d 73 ls [(0, x)] t g Q = Q (some (0, x)) t g := xr_retI (by decide +kernel) (by decide +kernel)
theorem x_151_74 : Xp 151 d 74 [v0, v1, (0, x), v3, v4, v5] st t g Q = Xp 151 d 75 [v0, v1, (0, x), v3, v4, v5] ((0, x) :: st) t g Q := Xp_go (i := .iload_n 2) (len := 1) (by decide +kernel) rfl
theorem x_151_75 : Xp 151 d 75 ls ((0, a) :: st) t g Q = ((a = 0 → Xp 151 d 88 ls st t g Q) ∧ (¬ (a = 0) → Xp 151 d 78 ls st t g Q)) := xr_if1 (cd := .eq) (off := 13) (by decide +kernel) (by decide)
theorem x_151_78 : Xp 151 d 78 [(2, x), v1, v2, v3, v4, v5] st t g Q = Xp 151 d 79 [(2, x), v1, v2, v3, v4, v5] ((2, x) :: st) t g Q := Xp_go (i := .aload_n 0) (len := 1) (by decide +kernel) rfl
theorem x_151_79 : Xp 151 d 79 [v0, (0, x), v2, v3, v4, v5] st t g Q = Xp 151 d 80 [v0, (0, x), v2, v3, v4, v5] ((0, x) :: st) t g Q := Xp_go (i := .iload_n 1) (len := 1) (by decide +kernel) rfl
theorem x_151_80 : Xp 151 d 80 [v0, (0, x), v2, v3, v4, v5] st t g Q = Xp 151 d 81 [v0, (0, x), v2, v3, v4, v5] ((0, x) :: st) t g Q := Xp_go (i := .iload_n 1) (len := 1) (by decide +kernel) rfl
theorem x_151_81 : Xp 151 d 81 ls st t g Q = Xp 151 d 82 ls ((0, 1) :: st) t g Q := xr_const (c := 1) (by decide +kernel) (by decide)
theorem x_151_82 : Xp 151 d 82 ls ((0, b) :: (0, a) :: st) t g Q = Xp 151 d 83 ls ((0, hkW (a + b)) :: st) t g Q := Xp_go (i := .iadd) (len := 1) (by decide +kernel) rfl
theorem x_151_83 : Xp 151 d 83 [v0, v1, v2, v3, (0, x), v5] st t g Q = Xp 151 d 85 [v0, v1, v2, v3, (0, x), v5] ((0, x) :: st) t g Q := Xp_go (i := .iload 4) (len := 2) (by decide +kernel) rfl
theorem x_151_85 : Xp 151 (d + 1) 85 ls ((0, a3) :: (0, a2) :: (0, a1) :: (2, a0) :: st) t g Q = (hkJK a0 = 10 ∧ hkC8 st ∧ Xp 158 d 0 [(2, a0), (0, a1), (0, a2), (0, a3), hkU] [] t g (fun r t g => Xp 151 (d + 1) 88 ls (hkPush r st) t g Q)) := xr_invV (idx := 289) (y' := 158) (ci := 10) (tg := [2, 0, 0, 0]) (by decide +kernel) (by decide +kernel) (by decide +kernel) (by decide +kernel) rfl rfl rfl
theorem x_151_88 : Xp 151 d 88 ls st t g Q = Xp 151 d 89 ls ((0, 1) :: st) t g Q := xr_const (c := 1) (by decide +kernel) (by decide)
theorem x_151_89 : Xp 151 d 89 [v0, v1, v2, (0, x), v4, v5] st t g Q = Xp 151 d 90 [v0, v1, v2, (0, x), v4, v5] ((0, x) :: st) t g Q := Xp_go (i := .iload_n 3) (len := 1) (by decide +kernel) rfl
theorem x_151_90 : Xp 151 d 90 ls ((0, b) :: (0, a) :: st) t g Q = Xp 151 d 91 ls ((0, hkW (a + b)) :: st) t g Q := Xp_go (i := .iadd) (len := 1) (by decide +kernel) rfl
theorem x_151_91 : Xp 151 d 91 [v0, v1, v2, v3, v4, (0, x)] st t g Q = Xp 151 d 93 [v0, v1, v2, v3, v4, (0, x)] ((0, x) :: st) t g Q := Xp_go (i := .iload 5) (len := 2) (by decide +kernel) rfl
theorem x_151_93 : Xp 151 d 93 ls ((0, b) :: (0, a) :: st) t g Q = Xp 151 d 94 ls ((0, hkW (a + b)) :: st) t g Q := Xp_go (i := .iadd) (len := 1) (by decide +kernel) rfl
theorem x_151_94 : Xp 151 d 94 [v0, v1, v2, v3, v4, v5] ((0, x) :: st) t g Q = (hkP1 v2 ∧ Xp 151 d 95 [v0, v1, v2, (0, x), v4, v5] st t g Q) := Xp_chk (i := .istore_n 3) (len := 1) (by decide +kernel) rfl
theorem x_151_95 : Xp 151 d 95 ls st t g Q = Xp 151 d 7 ls st t g Q := xr_goto (off := -88) (by decide +kernel) (by decide)
theorem x_151_98 : Xp 151 d 98 [v0, v1, v2, (0, x), v4, v5] st t g Q = Xp 151 d 99 [v0, v1, v2, (0, x), v4, v5] ((0, x) :: st) t g Q := Xp_go (i := .iload_n 3) (len := 1) (by decide +kernel) rfl
theorem x_151_99 : Xp 151 d 99 ls [(0, x)] t g Q = Q (some (0, x)) t g := xr_retI (by decide +kernel) (by decide +kernel)
-- 152: HookBoxesModel.product(IZ)I
theorem x_152_0 : Xp 152 d 0 [(2, x), v1, v2, v3, v4] st t g Q = Xp 152 d 1 [(2, x), v1, v2, v3, v4] ((2, x) :: st) t g Q := Xp_go (i := .aload_n 0) (len := 1) (by decide +kernel) rfl
theorem x_152_1 : Xp 152 d 1 [v0, (0, x), v2, v3, v4] st t g Q = Xp 152 d 2 [v0, (0, x), v2, v3, v4] ((0, x) :: st) t g Q := Xp_go (i := .iload_n 1) (len := 1) (by decide +kernel) rfl
theorem x_152_2 : Xp 152 d 2 [v0, v1, (0, x), v3, v4] st t g Q = Xp 152 d 3 [v0, v1, (0, x), v3, v4] ((0, x) :: st) t g Q := Xp_go (i := .iload_n 2) (len := 1) (by decide +kernel) rfl
theorem x_152_3 : Xp 152 (d + 1) 3 ls ((0, a2) :: (0, a1) :: (2, a0) :: st) t g Q = (hkJK a0 = 10 ∧ hkC8 st ∧ Xp 153 d 0 [(2, a0), (0, a1), (0, a2), hkU, hkU, hkU] [] t g (fun r t g => Xp 152 (d + 1) 6 ls (hkPush r st) t g Q)) := xr_invV (idx := 283) (y' := 153) (ci := 10) (tg := [2, 0, 0]) (by decide +kernel) (by decide +kernel) (by decide +kernel) (by decide +kernel) rfl rfl rfl
theorem x_152_6 : Xp 152 d 6 [v0, v1, v2, v3, v4] ((0, x) :: st) t g Q = (hkP1 v2 ∧ Xp 152 d 7 [v0, v1, v2, (0, x), v4] st t g Q) := Xp_chk (i := .istore_n 3) (len := 1) (by decide +kernel) rfl
theorem x_152_7 : Xp 152 d 7 [v0, v1, v2, (0, x), v4] st t g Q = Xp 152 d 8 [v0, v1, v2, (0, x), v4] ((0, x) :: st) t g Q := Xp_go (i := .iload_n 3) (len := 1) (by decide +kernel) rfl
theorem x_152_8 : Xp 152 d 8 ls st t g Q = Xp 152 d 9 ls ((0, -1) :: st) t g Q := xr_const (c := -1) (by decide +kernel) (by decide)
theorem x_152_9 : Xp 152 d 9 ls ((0, b) :: (0, a) :: st) t g Q = ((a = b → Xp 152 d 73 ls st t g Q) ∧ (¬ (a = b) → Xp 152 d 12 ls st t g Q)) := xr_if2 (cd := .eq) (off := 64) (by decide +kernel) (by decide)
theorem x_152_12 : Xp 152 d 12 [(2, x), v1, v2, v3, v4] st t g Q = Xp 152 d 13 [(2, x), v1, v2, v3, v4] ((2, x) :: st) t g Q := Xp_go (i := .aload_n 0) (len := 1) (by decide +kernel) rfl
theorem x_152_13 : Xp 152 (d + 1) 13 ls ((2, a0) :: st) t g Q = (hkJK a0 = 10 ∧ hkC8 st ∧ Xp 155 d 0 [(2, a0)] [] t g (fun r t g => Xp 152 (d + 1) 16 ls (hkPush r st) t g Q)) := xr_invV (idx := 259) (y' := 155) (ci := 10) (tg := [2]) (by decide +kernel) (by decide +kernel) (by decide +kernel) (by decide +kernel) rfl rfl rfl
theorem x_152_16 : Xp 152 d 16 ls st t g Q = Xp 152 d 18 ls ((0, 42) :: st) t g Q := xr_bi (c := 42) (by decide +kernel) (by decide)
theorem x_152_18 : Xp 152 d 18 ls ((0, b) :: (0, a) :: st) t g Q = ((¬ (a = b) → Xp 152 d 73 ls st t g Q) ∧ (¬ (¬ (a = b)) → Xp 152 d 21 ls st t g Q)) := xr_if2 (cd := .ne) (off := 55) (by decide +kernel) (by decide)
theorem x_152_21 : Xp 152 d 21 [(2, x), v1, v2, v3, v4] st t g Q = Xp 152 d 22 [(2, x), v1, v2, v3, v4] ((2, x) :: st) t g Q := Xp_go (i := .aload_n 0) (len := 1) (by decide +kernel) rfl
theorem x_152_22 : Xp 152 d 22 ls (v :: st) t g Q = (hkP1 v ∧ Xp 152 d 23 ls (v :: v :: st) t g Q) := Xp_chk (i := .dup) (len := 1) (by decide +kernel) rfl
theorem x_152_23 : Xp 152 d 23 ls ((2, p) :: st) t g Q = (hkJK p = 10 ∧ Xp 152 d 26 ls ((0, g p 33) :: st) t g Q) := xr_getI (idx := 256) (ci := 10) (k := 33) (by decide +kernel) (by decide +kernel) (by decide +kernel)
theorem x_152_26 : Xp 152 d 26 ls st t g Q = Xp 152 d 27 ls ((0, 1) :: st) t g Q := xr_const (c := 1) (by decide +kernel) (by decide)
theorem x_152_27 : Xp 152 d 27 ls ((0, b) :: (0, a) :: st) t g Q = Xp 152 d 28 ls ((0, hkW (a + b)) :: st) t g Q := Xp_go (i := .iadd) (len := 1) (by decide +kernel) rfl
theorem x_152_28 : Xp 152 d 28 ls ((0, x) :: (2, p) :: st) t g Q = (hkJK p = 10 ∧ Xp 152 d 31 ls st t (hkSet g p 33 x) Q) := xr_putI (idx := 256) (ci := 10) (k := 33) (by decide +kernel) (by decide +kernel) (by decide +kernel)
theorem x_152_31 : Xp 152 d 31 [(2, x), v1, v2, v3, v4] st t g Q = Xp 152 d 32 [(2, x), v1, v2, v3, v4] ((2, x) :: st) t g Q := Xp_go (i := .aload_n 0) (len := 1) (by decide +kernel) rfl
theorem x_152_32 : Xp 152 d 32 [v0, (0, x), v2, v3, v4] st t g Q = Xp 152 d 33 [v0, (0, x), v2, v3, v4] ((0, x) :: st) t g Q := Xp_go (i := .iload_n 1) (len := 1) (by decide +kernel) rfl
theorem x_152_33 : Xp 152 d 33 ls st t g Q = Xp 152 d 34 ls ((0, 1) :: st) t g Q := xr_const (c := 1) (by decide +kernel) (by decide)
theorem x_152_34 : Xp 152 d 34 ls ((0, b) :: (0, a) :: st) t g Q = Xp 152 d 35 ls ((0, hkW (a + b)) :: st) t g Q := Xp_go (i := .iadd) (len := 1) (by decide +kernel) rfl
theorem x_152_35 : Xp 152 d 35 [v0, v1, (0, x), v3, v4] st t g Q = Xp 152 d 36 [v0, v1, (0, x), v3, v4] ((0, x) :: st) t g Q := Xp_go (i := .iload_n 2) (len := 1) (by decide +kernel) rfl
theorem x_152_36 : Xp 152 (d + 1) 36 ls ((0, a2) :: (0, a1) :: (2, a0) :: st) t g Q = (hkJK a0 = 10 ∧ hkC8 st ∧ Xp 153 d 0 [(2, a0), (0, a1), (0, a2), hkU, hkU, hkU] [] t g (fun r t g => Xp 152 (d + 1) 39 ls (hkPush r st) t g Q)) := xr_invV (idx := 283) (y' := 153) (ci := 10) (tg := [2, 0, 0]) (by decide +kernel) (by decide +kernel) (by decide +kernel) (by decide +kernel) rfl rfl rfl
theorem x_152_39 : Xp 152 d 39 [v0, v1, v2, v3, v4] ((0, x) :: st) t g Q = (hkP1 v3 ∧ Xp 152 d 41 [v0, v1, v2, v3, (0, x)] st t g Q) := Xp_chk (i := .istore 4) (len := 2) (by decide +kernel) rfl
theorem x_152_41 : Xp 152 d 41 [v0, v1, v2, v3, (0, x)] st t g Q = Xp 152 d 43 [v0, v1, v2, v3, (0, x)] ((0, x) :: st) t g Q := Xp_go (i := .iload 4) (len := 2) (by decide +kernel) rfl
theorem x_152_43 : Xp 152 d 43 ls st t g Q = Xp 152 d 44 ls ((0, -1) :: st) t g Q := xr_const (c := -1) (by decide +kernel) (by decide)
theorem x_152_44 : Xp 152 d 44 ls ((0, b) :: (0, a) :: st) t g Q = ((¬ (a = b) → Xp 152 d 49 ls st t g Q) ∧ (¬ (¬ (a = b)) → Xp 152 d 47 ls st t g Q)) := xr_if2 (cd := .ne) (off := 5) (by decide +kernel) (by decide)
theorem x_152_47 : Xp 152 d 47 ls st t g Q = Xp 152 d 48 ls ((0, -1) :: st) t g Q := xr_const (c := -1) (by decide +kernel) (by decide)
theorem x_152_48 : Xp 152 d 48 ls [(0, x)] t g Q = Q (some (0, x)) t g := xr_retI (by decide +kernel) (by decide +kernel)
theorem x_152_49 : Xp 152 d 49 [v0, v1, (0, x), v3, v4] st t g Q = Xp 152 d 50 [v0, v1, (0, x), v3, v4] ((0, x) :: st) t g Q := Xp_go (i := .iload_n 2) (len := 1) (by decide +kernel) rfl
theorem x_152_50 : Xp 152 d 50 ls ((0, a) :: st) t g Q = ((a = 0 → Xp 152 d 61 ls st t g Q) ∧ (¬ (a = 0) → Xp 152 d 53 ls st t g Q)) := xr_if1 (cd := .eq) (off := 11) (by decide +kernel) (by decide)
theorem x_152_53 : Xp 152 d 53 [(2, x), v1, v2, v3, v4] st t g Q = Xp 152 d 54 [(2, x), v1, v2, v3, v4] ((2, x) :: st) t g Q := Xp_go (i := .aload_n 0) (len := 1) (by decide +kernel) rfl
theorem x_152_54 : Xp 152 d 54 [v0, (0, x), v2, v3, v4] st t g Q = Xp 152 d 55 [v0, (0, x), v2, v3, v4] ((0, x) :: st) t g Q := Xp_go (i := .iload_n 1) (len := 1) (by decide +kernel) rfl
theorem x_152_55 : Xp 152 d 55 [v0, (0, x), v2, v3, v4] st t g Q = Xp 152 d 56 [v0, (0, x), v2, v3, v4] ((0, x) :: st) t g Q := Xp_go (i := .iload_n 1) (len := 1) (by decide +kernel) rfl
theorem x_152_56 : Xp 152 d 56 ls st t g Q = Xp 152 d 57 ls ((0, 1) :: st) t g Q := xr_const (c := 1) (by decide +kernel) (by decide)
theorem x_152_57 : Xp 152 d 57 ls ((0, b) :: (0, a) :: st) t g Q = Xp 152 d 58 ls ((0, hkW (a + b)) :: st) t g Q := Xp_go (i := .iadd) (len := 1) (by decide +kernel) rfl
theorem x_152_58 : Xp 152 (d + 1) 58 ls ((0, a2) :: (0, a1) :: (2, a0) :: st) t g Q = (hkJK a0 = 10 ∧ hkC8 st ∧ Xp 144 d 0 [(2, a0), (0, a1), (0, a2), hkU, hkU, hkU, hkU, hkU, hkU] [] t g (fun r t g => Xp 152 (d + 1) 61 ls (hkPush r st) t g Q)) := xr_invV (idx := 244) (y' := 144) (ci := 10) (tg := [2, 0, 0]) (by decide +kernel) (by decide +kernel) (by decide +kernel) (by decide +kernel) rfl rfl rfl
theorem x_152_61 : Xp 152 d 61 ls st t g Q = Xp 152 d 62 ls ((0, 1) :: st) t g Q := xr_const (c := 1) (by decide +kernel) (by decide)
theorem x_152_62 : Xp 152 d 62 [v0, v1, v2, (0, x), v4] st t g Q = Xp 152 d 63 [v0, v1, v2, (0, x), v4] ((0, x) :: st) t g Q := Xp_go (i := .iload_n 3) (len := 1) (by decide +kernel) rfl
theorem x_152_63 : Xp 152 d 63 [v0, v1, v2, v3, (0, x)] st t g Q = Xp 152 d 65 [v0, v1, v2, v3, (0, x)] ((0, x) :: st) t g Q := Xp_go (i := .iload 4) (len := 2) (by decide +kernel) rfl
theorem x_152_65 : Xp 152 (d + 1) 65 ls ((0, a1) :: (0, a0) :: st) t g Q = (hkC8 st ∧ Xp 175 d 0 [(0, a0), (0, a1)] [] t g (fun r t g => Xp 152 (d + 1) 68 ls (hkPush r st) t g Q)) := xr_invS (idx := 186) (y' := 175) (tg := [0, 0]) (by decide +kernel) (by decide +kernel) (by decide +kernel) rfl rfl
theorem x_152_68 : Xp 152 d 68 ls ((0, b) :: (0, a) :: st) t g Q = Xp 152 d 69 ls ((0, hkW (a + b)) :: st) t g Q := Xp_go (i := .iadd) (len := 1) (by decide +kernel) rfl
theorem x_152_69 : Xp 152 d 69 [v0, v1, v2, v3, v4] ((0, x) :: st) t g Q = (hkP1 v2 ∧ Xp 152 d 70 [v0, v1, v2, (0, x), v4] st t g Q) := Xp_chk (i := .istore_n 3) (len := 1) (by decide +kernel) rfl
theorem x_152_70 : Xp 152 d 70 ls st t g Q = Xp 152 d 7 ls st t g Q := xr_goto (off := -63) (by decide +kernel) (by decide)
theorem x_152_73 : Xp 152 d 73 [v0, v1, v2, (0, x), v4] st t g Q = Xp 152 d 74 [v0, v1, v2, (0, x), v4] ((0, x) :: st) t g Q := Xp_go (i := .iload_n 3) (len := 1) (by decide +kernel) rfl
theorem x_152_74 : Xp 152 d 74 ls [(0, x)] t g Q = Q (some (0, x)) t g := xr_retI (by decide +kernel) (by decide +kernel)
-- 153: HookBoxesModel.one(IZ)I
theorem x_153_0 : Xp 153 d 0 [(2, x), v1, v2, v3, v4, v5] st t g Q = Xp 153 d 1 [(2, x), v1, v2, v3, v4, v5] ((2, x) :: st) t g Q := Xp_go (i := .aload_n 0) (len := 1) (by decide +kernel) rfl
theorem x_153_1 : Xp 153 d 1 ls ((2, p) :: st) t g Q = (hkJK p = 10 ∧ Xp 153 d 4 ls ((0, g p 33) :: st) t g Q) := xr_getI (idx := 256) (ci := 10) (k := 33) (by decide +kernel) (by decide +kernel) (by decide +kernel)
theorem x_153_4 : Xp 153 d 4 [v0, v1, v2, v3, v4, v5] ((0, x) :: st) t g Q = (hkP1 v2 ∧ Xp 153 d 5 [v0, v1, v2, (0, x), v4, v5] st t g Q) := Xp_chk (i := .istore_n 3) (len := 1) (by decide +kernel) rfl
theorem x_153_5 : Xp 153 d 5 [(2, x), v1, v2, v3, v4, v5] st t g Q = Xp 153 d 6 [(2, x), v1, v2, v3, v4, v5] ((2, x) :: st) t g Q := Xp_go (i := .aload_n 0) (len := 1) (by decide +kernel) rfl
theorem x_153_6 : Xp 153 (d + 1) 6 ls ((2, a0) :: st) t g Q = (hkJK a0 = 10 ∧ hkC8 st ∧ Xp 154 d 0 [(2, a0)] [] t g (fun r t g => Xp 153 (d + 1) 9 ls (hkPush r st) t g Q)) := xr_invV (idx := 266) (y' := 154) (ci := 10) (tg := [2]) (by decide +kernel) (by decide +kernel) (by decide +kernel) (by decide +kernel) rfl rfl rfl
theorem x_153_9 : Xp 153 d 9 ls ((0, a) :: st) t g Q = ((a = 0 → Xp 153 d 38 ls st t g Q) ∧ (¬ (a = 0) → Xp 153 d 12 ls st t g Q)) := xr_if1 (cd := .eq) (off := 29) (by decide +kernel) (by decide)
theorem x_153_12 : Xp 153 d 12 [(2, x), v1, v2, v3, v4, v5] st t g Q = Xp 153 d 13 [(2, x), v1, v2, v3, v4, v5] ((2, x) :: st) t g Q := Xp_go (i := .aload_n 0) (len := 1) (by decide +kernel) rfl
theorem x_153_13 : Xp 153 d 13 [(2, x), v1, v2, v3, v4, v5] st t g Q = Xp 153 d 14 [(2, x), v1, v2, v3, v4, v5] ((2, x) :: st) t g Q := Xp_go (i := .aload_n 0) (len := 1) (by decide +kernel) rfl
theorem x_153_14 : Xp 153 d 14 ls st t g Q = Xp 153 d 15 ls ((0, 4) :: st) t g Q := xr_const (c := 4) (by decide +kernel) (by decide)
theorem x_153_15 : Xp 153 (d + 1) 15 ls ((0, a1) :: (2, a0) :: st) t g Q = (hkJK a0 = 10 ∧ hkC8 st ∧ Xp 156 d 0 [(2, a0), (0, a1), hkU] [] t g (fun r t g => Xp 153 (d + 1) 18 ls (hkPush r st) t g Q)) := xr_invV (idx := 270) (y' := 156) (ci := 10) (tg := [2, 0]) (by decide +kernel) (by decide +kernel) (by decide +kernel) (by decide +kernel) rfl rfl rfl
theorem x_153_18 : Xp 153 (d + 1) 18 ls ((0, a1) :: (2, a0) :: st) t g Q = (hkJK a0 = 10 ∧ hkC8 st ∧ Xp 157 d 0 [(2, a0), (0, a1), hkU, hkU] [] t g (fun r t g => Xp 153 (d + 1) 21 ls (hkPush r st) t g Q)) := xr_invV (idx := 273) (y' := 157) (ci := 10) (tg := [2, 0]) (by decide +kernel) (by decide +kernel) (by decide +kernel) (by decide +kernel) rfl rfl rfl
theorem x_153_21 : Xp 153 d 21 [v0, v1, v2, v3, v4, v5] ((0, x) :: st) t g Q = (hkP1 v3 ∧ Xp 153 d 23 [v0, v1, v2, v3, (0, x), v5] st t g Q) := Xp_chk (i := .istore 4) (len := 2) (by decide +kernel) rfl
theorem x_153_23 : Xp 153 d 23 [v0, v1, (0, x), v3, v4, v5] st t g Q = Xp 153 d 24 [v0, v1, (0, x), v3, v4, v5] ((0, x) :: st) t g Q := Xp_go (i := .iload_n 2) (len := 1) (by decide +kernel) rfl
theorem x_153_24 : Xp 153 d 24 ls ((0, a) :: st) t g Q = ((a = 0 → Xp 153 d 36 ls st t g Q) ∧ (¬ (a = 0) → Xp 153 d 27 ls st t g Q)) := xr_if1 (cd := .eq) (off := 12) (by decide +kernel) (by decide)
theorem x_153_27 : Xp 153 d 27 [(2, x), v1, v2, v3, v4, v5] st t g Q = Xp 153 d 28 [(2, x), v1, v2, v3, v4, v5] ((2, x) :: st) t g Q := Xp_go (i := .aload_n 0) (len := 1) (by decide +kernel) rfl
theorem x_153_28 : Xp 153 d 28 [v0, (0, x), v2, v3, v4, v5] st t g Q = Xp 153 d 29 [v0, (0, x), v2, v3, v4, v5] ((0, x) :: st) t g Q := Xp_go (i := .iload_n 1) (len := 1) (by decide +kernel) rfl
theorem x_153_29 : Xp 153 d 29 ls st t g Q = Xp 153 d 30 ls ((0, 0) :: st) t g Q := xr_const (c := 0) (by decide +kernel) (by decide)
theorem x_153_30 : Xp 153 d 30 ls st t g Q = Xp 153 d 31 ls ((0, 0) :: st) t g Q := xr_const (c := 0) (by decide +kernel) (by decide)
theorem x_153_31 : Xp 153 d 31 [v0, v1, v2, v3, (0, x), v5] st t g Q = Xp 153 d 33 [v0, v1, v2, v3, (0, x), v5] ((0, x) :: st) t g Q := Xp_go (i := .iload 4) (len := 2) (by decide +kernel) rfl
theorem x_153_33 : Xp 153 (d + 1) 33 ls ((0, a4) :: (0, a3) :: (0, a2) :: (0, a1) :: (2, a0) :: st) t g Q = (hkJK a0 = 10 ∧ hkC8 st ∧ Xp 143 d 0 [(2, a0), (0, a1), (0, a2), (0, a3), (0, a4), hkU] [] t g (fun r t g => Xp 153 (d + 1) 36 ls (hkPush r st) t g Q)) := xr_invV (idx := 241) (y' := 143) (ci := 10) (tg := [2, 0, 0, 0, 0]) (by decide +kernel) (by decide +kernel) (by decide +kernel) (by decide +kernel) rfl rfl rfl
theorem x_153_36 : Xp 153 d 36 ls st t g Q = Xp 153 d 37 ls ((0, 1) :: st) t g Q := xr_const (c := 1) (by decide +kernel) (by decide)
theorem x_153_37 : Xp 153 d 37 ls [(0, x)] t g Q = Q (some (0, x)) t g := xr_retI (by decide +kernel) (by decide +kernel)
theorem x_153_38 : Xp 153 d 38 [(2, x), v1, v2, v3, v4, v5] st t g Q = Xp 153 d 39 [(2, x), v1, v2, v3, v4, v5] ((2, x) :: st) t g Q := Xp_go (i := .aload_n 0) (len := 1) (by decide +kernel) rfl
theorem x_153_39 : Xp 153 (d + 1) 39 ls ((2, a0) :: st) t g Q = (hkJK a0 = 10 ∧ hkC8 st ∧ Xp 155 d 0 [(2, a0)] [] t g (fun r t g => Xp 153 (d + 1) 42 ls (hkPush r st) t g Q)) := xr_invV (idx := 259) (y' := 155) (ci := 10) (tg := [2]) (by decide +kernel) (by decide +kernel) (by decide +kernel) (by decide +kernel) rfl rfl rfl
theorem x_153_42 : Xp 153 d 42 ls st t g Q = Xp 153 d 44 ls ((0, 40) :: st) t g Q := xr_bi (c := 40) (by decide +kernel) (by decide)
theorem x_153_44 : Xp 153 d 44 ls ((0, b) :: (0, a) :: st) t g Q = ((¬ (a = b) → Xp 153 d 123 ls st t g Q) ∧ (¬ (¬ (a = b)) → Xp 153 d 47 ls st t g Q)) := xr_if2 (cd := .ne) (off := 79) (by decide +kernel) (by decide)
theorem x_153_47 : Xp 153 d 47 [(2, x), v1, v2, v3, v4, v5] st t g Q = Xp 153 d 48 [(2, x), v1, v2, v3, v4, v5] ((2, x) :: st) t g Q := Xp_go (i := .aload_n 0) (len := 1) (by decide +kernel) rfl
theorem x_153_48 : Xp 153 d 48 ls ((2, p) :: st) t g Q = (hkJK p = 10 ∧ Xp 153 d 51 ls ((0, g p 34) :: st) t g Q) := xr_getI (idx := 276) (ci := 10) (k := 34) (by decide +kernel) (by decide +kernel) (by decide +kernel)
theorem x_153_51 : Xp 153 d 51 ls st t g Q = Xp 153 d 52 ls ((0, 4) :: st) t g Q := xr_const (c := 4) (by decide +kernel) (by decide)
theorem x_153_52 : Xp 153 d 52 ls ((0, b) :: (0, a) :: st) t g Q = ((b ≤ a → Xp 153 d 123 ls st t g Q) ∧ (¬ (b ≤ a) → Xp 153 d 55 ls st t g Q)) := xr_if2 (cd := .ge) (off := 71) (by decide +kernel) (by decide)
theorem x_153_55 : Xp 153 d 55 [(2, x), v1, v2, v3, v4, v5] st t g Q = Xp 153 d 56 [(2, x), v1, v2, v3, v4, v5] ((2, x) :: st) t g Q := Xp_go (i := .aload_n 0) (len := 1) (by decide +kernel) rfl
theorem x_153_56 : Xp 153 d 56 ls (v :: st) t g Q = (hkP1 v ∧ Xp 153 d 57 ls (v :: v :: st) t g Q) := Xp_chk (i := .dup) (len := 1) (by decide +kernel) rfl
theorem x_153_57 : Xp 153 d 57 ls ((2, p) :: st) t g Q = (hkJK p = 10 ∧ Xp 153 d 60 ls ((0, g p 34) :: st) t g Q) := xr_getI (idx := 276) (ci := 10) (k := 34) (by decide +kernel) (by decide +kernel) (by decide +kernel)
theorem x_153_60 : Xp 153 d 60 ls st t g Q = Xp 153 d 61 ls ((0, 1) :: st) t g Q := xr_const (c := 1) (by decide +kernel) (by decide)
theorem x_153_61 : Xp 153 d 61 ls ((0, b) :: (0, a) :: st) t g Q = Xp 153 d 62 ls ((0, hkW (a + b)) :: st) t g Q := Xp_go (i := .iadd) (len := 1) (by decide +kernel) rfl
theorem x_153_62 : Xp 153 d 62 ls ((0, x) :: (2, p) :: st) t g Q = (hkJK p = 10 ∧ Xp 153 d 65 ls st t (hkSet g p 34 x) Q) := xr_putI (idx := 276) (ci := 10) (k := 34) (by decide +kernel) (by decide +kernel) (by decide +kernel)
theorem x_153_65 : Xp 153 d 65 [(2, x), v1, v2, v3, v4, v5] st t g Q = Xp 153 d 66 [(2, x), v1, v2, v3, v4, v5] ((2, x) :: st) t g Q := Xp_go (i := .aload_n 0) (len := 1) (by decide +kernel) rfl
theorem x_153_66 : Xp 153 d 66 ls (v :: st) t g Q = (hkP1 v ∧ Xp 153 d 67 ls (v :: v :: st) t g Q) := Xp_chk (i := .dup) (len := 1) (by decide +kernel) rfl
theorem x_153_67 : Xp 153 d 67 ls ((2, p) :: st) t g Q = (hkJK p = 10 ∧ Xp 153 d 70 ls ((0, g p 33) :: st) t g Q) := xr_getI (idx := 256) (ci := 10) (k := 33) (by decide +kernel) (by decide +kernel) (by decide +kernel)
theorem x_153_70 : Xp 153 d 70 ls st t g Q = Xp 153 d 71 ls ((0, 1) :: st) t g Q := xr_const (c := 1) (by decide +kernel) (by decide)
theorem x_153_71 : Xp 153 d 71 ls ((0, b) :: (0, a) :: st) t g Q = Xp 153 d 72 ls ((0, hkW (a + b)) :: st) t g Q := Xp_go (i := .iadd) (len := 1) (by decide +kernel) rfl
theorem x_153_72 : Xp 153 d 72 ls ((0, x) :: (2, p) :: st) t g Q = (hkJK p = 10 ∧ Xp 153 d 75 ls st t (hkSet g p 33 x) Q) := xr_putI (idx := 256) (ci := 10) (k := 33) (by decide +kernel) (by decide +kernel) (by decide +kernel)
theorem x_153_75 : Xp 153 d 75 [(2, x), v1, v2, v3, v4, v5] st t g Q = Xp 153 d 76 [(2, x), v1, v2, v3, v4, v5] ((2, x) :: st) t g Q := Xp_go (i := .aload_n 0) (len := 1) (by decide +kernel) rfl
theorem x_153_76 : Xp 153 d 76 [v0, (0, x), v2, v3, v4, v5] st t g Q = Xp 153 d 77 [v0, (0, x), v2, v3, v4, v5] ((0, x) :: st) t g Q := Xp_go (i := .iload_n 1) (len := 1) (by decide +kernel) rfl
theorem x_153_77 : Xp 153 d 77 [v0, v1, (0, x), v3, v4, v5] st t g Q = Xp 153 d 78 [v0, v1, (0, x), v3, v4, v5] ((0, x) :: st) t g Q := Xp_go (i := .iload_n 2) (len := 1) (by decide +kernel) rfl
theorem x_153_78 : Xp 153 (d + 1) 78 ls ((0, a2) :: (0, a1) :: (2, a0) :: st) t g Q = (hkJK a0 = 10 ∧ hkC8 st ∧ Xp 151 d 0 [(2, a0), (0, a1), (0, a2), hkU, hkU, hkU] [] t g (fun r t g => Xp 153 (d + 1) 81 ls (hkPush r st) t g Q)) := xr_invV (idx := 279) (y' := 151) (ci := 10) (tg := [2, 0, 0]) (by decide +kernel) (by decide +kernel) (by decide +kernel) (by decide +kernel) rfl rfl rfl
theorem x_153_81 : Xp 153 d 81 [v0, v1, v2, v3, v4, v5] ((0, x) :: st) t g Q = (hkP1 v3 ∧ Xp 153 d 83 [v0, v1, v2, v3, (0, x), v5] st t g Q) := Xp_chk (i := .istore 4) (len := 2) (by decide +kernel) rfl
theorem x_153_83 : Xp 153 d 83 [v0, v1, v2, v3, (0, x), v5] st t g Q = Xp 153 d 85 [v0, v1, v2, v3, (0, x), v5] ((0, x) :: st) t g Q := Xp_go (i := .iload 4) (len := 2) (by decide +kernel) rfl
theorem x_153_85 : Xp 153 d 85 ls st t g Q = Xp 153 d 86 ls ((0, -1) :: st) t g Q := xr_const (c := -1) (by decide +kernel) (by decide)
theorem x_153_86 : Xp 153 d 86 ls ((0, b) :: (0, a) :: st) t g Q = ((a = b → Xp 153 d 98 ls st t g Q) ∧ (¬ (a = b) → Xp 153 d 89 ls st t g Q)) := xr_if2 (cd := .eq) (off := 12) (by decide +kernel) (by decide)
theorem x_153_89 : Xp 153 d 89 [(2, x), v1, v2, v3, v4, v5] st t g Q = Xp 153 d 90 [(2, x), v1, v2, v3, v4, v5] ((2, x) :: st) t g Q := Xp_go (i := .aload_n 0) (len := 1) (by decide +kernel) rfl
theorem x_153_90 : Xp 153 (d + 1) 90 ls ((2, a0) :: st) t g Q = (hkJK a0 = 10 ∧ hkC8 st ∧ Xp 155 d 0 [(2, a0)] [] t g (fun r t g => Xp 153 (d + 1) 93 ls (hkPush r st) t g Q)) := xr_invV (idx := 259) (y' := 155) (ci := 10) (tg := [2]) (by decide +kernel) (by decide +kernel) (by decide +kernel) (by decide +kernel) rfl rfl rfl
theorem x_153_93 : Xp 153 d 93 ls st t g Q = Xp 153 d 95 ls ((0, 41) :: st) t g Q := xr_bi (c := 41) (by decide +kernel) (by decide)
theorem x_153_95 : Xp 153 d 95 ls ((0, b) :: (0, a) :: st) t g Q = ((a = b → Xp 153 d 100 ls st t g Q) ∧ (¬ (a = b) → Xp 153 d 98 ls st t g Q)) := xr_if2 (cd := .eq) (off := 5) (by decide +kernel) (by decide)
theorem x_153_98 : Xp 153 d 98 ls st t g Q = Xp 153 d 99 ls ((0, -1) :: st) t g Q := xr_const (c := -1) (by decide +kernel) (by decide)
theorem x_153_99 : Xp 153 d 99 ls [(0, x)] t g Q = Q (some (0, x)) t g := xr_retI (by decide +kernel) (by decide +kernel)
theorem x_153_100 : Xp 153 d 100 [(2, x), v1, v2, v3, v4, v5] st t g Q = Xp 153 d 101 [(2, x), v1, v2, v3, v4, v5] ((2, x) :: st) t g Q := Xp_go (i := .aload_n 0) (len := 1) (by decide +kernel) rfl
theorem x_153_101 : Xp 153 d 101 ls (v :: st) t g Q = (hkP1 v ∧ Xp 153 d 102 ls (v :: v :: st) t g Q) := Xp_chk (i := .dup) (len := 1) (by decide +kernel) rfl
theorem x_153_102 : Xp 153 d 102 ls ((2, p) :: st) t g Q = (hkJK p = 10 ∧ Xp 153 d 105 ls ((0, g p 34) :: st) t g Q) := xr_getI (idx := 276) (ci := 10) (k := 34) (by decide +kernel) (by decide +kernel) (by decide +kernel)
theorem x_153_105 : Xp 153 d 105 ls st t g Q = Xp 153 d 106 ls ((0, 1) :: st) t g Q := xr_const (c := 1) (by decide +kernel) (by decide)
theorem x_153_106 : Xp 153 d 106 ls ((0, b) :: (0, a) :: st) t g Q = Xp 153 d 107 ls ((0, hkW (a - b)) :: st) t g Q := Xp_go (i := .isub) (len := 1) (by decide +kernel) rfl
theorem x_153_107 : Xp 153 d 107 ls ((0, x) :: (2, p) :: st) t g Q = (hkJK p = 10 ∧ Xp 153 d 110 ls st t (hkSet g p 34 x) Q) := xr_putI (idx := 276) (ci := 10) (k := 34) (by decide +kernel) (by decide +kernel) (by decide +kernel)
theorem x_153_110 : Xp 153 d 110 [(2, x), v1, v2, v3, v4, v5] st t g Q = Xp 153 d 111 [(2, x), v1, v2, v3, v4, v5] ((2, x) :: st) t g Q := Xp_go (i := .aload_n 0) (len := 1) (by decide +kernel) rfl
theorem x_153_111 : Xp 153 d 111 ls (v :: st) t g Q = (hkP1 v ∧ Xp 153 d 112 ls (v :: v :: st) t g Q) := Xp_chk (i := .dup) (len := 1) (by decide +kernel) rfl
theorem x_153_112 : Xp 153 d 112 ls ((2, p) :: st) t g Q = (hkJK p = 10 ∧ Xp 153 d 115 ls ((0, g p 33) :: st) t g Q) := xr_getI (idx := 256) (ci := 10) (k := 33) (by decide +kernel) (by decide +kernel) (by decide +kernel)
theorem x_153_115 : Xp 153 d 115 ls st t g Q = Xp 153 d 116 ls ((0, 1) :: st) t g Q := xr_const (c := 1) (by decide +kernel) (by decide)
theorem x_153_116 : Xp 153 d 116 ls ((0, b) :: (0, a) :: st) t g Q = Xp 153 d 117 ls ((0, hkW (a + b)) :: st) t g Q := Xp_go (i := .iadd) (len := 1) (by decide +kernel) rfl
theorem x_153_117 : Xp 153 d 117 ls ((0, x) :: (2, p) :: st) t g Q = (hkJK p = 10 ∧ Xp 153 d 120 ls st t (hkSet g p 33 x) Q) := xr_putI (idx := 256) (ci := 10) (k := 33) (by decide +kernel) (by decide +kernel) (by decide +kernel)
theorem x_153_120 : Xp 153 d 120 [v0, v1, v2, v3, (0, x), v5] st t g Q = Xp 153 d 122 [v0, v1, v2, v3, (0, x), v5] ((0, x) :: st) t g Q := Xp_go (i := .iload 4) (len := 2) (by decide +kernel) rfl
theorem x_153_122 : Xp 153 d 122 ls [(0, x)] t g Q = Q (some (0, x)) t g := xr_retI (by decide +kernel) (by decide +kernel)
theorem x_153_123 : Xp 153 d 123 [(2, x), v1, v2, v3, v4, v5] st t g Q = Xp 153 d 124 [(2, x), v1, v2, v3, v4, v5] ((2, x) :: st) t g Q := Xp_go (i := .aload_n 0) (len := 1) (by decide +kernel) rfl
theorem x_153_124 : Xp 153 (d + 1) 124 ls ((2, a0) :: st) t g Q = (hkJK a0 = 10 ∧ hkC8 st ∧ Xp 155 d 0 [(2, a0)] [] t g (fun r t g => Xp 153 (d + 1) 127 ls (hkPush r st) t g Q)) := xr_invV (idx := 259) (y' := 155) (ci := 10) (tg := [2]) (by decide +kernel) (by decide +kernel) (by decide +kernel) (by decide +kernel) rfl rfl rfl
theorem x_153_127 : Xp 153 d 127 ls st t g Q = Xp 153 d 129 ls ((0, 113) :: st) t g Q := xr_bi (c := 113) (by decide +kernel) (by decide)
theorem x_153_129 : Xp 153 d 129 ls ((0, b) :: (0, a) :: st) t g Q = ((¬ (a = b) → Xp 153 d 156 ls st t g Q) ∧ (¬ (¬ (a = b)) → Xp 153 d 132 ls st t g Q)) := xr_if2 (cd := .ne) (off := 27) (by decide +kernel) (by decide)
theorem x_153_132 : Xp 153 d 132 [(2, x), v1, v2, v3, v4, v5] st t g Q = Xp 153 d 133 [(2, x), v1, v2, v3, v4, v5] ((2, x) :: st) t g Q := Xp_go (i := .aload_n 0) (len := 1) (by decide +kernel) rfl
theorem x_153_133 : Xp 153 d 133 ls (v :: st) t g Q = (hkP1 v ∧ Xp 153 d 134 ls (v :: v :: st) t g Q) := Xp_chk (i := .dup) (len := 1) (by decide +kernel) rfl
theorem x_153_134 : Xp 153 d 134 ls ((2, p) :: st) t g Q = (hkJK p = 10 ∧ Xp 153 d 137 ls ((0, g p 33) :: st) t g Q) := xr_getI (idx := 256) (ci := 10) (k := 33) (by decide +kernel) (by decide +kernel) (by decide +kernel)
theorem x_153_137 : Xp 153 d 137 ls st t g Q = Xp 153 d 138 ls ((0, 1) :: st) t g Q := xr_const (c := 1) (by decide +kernel) (by decide)
theorem x_153_138 : Xp 153 d 138 ls ((0, b) :: (0, a) :: st) t g Q = Xp 153 d 139 ls ((0, hkW (a + b)) :: st) t g Q := Xp_go (i := .iadd) (len := 1) (by decide +kernel) rfl
theorem x_153_139 : Xp 153 d 139 ls ((0, x) :: (2, p) :: st) t g Q = (hkJK p = 10 ∧ Xp 153 d 142 ls st t (hkSet g p 33 x) Q) := xr_putI (idx := 256) (ci := 10) (k := 33) (by decide +kernel) (by decide +kernel) (by decide +kernel)
theorem x_153_142 : Xp 153 d 142 [v0, v1, (0, x), v3, v4, v5] st t g Q = Xp 153 d 143 [v0, v1, (0, x), v3, v4, v5] ((0, x) :: st) t g Q := Xp_go (i := .iload_n 2) (len := 1) (by decide +kernel) rfl
theorem x_153_143 : Xp 153 d 143 ls ((0, a) :: st) t g Q = ((a = 0 → Xp 153 d 154 ls st t g Q) ∧ (¬ (a = 0) → Xp 153 d 146 ls st t g Q)) := xr_if1 (cd := .eq) (off := 11) (by decide +kernel) (by decide)
theorem x_153_146 : Xp 153 d 146 [(2, x), v1, v2, v3, v4, v5] st t g Q = Xp 153 d 147 [(2, x), v1, v2, v3, v4, v5] ((2, x) :: st) t g Q := Xp_go (i := .aload_n 0) (len := 1) (by decide +kernel) rfl
theorem x_153_147 : Xp 153 d 147 [v0, (0, x), v2, v3, v4, v5] st t g Q = Xp 153 d 148 [v0, (0, x), v2, v3, v4, v5] ((0, x) :: st) t g Q := Xp_go (i := .iload_n 1) (len := 1) (by decide +kernel) rfl
theorem x_153_148 : Xp 153 d 148 ls st t g Q = Xp 153 d 149 ls ((0, 1) :: st) t g Q := xr_const (c := 1) (by decide +kernel) (by decide)
theorem x_153_149 : Xp 153 d 149 ls st t g Q = Xp 153 d 150 ls ((0, 0) :: st) t g Q := xr_const (c := 0) (by decide +kernel) (by decide)
theorem x_153_150 : Xp 153 d 150 ls st t g Q = Xp 153 d 151 ls ((0, 1) :: st) t g Q := xr_const (c := 1) (by decide +kernel) (by decide)
theorem x_153_151 : Xp 153 (d + 1) 151 ls ((0, a4) :: (0, a3) :: (0, a2) :: (0, a1) :: (2, a0) :: st) t g Q = (hkJK a0 = 10 ∧ hkC8 st ∧ Xp 143 d 0 [(2, a0), (0, a1), (0, a2), (0, a3), (0, a4), hkU] [] t g (fun r t g => Xp 153 (d + 1) 154 ls (hkPush r st) t g Q)) := xr_invV (idx := 241) (y' := 143) (ci := 10) (tg := [2, 0, 0, 0, 0]) (by decide +kernel) (by decide +kernel) (by decide +kernel) (by decide +kernel) rfl rfl rfl
theorem x_153_154 : Xp 153 d 154 ls st t g Q = Xp 153 d 155 ls ((0, 1) :: st) t g Q := xr_const (c := 1) (by decide +kernel) (by decide)
theorem x_153_155 : Xp 153 d 155 ls [(0, x)] t g Q = Q (some (0, x)) t g := xr_retI (by decide +kernel) (by decide +kernel)
theorem x_153_156 : Xp 153 d 156 [(2, x), v1, v2, v3, v4, v5] st t g Q = Xp 153 d 157 [(2, x), v1, v2, v3, v4, v5] ((2, x) :: st) t g Q := Xp_go (i := .aload_n 0) (len := 1) (by decide +kernel) rfl
theorem x_153_157 : Xp 153 (d + 1) 157 ls ((2, a0) :: st) t g Q = (hkJK a0 = 10 ∧ hkC8 st ∧ Xp 155 d 0 [(2, a0)] [] t g (fun r t g => Xp 153 (d + 1) 160 ls (hkPush r st) t g Q)) := xr_invV (idx := 259) (y' := 155) (ci := 10) (tg := [2]) (by decide +kernel) (by decide +kernel) (by decide +kernel) (by decide +kernel) rfl rfl rfl
theorem x_153_160 : Xp 153 d 160 ls st t g Q = Xp 153 d 162 ls ((0, 91) :: st) t g Q := xr_bi (c := 91) (by decide +kernel) (by decide)
theorem x_153_162 : Xp 153 d 162 ls ((0, b) :: (0, a) :: st) t g Q = ((a = b → Xp 153 d 167 ls st t g Q) ∧ (¬ (a = b) → Xp 153 d 165 ls st t g Q)) := xr_if2 (cd := .eq) (off := 5) (by decide +kernel) (by decide)
theorem x_153_165 : Xp 153 d 165 ls st t g Q = Xp 153 d 166 ls ((0, -1) :: st) t g Q := xr_const (c := -1) (by decide +kernel) (by decide)
theorem x_153_166 : Xp 153 d 166 ls [(0, x)] t g Q = Q (some (0, x)) t g := xr_retI (by decide +kernel) (by decide +kernel)
theorem x_153_167 : Xp 153 d 167 [(2, x), v1, v2, v3, v4, v5] st t g Q = Xp 153 d 168 [(2, x), v1, v2, v3, v4, v5] ((2, x) :: st) t g Q := Xp_go (i := .aload_n 0) (len := 1) (by decide +kernel) rfl
theorem x_153_168 : Xp 153 d 168 ls (v :: st) t g Q = (hkP1 v ∧ Xp 153 d 169 ls (v :: v :: st) t g Q) := Xp_chk (i := .dup) (len := 1) (by decide +kernel) rfl
theorem x_153_169 : Xp 153 d 169 ls ((2, p) :: st) t g Q = (hkJK p = 10 ∧ Xp 153 d 172 ls ((0, g p 33) :: st) t g Q) := xr_getI (idx := 256) (ci := 10) (k := 33) (by decide +kernel) (by decide +kernel) (by decide +kernel)
theorem x_153_172 : Xp 153 d 172 ls st t g Q = Xp 153 d 173 ls ((0, 1) :: st) t g Q := xr_const (c := 1) (by decide +kernel) (by decide)
theorem x_153_173 : Xp 153 d 173 ls ((0, b) :: (0, a) :: st) t g Q = Xp 153 d 174 ls ((0, hkW (a + b)) :: st) t g Q := Xp_go (i := .iadd) (len := 1) (by decide +kernel) rfl
theorem x_153_174 : Xp 153 d 174 ls ((0, x) :: (2, p) :: st) t g Q = (hkJK p = 10 ∧ Xp 153 d 177 ls st t (hkSet g p 33 x) Q) := xr_putI (idx := 256) (ci := 10) (k := 33) (by decide +kernel) (by decide +kernel) (by decide +kernel)
theorem x_153_177 : Xp 153 d 177 [(2, x), v1, v2, v3, v4, v5] st t g Q = Xp 153 d 178 [(2, x), v1, v2, v3, v4, v5] ((2, x) :: st) t g Q := Xp_go (i := .aload_n 0) (len := 1) (by decide +kernel) rfl
theorem x_153_178 : Xp 153 d 178 ls st t g Q = Xp 153 d 179 ls ((0, 4) :: st) t g Q := xr_const (c := 4) (by decide +kernel) (by decide)
theorem x_153_179 : Xp 153 (d + 1) 179 ls ((0, a1) :: (2, a0) :: st) t g Q = (hkJK a0 = 10 ∧ hkC8 st ∧ Xp 156 d 0 [(2, a0), (0, a1), hkU] [] t g (fun r t g => Xp 153 (d + 1) 182 ls (hkPush r st) t g Q)) := xr_invV (idx := 270) (y' := 156) (ci := 10) (tg := [2, 0]) (by decide +kernel) (by decide +kernel) (by decide +kernel) (by decide +kernel) rfl rfl rfl
theorem x_153_182 : Xp 153 d 182 [v0, v1, v2, v3, v4, v5] ((0, x) :: st) t g Q = (hkP1 v3 ∧ Xp 153 d 184 [v0, v1, v2, v3, (0, x), v5] st t g Q) := Xp_chk (i := .istore 4) (len := 2) (by decide +kernel) rfl
theorem x_153_184 : Xp 153 d 184 [(2, x), v1, v2, v3, v4, v5] st t g Q = Xp 153 d 185 [(2, x), v1, v2, v3, v4, v5] ((2, x) :: st) t g Q := Xp_go (i := .aload_n 0) (len := 1) (by decide +kernel) rfl
theorem x_153_185 : Xp 153 d 185 [v0, v1, v2, v3, (0, x), v5] st t g Q = Xp 153 d 187 [v0, v1, v2, v3, (0, x), v5] ((0, x) :: st) t g Q := Xp_go (i := .iload 4) (len := 2) (by decide +kernel) rfl
theorem x_153_187 : Xp 153 (d + 1) 187 ls ((0, a1) :: (2, a0) :: st) t g Q = (hkJK a0 = 10 ∧ hkC8 st ∧ Xp 112 d 0 [(2, a0), (0, a1), hkU, hkU, hkU, hkU] [] t g (fun r t g => Xp 153 (d + 1) 190 ls (hkPush r st) t g Q)) := xr_invV (idx := 127) (y' := 112) (ci := 10) (tg := [2, 0]) (by decide +kernel) (by decide +kernel) (by decide +kernel) (by decide +kernel) rfl rfl rfl
theorem x_153_190 : Xp 153 d 190 [v0, v1, v2, v3, v4, v5] ((0, x) :: st) t g Q = (hkP1 v4 ∧ Xp 153 d 192 [v0, v1, v2, v3, v4, (0, x)] st t g Q) := Xp_chk (i := .istore 5) (len := 2) (by decide +kernel) rfl
theorem x_153_192 : Xp 153 d 192 [v0, v1, v2, v3, v4, (0, x)] st t g Q = Xp 153 d 194 [v0, v1, v2, v3, v4, (0, x)] ((0, x) :: st) t g Q := Xp_go (i := .iload 5) (len := 2) (by decide +kernel) rfl
theorem x_153_194 : Xp 153 d 194 ls st t g Q = Xp 153 d 195 ls ((0, -1) :: st) t g Q := xr_const (c := -1) (by decide +kernel) (by decide)
theorem x_153_195 : Xp 153 d 195 ls ((0, b) :: (0, a) :: st) t g Q = ((¬ (a = b) → Xp 153 d 205 ls st t g Q) ∧ (¬ (¬ (a = b)) → Xp 153 d 198 ls st t g Q)) := xr_if2 (cd := .ne) (off := 10) (by decide +kernel) (by decide)
theorem x_153_198 : Xp 153 d 198 [(2, x), v1, v2, v3, v4, v5] st t g Q = Xp 153 d 199 [(2, x), v1, v2, v3, v4, v5] ((2, x) :: st) t g Q := Xp_go (i := .aload_n 0) (len := 1) (by decide +kernel) rfl
theorem x_153_199 : Xp 153 d 199 [v0, v1, v2, (0, x), v4, v5] st t g Q = Xp 153 d 200 [v0, v1, v2, (0, x), v4, v5] ((0, x) :: st) t g Q := Xp_go (i := .iload_n 3) (len := 1) (by decide +kernel) rfl
theorem x_153_200 : Xp 153 d 200 ls ((0, x) :: (2, p) :: st) t g Q = (hkJK p = 10 ∧ Xp 153 d 203 ls st t (hkSet g p 33 x) Q) := xr_putI (idx := 256) (ci := 10) (k := 33) (by decide +kernel) (by decide +kernel) (by decide +kernel)
theorem x_153_203 : Xp 153 d 203 ls st t g Q = Xp 153 d 204 ls ((0, -1) :: st) t g Q := xr_const (c := -1) (by decide +kernel) (by decide)
theorem x_153_204 : Xp 153 d 204 ls [(0, x)] t g Q = Q (some (0, x)) t g := xr_retI (by decide +kernel) (by decide +kernel)
theorem x_153_205 : Xp 153 d 205 [(2, x), v1, v2, v3, v4, v5] st t g Q = Xp 153 d 206 [(2, x), v1, v2, v3, v4, v5] ((2, x) :: st) t g Q := Xp_go (i := .aload_n 0) (len := 1) (by decide +kernel) rfl
theorem x_153_206 : Xp 153 (d + 1) 206 ls ((2, a0) :: st) t g Q = (hkJK a0 = 10 ∧ hkC8 st ∧ Xp 155 d 0 [(2, a0)] [] t g (fun r t g => Xp 153 (d + 1) 209 ls (hkPush r st) t g Q)) := xr_invV (idx := 259) (y' := 155) (ci := 10) (tg := [2]) (by decide +kernel) (by decide +kernel) (by decide +kernel) (by decide +kernel) rfl rfl rfl
theorem x_153_209 : Xp 153 d 209 ls st t g Q = Xp 153 d 211 ls ((0, 93) :: st) t g Q := xr_bi (c := 93) (by decide +kernel) (by decide)
theorem x_153_211 : Xp 153 d 211 ls ((0, b) :: (0, a) :: st) t g Q = ((a = b → Xp 153 d 216 ls st t g Q) ∧ (¬ (a = b) → Xp 153 d 214 ls st t g Q)) := xr_if2 (cd := .eq) (off := 5) (by decide +kernel) (by decide)
theorem x_153_214 : Xp 153 d 214 ls st t g Q = Xp 153 d 215 ls ((0, -1) :: st) t g Q := xr_const (c := -1) (by decide +kernel) (by decide)
theorem x_153_215 : Xp 153 d 215 ls [(0, x)] t g Q = Q (some (0, x)) t g := xr_retI (by decide +kernel) (by decide +kernel)
theorem x_153_216 : Xp 153 d 216 [(2, x), v1, v2, v3, v4, v5] st t g Q = Xp 153 d 217 [(2, x), v1, v2, v3, v4, v5] ((2, x) :: st) t g Q := Xp_go (i := .aload_n 0) (len := 1) (by decide +kernel) rfl
theorem x_153_217 : Xp 153 d 217 ls (v :: st) t g Q = (hkP1 v ∧ Xp 153 d 218 ls (v :: v :: st) t g Q) := Xp_chk (i := .dup) (len := 1) (by decide +kernel) rfl
theorem x_153_218 : Xp 153 d 218 ls ((2, p) :: st) t g Q = (hkJK p = 10 ∧ Xp 153 d 221 ls ((0, g p 33) :: st) t g Q) := xr_getI (idx := 256) (ci := 10) (k := 33) (by decide +kernel) (by decide +kernel) (by decide +kernel)
theorem x_153_221 : Xp 153 d 221 ls st t g Q = Xp 153 d 222 ls ((0, 1) :: st) t g Q := xr_const (c := 1) (by decide +kernel) (by decide)
theorem x_153_222 : Xp 153 d 222 ls ((0, b) :: (0, a) :: st) t g Q = Xp 153 d 223 ls ((0, hkW (a + b)) :: st) t g Q := Xp_go (i := .iadd) (len := 1) (by decide +kernel) rfl
theorem x_153_223 : Xp 153 d 223 ls ((0, x) :: (2, p) :: st) t g Q = (hkJK p = 10 ∧ Xp 153 d 226 ls st t (hkSet g p 33 x) Q) := xr_putI (idx := 256) (ci := 10) (k := 33) (by decide +kernel) (by decide +kernel) (by decide +kernel)
theorem x_153_226 : Xp 153 d 226 [v0, v1, (0, x), v3, v4, v5] st t g Q = Xp 153 d 227 [v0, v1, (0, x), v3, v4, v5] ((0, x) :: st) t g Q := Xp_go (i := .iload_n 2) (len := 1) (by decide +kernel) rfl
theorem x_153_227 : Xp 153 d 227 ls ((0, a) :: st) t g Q = ((a = 0 → Xp 153 d 239 ls st t g Q) ∧ (¬ (a = 0) → Xp 153 d 230 ls st t g Q)) := xr_if1 (cd := .eq) (off := 12) (by decide +kernel) (by decide)
theorem x_153_230 : Xp 153 d 230 [(2, x), v1, v2, v3, v4, v5] st t g Q = Xp 153 d 231 [(2, x), v1, v2, v3, v4, v5] ((2, x) :: st) t g Q := Xp_go (i := .aload_n 0) (len := 1) (by decide +kernel) rfl
theorem x_153_231 : Xp 153 d 231 [v0, (0, x), v2, v3, v4, v5] st t g Q = Xp 153 d 232 [v0, (0, x), v2, v3, v4, v5] ((0, x) :: st) t g Q := Xp_go (i := .iload_n 1) (len := 1) (by decide +kernel) rfl
theorem x_153_232 : Xp 153 d 232 ls st t g Q = Xp 153 d 233 ls ((0, 0) :: st) t g Q := xr_const (c := 0) (by decide +kernel) (by decide)
theorem x_153_233 : Xp 153 d 233 [v0, v1, v2, v3, v4, (0, x)] st t g Q = Xp 153 d 235 [v0, v1, v2, v3, v4, (0, x)] ((0, x) :: st) t g Q := Xp_go (i := .iload 5) (len := 2) (by decide +kernel) rfl
theorem x_153_235 : Xp 153 d 235 ls st t g Q = Xp 153 d 236 ls ((0, 1) :: st) t g Q := xr_const (c := 1) (by decide +kernel) (by decide)
theorem x_153_236 : Xp 153 (d + 1) 236 ls ((0, a4) :: (0, a3) :: (0, a2) :: (0, a1) :: (2, a0) :: st) t g Q = (hkJK a0 = 10 ∧ hkC8 st ∧ Xp 143 d 0 [(2, a0), (0, a1), (0, a2), (0, a3), (0, a4), hkU] [] t g (fun r t g => Xp 153 (d + 1) 239 ls (hkPush r st) t g Q)) := xr_invV (idx := 241) (y' := 143) (ci := 10) (tg := [2, 0, 0, 0, 0]) (by decide +kernel) (by decide +kernel) (by decide +kernel) (by decide +kernel) rfl rfl rfl
theorem x_153_239 : Xp 153 d 239 ls st t g Q = Xp 153 d 240 ls ((0, 1) :: st) t g Q := xr_const (c := 1) (by decide +kernel) (by decide)
theorem x_153_240 : Xp 153 d 240 ls [(0, x)] t g Q = Q (some (0, x)) t g := xr_retI (by decide +kernel) (by decide +kernel)
-- 154: HookBoxesModel.isDigit()Z
theorem x_154_0 : Xp 154 d 0 [(2, x)] st t g Q = Xp 154 d 1 [(2, x)] ((2, x) :: st) t g Q := Xp_go (i := .aload_n 0) (len := 1) (by decide +kernel) rfl
theorem x_154_1 : Xp 154 (d + 1) 1 ls ((2, a0) :: st) t g Q = (hkJK a0 = 10 ∧ hkC8 st ∧ Xp 155 d 0 [(2, a0)] [] t g (fun r t g => Xp 154 (d + 1) 4 ls (hkPush r st) t g Q)) := xr_invV (idx := 259) (y' := 155) (ci := 10) (tg := [2]) (by decide +kernel) (by decide +kernel) (by decide +kernel) (by decide +kernel) rfl rfl rfl
theorem x_154_4 : Xp 154 d 4 ls ((0, a) :: st) t g Q = Xp 154 d 5 ls ((1, a) :: st) t g Q := Xp_go (i := .i2l) (len := 1) (by decide +kernel) rfl
theorem x_154_5 : Xp 154 d 5 ls st t g Q = Xp 154 d 8 ls ((1, 48) :: st) t g Q := xr_ldc2 (idx := 262) (by decide +kernel) (by decide +kernel)
theorem x_154_8 : Xp 154 d 8 ls st t g Q = Xp 154 d 11 ls ((1, 57) :: st) t g Q := xr_ldc2 (idx := 264) (by decide +kernel) (by decide +kernel)
theorem x_154_11 : Xp 154 (d + 1) 11 ls ((1, a2) :: (1, a1) :: (1, a0) :: st) t g Q = (hkC8 st ∧ Xp 107 d 0 [(1, a0), hkU, (1, a1), hkU, (1, a2), hkU] [] t g (fun r t g => Xp 154 (d + 1) 14 ls (hkPush r st) t g Q)) := xr_invS (idx := 115) (y' := 107) (tg := [1, 1, 1]) (by decide +kernel) (by decide +kernel) (by decide +kernel) rfl rfl
theorem x_154_14 : Xp 154 d 14 ls [(0, x)] t g Q = ((x = 0 ∨ x = 1) ∧ Q (some (0, x)) t g) := xr_retZ (by decide +kernel) (by decide +kernel)
-- 155: HookBoxesModel.here()I
theorem x_155_0 : Xp 155 d 0 [(2, x)] st t g Q = Xp 155 d 1 [(2, x)] ((2, x) :: st) t g Q := Xp_go (i := .aload_n 0) (len := 1) (by decide +kernel) rfl
theorem x_155_1 : Xp 155 d 1 ls ((2, p) :: st) t g Q = (hkJK p = 10 ∧ Xp 155 d 4 ls ((0, g p 33) :: st) t g Q) := xr_getI (idx := 256) (ci := 10) (k := 33) (by decide +kernel) (by decide +kernel) (by decide +kernel)
theorem x_155_4 : Xp 155 d 4 [(2, x)] st t g Q = Xp 155 d 5 [(2, x)] ((2, x) :: st) t g Q := Xp_go (i := .aload_n 0) (len := 1) (by decide +kernel) rfl
theorem x_155_5 : Xp 155 d 5 ls ((2, p) :: st) t g Q = (hkJK p = 10 ∧ Xp 155 d 8 ls ((0, g p 32) :: st) t g Q) := xr_getI (idx := 253) (ci := 10) (k := 32) (by decide +kernel) (by decide +kernel) (by decide +kernel)
theorem x_155_8 : Xp 155 d 8 ls ((0, b) :: (0, a) :: st) t g Q = ((b ≤ a → Xp 155 d 23 ls st t g Q) ∧ (¬ (b ≤ a) → Xp 155 d 11 ls st t g Q)) := xr_if2 (cd := .ge) (off := 15) (by decide +kernel) (by decide)
theorem x_155_11 : Xp 155 d 11 [(2, x)] st t g Q = Xp 155 d 12 [(2, x)] ((2, x) :: st) t g Q := Xp_go (i := .aload_n 0) (len := 1) (by decide +kernel) rfl
theorem x_155_12 : Xp 155 d 12 ls ((2, p) :: st) t g Q = (hkJK p = 10 ∧ jA p 30 ≤ t ∧ Xp 155 d 15 ls ((2, jR p 30) :: st) t g Q) := xr_getR (idx := 76) (ci := 10) (k := 30) (by decide +kernel) (by decide +kernel) (by decide +kernel)
theorem x_155_15 : Xp 155 d 15 [(2, x)] st t g Q = Xp 155 d 16 [(2, x)] ((2, x) :: st) t g Q := Xp_go (i := .aload_n 0) (len := 1) (by decide +kernel) rfl
theorem x_155_16 : Xp 155 d 16 ls ((2, p) :: st) t g Q = (hkJK p = 10 ∧ Xp 155 d 19 ls ((0, g p 33) :: st) t g Q) := xr_getI (idx := 256) (ci := 10) (k := 33) (by decide +kernel) (by decide +kernel) (by decide +kernel)
theorem x_155_19 : Xp 155 d 19 ls ((0, a) :: (2, p) :: st) t g Q = ((hkJK p = 100 ∧ 0 ≤ a ∧ a < jL p) ∧ Xp 155 d 20 ls ((0, g p a) :: st) t g Q) := Xp_chk (i := .iaload) (len := 1) (by decide +kernel) rfl
theorem x_155_20 : Xp 155 d 20 ls st t g Q = Xp 155 d 24 ls st t g Q := xr_goto (off := 4) (by decide +kernel) (by decide)
theorem x_155_23 : Xp 155 d 23 ls st t g Q = Xp 155 d 24 ls ((0, -1) :: st) t g Q := xr_const (c := -1) (by decide +kernel) (by decide)
theorem x_155_24 : Xp 155 d 24 ls [(0, x)] t g Q = Q (some (0, x)) t g := xr_retI (by decide +kernel) (by decide +kernel)
-- 156: HookBoxesModel.digits(I)I
theorem x_156_0 : Xp 156 d 0 ls st t g Q = Xp 156 d 1 ls ((0, 0) :: st) t g Q := xr_const (c := 0) (by decide +kernel) (by decide)
theorem x_156_1 : Xp 156 d 1 [v0, v1, v2] ((0, x) :: st) t g Q = (hkP1 v1 ∧ Xp 156 d 2 [v0, v1, (0, x)] st t g Q) := Xp_chk (i := .istore_n 2) (len := 1) (by decide +kernel) rfl
theorem x_156_2 : Xp 156 d 2 [v0, v1, (0, x)] st t g Q = Xp 156 d 3 [v0, v1, (0, x)] ((0, x) :: st) t g Q := Xp_go (i := .iload_n 2) (len := 1) (by decide +kernel) rfl
theorem x_156_3 : Xp 156 d 3 [v0, (0, x), v2] st t g Q = Xp 156 d 4 [v0, (0, x), v2] ((0, x) :: st) t g Q := Xp_go (i := .iload_n 1) (len := 1) (by decide +kernel) rfl
theorem x_156_4 : Xp 156 d 4 ls ((0, b) :: (0, a) :: st) t g Q = ((b ≤ a → Xp 156 d 43 ls st t g Q) ∧ (¬ (b ≤ a) → Xp 156 d 7 ls st t g Q)) := xr_if2 (cd := .ge) (off := 39) (by decide +kernel) (by decide)
theorem x_156_7 : Xp 156 d 7 [(2, x), v1, v2] st t g Q = Xp 156 d 8 [(2, x), v1, v2] ((2, x) :: st) t g Q := Xp_go (i := .aload_n 0) (len := 1) (by decide +kernel) rfl
theorem x_156_8 : Xp 156 (d + 1) 8 ls ((2, a0) :: st) t g Q = (hkJK a0 = 10 ∧ hkC8 st ∧ Xp 154 d 0 [(2, a0)] [] t g (fun r t g => Xp 156 (d + 1) 11 ls (hkPush r st) t g Q)) := xr_invV (idx := 266) (y' := 154) (ci := 10) (tg := [2]) (by decide +kernel) (by decide +kernel) (by decide +kernel) (by decide +kernel) rfl rfl rfl
theorem x_156_11 : Xp 156 d 11 ls ((0, a) :: st) t g Q = ((a = 0 → Xp 156 d 43 ls st t g Q) ∧ (¬ (a = 0) → Xp 156 d 14 ls st t g Q)) := xr_if1 (cd := .eq) (off := 32) (by decide +kernel) (by decide)
theorem x_156_14 : Xp 156 d 14 [(2, x), v1, v2] st t g Q = Xp 156 d 15 [(2, x), v1, v2] ((2, x) :: st) t g Q := Xp_go (i := .aload_n 0) (len := 1) (by decide +kernel) rfl
theorem x_156_15 : Xp 156 d 15 ls ((2, p) :: st) t g Q = (hkJK p = 10 ∧ jA p 14 ≤ t ∧ Xp 156 d 18 ls ((2, jR p 14) :: st) t g Q) := xr_getR (idx := 42) (ci := 10) (k := 14) (by decide +kernel) (by decide +kernel) (by decide +kernel)
theorem x_156_18 : Xp 156 d 18 [v0, v1, (0, x)] st t g Q = Xp 156 d 19 [v0, v1, (0, x)] ((0, x) :: st) t g Q := Xp_go (i := .iload_n 2) (len := 1) (by decide +kernel) rfl
theorem x_156_19 : Xp 156 d 19 [(2, x), v1, v2] st t g Q = Xp 156 d 20 [(2, x), v1, v2] ((2, x) :: st) t g Q := Xp_go (i := .aload_n 0) (len := 1) (by decide +kernel) rfl
theorem x_156_20 : Xp 156 (d + 1) 20 ls ((2, a0) :: st) t g Q = (hkJK a0 = 10 ∧ hkC8 st ∧ Xp 155 d 0 [(2, a0)] [] t g (fun r t g => Xp 156 (d + 1) 23 ls (hkPush r st) t g Q)) := xr_invV (idx := 259) (y' := 155) (ci := 10) (tg := [2]) (by decide +kernel) (by decide +kernel) (by decide +kernel) (by decide +kernel) rfl rfl rfl
theorem x_156_23 : Xp 156 d 23 ls st t g Q = Xp 156 d 25 ls ((0, 48) :: st) t g Q := xr_bi (c := 48) (by decide +kernel) (by decide)
theorem x_156_25 : Xp 156 d 25 ls ((0, b) :: (0, a) :: st) t g Q = Xp 156 d 26 ls ((0, hkW (a - b)) :: st) t g Q := Xp_go (i := .isub) (len := 1) (by decide +kernel) rfl
theorem x_156_26 : Xp 156 d 26 ls ((0, x) :: (0, a) :: (2, p) :: st) t g Q = ((hkJK p = 100 ∧ (100 = 102 → x = 0 ∨ x = 1) ∧ 0 ≤ a ∧ a < jL p) ∧ Xp 156 d 27 ls st t (hkSet g p a x) Q) := Xp_chk (i := .iastore) (len := 1) (by decide +kernel) rfl
theorem x_156_27 : Xp 156 d 27 [v0, v1, (0, x)] st t g Q = (hkP1 v1 ∧ Xp 156 d 30 [v0, v1, (0, hkW (x + 1))] st t g Q) := Xp_chk (i := .iinc 2 (1)) (len := 3) (by decide +kernel) rfl
theorem x_156_30 : Xp 156 d 30 [(2, x), v1, v2] st t g Q = Xp 156 d 31 [(2, x), v1, v2] ((2, x) :: st) t g Q := Xp_go (i := .aload_n 0) (len := 1) (by decide +kernel) rfl
theorem x_156_31 : Xp 156 d 31 ls (v :: st) t g Q = (hkP1 v ∧ Xp 156 d 32 ls (v :: v :: st) t g Q) := Xp_chk (i := .dup) (len := 1) (by decide +kernel) rfl
theorem x_156_32 : Xp 156 d 32 ls ((2, p) :: st) t g Q = (hkJK p = 10 ∧ Xp 156 d 35 ls ((0, g p 33) :: st) t g Q) := xr_getI (idx := 256) (ci := 10) (k := 33) (by decide +kernel) (by decide +kernel) (by decide +kernel)
theorem x_156_35 : Xp 156 d 35 ls st t g Q = Xp 156 d 36 ls ((0, 1) :: st) t g Q := xr_const (c := 1) (by decide +kernel) (by decide)
theorem x_156_36 : Xp 156 d 36 ls ((0, b) :: (0, a) :: st) t g Q = Xp 156 d 37 ls ((0, hkW (a + b)) :: st) t g Q := Xp_go (i := .iadd) (len := 1) (by decide +kernel) rfl
theorem x_156_37 : Xp 156 d 37 ls ((0, x) :: (2, p) :: st) t g Q = (hkJK p = 10 ∧ Xp 156 d 40 ls st t (hkSet g p 33 x) Q) := xr_putI (idx := 256) (ci := 10) (k := 33) (by decide +kernel) (by decide +kernel) (by decide +kernel)
theorem x_156_40 : Xp 156 d 40 ls st t g Q = Xp 156 d 2 ls st t g Q := xr_goto (off := -38) (by decide +kernel) (by decide)
theorem x_156_43 : Xp 156 d 43 [v0, v1, (0, x)] st t g Q = Xp 156 d 44 [v0, v1, (0, x)] ((0, x) :: st) t g Q := Xp_go (i := .iload_n 2) (len := 1) (by decide +kernel) rfl
theorem x_156_44 : Xp 156 d 44 ls [(0, x)] t g Q = Q (some (0, x)) t g := xr_retI (by decide +kernel) (by decide +kernel)
-- 157: HookBoxesModel.numberOf(I)I
theorem x_157_0 : Xp 157 d 0 ls st t g Q = Xp 157 d 1 ls ((0, 0) :: st) t g Q := xr_const (c := 0) (by decide +kernel) (by decide)
theorem x_157_1 : Xp 157 d 1 [v0, v1, v2, v3] ((0, x) :: st) t g Q = (hkP1 v1 ∧ Xp 157 d 2 [v0, v1, (0, x), v3] st t g Q) := Xp_chk (i := .istore_n 2) (len := 1) (by decide +kernel) rfl
theorem x_157_2 : Xp 157 d 2 ls st t g Q = Xp 157 d 3 ls ((0, 0) :: st) t g Q := xr_const (c := 0) (by decide +kernel) (by decide)
theorem x_157_3 : Xp 157 d 3 [v0, v1, v2, v3] ((0, x) :: st) t g Q = (hkP1 v2 ∧ Xp 157 d 4 [v0, v1, v2, (0, x)] st t g Q) := Xp_chk (i := .istore_n 3) (len := 1) (by decide +kernel) rfl
theorem x_157_4 : Xp 157 d 4 [v0, v1, v2, (0, x)] st t g Q = Xp 157 d 5 [v0, v1, v2, (0, x)] ((0, x) :: st) t g Q := Xp_go (i := .iload_n 3) (len := 1) (by decide +kernel) rfl
theorem x_157_5 : Xp 157 d 5 [v0, (0, x), v2, v3] st t g Q = Xp 157 d 6 [v0, (0, x), v2, v3] ((0, x) :: st) t g Q := Xp_go (i := .iload_n 1) (len := 1) (by decide +kernel) rfl
theorem x_157_6 : Xp 157 d 6 ls ((0, b) :: (0, a) :: st) t g Q = ((b ≤ a → Xp 157 d 27 ls st t g Q) ∧ (¬ (b ≤ a) → Xp 157 d 9 ls st t g Q)) := xr_if2 (cd := .ge) (off := 21) (by decide +kernel) (by decide)
theorem x_157_9 : Xp 157 d 9 ls st t g Q = Xp 157 d 11 ls ((0, 10) :: st) t g Q := xr_bi (c := 10) (by decide +kernel) (by decide)
theorem x_157_11 : Xp 157 d 11 [v0, v1, (0, x), v3] st t g Q = Xp 157 d 12 [v0, v1, (0, x), v3] ((0, x) :: st) t g Q := Xp_go (i := .iload_n 2) (len := 1) (by decide +kernel) rfl
theorem x_157_12 : Xp 157 d 12 ls ((0, b) :: (0, a) :: st) t g Q = Xp 157 d 13 ls ((0, hkW (a * b)) :: st) t g Q := Xp_go (i := .imul) (len := 1) (by decide +kernel) rfl
theorem x_157_13 : Xp 157 d 13 [(2, x), v1, v2, v3] st t g Q = Xp 157 d 14 [(2, x), v1, v2, v3] ((2, x) :: st) t g Q := Xp_go (i := .aload_n 0) (len := 1) (by decide +kernel) rfl
theorem x_157_14 : Xp 157 d 14 ls ((2, p) :: st) t g Q = (hkJK p = 10 ∧ jA p 14 ≤ t ∧ Xp 157 d 17 ls ((2, jR p 14) :: st) t g Q) := xr_getR (idx := 42) (ci := 10) (k := 14) (by decide +kernel) (by decide +kernel) (by decide +kernel)
theorem x_157_17 : Xp 157 d 17 [v0, v1, v2, (0, x)] st t g Q = Xp 157 d 18 [v0, v1, v2, (0, x)] ((0, x) :: st) t g Q := Xp_go (i := .iload_n 3) (len := 1) (by decide +kernel) rfl
theorem x_157_18 : Xp 157 d 18 ls ((0, a) :: (2, p) :: st) t g Q = ((hkJK p = 100 ∧ 0 ≤ a ∧ a < jL p) ∧ Xp 157 d 19 ls ((0, g p a) :: st) t g Q) := Xp_chk (i := .iaload) (len := 1) (by decide +kernel) rfl
theorem x_157_19 : Xp 157 d 19 ls ((0, b) :: (0, a) :: st) t g Q = Xp 157 d 20 ls ((0, hkW (a + b)) :: st) t g Q := Xp_go (i := .iadd) (len := 1) (by decide +kernel) rfl
theorem x_157_20 : Xp 157 d 20 [v0, v1, v2, v3] ((0, x) :: st) t g Q = (hkP1 v1 ∧ Xp 157 d 21 [v0, v1, (0, x), v3] st t g Q) := Xp_chk (i := .istore_n 2) (len := 1) (by decide +kernel) rfl
theorem x_157_21 : Xp 157 d 21 [v0, v1, v2, (0, x)] st t g Q = (hkP1 v2 ∧ Xp 157 d 24 [v0, v1, v2, (0, hkW (x + 1))] st t g Q) := Xp_chk (i := .iinc 3 (1)) (len := 3) (by decide +kernel) rfl
theorem x_157_24 : Xp 157 d 24 ls st t g Q = Xp 157 d 4 ls st t g Q := xr_goto (off := -20) (by decide +kernel) (by decide)
theorem x_157_27 : Xp 157 d 27 [v0, v1, (0, x), v3] st t g Q = Xp 157 d 28 [v0, v1, (0, x), v3] ((0, x) :: st) t g Q := Xp_go (i := .iload_n 2) (len := 1) (by decide +kernel) rfl
theorem x_157_28 : Xp 157 d 28 ls [(0, x)] t g Q = Q (some (0, x)) t g := xr_retI (by decide +kernel) (by decide +kernel)
-- 158: HookBoxesModel.adds(III)V
theorem x_158_0 : Xp 158 d 0 ls st t g Q = Xp 158 d 1 ls ((0, 0) :: st) t g Q := xr_const (c := 0) (by decide +kernel) (by decide)
theorem x_158_1 : Xp 158 d 1 [v0, v1, v2, v3, v4] ((0, x) :: st) t g Q = (hkP1 v3 ∧ Xp 158 d 3 [v0, v1, v2, v3, (0, x)] st t g Q) := Xp_chk (i := .istore 4) (len := 2) (by decide +kernel) rfl
theorem x_158_3 : Xp 158 d 3 [v0, v1, v2, v3, (0, x)] st t g Q = Xp 158 d 5 [v0, v1, v2, v3, (0, x)] ((0, x) :: st) t g Q := Xp_go (i := .iload 4) (len := 2) (by decide +kernel) rfl
theorem x_158_5 : Xp 158 d 5 [(2, x), v1, v2, v3, v4] st t g Q = Xp 158 d 6 [(2, x), v1, v2, v3, v4] ((2, x) :: st) t g Q := Xp_go (i := .aload_n 0) (len := 1) (by decide +kernel) rfl
theorem x_158_6 : Xp 158 d 6 ls ((2, p) :: st) t g Q = (hkJK p = 10 ∧ jA p 28 ≤ t ∧ Xp 158 d 9 ls ((2, jR p 28) :: st) t g Q) := xr_getR (idx := 72) (ci := 10) (k := 28) (by decide +kernel) (by decide +kernel) (by decide +kernel)
theorem x_158_9 : Xp 158 d 9 ls ((2, p) :: st) t g Q = ((100 ≤ hkJK p ∧ hkJK p ≤ 104) ∧ Xp 158 d 10 ls ((0, jL p) :: st) t g Q) := Xp_chk (i := .arraylength) (len := 1) (by decide +kernel) rfl
theorem x_158_10 : Xp 158 d 10 ls ((0, b) :: (0, a) :: st) t g Q = ((b ≤ a → Xp 158 d 70 ls st t g Q) ∧ (¬ (b ≤ a) → Xp 158 d 13 ls st t g Q)) := xr_if2 (cd := .ge) (off := 60) (by decide +kernel) (by decide)
theorem x_158_13 : Xp 158 d 13 [(2, x), v1, v2, v3, v4] st t g Q = Xp 158 d 14 [(2, x), v1, v2, v3, v4] ((2, x) :: st) t g Q := Xp_go (i := .aload_n 0) (len := 1) (by decide +kernel) rfl
theorem x_158_14 : Xp 158 d 14 ls ((2, p) :: st) t g Q = (hkJK p = 10 ∧ jA p 28 ≤ t ∧ Xp 158 d 17 ls ((2, jR p 28) :: st) t g Q) := xr_getR (idx := 72) (ci := 10) (k := 28) (by decide +kernel) (by decide +kernel) (by decide +kernel)
theorem x_158_17 : Xp 158 d 17 [v0, v1, v2, v3, (0, x)] st t g Q = Xp 158 d 19 [v0, v1, v2, v3, (0, x)] ((0, x) :: st) t g Q := Xp_go (i := .iload 4) (len := 2) (by decide +kernel) rfl
theorem x_158_19 : Xp 158 d 19 [v0, v1, v2, v3, (0, x)] st t g Q = Xp 158 d 21 [v0, v1, v2, v3, (0, x)] ((0, x) :: st) t g Q := Xp_go (i := .iload 4) (len := 2) (by decide +kernel) rfl
theorem x_158_21 : Xp 158 d 21 ls st t g Q = Xp 158 d 24 ls ((0, 280) :: st) t g Q := xr_si (c := 280) (by decide +kernel) (by decide)
theorem x_158_24 : Xp 158 d 24 ls ((0, b) :: (0, a) :: st) t g Q = ((b ≤ a → Xp 158 d 62 ls st t g Q) ∧ (¬ (b ≤ a) → Xp 158 d 27 ls st t g Q)) := xr_if2 (cd := .ge) (off := 38) (by decide +kernel) (by decide)
theorem x_158_27 : Xp 158 d 27 [(2, x), v1, v2, v3, v4] st t g Q = Xp 158 d 28 [(2, x), v1, v2, v3, v4] ((2, x) :: st) t g Q := Xp_go (i := .aload_n 0) (len := 1) (by decide +kernel) rfl
theorem x_158_28 : Xp 158 d 28 ls ((2, p) :: st) t g Q = (hkJK p = 10 ∧ jA p 27 ≤ t ∧ Xp 158 d 31 ls ((2, jR p 27) :: st) t g Q) := xr_getR (idx := 69) (ci := 10) (k := 27) (by decide +kernel) (by decide +kernel) (by decide +kernel)
theorem x_158_31 : Xp 158 d 31 ls st t g Q = Xp 158 d 34 ls ((0, 280) :: st) t g Q := xr_si (c := 280) (by decide +kernel) (by decide)
theorem x_158_34 : Xp 158 d 34 [v0, (0, x), v2, v3, v4] st t g Q = Xp 158 d 35 [v0, (0, x), v2, v3, v4] ((0, x) :: st) t g Q := Xp_go (i := .iload_n 1) (len := 1) (by decide +kernel) rfl
theorem x_158_35 : Xp 158 d 35 ls ((0, b) :: (0, a) :: st) t g Q = Xp 158 d 36 ls ((0, hkW (a * b)) :: st) t g Q := Xp_go (i := .imul) (len := 1) (by decide +kernel) rfl
theorem x_158_36 : Xp 158 d 36 [v0, v1, v2, v3, (0, x)] st t g Q = Xp 158 d 38 [v0, v1, v2, v3, (0, x)] ((0, x) :: st) t g Q := Xp_go (i := .iload 4) (len := 2) (by decide +kernel) rfl
theorem x_158_38 : Xp 158 d 38 ls ((0, b) :: (0, a) :: st) t g Q = Xp 158 d 39 ls ((0, hkW (a + b)) :: st) t g Q := Xp_go (i := .iadd) (len := 1) (by decide +kernel) rfl
theorem x_158_39 : Xp 158 d 39 ls ((0, a) :: (2, p) :: st) t g Q = ((hkJK p = 100 ∧ 0 ≤ a ∧ a < jL p) ∧ Xp 158 d 40 ls ((0, g p a) :: st) t g Q) := Xp_chk (i := .iaload) (len := 1) (by decide +kernel) rfl
theorem x_158_40 : Xp 158 d 40 ls ((0, a) :: st) t g Q = Xp 158 d 41 ls ((1, a) :: st) t g Q := Xp_go (i := .i2l) (len := 1) (by decide +kernel) rfl
theorem x_158_41 : Xp 158 d 41 [v0, v1, v2, (0, x), v4] st t g Q = Xp 158 d 42 [v0, v1, v2, (0, x), v4] ((0, x) :: st) t g Q := Xp_go (i := .iload_n 3) (len := 1) (by decide +kernel) rfl
theorem x_158_42 : Xp 158 d 42 ls ((0, a) :: st) t g Q = Xp 158 d 43 ls ((1, a) :: st) t g Q := Xp_go (i := .i2l) (len := 1) (by decide +kernel) rfl
theorem x_158_43 : Xp 158 d 43 [(2, x), v1, v2, v3, v4] st t g Q = Xp 158 d 44 [(2, x), v1, v2, v3, v4] ((2, x) :: st) t g Q := Xp_go (i := .aload_n 0) (len := 1) (by decide +kernel) rfl
theorem x_158_44 : Xp 158 d 44 ls ((2, p) :: st) t g Q = (hkJK p = 10 ∧ jA p 27 ≤ t ∧ Xp 158 d 47 ls ((2, jR p 27) :: st) t g Q) := xr_getR (idx := 69) (ci := 10) (k := 27) (by decide +kernel) (by decide +kernel) (by decide +kernel)
theorem x_158_47 : Xp 158 d 47 ls st t g Q = Xp 158 d 50 ls ((0, 280) :: st) t g Q := xr_si (c := 280) (by decide +kernel) (by decide)
theorem x_158_50 : Xp 158 d 50 [v0, v1, (0, x), v3, v4] st t g Q = Xp 158 d 51 [v0, v1, (0, x), v3, v4] ((0, x) :: st) t g Q := Xp_go (i := .iload_n 2) (len := 1) (by decide +kernel) rfl
theorem x_158_51 : Xp 158 d 51 ls ((0, b) :: (0, a) :: st) t g Q = Xp 158 d 52 ls ((0, hkW (a * b)) :: st) t g Q := Xp_go (i := .imul) (len := 1) (by decide +kernel) rfl
theorem x_158_52 : Xp 158 d 52 [v0, v1, v2, v3, (0, x)] st t g Q = Xp 158 d 54 [v0, v1, v2, v3, (0, x)] ((0, x) :: st) t g Q := Xp_go (i := .iload 4) (len := 2) (by decide +kernel) rfl
theorem x_158_54 : Xp 158 d 54 ls ((0, b) :: (0, a) :: st) t g Q = Xp 158 d 55 ls ((0, hkW (a + b)) :: st) t g Q := Xp_go (i := .iadd) (len := 1) (by decide +kernel) rfl
theorem x_158_55 : Xp 158 d 55 ls ((0, a) :: (2, p) :: st) t g Q = ((hkJK p = 100 ∧ 0 ≤ a ∧ a < jL p) ∧ Xp 158 d 56 ls ((0, g p a) :: st) t g Q) := Xp_chk (i := .iaload) (len := 1) (by decide +kernel) rfl
theorem x_158_56 : Xp 158 d 56 ls ((0, a) :: st) t g Q = Xp 158 d 57 ls ((1, a) :: st) t g Q := Xp_go (i := .i2l) (len := 1) (by decide +kernel) rfl
theorem x_158_57 : Xp 158 d 57 ls ((1, b) :: (1, a) :: st) t g Q = Xp 158 d 58 ls ((1, hkL (a * b)) :: st) t g Q := Xp_go (i := .lmul) (len := 1) (by decide +kernel) rfl
theorem x_158_58 : Xp 158 d 58 ls ((1, b) :: (1, a) :: st) t g Q = Xp 158 d 59 ls ((1, hkL (a + b)) :: st) t g Q := Xp_go (i := .ladd) (len := 1) (by decide +kernel) rfl
theorem x_158_59 : Xp 158 d 59 ls st t g Q = Xp 158 d 63 ls st t g Q := xr_goto (off := 4) (by decide +kernel) (by decide)
theorem x_158_62 : Xp 158 d 62 ls st t g Q = Xp 158 d 63 ls ((1, 0) :: st) t g Q := Xp_go (i := .lconst 0) (len := 1) (by decide +kernel) rfl
theorem x_158_63 : Xp 158 d 63 ls ((1, x) :: (0, a) :: (2, p) :: st) t g Q = ((hkJK p = 101 ∧ (101 = 102 → x = 0 ∨ x = 1) ∧ 0 ≤ a ∧ a < jL p) ∧ Xp 158 d 64 ls st t (hkSet g p a x) Q) := Xp_chk (i := .lastore) (len := 1) (by decide +kernel) rfl
theorem x_158_64 : Xp 158 d 64 [v0, v1, v2, v3, (0, x)] st t g Q = (hkP1 v3 ∧ Xp 158 d 67 [v0, v1, v2, v3, (0, hkW (x + 1))] st t g Q) := Xp_chk (i := .iinc 4 (1)) (len := 3) (by decide +kernel) rfl
theorem x_158_67 : Xp 158 d 67 ls st t g Q = Xp 158 d 3 ls st t g Q := xr_goto (off := -64) (by decide +kernel) (by decide)
theorem x_158_70 : Xp 158 d 70 [(2, x), v1, v2, v3, v4] st t g Q = Xp 158 d 71 [(2, x), v1, v2, v3, v4] ((2, x) :: st) t g Q := Xp_go (i := .aload_n 0) (len := 1) (by decide +kernel) rfl
theorem x_158_71 : Xp 158 d 71 [v0, (0, x), v2, v3, v4] st t g Q = Xp 158 d 72 [v0, (0, x), v2, v3, v4] ((0, x) :: st) t g Q := Xp_go (i := .iload_n 1) (len := 1) (by decide +kernel) rfl
theorem x_158_72 : Xp 158 (d + 1) 72 ls ((0, a1) :: (2, a0) :: st) t g Q = (hkJK a0 = 10 ∧ hkC8 st ∧ Xp 145 d 0 [(2, a0), (0, a1), hkU] [] t g (fun r t g => Xp 158 (d + 1) 75 ls (hkPush r st) t g Q)) := xr_invV (idx := 235) (y' := 145) (ci := 10) (tg := [2, 0]) (by decide +kernel) (by decide +kernel) (by decide +kernel) (by decide +kernel) rfl rfl rfl
theorem x_158_75 : Xp 158 d 75 ls [] t g Q = Q none t g := xr_retV (by decide +kernel) (by decide +kernel)
-- 159: HookBoxesModel.drawn(III)I
theorem x_159_0 : Xp 159 d 0 [v0, v1, (0, x), v3, v4] st t g Q = Xp 159 d 1 [v0, v1, (0, x), v3, v4] ((0, x) :: st) t g Q := Xp_go (i := .iload_n 2) (len := 1) (by decide +kernel) rfl
theorem x_159_1 : Xp 159 d 1 ls ((0, a) :: st) t g Q = Xp 159 d 2 ls ((1, a) :: st) t g Q := Xp_go (i := .i2l) (len := 1) (by decide +kernel) rfl
theorem x_159_2 : Xp 159 d 2 ls st t g Q = Xp 159 d 3 ls ((1, 0) :: st) t g Q := Xp_go (i := .lconst 0) (len := 1) (by decide +kernel) rfl
theorem x_159_3 : Xp 159 d 3 ls st t g Q = Xp 159 d 6 ls ((1, 40) :: st) t g Q := xr_ldc2 (idx := 304) (by decide +kernel) (by decide +kernel)
theorem x_159_6 : Xp 159 (d + 1) 6 ls ((1, a2) :: (1, a1) :: (1, a0) :: st) t g Q = (hkC8 st ∧ Xp 107 d 0 [(1, a0), hkU, (1, a1), hkU, (1, a2), hkU] [] t g (fun r t g => Xp 159 (d + 1) 9 ls (hkPush r st) t g Q)) := xr_invS (idx := 115) (y' := 107) (tg := [1, 1, 1]) (by decide +kernel) (by decide +kernel) (by decide +kernel) rfl rfl
theorem x_159_9 : Xp 159 d 9 ls ((0, a) :: st) t g Q = ((a = 0 → Xp 159 d 22 ls st t g Q) ∧ (¬ (a = 0) → Xp 159 d 12 ls st t g Q)) := xr_if1 (cd := .eq) (off := 13) (by decide +kernel) (by decide)
theorem x_159_12 : Xp 159 d 12 [v0, v1, v2, (0, x), v4] st t g Q = Xp 159 d 13 [v0, v1, v2, (0, x), v4] ((0, x) :: st) t g Q := Xp_go (i := .iload_n 3) (len := 1) (by decide +kernel) rfl
theorem x_159_13 : Xp 159 d 13 ls ((0, a) :: st) t g Q = Xp 159 d 14 ls ((1, a) :: st) t g Q := Xp_go (i := .i2l) (len := 1) (by decide +kernel) rfl
theorem x_159_14 : Xp 159 d 14 ls st t g Q = Xp 159 d 15 ls ((1, 0) :: st) t g Q := Xp_go (i := .lconst 0) (len := 1) (by decide +kernel) rfl
theorem x_159_15 : Xp 159 d 15 ls st t g Q = Xp 159 d 16 ls ((1, 1) :: st) t g Q := Xp_go (i := .lconst 1) (len := 1) (by decide +kernel) rfl
theorem x_159_16 : Xp 159 (d + 1) 16 ls ((1, a2) :: (1, a1) :: (1, a0) :: st) t g Q = (hkC8 st ∧ Xp 107 d 0 [(1, a0), hkU, (1, a1), hkU, (1, a2), hkU] [] t g (fun r t g => Xp 159 (d + 1) 19 ls (hkPush r st) t g Q)) := xr_invS (idx := 115) (y' := 107) (tg := [1, 1, 1]) (by decide +kernel) (by decide +kernel) (by decide +kernel) rfl rfl
theorem x_159_19 : Xp 159 d 19 ls ((0, a) :: st) t g Q = ((¬ (a = 0) → Xp 159 d 25 ls st t g Q) ∧ (¬ (¬ (a = 0)) → Xp 159 d 22 ls st t g Q)) := xr_if1 (cd := .ne) (off := 6) (by decide +kernel) (by decide)
theorem x_159_22 : Xp 159 d 22 ls st t g Q = Xp 159 d 24 ls ((0, -2) :: st) t g Q := xr_bi (c := -2) (by decide +kernel) (by decide)
theorem x_159_24 : Xp 159 d 24 ls [(0, x)] t g Q = Q (some (0, x)) t g := xr_retI (by decide +kernel) (by decide +kernel)
theorem x_159_25 : Xp 159 d 25 [(2, x), v1, v2, v3, v4] st t g Q = Xp 159 d 26 [(2, x), v1, v2, v3, v4] ((2, x) :: st) t g Q := Xp_go (i := .aload_n 0) (len := 1) (by decide +kernel) rfl
theorem x_159_26 : Xp 159 d 26 [v0, (0, x), v2, v3, v4] st t g Q = Xp 159 d 27 [v0, (0, x), v2, v3, v4] ((0, x) :: st) t g Q := Xp_go (i := .iload_n 1) (len := 1) (by decide +kernel) rfl
theorem x_159_27 : Xp 159 d 27 [v0, v1, (0, x), v3, v4] st t g Q = Xp 159 d 28 [v0, v1, (0, x), v3, v4] ((0, x) :: st) t g Q := Xp_go (i := .iload_n 2) (len := 1) (by decide +kernel) rfl
theorem x_159_28 : Xp 159 (d + 1) 28 ls ((0, a2) :: (0, a1) :: (2, a0) :: st) t g Q = (hkJK a0 = 10 ∧ hkC8 st ∧ Xp 160 d 0 [(2, a0), (0, a1), (0, a2), hkU, hkU, hkU, hkU, hkU] [] t g (fun r t g => Xp 159 (d + 1) 31 ls (hkPush r st) t g Q)) := xr_invV (idx := 306) (y' := 160) (ci := 10) (tg := [2, 0, 0]) (by decide +kernel) (by decide +kernel) (by decide +kernel) (by decide +kernel) rfl rfl rfl
theorem x_159_31 : Xp 159 d 31 [v0, v1, v2, v3, v4] ((0, x) :: st) t g Q = (hkP1 v3 ∧ Xp 159 d 33 [v0, v1, v2, v3, (0, x)] st t g Q) := Xp_chk (i := .istore 4) (len := 2) (by decide +kernel) rfl
theorem x_159_33 : Xp 159 d 33 [v0, v1, v2, (0, x), v4] st t g Q = Xp 159 d 34 [v0, v1, v2, (0, x), v4] ((0, x) :: st) t g Q := Xp_go (i := .iload_n 3) (len := 1) (by decide +kernel) rfl
theorem x_159_34 : Xp 159 d 34 ls ((0, a) :: st) t g Q = ((¬ (a = 0) → Xp 159 d 42 ls st t g Q) ∧ (¬ (¬ (a = 0)) → Xp 159 d 37 ls st t g Q)) := xr_if1 (cd := .ne) (off := 8) (by decide +kernel) (by decide)
theorem x_159_37 : Xp 159 d 37 [v0, v1, v2, v3, (0, x)] st t g Q = Xp 159 d 39 [v0, v1, v2, v3, (0, x)] ((0, x) :: st) t g Q := Xp_go (i := .iload 4) (len := 2) (by decide +kernel) rfl
theorem x_159_39 : Xp 159 d 39 ls st t g Q = Xp 159 d 46 ls st t g Q := xr_goto (off := 7) (by decide +kernel) (by decide)
theorem x_159_42 : Xp 159 d 42 [(2, x), v1, v2, v3, v4] st t g Q = Xp 159 d 43 [(2, x), v1, v2, v3, v4] ((2, x) :: st) t g Q := Xp_go (i := .aload_n 0) (len := 1) (by decide +kernel) rfl
theorem x_159_43 : Xp 159 d 43 ls ((2, p) :: st) t g Q = (hkJK p = 10 ∧ Xp 159 d 46 ls ((0, g p 35) :: st) t g Q) := xr_getI (idx := 300) (ci := 10) (k := 35) (by decide +kernel) (by decide +kernel) (by decide +kernel)
theorem x_159_46 : Xp 159 d 46 ls [(0, x)] t g Q = Q (some (0, x)) t g := xr_retI (by decide +kernel) (by decide +kernel)
-- 160: HookBoxesModel.walk(II)I
theorem x_160_0 : Xp 160 d 0 [v0, (0, x), v2, v3, v4, v5, v6, v7] st t g Q = Xp 160 d 1 [v0, (0, x), v2, v3, v4, v5, v6, v7] ((0, x) :: st) t g Q := Xp_go (i := .iload_n 1) (len := 1) (by decide +kernel) rfl
theorem x_160_1 : Xp 160 d 1 [v0, v1, v2, v3, v4, v5, v6, v7] ((0, x) :: st) t g Q = (hkP1 v2 ∧ Xp 160 d 2 [v0, v1, v2, (0, x), v4, v5, v6, v7] st t g Q) := Xp_chk (i := .istore_n 3) (len := 1) (by decide +kernel) rfl
theorem x_160_2 : Xp 160 d 2 ls st t g Q = Xp 160 d 3 ls ((0, 0) :: st) t g Q := xr_const (c := 0) (by decide +kernel) (by decide)
theorem x_160_3 : Xp 160 d 3 [v0, v1, v2, v3, v4, v5, v6, v7] ((0, x) :: st) t g Q = (hkP1 v3 ∧ Xp 160 d 5 [v0, v1, v2, v3, (0, x), v5, v6, v7] st t g Q) := Xp_chk (i := .istore 4) (len := 2) (by decide +kernel) rfl
theorem x_160_5 : Xp 160 d 5 [(2, x), v1, v2, v3, v4, v5, v6, v7] st t g Q = Xp 160 d 6 [(2, x), v1, v2, v3, v4, v5, v6, v7] ((2, x) :: st) t g Q := Xp_go (i := .aload_n 0) (len := 1) (by decide +kernel) rfl
theorem x_160_6 : Xp 160 d 6 ls st t g Q = Xp 160 d 7 ls ((0, 0) :: st) t g Q := xr_const (c := 0) (by decide +kernel) (by decide)
theorem x_160_7 : Xp 160 d 7 ls ((0, x) :: (2, p) :: st) t g Q = (hkJK p = 10 ∧ Xp 160 d 10 ls st t (hkSet g p 35 x) Q) := xr_putI (idx := 300) (ci := 10) (k := 35) (by decide +kernel) (by decide +kernel) (by decide +kernel)
theorem x_160_10 : Xp 160 d 10 ls st t g Q = Xp 160 d 11 ls ((0, 0) :: st) t g Q := xr_const (c := 0) (by decide +kernel) (by decide)
theorem x_160_11 : Xp 160 d 11 [v0, v1, v2, v3, v4, v5, v6, v7] ((0, x) :: st) t g Q = (hkP1 v4 ∧ Xp 160 d 13 [v0, v1, v2, v3, v4, (0, x), v6, v7] st t g Q) := Xp_chk (i := .istore 5) (len := 2) (by decide +kernel) rfl
theorem x_160_13 : Xp 160 d 13 [v0, v1, v2, v3, v4, (0, x), v6, v7] st t g Q = Xp 160 d 15 [v0, v1, v2, v3, v4, (0, x), v6, v7] ((0, x) :: st) t g Q := Xp_go (i := .iload 5) (len := 2) (by decide +kernel) rfl
theorem x_160_15 : Xp 160 d 15 [v0, v1, (0, x), v3, v4, v5, v6, v7] st t g Q = Xp 160 d 16 [v0, v1, (0, x), v3, v4, v5, v6, v7] ((0, x) :: st) t g Q := Xp_go (i := .iload_n 2) (len := 1) (by decide +kernel) rfl
theorem x_160_16 : Xp 160 d 16 ls ((0, b) :: (0, a) :: st) t g Q = ((b ≤ a → Xp 160 d 102 ls st t g Q) ∧ (¬ (b ≤ a) → Xp 160 d 19 ls st t g Q)) := xr_if2 (cd := .ge) (off := 86) (by decide +kernel) (by decide)
theorem x_160_19 : Xp 160 d 19 [v0, v1, v2, (0, x), v4, v5, v6, v7] st t g Q = Xp 160 d 20 [v0, v1, v2, (0, x), v4, v5, v6, v7] ((0, x) :: st) t g Q := Xp_go (i := .iload_n 3) (len := 1) (by decide +kernel) rfl
theorem x_160_20 : Xp 160 d 20 ls st t g Q = Xp 160 d 23 ls ((0, 1103515245) :: st) t g Q := xr_ldcw (idx := 303) (by decide +kernel) (by decide +kernel)
theorem x_160_23 : Xp 160 d 23 ls ((0, b) :: (0, a) :: st) t g Q = Xp 160 d 24 ls ((0, hkW (a * b)) :: st) t g Q := Xp_go (i := .imul) (len := 1) (by decide +kernel) rfl
theorem x_160_24 : Xp 160 d 24 ls st t g Q = Xp 160 d 27 ls ((0, 12345) :: st) t g Q := xr_si (c := 12345) (by decide +kernel) (by decide)
theorem x_160_27 : Xp 160 d 27 ls ((0, b) :: (0, a) :: st) t g Q = Xp 160 d 28 ls ((0, hkW (a + b)) :: st) t g Q := Xp_go (i := .iadd) (len := 1) (by decide +kernel) rfl
theorem x_160_28 : Xp 160 d 28 [v0, v1, v2, v3, v4, v5, v6, v7] ((0, x) :: st) t g Q = (hkP1 v2 ∧ Xp 160 d 29 [v0, v1, v2, (0, x), v4, v5, v6, v7] st t g Q) := Xp_chk (i := .istore_n 3) (len := 1) (by decide +kernel) rfl
theorem x_160_29 : Xp 160 d 29 [v0, v1, v2, (0, x), v4, v5, v6, v7] st t g Q = Xp 160 d 30 [v0, v1, v2, (0, x), v4, v5, v6, v7] ((0, x) :: st) t g Q := Xp_go (i := .iload_n 3) (len := 1) (by decide +kernel) rfl
theorem x_160_30 : Xp 160 d 30 ls st t g Q = Xp 160 d 32 ls ((0, 9) :: st) t g Q := xr_bi (c := 9) (by decide +kernel) (by decide)
theorem x_160_32 : Xp 160 d 32 ls ((0, b) :: (0, a) :: st) t g Q = Xp 160 d 33 ls ((0, hkUsh a b) :: st) t g Q := Xp_go (i := .iushr) (len := 1) (by decide +kernel) rfl
theorem x_160_33 : Xp 160 d 33 [(2, x), v1, v2, v3, v4, v5, v6, v7] st t g Q = Xp 160 d 34 [(2, x), v1, v2, v3, v4, v5, v6, v7] ((2, x) :: st) t g Q := Xp_go (i := .aload_n 0) (len := 1) (by decide +kernel) rfl
theorem x_160_34 : Xp 160 d 34 ls ((2, p) :: st) t g Q = (hkJK p = 10 ∧ Xp 160 d 37 ls ((0, g p 2) :: st) t g Q) := xr_getI (idx := 97) (ci := 10) (k := 2) (by decide +kernel) (by decide +kernel) (by decide +kernel)
theorem x_160_37 : Xp 160 d 37 ls ((0, b) :: (0, a) :: st) t g Q = (b ≠ 0 ∧ Xp 160 d 38 ls ((0, a.tmod b) :: st) t g Q) := Xp_chk (i := .irem) (len := 1) (by decide +kernel) rfl
theorem x_160_38 : Xp 160 d 38 [v0, v1, v2, v3, v4, v5, v6, v7] ((0, x) :: st) t g Q = (hkP1 v5 ∧ Xp 160 d 40 [v0, v1, v2, v3, v4, v5, (0, x), v7] st t g Q) := Xp_chk (i := .istore 6) (len := 2) (by decide +kernel) rfl
theorem x_160_40 : Xp 160 d 40 ls st t g Q = Xp 160 d 41 ls ((0, 0) :: st) t g Q := xr_const (c := 0) (by decide +kernel) (by decide)
theorem x_160_41 : Xp 160 d 41 [v0, v1, v2, v3, v4, v5, v6, v7] ((0, x) :: st) t g Q = (hkP1 v6 ∧ Xp 160 d 43 [v0, v1, v2, v3, v4, v5, v6, (0, x)] st t g Q) := Xp_chk (i := .istore 7) (len := 2) (by decide +kernel) rfl
theorem x_160_43 : Xp 160 d 43 [v0, v1, v2, v3, v4, v5, v6, (0, x)] st t g Q = Xp 160 d 45 [v0, v1, v2, v3, v4, v5, v6, (0, x)] ((0, x) :: st) t g Q := Xp_go (i := .iload 7) (len := 2) (by decide +kernel) rfl
theorem x_160_45 : Xp 160 d 45 [(2, x), v1, v2, v3, v4, v5, v6, v7] st t g Q = Xp 160 d 46 [(2, x), v1, v2, v3, v4, v5, v6, v7] ((2, x) :: st) t g Q := Xp_go (i := .aload_n 0) (len := 1) (by decide +kernel) rfl
theorem x_160_46 : Xp 160 d 46 ls ((2, p) :: st) t g Q = (hkJK p = 10 ∧ Xp 160 d 49 ls ((0, g p 2) :: st) t g Q) := xr_getI (idx := 97) (ci := 10) (k := 2) (by decide +kernel) (by decide +kernel) (by decide +kernel)
theorem x_160_49 : Xp 160 d 49 ls st t g Q = Xp 160 d 50 ls ((0, 1) :: st) t g Q := xr_const (c := 1) (by decide +kernel) (by decide)
theorem x_160_50 : Xp 160 d 50 ls ((0, b) :: (0, a) :: st) t g Q = Xp 160 d 51 ls ((0, hkW (a - b)) :: st) t g Q := Xp_go (i := .isub) (len := 1) (by decide +kernel) rfl
theorem x_160_51 : Xp 160 d 51 ls ((0, b) :: (0, a) :: st) t g Q = ((b ≤ a → Xp 160 d 73 ls st t g Q) ∧ (¬ (b ≤ a) → Xp 160 d 54 ls st t g Q)) := xr_if2 (cd := .ge) (off := 22) (by decide +kernel) (by decide)
theorem x_160_54 : Xp 160 d 54 [(2, x), v1, v2, v3, v4, v5, v6, v7] st t g Q = Xp 160 d 55 [(2, x), v1, v2, v3, v4, v5, v6, v7] ((2, x) :: st) t g Q := Xp_go (i := .aload_n 0) (len := 1) (by decide +kernel) rfl
theorem x_160_55 : Xp 160 d 55 [v0, v1, v2, v3, (0, x), v5, v6, v7] st t g Q = Xp 160 d 57 [v0, v1, v2, v3, (0, x), v5, v6, v7] ((0, x) :: st) t g Q := Xp_go (i := .iload 4) (len := 2) (by decide +kernel) rfl
theorem x_160_57 : Xp 160 d 57 [v0, v1, v2, v3, v4, v5, (0, x), v7] st t g Q = Xp 160 d 59 [v0, v1, v2, v3, v4, v5, (0, x), v7] ((0, x) :: st) t g Q := Xp_go (i := .iload 6) (len := 2) (by decide +kernel) rfl
theorem x_160_59 : Xp 160 d 59 [v0, v1, v2, v3, v4, v5, v6, (0, x)] st t g Q = Xp 160 d 61 [v0, v1, v2, v3, v4, v5, v6, (0, x)] ((0, x) :: st) t g Q := Xp_go (i := .iload 7) (len := 2) (by decide +kernel) rfl
theorem x_160_61 : Xp 160 (d + 1) 61 ls ((0, a3) :: (0, a2) :: (0, a1) :: (2, a0) :: st) t g Q = (hkJK a0 = 10 ∧ hkC8 st ∧ Xp 121 d 0 [(2, a0), (0, a1), (0, a2), (0, a3), hkU] [] t g (fun r t g => Xp 160 (d + 1) 64 ls (hkPush r st) t g Q)) := xr_invV (idx := 177) (y' := 121) (ci := 10) (tg := [2, 0, 0, 0]) (by decide +kernel) (by decide +kernel) (by decide +kernel) (by decide +kernel) rfl rfl rfl
theorem x_160_64 : Xp 160 d 64 ls ((0, a) :: st) t g Q = ((¬ (a = 0) → Xp 160 d 73 ls st t g Q) ∧ (¬ (¬ (a = 0)) → Xp 160 d 67 ls st t g Q)) := xr_if1 (cd := .ne) (off := 9) (by decide +kernel) (by decide)
theorem x_160_67 : Xp 160 d 67 [v0, v1, v2, v3, v4, v5, v6, (0, x)] st t g Q = (hkP1 v6 ∧ Xp 160 d 70 [v0, v1, v2, v3, v4, v5, v6, (0, hkW (x + 1))] st t g Q) := Xp_chk (i := .iinc 7 (1)) (len := 3) (by decide +kernel) rfl
theorem x_160_70 : Xp 160 d 70 ls st t g Q = Xp 160 d 43 ls st t g Q := xr_goto (off := -27) (by decide +kernel) (by decide)
theorem x_160_73 : Xp 160 d 73 [(2, x), v1, v2, v3, v4, v5, v6, v7] st t g Q = Xp 160 d 74 [(2, x), v1, v2, v3, v4, v5, v6, v7] ((2, x) :: st) t g Q := Xp_go (i := .aload_n 0) (len := 1) (by decide +kernel) rfl
theorem x_160_74 : Xp 160 d 74 ls (v :: st) t g Q = (hkP1 v ∧ Xp 160 d 75 ls (v :: v :: st) t g Q) := Xp_chk (i := .dup) (len := 1) (by decide +kernel) rfl
theorem x_160_75 : Xp 160 d 75 ls ((2, p) :: st) t g Q = (hkJK p = 10 ∧ Xp 160 d 78 ls ((0, g p 35) :: st) t g Q) := xr_getI (idx := 300) (ci := 10) (k := 35) (by decide +kernel) (by decide +kernel) (by decide +kernel)
theorem x_160_78 : Xp 160 d 78 [(2, x), v1, v2, v3, v4, v5, v6, v7] st t g Q = Xp 160 d 79 [(2, x), v1, v2, v3, v4, v5, v6, v7] ((2, x) :: st) t g Q := Xp_go (i := .aload_n 0) (len := 1) (by decide +kernel) rfl
theorem x_160_79 : Xp 160 d 79 [v0, v1, v2, v3, (0, x), v5, v6, v7] st t g Q = Xp 160 d 81 [v0, v1, v2, v3, (0, x), v5, v6, v7] ((0, x) :: st) t g Q := Xp_go (i := .iload 4) (len := 2) (by decide +kernel) rfl
theorem x_160_81 : Xp 160 d 81 [v0, v1, v2, v3, v4, v5, (0, x), v7] st t g Q = Xp 160 d 83 [v0, v1, v2, v3, v4, v5, (0, x), v7] ((0, x) :: st) t g Q := Xp_go (i := .iload 6) (len := 2) (by decide +kernel) rfl
theorem x_160_83 : Xp 160 d 83 [v0, v1, v2, v3, v4, v5, v6, (0, x)] st t g Q = Xp 160 d 85 [v0, v1, v2, v3, v4, v5, v6, (0, x)] ((0, x) :: st) t g Q := Xp_go (i := .iload 7) (len := 2) (by decide +kernel) rfl
theorem x_160_85 : Xp 160 (d + 1) 85 ls ((0, a3) :: (0, a2) :: (0, a1) :: (2, a0) :: st) t g Q = (hkJK a0 = 10 ∧ hkC8 st ∧ Xp 126 d 0 [(2, a0), (0, a1), (0, a2), (0, a3)] [] t g (fun r t g => Xp 160 (d + 1) 88 ls (hkPush r st) t g Q)) := xr_invV (idx := 181) (y' := 126) (ci := 10) (tg := [2, 0, 0, 0]) (by decide +kernel) (by decide +kernel) (by decide +kernel) (by decide +kernel) rfl rfl rfl
theorem x_160_88 : Xp 160 d 88 ls ((0, b) :: (0, a) :: st) t g Q = Xp 160 d 89 ls ((0, hkW (a + b)) :: st) t g Q := Xp_go (i := .iadd) (len := 1) (by decide +kernel) rfl
theorem x_160_89 : Xp 160 d 89 ls ((0, x) :: (2, p) :: st) t g Q = (hkJK p = 10 ∧ Xp 160 d 92 ls st t (hkSet g p 35 x) Q) := xr_putI (idx := 300) (ci := 10) (k := 35) (by decide +kernel) (by decide +kernel) (by decide +kernel)
theorem x_160_92 : Xp 160 d 92 [v0, v1, v2, v3, v4, v5, v6, (0, x)] st t g Q = Xp 160 d 94 [v0, v1, v2, v3, v4, v5, v6, (0, x)] ((0, x) :: st) t g Q := Xp_go (i := .iload 7) (len := 2) (by decide +kernel) rfl
theorem x_160_94 : Xp 160 d 94 [v0, v1, v2, v3, v4, v5, v6, v7] ((0, x) :: st) t g Q = (hkP1 v3 ∧ Xp 160 d 96 [v0, v1, v2, v3, (0, x), v5, v6, v7] st t g Q) := Xp_chk (i := .istore 4) (len := 2) (by decide +kernel) rfl
theorem x_160_96 : Xp 160 d 96 [v0, v1, v2, v3, v4, (0, x), v6, v7] st t g Q = (hkP1 v4 ∧ Xp 160 d 99 [v0, v1, v2, v3, v4, (0, hkW (x + 1)), v6, v7] st t g Q) := Xp_chk (i := .iinc 5 (1)) (len := 3) (by decide +kernel) rfl
theorem x_160_99 : Xp 160 d 99 ls st t g Q = Xp 160 d 13 ls st t g Q := xr_goto (off := -86) (by decide +kernel) (by decide)
theorem x_160_102 : Xp 160 d 102 [v0, v1, v2, v3, (0, x), v5, v6, v7] st t g Q = Xp 160 d 104 [v0, v1, v2, v3, (0, x), v5, v6, v7] ((0, x) :: st) t g Q := Xp_go (i := .iload 4) (len := 2) (by decide +kernel) rfl
theorem x_160_104 : Xp 160 d 104 ls [(0, x)] t g Q = Q (some (0, x)) t g := xr_retI (by decide +kernel) (by decide +kernel)
-- 161: HookBoxesModel.chance(IIIII)I
theorem x_161_0 : Xp 161 d 0 [v0, v1, (0, x), v3, v4, v5, v6, v7, v8] st t g Q = Xp 161 d 1 [v0, v1, (0, x), v3, v4, v5, v6, v7, v8] ((0, x) :: st) t g Q := Xp_go (i := .iload_n 2) (len := 1) (by decide +kernel) rfl
theorem x_161_1 : Xp 161 d 1 ls ((0, a) :: st) t g Q = Xp 161 d 2 ls ((1, a) :: st) t g Q := Xp_go (i := .i2l) (len := 1) (by decide +kernel) rfl
theorem x_161_2 : Xp 161 d 2 ls st t g Q = Xp 161 d 3 ls ((1, 1) :: st) t g Q := Xp_go (i := .lconst 1) (len := 1) (by decide +kernel) rfl
theorem x_161_3 : Xp 161 d 3 ls st t g Q = Xp 161 d 6 ls ((1, 20) :: st) t g Q := xr_ldc2 (idx := 194) (by decide +kernel) (by decide +kernel)
theorem x_161_6 : Xp 161 (d + 1) 6 ls ((1, a2) :: (1, a1) :: (1, a0) :: st) t g Q = (hkC8 st ∧ Xp 107 d 0 [(1, a0), hkU, (1, a1), hkU, (1, a2), hkU] [] t g (fun r t g => Xp 161 (d + 1) 9 ls (hkPush r st) t g Q)) := xr_invS (idx := 115) (y' := 107) (tg := [1, 1, 1]) (by decide +kernel) (by decide +kernel) (by decide +kernel) rfl rfl
theorem x_161_9 : Xp 161 d 9 ls ((0, a) :: st) t g Q = ((a = 0 → Xp 161 d 40 ls st t g Q) ∧ (¬ (a = 0) → Xp 161 d 12 ls st t g Q)) := xr_if1 (cd := .eq) (off := 31) (by decide +kernel) (by decide)
theorem x_161_12 : Xp 161 d 12 [v0, v1, v2, (0, x), v4, v5, v6, v7, v8] st t g Q = Xp 161 d 13 [v0, v1, v2, (0, x), v4, v5, v6, v7, v8] ((0, x) :: st) t g Q := Xp_go (i := .iload_n 3) (len := 1) (by decide +kernel) rfl
theorem x_161_13 : Xp 161 d 13 ls ((0, a) :: st) t g Q = Xp 161 d 14 ls ((1, a) :: st) t g Q := Xp_go (i := .i2l) (len := 1) (by decide +kernel) rfl
theorem x_161_14 : Xp 161 d 14 ls st t g Q = Xp 161 d 15 ls ((1, 0) :: st) t g Q := Xp_go (i := .lconst 0) (len := 1) (by decide +kernel) rfl
theorem x_161_15 : Xp 161 d 15 ls st t g Q = Xp 161 d 18 ls ((1, 40) :: st) t g Q := xr_ldc2 (idx := 304) (by decide +kernel) (by decide +kernel)
theorem x_161_18 : Xp 161 (d + 1) 18 ls ((1, a2) :: (1, a1) :: (1, a0) :: st) t g Q = (hkC8 st ∧ Xp 107 d 0 [(1, a0), hkU, (1, a1), hkU, (1, a2), hkU] [] t g (fun r t g => Xp 161 (d + 1) 21 ls (hkPush r st) t g Q)) := xr_invS (idx := 115) (y' := 107) (tg := [1, 1, 1]) (by decide +kernel) (by decide +kernel) (by decide +kernel) rfl rfl
theorem x_161_21 : Xp 161 d 21 ls ((0, a) :: st) t g Q = ((a = 0 → Xp 161 d 40 ls st t g Q) ∧ (¬ (a = 0) → Xp 161 d 24 ls st t g Q)) := xr_if1 (cd := .eq) (off := 19) (by decide +kernel) (by decide)
theorem x_161_24 : Xp 161 d 24 [v0, v1, v2, v3, (0, x), v5, v6, v7, v8] st t g Q = Xp 161 d 26 [v0, v1, v2, v3, (0, x), v5, v6, v7, v8] ((0, x) :: st) t g Q := Xp_go (i := .iload 4) (len := 2) (by decide +kernel) rfl
theorem x_161_26 : Xp 161 d 26 ls ((0, a) :: st) t g Q = ((a < 0 → Xp 161 d 40 ls st t g Q) ∧ (¬ (a < 0) → Xp 161 d 29 ls st t g Q)) := xr_if1 (cd := .lt) (off := 14) (by decide +kernel) (by decide)
theorem x_161_29 : Xp 161 d 29 [v0, v1, v2, v3, v4, (0, x), v6, v7, v8] st t g Q = Xp 161 d 31 [v0, v1, v2, v3, v4, (0, x), v6, v7, v8] ((0, x) :: st) t g Q := Xp_go (i := .iload 5) (len := 2) (by decide +kernel) rfl
theorem x_161_31 : Xp 161 d 31 ls ((0, a) :: st) t g Q = Xp 161 d 32 ls ((1, a) :: st) t g Q := Xp_go (i := .i2l) (len := 1) (by decide +kernel) rfl
theorem x_161_32 : Xp 161 d 32 ls st t g Q = Xp 161 d 33 ls ((1, 0) :: st) t g Q := Xp_go (i := .lconst 0) (len := 1) (by decide +kernel) rfl
theorem x_161_33 : Xp 161 d 33 ls st t g Q = Xp 161 d 34 ls ((1, 1) :: st) t g Q := Xp_go (i := .lconst 1) (len := 1) (by decide +kernel) rfl
theorem x_161_34 : Xp 161 (d + 1) 34 ls ((1, a2) :: (1, a1) :: (1, a0) :: st) t g Q = (hkC8 st ∧ Xp 107 d 0 [(1, a0), hkU, (1, a1), hkU, (1, a2), hkU] [] t g (fun r t g => Xp 161 (d + 1) 37 ls (hkPush r st) t g Q)) := xr_invS (idx := 115) (y' := 107) (tg := [1, 1, 1]) (by decide +kernel) (by decide +kernel) (by decide +kernel) rfl rfl
theorem x_161_37 : Xp 161 d 37 ls ((0, a) :: st) t g Q = ((¬ (a = 0) → Xp 161 d 43 ls st t g Q) ∧ (¬ (¬ (a = 0)) → Xp 161 d 40 ls st t g Q)) := xr_if1 (cd := .ne) (off := 6) (by decide +kernel) (by decide)
theorem x_161_40 : Xp 161 d 40 ls st t g Q = Xp 161 d 42 ls ((0, -2) :: st) t g Q := xr_bi (c := -2) (by decide +kernel) (by decide)
theorem x_161_42 : Xp 161 d 42 ls [(0, x)] t g Q = Q (some (0, x)) t g := xr_retI (by decide +kernel) (by decide +kernel)
theorem x_161_43 : Xp 161 d 43 ls st t g Q = Xp 161 d 44 ls ((0, 0) :: st) t g Q := xr_const (c := 0) (by decide +kernel) (by decide)
theorem x_161_44 : Xp 161 d 44 [v0, v1, v2, v3, v4, v5, v6, v7, v8] ((0, x) :: st) t g Q = (hkP1 v5 ∧ Xp 161 d 46 [v0, v1, v2, v3, v4, v5, (0, x), v7, v8] st t g Q) := Xp_chk (i := .istore 6) (len := 2) (by decide +kernel) rfl
theorem x_161_46 : Xp 161 d 46 ls st t g Q = Xp 161 d 47 ls ((0, 0) :: st) t g Q := xr_const (c := 0) (by decide +kernel) (by decide)
theorem x_161_47 : Xp 161 d 47 [v0, v1, v2, v3, v4, v5, v6, v7, v8] ((0, x) :: st) t g Q = (hkP1 v6 ∧ Xp 161 d 49 [v0, v1, v2, v3, v4, v5, v6, (0, x), v8] st t g Q) := Xp_chk (i := .istore 7) (len := 2) (by decide +kernel) rfl
theorem x_161_49 : Xp 161 d 49 [v0, v1, v2, v3, v4, v5, v6, (0, x), v8] st t g Q = Xp 161 d 51 [v0, v1, v2, v3, v4, v5, v6, (0, x), v8] ((0, x) :: st) t g Q := Xp_go (i := .iload 7) (len := 2) (by decide +kernel) rfl
theorem x_161_51 : Xp 161 d 51 [v0, v1, (0, x), v3, v4, v5, v6, v7, v8] st t g Q = Xp 161 d 52 [v0, v1, (0, x), v3, v4, v5, v6, v7, v8] ((0, x) :: st) t g Q := Xp_go (i := .iload_n 2) (len := 1) (by decide +kernel) rfl
theorem x_161_52 : Xp 161 d 52 ls ((0, b) :: (0, a) :: st) t g Q = ((b ≤ a → Xp 161 d 91 ls st t g Q) ∧ (¬ (b ≤ a) → Xp 161 d 55 ls st t g Q)) := xr_if2 (cd := .ge) (off := 39) (by decide +kernel) (by decide)
theorem x_161_55 : Xp 161 d 55 [(2, x), v1, v2, v3, v4, v5, v6, v7, v8] st t g Q = Xp 161 d 56 [(2, x), v1, v2, v3, v4, v5, v6, v7, v8] ((2, x) :: st) t g Q := Xp_go (i := .aload_n 0) (len := 1) (by decide +kernel) rfl
theorem x_161_56 : Xp 161 d 56 [v0, (0, x), v2, v3, v4, v5, v6, v7, v8] st t g Q = Xp 161 d 57 [v0, (0, x), v2, v3, v4, v5, v6, v7, v8] ((0, x) :: st) t g Q := Xp_go (i := .iload_n 1) (len := 1) (by decide +kernel) rfl
theorem x_161_57 : Xp 161 d 57 [v0, v1, v2, v3, v4, v5, v6, (0, x), v8] st t g Q = Xp 161 d 59 [v0, v1, v2, v3, v4, v5, v6, (0, x), v8] ((0, x) :: st) t g Q := Xp_go (i := .iload 7) (len := 2) (by decide +kernel) rfl
theorem x_161_59 : Xp 161 d 59 ls ((0, b) :: (0, a) :: st) t g Q = Xp 161 d 60 ls ((0, hkW (a + b)) :: st) t g Q := Xp_go (i := .iadd) (len := 1) (by decide +kernel) rfl
theorem x_161_60 : Xp 161 d 60 [v0, v1, v2, (0, x), v4, v5, v6, v7, v8] st t g Q = Xp 161 d 61 [v0, v1, v2, (0, x), v4, v5, v6, v7, v8] ((0, x) :: st) t g Q := Xp_go (i := .iload_n 3) (len := 1) (by decide +kernel) rfl
theorem x_161_61 : Xp 161 (d + 1) 61 ls ((0, a2) :: (0, a1) :: (2, a0) :: st) t g Q = (hkJK a0 = 10 ∧ hkC8 st ∧ Xp 160 d 0 [(2, a0), (0, a1), (0, a2), hkU, hkU, hkU, hkU, hkU] [] t g (fun r t g => Xp 161 (d + 1) 64 ls (hkPush r st) t g Q)) := xr_invV (idx := 306) (y' := 160) (ci := 10) (tg := [2, 0, 0]) (by decide +kernel) (by decide +kernel) (by decide +kernel) (by decide +kernel) rfl rfl rfl
theorem x_161_64 : Xp 161 d 64 [v0, v1, v2, v3, v4, v5, v6, v7, v8] ((0, x) :: st) t g Q = (hkP1 v7 ∧ Xp 161 d 66 [v0, v1, v2, v3, v4, v5, v6, v7, (0, x)] st t g Q) := Xp_chk (i := .istore 8) (len := 2) (by decide +kernel) rfl
theorem x_161_66 : Xp 161 d 66 [v0, v1, v2, v3, v4, v5, (0, x), v7, v8] st t g Q = Xp 161 d 68 [v0, v1, v2, v3, v4, v5, (0, x), v7, v8] ((0, x) :: st) t g Q := Xp_go (i := .iload 6) (len := 2) (by decide +kernel) rfl
theorem x_161_68 : Xp 161 d 68 [(2, x), v1, v2, v3, v4, v5, v6, v7, v8] st t g Q = Xp 161 d 69 [(2, x), v1, v2, v3, v4, v5, v6, v7, v8] ((2, x) :: st) t g Q := Xp_go (i := .aload_n 0) (len := 1) (by decide +kernel) rfl
theorem x_161_69 : Xp 161 d 69 ls ((2, p) :: st) t g Q = (hkJK p = 10 ∧ Xp 161 d 72 ls ((0, g p 35) :: st) t g Q) := xr_getI (idx := 300) (ci := 10) (k := 35) (by decide +kernel) (by decide +kernel) (by decide +kernel)
theorem x_161_72 : Xp 161 d 72 [v0, v1, v2, v3, (0, x), v5, v6, v7, v8] st t g Q = Xp 161 d 74 [v0, v1, v2, v3, (0, x), v5, v6, v7, v8] ((0, x) :: st) t g Q := Xp_go (i := .iload 4) (len := 2) (by decide +kernel) rfl
theorem x_161_74 : Xp 161 d 74 ls ((0, b) :: (0, a) :: st) t g Q = ((a < b → Xp 161 d 81 ls st t g Q) ∧ (¬ (a < b) → Xp 161 d 77 ls st t g Q)) := xr_if2 (cd := .lt) (off := 7) (by decide +kernel) (by decide)
theorem x_161_77 : Xp 161 d 77 ls st t g Q = Xp 161 d 78 ls ((0, 1) :: st) t g Q := xr_const (c := 1) (by decide +kernel) (by decide)
theorem x_161_78 : Xp 161 d 78 ls st t g Q = Xp 161 d 82 ls st t g Q := xr_goto (off := 4) (by decide +kernel) (by decide)
theorem x_161_81 : Xp 161 d 81 ls st t g Q = Xp 161 d 82 ls ((0, 0) :: st) t g Q := xr_const (c := 0) (by decide +kernel) (by decide)
theorem x_161_82 : Xp 161 d 82 ls ((0, b) :: (0, a) :: st) t g Q = Xp 161 d 83 ls ((0, hkW (a + b)) :: st) t g Q := Xp_go (i := .iadd) (len := 1) (by decide +kernel) rfl
theorem x_161_83 : Xp 161 d 83 [v0, v1, v2, v3, v4, v5, v6, v7, v8] ((0, x) :: st) t g Q = (hkP1 v5 ∧ Xp 161 d 85 [v0, v1, v2, v3, v4, v5, (0, x), v7, v8] st t g Q) := Xp_chk (i := .istore 6) (len := 2) (by decide +kernel) rfl
theorem x_161_85 : Xp 161 d 85 [v0, v1, v2, v3, v4, v5, v6, (0, x), v8] st t g Q = (hkP1 v6 ∧ Xp 161 d 88 [v0, v1, v2, v3, v4, v5, v6, (0, hkW (x + 1)), v8] st t g Q) := Xp_chk (i := .iinc 7 (1)) (len := 3) (by decide +kernel) rfl
theorem x_161_88 : Xp 161 d 88 ls st t g Q = Xp 161 d 49 ls st t g Q := xr_goto (off := -39) (by decide +kernel) (by decide)
theorem x_161_91 : Xp 161 d 91 [v0, v1, v2, v3, v4, (0, x), v6, v7, v8] st t g Q = Xp 161 d 93 [v0, v1, v2, v3, v4, (0, x), v6, v7, v8] ((0, x) :: st) t g Q := Xp_go (i := .iload 5) (len := 2) (by decide +kernel) rfl
theorem x_161_93 : Xp 161 d 93 ls ((0, a) :: st) t g Q = ((¬ (a = 0) → Xp 161 d 101 ls st t g Q) ∧ (¬ (¬ (a = 0)) → Xp 161 d 96 ls st t g Q)) := xr_if1 (cd := .ne) (off := 8) (by decide +kernel) (by decide)
theorem x_161_96 : Xp 161 d 96 [v0, v1, v2, v3, v4, v5, (0, x), v7, v8] st t g Q = Xp 161 d 98 [v0, v1, v2, v3, v4, v5, (0, x), v7, v8] ((0, x) :: st) t g Q := Xp_go (i := .iload 6) (len := 2) (by decide +kernel) rfl
theorem x_161_98 : Xp 161 d 98 ls st t g Q = Xp 161 d 102 ls st t g Q := xr_goto (off := 4) (by decide +kernel) (by decide)
theorem x_161_101 : Xp 161 d 101 [v0, v1, (0, x), v3, v4, v5, v6, v7, v8] st t g Q = Xp 161 d 102 [v0, v1, (0, x), v3, v4, v5, v6, v7, v8] ((0, x) :: st) t g Q := Xp_go (i := .iload_n 2) (len := 1) (by decide +kernel) rfl
theorem x_161_102 : Xp 161 d 102 [v0, v1, (0, x), v3, v4, v5, v6, v7, v8] st t g Q = Xp 161 d 103 [v0, v1, (0, x), v3, v4, v5, v6, v7, v8] ((0, x) :: st) t g Q := Xp_go (i := .iload_n 2) (len := 1) (by decide +kernel) rfl
theorem x_161_103 : Xp 161 d 103 [v0, v1, v2, v3, v4, v5, (0, x), v7, v8] st t g Q = Xp 161 d 105 [v0, v1, v2, v3, v4, v5, (0, x), v7, v8] ((0, x) :: st) t g Q := Xp_go (i := .iload 6) (len := 2) (by decide +kernel) rfl
theorem x_161_105 : Xp 161 (d + 1) 105 ls ((0, a1) :: (0, a0) :: st) t g Q = (hkC8 st ∧ Xp 162 d 0 [(0, a0), (0, a1)] [] t g (fun r t g => Xp 161 (d + 1) 108 ls (hkPush r st) t g Q)) := xr_invS (idx := 309) (y' := 162) (tg := [0, 0]) (by decide +kernel) (by decide +kernel) (by decide +kernel) rfl rfl
theorem x_161_108 : Xp 161 d 108 ls ((0, b) :: (0, a) :: st) t g Q = (b ≠ 0 ∧ Xp 161 d 109 ls ((0, hkW (a.tdiv b)) :: st) t g Q) := Xp_chk (i := .idiv) (len := 1) (by decide +kernel) rfl
theorem x_161_109 : Xp 161 d 109 ls [(0, x)] t g Q = Q (some (0, x)) t g := xr_retI (by decide +kernel) (by decide +kernel)
-- 162: HookBoxesModel.common(II)I
theorem x_162_0 : Xp 162 d 0 [v0, (0, x)] st t g Q = Xp 162 d 1 [v0, (0, x)] ((0, x) :: st) t g Q := Xp_go (i := .iload_n 1) (len := 1) (by decide +kernel) rfl
theorem x_162_1 : Xp 162 d 1 ls ((0, a) :: st) t g Q = ((¬ (a = 0) → Xp 162 d 8 ls st t g Q) ∧ (¬ (¬ (a = 0)) → Xp 162 d 4 ls st t g Q)) := xr_if1 (cd := .ne) (off := 7) (by decide +kernel) (by decide)
theorem x_162_4 : Xp 162 d 4 [(0, x), v1] st t g Q = Xp 162 d 5 [(0, x), v1] ((0, x) :: st) t g Q := Xp_go (i := .iload_n 0) (len := 1) (by decide +kernel) rfl
theorem x_162_5 : Xp 162 d 5 ls st t g Q = Xp 162 d 15 ls st t g Q := xr_goto (off := 10) (by decide +kernel) (by decide)
theorem x_162_8 : Xp 162 d 8 [v0, (0, x)] st t g Q = Xp 162 d 9 [v0, (0, x)] ((0, x) :: st) t g Q := Xp_go (i := .iload_n 1) (len := 1) (by decide +kernel) rfl
theorem x_162_9 : Xp 162 d 9 [(0, x), v1] st t g Q = Xp 162 d 10 [(0, x), v1] ((0, x) :: st) t g Q := Xp_go (i := .iload_n 0) (len := 1) (by decide +kernel) rfl
theorem x_162_10 : Xp 162 d 10 [v0, (0, x)] st t g Q = Xp 162 d 11 [v0, (0, x)] ((0, x) :: st) t g Q := Xp_go (i := .iload_n 1) (len := 1) (by decide +kernel) rfl
theorem x_162_11 : Xp 162 d 11 ls ((0, b) :: (0, a) :: st) t g Q = (b ≠ 0 ∧ Xp 162 d 12 ls ((0, a.tmod b) :: st) t g Q) := Xp_chk (i := .irem) (len := 1) (by decide +kernel) rfl
theorem x_162_12 : Xp 162 (d + 1) 12 ls ((0, a1) :: (0, a0) :: st) t g Q = (hkC8 st ∧ Xp 162 d 0 [(0, a0), (0, a1)] [] t g (fun r t g => Xp 162 (d + 1) 15 ls (hkPush r st) t g Q)) := xr_invS (idx := 309) (y' := 162) (tg := [0, 0]) (by decide +kernel) (by decide +kernel) (by decide +kernel) rfl rfl
theorem x_162_15 : Xp 162 d 15 ls [(0, x)] t g Q = Q (some (0, x)) t g := xr_retI (by decide +kernel) (by decide +kernel)
-- 163: HookBoxesModel.tells(III)I
theorem x_163_0 : Xp 163 d 0 [v0, (0, x), v2, v3, v4] st t g Q = Xp 163 d 1 [v0, (0, x), v2, v3, v4] ((0, x) :: st) t g Q := Xp_go (i := .iload_n 1) (len := 1) (by decide +kernel) rfl
theorem x_163_1 : Xp 163 (d + 1) 1 ls ((0, a0) :: st) t g Q = (hkC8 st ∧ Xp 130 d 0 [(0, a0)] [] t g (fun r t g => Xp 163 (d + 1) 4 ls (hkPush r st) t g Q)) := xr_invS (idx := 189) (y' := 130) (tg := [0]) (by decide +kernel) (by decide +kernel) (by decide +kernel) rfl rfl
theorem x_163_4 : Xp 163 d 4 ls ((0, a) :: st) t g Q = ((a = 0 → Xp 163 d 23 ls st t g Q) ∧ (¬ (a = 0) → Xp 163 d 7 ls st t g Q)) := xr_if1 (cd := .eq) (off := 19) (by decide +kernel) (by decide)
theorem x_163_7 : Xp 163 d 7 [(2, x), v1, v2, v3, v4] st t g Q = Xp 163 d 8 [(2, x), v1, v2, v3, v4] ((2, x) :: st) t g Q := Xp_go (i := .aload_n 0) (len := 1) (by decide +kernel) rfl
theorem x_163_8 : Xp 163 d 8 [v0, v1, (0, x), v3, v4] st t g Q = Xp 163 d 9 [v0, v1, (0, x), v3, v4] ((0, x) :: st) t g Q := Xp_go (i := .iload_n 2) (len := 1) (by decide +kernel) rfl
theorem x_163_9 : Xp 163 (d + 1) 9 ls ((0, a1) :: (2, a0) :: st) t g Q = (hkJK a0 = 10 ∧ hkC8 st ∧ Xp 109 d 0 [(2, a0), (0, a1)] [] t g (fun r t g => Xp 163 (d + 1) 12 ls (hkPush r st) t g Q)) := xr_invV (idx := 123) (y' := 109) (ci := 10) (tg := [2, 0]) (by decide +kernel) (by decide +kernel) (by decide +kernel) (by decide +kernel) rfl rfl rfl
theorem x_163_12 : Xp 163 d 12 ls ((0, a) :: st) t g Q = ((a = 0 → Xp 163 d 23 ls st t g Q) ∧ (¬ (a = 0) → Xp 163 d 15 ls st t g Q)) := xr_if1 (cd := .eq) (off := 11) (by decide +kernel) (by decide)
theorem x_163_15 : Xp 163 d 15 [(2, x), v1, v2, v3, v4] st t g Q = Xp 163 d 16 [(2, x), v1, v2, v3, v4] ((2, x) :: st) t g Q := Xp_go (i := .aload_n 0) (len := 1) (by decide +kernel) rfl
theorem x_163_16 : Xp 163 d 16 [v0, v1, v2, (0, x), v4] st t g Q = Xp 163 d 17 [v0, v1, v2, (0, x), v4] ((0, x) :: st) t g Q := Xp_go (i := .iload_n 3) (len := 1) (by decide +kernel) rfl
theorem x_163_17 : Xp 163 (d + 1) 17 ls ((0, a1) :: (2, a0) :: st) t g Q = (hkJK a0 = 10 ∧ hkC8 st ∧ Xp 109 d 0 [(2, a0), (0, a1)] [] t g (fun r t g => Xp 163 (d + 1) 20 ls (hkPush r st) t g Q)) := xr_invV (idx := 123) (y' := 109) (ci := 10) (tg := [2, 0]) (by decide +kernel) (by decide +kernel) (by decide +kernel) (by decide +kernel) rfl rfl rfl
theorem x_163_20 : Xp 163 d 20 ls ((0, a) :: st) t g Q = ((¬ (a = 0) → Xp 163 d 26 ls st t g Q) ∧ (¬ (¬ (a = 0)) → Xp 163 d 23 ls st t g Q)) := xr_if1 (cd := .ne) (off := 6) (by decide +kernel) (by decide)
theorem x_163_23 : Xp 163 d 23 ls st t g Q = Xp 163 d 25 ls ((0, -2) :: st) t g Q := xr_bi (c := -2) (by decide +kernel) (by decide)
theorem x_163_25 : Xp 163 d 25 ls [(0, x)] t g Q = Q (some (0, x)) t g := xr_retI (by decide +kernel) (by decide +kernel)
theorem x_163_26 : Xp 163 d 26 [(2, x), v1, v2, v3, v4] st t g Q = Xp 163 d 27 [(2, x), v1, v2, v3, v4] ((2, x) :: st) t g Q := Xp_go (i := .aload_n 0) (len := 1) (by decide +kernel) rfl
theorem x_163_27 : Xp 163 d 27 ls ((2, p) :: st) t g Q = (hkJK p = 10 ∧ jA p 36 ≤ t ∧ Xp 163 d 30 ls ((2, jR p 36) :: st) t g Q) := xr_getR (idx := 82) (ci := 10) (k := 36) (by decide +kernel) (by decide +kernel) (by decide +kernel)
theorem x_163_30 : Xp 163 d 30 [v0, (0, x), v2, v3, v4] st t g Q = Xp 163 d 31 [v0, (0, x), v2, v3, v4] ((0, x) :: st) t g Q := Xp_go (i := .iload_n 1) (len := 1) (by decide +kernel) rfl
theorem x_163_31 : Xp 163 d 31 ls ((0, a) :: (2, p) :: st) t g Q = ((hkJK p = 100 ∧ 0 ≤ a ∧ a < jL p) ∧ Xp 163 d 32 ls ((0, g p a) :: st) t g Q) := Xp_chk (i := .iaload) (len := 1) (by decide +kernel) rfl
theorem x_163_32 : Xp 163 d 32 ls st t g Q = Xp 163 d 33 ls ((0, -1) :: st) t g Q := xr_const (c := -1) (by decide +kernel) (by decide)
theorem x_163_33 : Xp 163 d 33 ls ((0, b) :: (0, a) :: st) t g Q = ((¬ (a = b) → Xp 163 d 39 ls st t g Q) ∧ (¬ (¬ (a = b)) → Xp 163 d 36 ls st t g Q)) := xr_if2 (cd := .ne) (off := 6) (by decide +kernel) (by decide)
theorem x_163_36 : Xp 163 d 36 ls st t g Q = Xp 163 d 38 ls ((0, -11) :: st) t g Q := xr_bi (c := -11) (by decide +kernel) (by decide)
theorem x_163_38 : Xp 163 d 38 ls [(0, x)] t g Q = Q (some (0, x)) t g := xr_retI (by decide +kernel) (by decide +kernel)
theorem x_163_39 : Xp 163 d 39 ls st t g Q = Xp 163 d 40 ls ((0, 0) :: st) t g Q := xr_const (c := 0) (by decide +kernel) (by decide)
theorem x_163_40 : Xp 163 d 40 [v0, v1, v2, v3, v4] ((0, x) :: st) t g Q = (hkP1 v3 ∧ Xp 163 d 42 [v0, v1, v2, v3, (0, x)] st t g Q) := Xp_chk (i := .istore 4) (len := 2) (by decide +kernel) rfl
theorem x_163_42 : Xp 163 d 42 [v0, v1, v2, v3, (0, x)] st t g Q = Xp 163 d 44 [v0, v1, v2, v3, (0, x)] ((0, x) :: st) t g Q := Xp_go (i := .iload 4) (len := 2) (by decide +kernel) rfl
theorem x_163_44 : Xp 163 d 44 [(2, x), v1, v2, v3, v4] st t g Q = Xp 163 d 45 [(2, x), v1, v2, v3, v4] ((2, x) :: st) t g Q := Xp_go (i := .aload_n 0) (len := 1) (by decide +kernel) rfl
theorem x_163_45 : Xp 163 d 45 ls ((2, p) :: st) t g Q = (hkJK p = 10 ∧ jA p 37 ≤ t ∧ Xp 163 d 48 ls ((2, jR p 37) :: st) t g Q) := xr_getR (idx := 85) (ci := 10) (k := 37) (by decide +kernel) (by decide +kernel) (by decide +kernel)
theorem x_163_48 : Xp 163 d 48 [v0, (0, x), v2, v3, v4] st t g Q = Xp 163 d 49 [v0, (0, x), v2, v3, v4] ((0, x) :: st) t g Q := Xp_go (i := .iload_n 1) (len := 1) (by decide +kernel) rfl
theorem x_163_49 : Xp 163 d 49 ls ((0, a) :: (2, p) :: st) t g Q = ((hkJK p = 100 ∧ 0 ≤ a ∧ a < jL p) ∧ Xp 163 d 50 ls ((0, g p a) :: st) t g Q) := Xp_chk (i := .iaload) (len := 1) (by decide +kernel) rfl
theorem x_163_50 : Xp 163 d 50 ls ((0, b) :: (0, a) :: st) t g Q = ((b ≤ a → Xp 163 d 94 ls st t g Q) ∧ (¬ (b ≤ a) → Xp 163 d 53 ls st t g Q)) := xr_if2 (cd := .ge) (off := 44) (by decide +kernel) (by decide)
theorem x_163_53 : Xp 163 d 53 [(2, x), v1, v2, v3, v4] st t g Q = Xp 163 d 54 [(2, x), v1, v2, v3, v4] ((2, x) :: st) t g Q := Xp_go (i := .aload_n 0) (len := 1) (by decide +kernel) rfl
theorem x_163_54 : Xp 163 d 54 [v0, v1, v2, v3, (0, x)] st t g Q = Xp 163 d 56 [v0, v1, v2, v3, (0, x)] ((0, x) :: st) t g Q := Xp_go (i := .iload 4) (len := 2) (by decide +kernel) rfl
theorem x_163_56 : Xp 163 (d + 1) 56 ls ((0, a1) :: (2, a0) :: st) t g Q = (hkJK a0 = 10 ∧ hkC8 st ∧ Xp 109 d 0 [(2, a0), (0, a1)] [] t g (fun r t g => Xp 163 (d + 1) 59 ls (hkPush r st) t g Q)) := xr_invV (idx := 123) (y' := 109) (ci := 10) (tg := [2, 0]) (by decide +kernel) (by decide +kernel) (by decide +kernel) (by decide +kernel) rfl rfl rfl
theorem x_163_59 : Xp 163 d 59 ls ((0, a) :: st) t g Q = ((a = 0 → Xp 163 d 85 ls st t g Q) ∧ (¬ (a = 0) → Xp 163 d 62 ls st t g Q)) := xr_if1 (cd := .eq) (off := 26) (by decide +kernel) (by decide)
theorem x_163_62 : Xp 163 d 62 [(2, x), v1, v2, v3, v4] st t g Q = Xp 163 d 63 [(2, x), v1, v2, v3, v4] ((2, x) :: st) t g Q := Xp_go (i := .aload_n 0) (len := 1) (by decide +kernel) rfl
theorem x_163_63 : Xp 163 d 63 ls ((2, p) :: st) t g Q = (hkJK p = 10 ∧ jA p 38 ≤ t ∧ Xp 163 d 66 ls ((2, jR p 38) :: st) t g Q) := xr_getR (idx := 88) (ci := 10) (k := 38) (by decide +kernel) (by decide +kernel) (by decide +kernel)
theorem x_163_66 : Xp 163 d 66 ls st t g Q = Xp 163 d 68 ls ((0, 40) :: st) t g Q := xr_bi (c := 40) (by decide +kernel) (by decide)
theorem x_163_68 : Xp 163 d 68 [v0, (0, x), v2, v3, v4] st t g Q = Xp 163 d 69 [v0, (0, x), v2, v3, v4] ((0, x) :: st) t g Q := Xp_go (i := .iload_n 1) (len := 1) (by decide +kernel) rfl
theorem x_163_69 : Xp 163 d 69 ls ((0, b) :: (0, a) :: st) t g Q = Xp 163 d 70 ls ((0, hkW (a * b)) :: st) t g Q := Xp_go (i := .imul) (len := 1) (by decide +kernel) rfl
theorem x_163_70 : Xp 163 d 70 [v0, v1, v2, v3, (0, x)] st t g Q = Xp 163 d 72 [v0, v1, v2, v3, (0, x)] ((0, x) :: st) t g Q := Xp_go (i := .iload 4) (len := 2) (by decide +kernel) rfl
theorem x_163_72 : Xp 163 d 72 ls ((0, b) :: (0, a) :: st) t g Q = Xp 163 d 73 ls ((0, hkW (a + b)) :: st) t g Q := Xp_go (i := .iadd) (len := 1) (by decide +kernel) rfl
theorem x_163_73 : Xp 163 d 73 ls ((0, a) :: (2, p) :: st) t g Q = ((hkJK p = 100 ∧ 0 ≤ a ∧ a < jL p) ∧ Xp 163 d 74 ls ((0, g p a) :: st) t g Q) := Xp_chk (i := .iaload) (len := 1) (by decide +kernel) rfl
theorem x_163_74 : Xp 163 d 74 [(2, x), v1, v2, v3, v4] st t g Q = Xp 163 d 75 [(2, x), v1, v2, v3, v4] ((2, x) :: st) t g Q := Xp_go (i := .aload_n 0) (len := 1) (by decide +kernel) rfl
theorem x_163_75 : Xp 163 d 75 [v0, v1, (0, x), v3, v4] st t g Q = Xp 163 d 76 [v0, v1, (0, x), v3, v4] ((0, x) :: st) t g Q := Xp_go (i := .iload_n 2) (len := 1) (by decide +kernel) rfl
theorem x_163_76 : Xp 163 d 76 [v0, v1, v2, (0, x), v4] st t g Q = Xp 163 d 77 [v0, v1, v2, (0, x), v4] ((0, x) :: st) t g Q := Xp_go (i := .iload_n 3) (len := 1) (by decide +kernel) rfl
theorem x_163_77 : Xp 163 d 77 [v0, v1, v2, v3, (0, x)] st t g Q = Xp 163 d 79 [v0, v1, v2, v3, (0, x)] ((0, x) :: st) t g Q := Xp_go (i := .iload 4) (len := 2) (by decide +kernel) rfl
theorem x_163_79 : Xp 163 (d + 1) 79 ls ((0, a3) :: (0, a2) :: (0, a1) :: (2, a0) :: st) t g Q = (hkJK a0 = 10 ∧ hkC8 st ∧ Xp 121 d 0 [(2, a0), (0, a1), (0, a2), (0, a3), hkU] [] t g (fun r t g => Xp 163 (d + 1) 82 ls (hkPush r st) t g Q)) := xr_invV (idx := 177) (y' := 121) (ci := 10) (tg := [2, 0, 0, 0]) (by decide +kernel) (by decide +kernel) (by decide +kernel) (by decide +kernel) rfl rfl rfl
theorem x_163_82 : Xp 163 d 82 ls ((0, b) :: (0, a) :: st) t g Q = ((a = b → Xp 163 d 88 ls st t g Q) ∧ (¬ (a = b) → Xp 163 d 85 ls st t g Q)) := xr_if2 (cd := .eq) (off := 6) (by decide +kernel) (by decide)
theorem x_163_85 : Xp 163 d 85 [v0, v1, v2, v3, (0, x)] st t g Q = Xp 163 d 87 [v0, v1, v2, v3, (0, x)] ((0, x) :: st) t g Q := Xp_go (i := .iload 4) (len := 2) (by decide +kernel) rfl
theorem x_163_87 : Xp 163 d 87 ls [(0, x)] t g Q = Q (some (0, x)) t g := xr_retI (by decide +kernel) (by decide +kernel)
theorem x_163_88 : Xp 163 d 88 [v0, v1, v2, v3, (0, x)] st t g Q = (hkP1 v3 ∧ Xp 163 d 91 [v0, v1, v2, v3, (0, hkW (x + 1))] st t g Q) := Xp_chk (i := .iinc 4 (1)) (len := 3) (by decide +kernel) rfl
theorem x_163_91 : Xp 163 d 91 ls st t g Q = Xp 163 d 42 ls st t g Q := xr_goto (off := -49) (by decide +kernel) (by decide)
theorem x_163_94 : Xp 163 d 94 ls st t g Q = Xp 163 d 95 ls ((0, -1) :: st) t g Q := xr_const (c := -1) (by decide +kernel) (by decide)
theorem x_163_95 : Xp 163 d 95 ls [(0, x)] t g Q = Q (some (0, x)) t g := xr_retI (by decide +kernel) (by decide +kernel)
-- 164: HookBoxesModel.film(III)I
theorem x_164_0 : Xp 164 d 0 [v0, (0, x), v2, v3, v4] st t g Q = Xp 164 d 1 [v0, (0, x), v2, v3, v4] ((0, x) :: st) t g Q := Xp_go (i := .iload_n 1) (len := 1) (by decide +kernel) rfl
theorem x_164_1 : Xp 164 (d + 1) 1 ls ((0, a0) :: st) t g Q = (hkC8 st ∧ Xp 130 d 0 [(0, a0)] [] t g (fun r t g => Xp 164 (d + 1) 4 ls (hkPush r st) t g Q)) := xr_invS (idx := 189) (y' := 130) (tg := [0]) (by decide +kernel) (by decide +kernel) (by decide +kernel) rfl rfl
theorem x_164_4 : Xp 164 d 4 ls ((0, a) :: st) t g Q = ((a = 0 → Xp 164 d 23 ls st t g Q) ∧ (¬ (a = 0) → Xp 164 d 7 ls st t g Q)) := xr_if1 (cd := .eq) (off := 19) (by decide +kernel) (by decide)
theorem x_164_7 : Xp 164 d 7 [(2, x), v1, v2, v3, v4] st t g Q = Xp 164 d 8 [(2, x), v1, v2, v3, v4] ((2, x) :: st) t g Q := Xp_go (i := .aload_n 0) (len := 1) (by decide +kernel) rfl
theorem x_164_8 : Xp 164 d 8 [v0, v1, (0, x), v3, v4] st t g Q = Xp 164 d 9 [v0, v1, (0, x), v3, v4] ((0, x) :: st) t g Q := Xp_go (i := .iload_n 2) (len := 1) (by decide +kernel) rfl
theorem x_164_9 : Xp 164 (d + 1) 9 ls ((0, a1) :: (2, a0) :: st) t g Q = (hkJK a0 = 10 ∧ hkC8 st ∧ Xp 109 d 0 [(2, a0), (0, a1)] [] t g (fun r t g => Xp 164 (d + 1) 12 ls (hkPush r st) t g Q)) := xr_invV (idx := 123) (y' := 109) (ci := 10) (tg := [2, 0]) (by decide +kernel) (by decide +kernel) (by decide +kernel) (by decide +kernel) rfl rfl rfl
theorem x_164_12 : Xp 164 d 12 ls ((0, a) :: st) t g Q = ((a = 0 → Xp 164 d 23 ls st t g Q) ∧ (¬ (a = 0) → Xp 164 d 15 ls st t g Q)) := xr_if1 (cd := .eq) (off := 11) (by decide +kernel) (by decide)
theorem x_164_15 : Xp 164 d 15 [(2, x), v1, v2, v3, v4] st t g Q = Xp 164 d 16 [(2, x), v1, v2, v3, v4] ((2, x) :: st) t g Q := Xp_go (i := .aload_n 0) (len := 1) (by decide +kernel) rfl
theorem x_164_16 : Xp 164 d 16 [v0, v1, v2, (0, x), v4] st t g Q = Xp 164 d 17 [v0, v1, v2, (0, x), v4] ((0, x) :: st) t g Q := Xp_go (i := .iload_n 3) (len := 1) (by decide +kernel) rfl
theorem x_164_17 : Xp 164 (d + 1) 17 ls ((0, a1) :: (2, a0) :: st) t g Q = (hkJK a0 = 10 ∧ hkC8 st ∧ Xp 109 d 0 [(2, a0), (0, a1)] [] t g (fun r t g => Xp 164 (d + 1) 20 ls (hkPush r st) t g Q)) := xr_invV (idx := 123) (y' := 109) (ci := 10) (tg := [2, 0]) (by decide +kernel) (by decide +kernel) (by decide +kernel) (by decide +kernel) rfl rfl rfl
theorem x_164_20 : Xp 164 d 20 ls ((0, a) :: st) t g Q = ((¬ (a = 0) → Xp 164 d 26 ls st t g Q) ∧ (¬ (¬ (a = 0)) → Xp 164 d 23 ls st t g Q)) := xr_if1 (cd := .ne) (off := 6) (by decide +kernel) (by decide)
theorem x_164_23 : Xp 164 d 23 ls st t g Q = Xp 164 d 25 ls ((0, -2) :: st) t g Q := xr_bi (c := -2) (by decide +kernel) (by decide)
theorem x_164_25 : Xp 164 d 25 ls [(0, x)] t g Q = Q (some (0, x)) t g := xr_retI (by decide +kernel) (by decide +kernel)
theorem x_164_26 : Xp 164 d 26 [(2, x), v1, v2, v3, v4] st t g Q = Xp 164 d 27 [(2, x), v1, v2, v3, v4] ((2, x) :: st) t g Q := Xp_go (i := .aload_n 0) (len := 1) (by decide +kernel) rfl
theorem x_164_27 : Xp 164 d 27 ls ((2, p) :: st) t g Q = (hkJK p = 10 ∧ jA p 36 ≤ t ∧ Xp 164 d 30 ls ((2, jR p 36) :: st) t g Q) := xr_getR (idx := 82) (ci := 10) (k := 36) (by decide +kernel) (by decide +kernel) (by decide +kernel)
theorem x_164_30 : Xp 164 d 30 [v0, (0, x), v2, v3, v4] st t g Q = Xp 164 d 31 [v0, (0, x), v2, v3, v4] ((0, x) :: st) t g Q := Xp_go (i := .iload_n 1) (len := 1) (by decide +kernel) rfl
theorem x_164_31 : Xp 164 d 31 ls st t g Q = Xp 164 d 32 ls ((0, 0) :: st) t g Q := xr_const (c := 0) (by decide +kernel) (by decide)
theorem x_164_32 : Xp 164 d 32 ls ((0, x) :: (0, a) :: (2, p) :: st) t g Q = ((hkJK p = 100 ∧ (100 = 102 → x = 0 ∨ x = 1) ∧ 0 ≤ a ∧ a < jL p) ∧ Xp 164 d 33 ls st t (hkSet g p a x) Q) := Xp_chk (i := .iastore) (len := 1) (by decide +kernel) rfl
theorem x_164_33 : Xp 164 d 33 [(2, x), v1, v2, v3, v4] st t g Q = Xp 164 d 34 [(2, x), v1, v2, v3, v4] ((2, x) :: st) t g Q := Xp_go (i := .aload_n 0) (len := 1) (by decide +kernel) rfl
theorem x_164_34 : Xp 164 d 34 ls ((2, p) :: st) t g Q = (hkJK p = 10 ∧ jA p 37 ≤ t ∧ Xp 164 d 37 ls ((2, jR p 37) :: st) t g Q) := xr_getR (idx := 85) (ci := 10) (k := 37) (by decide +kernel) (by decide +kernel) (by decide +kernel)
theorem x_164_37 : Xp 164 d 37 [v0, (0, x), v2, v3, v4] st t g Q = Xp 164 d 38 [v0, (0, x), v2, v3, v4] ((0, x) :: st) t g Q := Xp_go (i := .iload_n 1) (len := 1) (by decide +kernel) rfl
theorem x_164_38 : Xp 164 d 38 [(2, x), v1, v2, v3, v4] st t g Q = Xp 164 d 39 [(2, x), v1, v2, v3, v4] ((2, x) :: st) t g Q := Xp_go (i := .aload_n 0) (len := 1) (by decide +kernel) rfl
theorem x_164_39 : Xp 164 d 39 ls ((2, p) :: st) t g Q = (hkJK p = 10 ∧ Xp 164 d 42 ls ((0, g p 2) :: st) t g Q) := xr_getI (idx := 97) (ci := 10) (k := 2) (by decide +kernel) (by decide +kernel) (by decide +kernel)
theorem x_164_42 : Xp 164 d 42 ls ((0, x) :: (0, a) :: (2, p) :: st) t g Q = ((hkJK p = 100 ∧ (100 = 102 → x = 0 ∨ x = 1) ∧ 0 ≤ a ∧ a < jL p) ∧ Xp 164 d 43 ls st t (hkSet g p a x) Q) := Xp_chk (i := .iastore) (len := 1) (by decide +kernel) rfl
theorem x_164_43 : Xp 164 d 43 ls st t g Q = Xp 164 d 44 ls ((0, 0) :: st) t g Q := xr_const (c := 0) (by decide +kernel) (by decide)
theorem x_164_44 : Xp 164 d 44 [v0, v1, v2, v3, v4] ((0, x) :: st) t g Q = (hkP1 v3 ∧ Xp 164 d 46 [v0, v1, v2, v3, (0, x)] st t g Q) := Xp_chk (i := .istore 4) (len := 2) (by decide +kernel) rfl
theorem x_164_46 : Xp 164 d 46 [v0, v1, v2, v3, (0, x)] st t g Q = Xp 164 d 48 [v0, v1, v2, v3, (0, x)] ((0, x) :: st) t g Q := Xp_go (i := .iload 4) (len := 2) (by decide +kernel) rfl
theorem x_164_48 : Xp 164 d 48 [(2, x), v1, v2, v3, v4] st t g Q = Xp 164 d 49 [(2, x), v1, v2, v3, v4] ((2, x) :: st) t g Q := Xp_go (i := .aload_n 0) (len := 1) (by decide +kernel) rfl
theorem x_164_49 : Xp 164 d 49 ls ((2, p) :: st) t g Q = (hkJK p = 10 ∧ Xp 164 d 52 ls ((0, g p 2) :: st) t g Q) := xr_getI (idx := 97) (ci := 10) (k := 2) (by decide +kernel) (by decide +kernel) (by decide +kernel)
theorem x_164_52 : Xp 164 d 52 ls ((0, b) :: (0, a) :: st) t g Q = ((b ≤ a → Xp 164 d 82 ls st t g Q) ∧ (¬ (b ≤ a) → Xp 164 d 55 ls st t g Q)) := xr_if2 (cd := .ge) (off := 30) (by decide +kernel) (by decide)
theorem x_164_55 : Xp 164 d 55 [(2, x), v1, v2, v3, v4] st t g Q = Xp 164 d 56 [(2, x), v1, v2, v3, v4] ((2, x) :: st) t g Q := Xp_go (i := .aload_n 0) (len := 1) (by decide +kernel) rfl
theorem x_164_56 : Xp 164 d 56 ls ((2, p) :: st) t g Q = (hkJK p = 10 ∧ jA p 38 ≤ t ∧ Xp 164 d 59 ls ((2, jR p 38) :: st) t g Q) := xr_getR (idx := 88) (ci := 10) (k := 38) (by decide +kernel) (by decide +kernel) (by decide +kernel)
theorem x_164_59 : Xp 164 d 59 ls st t g Q = Xp 164 d 61 ls ((0, 40) :: st) t g Q := xr_bi (c := 40) (by decide +kernel) (by decide)
theorem x_164_61 : Xp 164 d 61 [v0, (0, x), v2, v3, v4] st t g Q = Xp 164 d 62 [v0, (0, x), v2, v3, v4] ((0, x) :: st) t g Q := Xp_go (i := .iload_n 1) (len := 1) (by decide +kernel) rfl
theorem x_164_62 : Xp 164 d 62 ls ((0, b) :: (0, a) :: st) t g Q = Xp 164 d 63 ls ((0, hkW (a * b)) :: st) t g Q := Xp_go (i := .imul) (len := 1) (by decide +kernel) rfl
theorem x_164_63 : Xp 164 d 63 [v0, v1, v2, v3, (0, x)] st t g Q = Xp 164 d 65 [v0, v1, v2, v3, (0, x)] ((0, x) :: st) t g Q := Xp_go (i := .iload 4) (len := 2) (by decide +kernel) rfl
theorem x_164_65 : Xp 164 d 65 ls ((0, b) :: (0, a) :: st) t g Q = Xp 164 d 66 ls ((0, hkW (a + b)) :: st) t g Q := Xp_go (i := .iadd) (len := 1) (by decide +kernel) rfl
theorem x_164_66 : Xp 164 d 66 [(2, x), v1, v2, v3, v4] st t g Q = Xp 164 d 67 [(2, x), v1, v2, v3, v4] ((2, x) :: st) t g Q := Xp_go (i := .aload_n 0) (len := 1) (by decide +kernel) rfl
theorem x_164_67 : Xp 164 d 67 [v0, v1, (0, x), v3, v4] st t g Q = Xp 164 d 68 [v0, v1, (0, x), v3, v4] ((0, x) :: st) t g Q := Xp_go (i := .iload_n 2) (len := 1) (by decide +kernel) rfl
theorem x_164_68 : Xp 164 d 68 [v0, v1, v2, (0, x), v4] st t g Q = Xp 164 d 69 [v0, v1, v2, (0, x), v4] ((0, x) :: st) t g Q := Xp_go (i := .iload_n 3) (len := 1) (by decide +kernel) rfl
theorem x_164_69 : Xp 164 d 69 [v0, v1, v2, v3, (0, x)] st t g Q = Xp 164 d 71 [v0, v1, v2, v3, (0, x)] ((0, x) :: st) t g Q := Xp_go (i := .iload 4) (len := 2) (by decide +kernel) rfl
theorem x_164_71 : Xp 164 (d + 1) 71 ls ((0, a3) :: (0, a2) :: (0, a1) :: (2, a0) :: st) t g Q = (hkJK a0 = 10 ∧ hkC8 st ∧ Xp 121 d 0 [(2, a0), (0, a1), (0, a2), (0, a3), hkU] [] t g (fun r t g => Xp 164 (d + 1) 74 ls (hkPush r st) t g Q)) := xr_invV (idx := 177) (y' := 121) (ci := 10) (tg := [2, 0, 0, 0]) (by decide +kernel) (by decide +kernel) (by decide +kernel) (by decide +kernel) rfl rfl rfl
theorem x_164_74 : Xp 164 d 74 ls ((0, a) :: st) t g Q = Xp 164 d 75 ls ((0, Int.bmod a 65536) :: st) t g Q := Xp_go (i := .i2s) (len := 1) (by decide +kernel) rfl
theorem x_164_75 : Xp 164 d 75 ls ((0, x) :: (0, a) :: (2, p) :: st) t g Q = ((hkJK p = 100 ∧ (100 = 102 → x = 0 ∨ x = 1) ∧ 0 ≤ a ∧ a < jL p) ∧ Xp 164 d 76 ls st t (hkSet g p a x) Q) := Xp_chk (i := .iastore) (len := 1) (by decide +kernel) rfl
theorem x_164_76 : Xp 164 d 76 [v0, v1, v2, v3, (0, x)] st t g Q = (hkP1 v3 ∧ Xp 164 d 79 [v0, v1, v2, v3, (0, hkW (x + 1))] st t g Q) := Xp_chk (i := .iinc 4 (1)) (len := 3) (by decide +kernel) rfl
theorem x_164_79 : Xp 164 d 79 ls st t g Q = Xp 164 d 46 ls st t g Q := xr_goto (off := -33) (by decide +kernel) (by decide)
theorem x_164_82 : Xp 164 d 82 [(2, x), v1, v2, v3, v4] st t g Q = Xp 164 d 83 [(2, x), v1, v2, v3, v4] ((2, x) :: st) t g Q := Xp_go (i := .aload_n 0) (len := 1) (by decide +kernel) rfl
theorem x_164_83 : Xp 164 d 83 ls ((2, p) :: st) t g Q = (hkJK p = 10 ∧ Xp 164 d 86 ls ((0, g p 2) :: st) t g Q) := xr_getI (idx := 97) (ci := 10) (k := 2) (by decide +kernel) (by decide +kernel) (by decide +kernel)
theorem x_164_86 : Xp 164 d 86 ls [(0, x)] t g Q = Q (some (0, x)) t g := xr_retI (by decide +kernel) (by decide +kernel)
-- 165: HookBoxesModel.image()I
theorem x_165_0 : Xp 165 d 0 [(2, x), v1] st t g Q = Xp 165 d 1 [(2, x), v1] ((2, x) :: st) t g Q := Xp_go (i := .aload_n 0) (len := 1) (by decide +kernel) rfl
theorem x_165_1 : Xp 165 d 1 [(2, x), v1] st t g Q = Xp 165 d 2 [(2, x), v1] ((2, x) :: st) t g Q := Xp_go (i := .aload_n 0) (len := 1) (by decide +kernel) rfl
theorem x_165_2 : Xp 165 d 2 ls ((2, p) :: st) t g Q = (hkJK p = 10 ∧ Xp 165 d 5 ls ((0, g p 0) :: st) t g Q) := xr_getI (idx := 11) (ci := 10) (k := 0) (by decide +kernel) (by decide +kernel) (by decide +kernel)
theorem x_165_5 : Xp 165 d 5 ls ((0, x) :: (2, p) :: st) t g Q = (hkJK p = 10 ∧ Xp 165 d 8 ls st t (hkSet g p 10 x) Q) := xr_putI (idx := 312) (ci := 10) (k := 10) (by decide +kernel) (by decide +kernel) (by decide +kernel)
theorem x_165_8 : Xp 165 d 8 [(2, x), v1] st t g Q = Xp 165 d 9 [(2, x), v1] ((2, x) :: st) t g Q := Xp_go (i := .aload_n 0) (len := 1) (by decide +kernel) rfl
theorem x_165_9 : Xp 165 d 9 [(2, x), v1] st t g Q = Xp 165 d 10 [(2, x), v1] ((2, x) :: st) t g Q := Xp_go (i := .aload_n 0) (len := 1) (by decide +kernel) rfl
theorem x_165_10 : Xp 165 d 10 ls ((2, p) :: st) t g Q = (hkJK p = 10 ∧ Xp 165 d 13 ls ((0, g p 1) :: st) t g Q) := xr_getI (idx := 15) (ci := 10) (k := 1) (by decide +kernel) (by decide +kernel) (by decide +kernel)
theorem x_165_13 : Xp 165 d 13 ls ((0, x) :: (2, p) :: st) t g Q = (hkJK p = 10 ∧ Xp 165 d 16 ls st t (hkSet g p 11 x) Q) := xr_putI (idx := 315) (ci := 10) (k := 11) (by decide +kernel) (by decide +kernel) (by decide +kernel)
theorem x_165_16 : Xp 165 d 16 ls st t g Q = Xp 165 d 17 ls ((0, 0) :: st) t g Q := xr_const (c := 0) (by decide +kernel) (by decide)
theorem x_165_17 : Xp 165 d 17 [v0, v1] ((0, x) :: st) t g Q = (hkP1 v0 ∧ Xp 165 d 18 [v0, (0, x)] st t g Q) := Xp_chk (i := .istore_n 1) (len := 1) (by decide +kernel) rfl
theorem x_165_18 : Xp 165 d 18 [v0, (0, x)] st t g Q = Xp 165 d 19 [v0, (0, x)] ((0, x) :: st) t g Q := Xp_go (i := .iload_n 1) (len := 1) (by decide +kernel) rfl
theorem x_165_19 : Xp 165 d 19 ls st t g Q = Xp 165 d 22 ls ((0, 280) :: st) t g Q := xr_si (c := 280) (by decide +kernel) (by decide)
theorem x_165_22 : Xp 165 d 22 ls ((0, b) :: (0, a) :: st) t g Q = ((b ≤ a → Xp 165 d 43 ls st t g Q) ∧ (¬ (b ≤ a) → Xp 165 d 25 ls st t g Q)) := xr_if2 (cd := .ge) (off := 21) (by decide +kernel) (by decide)
theorem x_165_25 : Xp 165 d 25 [(2, x), v1] st t g Q = Xp 165 d 26 [(2, x), v1] ((2, x) :: st) t g Q := Xp_go (i := .aload_n 0) (len := 1) (by decide +kernel) rfl
theorem x_165_26 : Xp 165 d 26 ls ((2, p) :: st) t g Q = (hkJK p = 10 ∧ jA p 9 ≤ t ∧ Xp 165 d 29 ls ((2, jR p 9) :: st) t g Q) := xr_getR (idx := 39) (ci := 10) (k := 9) (by decide +kernel) (by decide +kernel) (by decide +kernel)
theorem x_165_29 : Xp 165 d 29 [v0, (0, x)] st t g Q = Xp 165 d 30 [v0, (0, x)] ((0, x) :: st) t g Q := Xp_go (i := .iload_n 1) (len := 1) (by decide +kernel) rfl
theorem x_165_30 : Xp 165 d 30 [(2, x), v1] st t g Q = Xp 165 d 31 [(2, x), v1] ((2, x) :: st) t g Q := Xp_go (i := .aload_n 0) (len := 1) (by decide +kernel) rfl
theorem x_165_31 : Xp 165 d 31 ls ((2, p) :: st) t g Q = (hkJK p = 10 ∧ jA p 8 ≤ t ∧ Xp 165 d 34 ls ((2, jR p 8) :: st) t g Q) := xr_getR (idx := 36) (ci := 10) (k := 8) (by decide +kernel) (by decide +kernel) (by decide +kernel)
theorem x_165_34 : Xp 165 d 34 [v0, (0, x)] st t g Q = Xp 165 d 35 [v0, (0, x)] ((0, x) :: st) t g Q := Xp_go (i := .iload_n 1) (len := 1) (by decide +kernel) rfl
theorem x_165_35 : Xp 165 d 35 ls ((0, a) :: (2, p) :: st) t g Q = ((hkJK p = 100 ∧ 0 ≤ a ∧ a < jL p) ∧ Xp 165 d 36 ls ((0, g p a) :: st) t g Q) := Xp_chk (i := .iaload) (len := 1) (by decide +kernel) rfl
theorem x_165_36 : Xp 165 d 36 ls ((0, x) :: (0, a) :: (2, p) :: st) t g Q = ((hkJK p = 100 ∧ (100 = 102 → x = 0 ∨ x = 1) ∧ 0 ≤ a ∧ a < jL p) ∧ Xp 165 d 37 ls st t (hkSet g p a x) Q) := Xp_chk (i := .iastore) (len := 1) (by decide +kernel) rfl
theorem x_165_37 : Xp 165 d 37 [v0, (0, x)] st t g Q = (hkP1 v0 ∧ Xp 165 d 40 [v0, (0, hkW (x + 1))] st t g Q) := Xp_chk (i := .iinc 1 (1)) (len := 3) (by decide +kernel) rfl
theorem x_165_40 : Xp 165 d 40 ls st t g Q = Xp 165 d 18 ls st t g Q := xr_goto (off := -22) (by decide +kernel) (by decide)
theorem x_165_43 : Xp 165 d 43 [(2, x), v1] st t g Q = Xp 165 d 44 [(2, x), v1] ((2, x) :: st) t g Q := Xp_go (i := .aload_n 0) (len := 1) (by decide +kernel) rfl
theorem x_165_44 : Xp 165 d 44 ls st t g Q = Xp 165 d 45 ls ((0, 1) :: st) t g Q := xr_const (c := 1) (by decide +kernel) (by decide)
theorem x_165_45 : Xp 165 d 45 ls ((0, x) :: (2, p) :: st) t g Q = (hkJK p = 10 ∧ (x = 0 ∨ x = 1) ∧ Xp 165 d 48 ls st t (hkSet g p 13 x) Q) := xr_putB (idx := 318) (ci := 10) (k := 13) (by decide +kernel) (by decide +kernel) (by decide +kernel)
theorem x_165_48 : Xp 165 d 48 [(2, x), v1] st t g Q = Xp 165 d 49 [(2, x), v1] ((2, x) :: st) t g Q := Xp_go (i := .aload_n 0) (len := 1) (by decide +kernel) rfl
theorem x_165_49 : Xp 165 d 49 ls ((2, p) :: st) t g Q = (hkJK p = 10 ∧ Xp 165 d 52 ls ((0, g p 2) :: st) t g Q) := xr_getI (idx := 97) (ci := 10) (k := 2) (by decide +kernel) (by decide +kernel) (by decide +kernel)
theorem x_165_52 : Xp 165 d 52 ls [(0, x)] t g Q = Q (some (0, x)) t g := xr_retI (by decide +kernel) (by decide +kernel)
-- 166: HookBoxesModel.back()I
theorem x_166_0 : Xp 166 d 0 [(2, x), v1] st t g Q = Xp 166 d 1 [(2, x), v1] ((2, x) :: st) t g Q := Xp_go (i := .aload_n 0) (len := 1) (by decide +kernel) rfl
theorem x_166_1 : Xp 166 d 1 ls ((2, p) :: st) t g Q = (hkJK p = 10 ∧ Xp 166 d 4 ls ((0, g p 13) :: st) t g Q) := xr_getI (idx := 318) (ci := 10) (k := 13) (by decide +kernel) (by decide +kernel) (by decide +kernel)
theorem x_166_4 : Xp 166 d 4 ls ((0, a) :: st) t g Q = ((¬ (a = 0) → Xp 166 d 10 ls st t g Q) ∧ (¬ (¬ (a = 0)) → Xp 166 d 7 ls st t g Q)) := xr_if1 (cd := .ne) (off := 6) (by decide +kernel) (by decide)
theorem x_166_7 : Xp 166 d 7 ls st t g Q = Xp 166 d 9 ls ((0, -3) :: st) t g Q := xr_bi (c := -3) (by decide +kernel) (by decide)
theorem x_166_9 : Xp 166 d 9 ls [(0, x)] t g Q = Q (some (0, x)) t g := xr_retI (by decide +kernel) (by decide +kernel)
theorem x_166_10 : Xp 166 d 10 [(2, x), v1] st t g Q = Xp 166 d 11 [(2, x), v1] ((2, x) :: st) t g Q := Xp_go (i := .aload_n 0) (len := 1) (by decide +kernel) rfl
theorem x_166_11 : Xp 166 d 11 [(2, x), v1] st t g Q = Xp 166 d 12 [(2, x), v1] ((2, x) :: st) t g Q := Xp_go (i := .aload_n 0) (len := 1) (by decide +kernel) rfl
theorem x_166_12 : Xp 166 d 12 ls ((2, p) :: st) t g Q = (hkJK p = 10 ∧ Xp 166 d 15 ls ((0, g p 10) :: st) t g Q) := xr_getI (idx := 312) (ci := 10) (k := 10) (by decide +kernel) (by decide +kernel) (by decide +kernel)
theorem x_166_15 : Xp 166 d 15 ls ((0, x) :: (2, p) :: st) t g Q = (hkJK p = 10 ∧ Xp 166 d 18 ls st t (hkSet g p 0 x) Q) := xr_putI (idx := 11) (ci := 10) (k := 0) (by decide +kernel) (by decide +kernel) (by decide +kernel)
theorem x_166_18 : Xp 166 d 18 [(2, x), v1] st t g Q = Xp 166 d 19 [(2, x), v1] ((2, x) :: st) t g Q := Xp_go (i := .aload_n 0) (len := 1) (by decide +kernel) rfl
theorem x_166_19 : Xp 166 d 19 [(2, x), v1] st t g Q = Xp 166 d 20 [(2, x), v1] ((2, x) :: st) t g Q := Xp_go (i := .aload_n 0) (len := 1) (by decide +kernel) rfl
theorem x_166_20 : Xp 166 d 20 ls ((2, p) :: st) t g Q = (hkJK p = 10 ∧ Xp 166 d 23 ls ((0, g p 11) :: st) t g Q) := xr_getI (idx := 315) (ci := 10) (k := 11) (by decide +kernel) (by decide +kernel) (by decide +kernel)
theorem x_166_23 : Xp 166 d 23 ls ((0, x) :: (2, p) :: st) t g Q = (hkJK p = 10 ∧ Xp 166 d 26 ls st t (hkSet g p 1 x) Q) := xr_putI (idx := 15) (ci := 10) (k := 1) (by decide +kernel) (by decide +kernel) (by decide +kernel)
theorem x_166_26 : Xp 166 d 26 [(2, x), v1] st t g Q = Xp 166 d 27 [(2, x), v1] ((2, x) :: st) t g Q := Xp_go (i := .aload_n 0) (len := 1) (by decide +kernel) rfl
theorem x_166_27 : Xp 166 (d + 1) 27 ls ((2, a0) :: st) t g Q = (hkJK a0 = 10 ∧ hkC8 st ∧ Xp 102 d 0 [(2, a0), hkU, hkU, hkU] [] t g (fun r t g => Xp 166 (d + 1) 30 ls (hkPush r st) t g Q)) := xr_invV (idx := 94) (y' := 102) (ci := 10) (tg := [2]) (by decide +kernel) (by decide +kernel) (by decide +kernel) (by decide +kernel) rfl rfl rfl
theorem x_166_30 : Xp 166 d 30 ls st t g Q = Xp 166 d 31 ls ((0, 0) :: st) t g Q := xr_const (c := 0) (by decide +kernel) (by decide)
theorem x_166_31 : Xp 166 d 31 [v0, v1] ((0, x) :: st) t g Q = (hkP1 v0 ∧ Xp 166 d 32 [v0, (0, x)] st t g Q) := Xp_chk (i := .istore_n 1) (len := 1) (by decide +kernel) rfl
theorem x_166_32 : Xp 166 d 32 [v0, (0, x)] st t g Q = Xp 166 d 33 [v0, (0, x)] ((0, x) :: st) t g Q := Xp_go (i := .iload_n 1) (len := 1) (by decide +kernel) rfl
theorem x_166_33 : Xp 166 d 33 ls st t g Q = Xp 166 d 36 ls ((0, 280) :: st) t g Q := xr_si (c := 280) (by decide +kernel) (by decide)
theorem x_166_36 : Xp 166 d 36 ls ((0, b) :: (0, a) :: st) t g Q = ((b ≤ a → Xp 166 d 57 ls st t g Q) ∧ (¬ (b ≤ a) → Xp 166 d 39 ls st t g Q)) := xr_if2 (cd := .ge) (off := 21) (by decide +kernel) (by decide)
theorem x_166_39 : Xp 166 d 39 [(2, x), v1] st t g Q = Xp 166 d 40 [(2, x), v1] ((2, x) :: st) t g Q := Xp_go (i := .aload_n 0) (len := 1) (by decide +kernel) rfl
theorem x_166_40 : Xp 166 d 40 ls ((2, p) :: st) t g Q = (hkJK p = 10 ∧ jA p 8 ≤ t ∧ Xp 166 d 43 ls ((2, jR p 8) :: st) t g Q) := xr_getR (idx := 36) (ci := 10) (k := 8) (by decide +kernel) (by decide +kernel) (by decide +kernel)
theorem x_166_43 : Xp 166 d 43 [v0, (0, x)] st t g Q = Xp 166 d 44 [v0, (0, x)] ((0, x) :: st) t g Q := Xp_go (i := .iload_n 1) (len := 1) (by decide +kernel) rfl
theorem x_166_44 : Xp 166 d 44 [(2, x), v1] st t g Q = Xp 166 d 45 [(2, x), v1] ((2, x) :: st) t g Q := Xp_go (i := .aload_n 0) (len := 1) (by decide +kernel) rfl
theorem x_166_45 : Xp 166 d 45 ls ((2, p) :: st) t g Q = (hkJK p = 10 ∧ jA p 9 ≤ t ∧ Xp 166 d 48 ls ((2, jR p 9) :: st) t g Q) := xr_getR (idx := 39) (ci := 10) (k := 9) (by decide +kernel) (by decide +kernel) (by decide +kernel)
theorem x_166_48 : Xp 166 d 48 [v0, (0, x)] st t g Q = Xp 166 d 49 [v0, (0, x)] ((0, x) :: st) t g Q := Xp_go (i := .iload_n 1) (len := 1) (by decide +kernel) rfl
theorem x_166_49 : Xp 166 d 49 ls ((0, a) :: (2, p) :: st) t g Q = ((hkJK p = 100 ∧ 0 ≤ a ∧ a < jL p) ∧ Xp 166 d 50 ls ((0, g p a) :: st) t g Q) := Xp_chk (i := .iaload) (len := 1) (by decide +kernel) rfl
theorem x_166_50 : Xp 166 d 50 ls ((0, x) :: (0, a) :: (2, p) :: st) t g Q = ((hkJK p = 100 ∧ (100 = 102 → x = 0 ∨ x = 1) ∧ 0 ≤ a ∧ a < jL p) ∧ Xp 166 d 51 ls st t (hkSet g p a x) Q) := Xp_chk (i := .iastore) (len := 1) (by decide +kernel) rfl
theorem x_166_51 : Xp 166 d 51 [v0, (0, x)] st t g Q = (hkP1 v0 ∧ Xp 166 d 54 [v0, (0, hkW (x + 1))] st t g Q) := Xp_chk (i := .iinc 1 (1)) (len := 3) (by decide +kernel) rfl
theorem x_166_54 : Xp 166 d 54 ls st t g Q = Xp 166 d 32 ls st t g Q := xr_goto (off := -22) (by decide +kernel) (by decide)
theorem x_166_57 : Xp 166 d 57 [(2, x), v1] st t g Q = Xp 166 d 58 [(2, x), v1] ((2, x) :: st) t g Q := Xp_go (i := .aload_n 0) (len := 1) (by decide +kernel) rfl
theorem x_166_58 : Xp 166 d 58 ls ((2, p) :: st) t g Q = (hkJK p = 10 ∧ Xp 166 d 61 ls ((0, g p 2) :: st) t g Q) := xr_getI (idx := 97) (ci := 10) (k := 2) (by decide +kernel) (by decide +kernel) (by decide +kernel)
theorem x_166_61 : Xp 166 d 61 ls [(0, x)] t g Q = Q (some (0, x)) t g := xr_retI (by decide +kernel) (by decide +kernel)
-- 167: HookBoxesModel.load(IIII)I
theorem x_167_0 : Xp 167 d 0 [v0, (0, x), v2, v3, v4, v5, v6, v7] st t g Q = Xp 167 d 1 [v0, (0, x), v2, v3, v4, v5, v6, v7] ((0, x) :: st) t g Q := Xp_go (i := .iload_n 1) (len := 1) (by decide +kernel) rfl
theorem x_167_1 : Xp 167 (d + 1) 1 ls ((0, a0) :: st) t g Q = (hkC8 st ∧ Xp 130 d 0 [(0, a0)] [] t g (fun r t g => Xp 167 (d + 1) 4 ls (hkPush r st) t g Q)) := xr_invS (idx := 189) (y' := 130) (tg := [0]) (by decide +kernel) (by decide +kernel) (by decide +kernel) rfl rfl
theorem x_167_4 : Xp 167 d 4 ls ((0, a) :: st) t g Q = ((a = 0 → Xp 167 d 30 ls st t g Q) ∧ (¬ (a = 0) → Xp 167 d 7 ls st t g Q)) := xr_if1 (cd := .eq) (off := 26) (by decide +kernel) (by decide)
theorem x_167_7 : Xp 167 d 7 [v0, v1, (0, x), v3, v4, v5, v6, v7] st t g Q = Xp 167 d 8 [v0, v1, (0, x), v3, v4, v5, v6, v7] ((0, x) :: st) t g Q := Xp_go (i := .iload_n 2) (len := 1) (by decide +kernel) rfl
theorem x_167_8 : Xp 167 d 8 ls ((0, a) :: st) t g Q = Xp 167 d 9 ls ((1, a) :: st) t g Q := Xp_go (i := .i2l) (len := 1) (by decide +kernel) rfl
theorem x_167_9 : Xp 167 d 9 ls st t g Q = Xp 167 d 10 ls ((1, 0) :: st) t g Q := Xp_go (i := .lconst 0) (len := 1) (by decide +kernel) rfl
theorem x_167_10 : Xp 167 d 10 ls st t g Q = Xp 167 d 11 ls ((1, 1) :: st) t g Q := Xp_go (i := .lconst 1) (len := 1) (by decide +kernel) rfl
theorem x_167_11 : Xp 167 (d + 1) 11 ls ((1, a2) :: (1, a1) :: (1, a0) :: st) t g Q = (hkC8 st ∧ Xp 107 d 0 [(1, a0), hkU, (1, a1), hkU, (1, a2), hkU] [] t g (fun r t g => Xp 167 (d + 1) 14 ls (hkPush r st) t g Q)) := xr_invS (idx := 115) (y' := 107) (tg := [1, 1, 1]) (by decide +kernel) (by decide +kernel) (by decide +kernel) rfl rfl
theorem x_167_14 : Xp 167 d 14 ls ((0, a) :: st) t g Q = ((a = 0 → Xp 167 d 30 ls st t g Q) ∧ (¬ (a = 0) → Xp 167 d 17 ls st t g Q)) := xr_if1 (cd := .eq) (off := 16) (by decide +kernel) (by decide)
theorem x_167_17 : Xp 167 d 17 [v0, v1, v2, v3, (0, x), v5, v6, v7] st t g Q = Xp 167 d 19 [v0, v1, v2, v3, (0, x), v5, v6, v7] ((0, x) :: st) t g Q := Xp_go (i := .iload 4) (len := 2) (by decide +kernel) rfl
theorem x_167_19 : Xp 167 d 19 ls ((0, a) :: st) t g Q = Xp 167 d 20 ls ((1, a) :: st) t g Q := Xp_go (i := .i2l) (len := 1) (by decide +kernel) rfl
theorem x_167_20 : Xp 167 d 20 ls st t g Q = Xp 167 d 21 ls ((1, 0) :: st) t g Q := Xp_go (i := .lconst 0) (len := 1) (by decide +kernel) rfl
theorem x_167_21 : Xp 167 d 21 ls st t g Q = Xp 167 d 24 ls ((1, 40) :: st) t g Q := xr_ldc2 (idx := 304) (by decide +kernel) (by decide +kernel)
theorem x_167_24 : Xp 167 (d + 1) 24 ls ((1, a2) :: (1, a1) :: (1, a0) :: st) t g Q = (hkC8 st ∧ Xp 107 d 0 [(1, a0), hkU, (1, a1), hkU, (1, a2), hkU] [] t g (fun r t g => Xp 167 (d + 1) 27 ls (hkPush r st) t g Q)) := xr_invS (idx := 115) (y' := 107) (tg := [1, 1, 1]) (by decide +kernel) (by decide +kernel) (by decide +kernel) rfl rfl
theorem x_167_27 : Xp 167 d 27 ls ((0, a) :: st) t g Q = ((¬ (a = 0) → Xp 167 d 33 ls st t g Q) ∧ (¬ (¬ (a = 0)) → Xp 167 d 30 ls st t g Q)) := xr_if1 (cd := .ne) (off := 6) (by decide +kernel) (by decide)
theorem x_167_30 : Xp 167 d 30 ls st t g Q = Xp 167 d 32 ls ((0, -2) :: st) t g Q := xr_bi (c := -2) (by decide +kernel) (by decide)
theorem x_167_32 : Xp 167 d 32 ls [(0, x)] t g Q = Q (some (0, x)) t g := xr_retI (by decide +kernel) (by decide +kernel)
theorem x_167_33 : Xp 167 d 33 [(2, x), v1, v2, v3, v4, v5, v6, v7] st t g Q = Xp 167 d 34 [(2, x), v1, v2, v3, v4, v5, v6, v7] ((2, x) :: st) t g Q := Xp_go (i := .aload_n 0) (len := 1) (by decide +kernel) rfl
theorem x_167_34 : Xp 167 d 34 ls ((2, p) :: st) t g Q = (hkJK p = 10 ∧ jA p 36 ≤ t ∧ Xp 167 d 37 ls ((2, jR p 36) :: st) t g Q) := xr_getR (idx := 82) (ci := 10) (k := 36) (by decide +kernel) (by decide +kernel) (by decide +kernel)
theorem x_167_37 : Xp 167 d 37 [v0, (0, x), v2, v3, v4, v5, v6, v7] st t g Q = Xp 167 d 38 [v0, (0, x), v2, v3, v4, v5, v6, v7] ((0, x) :: st) t g Q := Xp_go (i := .iload_n 1) (len := 1) (by decide +kernel) rfl
theorem x_167_38 : Xp 167 d 38 ls ((0, a) :: (2, p) :: st) t g Q = ((hkJK p = 100 ∧ 0 ≤ a ∧ a < jL p) ∧ Xp 167 d 39 ls ((0, g p a) :: st) t g Q) := Xp_chk (i := .iaload) (len := 1) (by decide +kernel) rfl
theorem x_167_39 : Xp 167 d 39 ls st t g Q = Xp 167 d 40 ls ((0, -1) :: st) t g Q := xr_const (c := -1) (by decide +kernel) (by decide)
theorem x_167_40 : Xp 167 d 40 ls ((0, b) :: (0, a) :: st) t g Q = ((¬ (a = b) → Xp 167 d 46 ls st t g Q) ∧ (¬ (¬ (a = b)) → Xp 167 d 43 ls st t g Q)) := xr_if2 (cd := .ne) (off := 6) (by decide +kernel) (by decide)
theorem x_167_43 : Xp 167 d 43 ls st t g Q = Xp 167 d 45 ls ((0, -11) :: st) t g Q := xr_bi (c := -11) (by decide +kernel) (by decide)
theorem x_167_45 : Xp 167 d 45 ls [(0, x)] t g Q = Q (some (0, x)) t g := xr_retI (by decide +kernel) (by decide +kernel)
theorem x_167_46 : Xp 167 d 46 [(2, x), v1, v2, v3, v4, v5, v6, v7] st t g Q = Xp 167 d 47 [(2, x), v1, v2, v3, v4, v5, v6, v7] ((2, x) :: st) t g Q := Xp_go (i := .aload_n 0) (len := 1) (by decide +kernel) rfl
theorem x_167_47 : Xp 167 d 47 ls ((2, p) :: st) t g Q = (hkJK p = 10 ∧ jA p 36 ≤ t ∧ Xp 167 d 50 ls ((2, jR p 36) :: st) t g Q) := xr_getR (idx := 82) (ci := 10) (k := 36) (by decide +kernel) (by decide +kernel) (by decide +kernel)
theorem x_167_50 : Xp 167 d 50 [v0, (0, x), v2, v3, v4, v5, v6, v7] st t g Q = Xp 167 d 51 [v0, (0, x), v2, v3, v4, v5, v6, v7] ((0, x) :: st) t g Q := Xp_go (i := .iload_n 1) (len := 1) (by decide +kernel) rfl
theorem x_167_51 : Xp 167 d 51 ls ((0, a) :: (2, p) :: st) t g Q = ((hkJK p = 100 ∧ 0 ≤ a ∧ a < jL p) ∧ Xp 167 d 52 ls ((0, g p a) :: st) t g Q) := Xp_chk (i := .iaload) (len := 1) (by decide +kernel) rfl
theorem x_167_52 : Xp 167 d 52 [v0, v1, (0, x), v3, v4, v5, v6, v7] st t g Q = Xp 167 d 53 [v0, v1, (0, x), v3, v4, v5, v6, v7] ((0, x) :: st) t g Q := Xp_go (i := .iload_n 2) (len := 1) (by decide +kernel) rfl
theorem x_167_53 : Xp 167 d 53 ls ((0, b) :: (0, a) :: st) t g Q = ((a = b → Xp 167 d 59 ls st t g Q) ∧ (¬ (a = b) → Xp 167 d 56 ls st t g Q)) := xr_if2 (cd := .eq) (off := 6) (by decide +kernel) (by decide)
theorem x_167_56 : Xp 167 d 56 ls st t g Q = Xp 167 d 58 ls ((0, -13) :: st) t g Q := xr_bi (c := -13) (by decide +kernel) (by decide)
theorem x_167_58 : Xp 167 d 58 ls [(0, x)] t g Q = Q (some (0, x)) t g := xr_retI (by decide +kernel) (by decide +kernel)
theorem x_167_59 : Xp 167 d 59 ls st t g Q = Xp 167 d 60 ls ((0, 0) :: st) t g Q := xr_const (c := 0) (by decide +kernel) (by decide)
theorem x_167_60 : Xp 167 d 60 [v0, v1, v2, v3, v4, v5, v6, v7] ((0, x) :: st) t g Q = (hkP1 v4 ∧ Xp 167 d 62 [v0, v1, v2, v3, v4, (0, x), v6, v7] st t g Q) := Xp_chk (i := .istore 5) (len := 2) (by decide +kernel) rfl
theorem x_167_62 : Xp 167 d 62 ls st t g Q = Xp 167 d 63 ls ((0, 0) :: st) t g Q := xr_const (c := 0) (by decide +kernel) (by decide)
theorem x_167_63 : Xp 167 d 63 [v0, v1, v2, v3, v4, v5, v6, v7] ((0, x) :: st) t g Q = (hkP1 v5 ∧ Xp 167 d 65 [v0, v1, v2, v3, v4, v5, (0, x), v7] st t g Q) := Xp_chk (i := .istore 6) (len := 2) (by decide +kernel) rfl
theorem x_167_65 : Xp 167 d 65 [v0, v1, v2, v3, v4, v5, (0, x), v7] st t g Q = Xp 167 d 67 [v0, v1, v2, v3, v4, v5, (0, x), v7] ((0, x) :: st) t g Q := Xp_go (i := .iload 6) (len := 2) (by decide +kernel) rfl
theorem x_167_67 : Xp 167 d 67 [v0, v1, v2, v3, (0, x), v5, v6, v7] st t g Q = Xp 167 d 69 [v0, v1, v2, v3, (0, x), v5, v6, v7] ((0, x) :: st) t g Q := Xp_go (i := .iload 4) (len := 2) (by decide +kernel) rfl
theorem x_167_69 : Xp 167 d 69 ls ((0, b) :: (0, a) :: st) t g Q = ((b ≤ a → Xp 167 d 152 ls st t g Q) ∧ (¬ (b ≤ a) → Xp 167 d 72 ls st t g Q)) := xr_if2 (cd := .ge) (off := 83) (by decide +kernel) (by decide)
theorem x_167_72 : Xp 167 d 72 [v0, v1, v2, (0, x), v4, v5, v6, v7] st t g Q = Xp 167 d 73 [v0, v1, v2, (0, x), v4, v5, v6, v7] ((0, x) :: st) t g Q := Xp_go (i := .iload_n 3) (len := 1) (by decide +kernel) rfl
theorem x_167_73 : Xp 167 d 73 ls ((0, a) :: st) t g Q = ((a < 0 → Xp 167 d 91 ls st t g Q) ∧ (¬ (a < 0) → Xp 167 d 76 ls st t g Q)) := xr_if1 (cd := .lt) (off := 18) (by decide +kernel) (by decide)
theorem x_167_76 : Xp 167 d 76 [v0, v1, v2, v3, v4, v5, (0, x), v7] st t g Q = Xp 167 d 78 [v0, v1, v2, v3, v4, v5, (0, x), v7] ((0, x) :: st) t g Q := Xp_go (i := .iload 6) (len := 2) (by decide +kernel) rfl
theorem x_167_78 : Xp 167 d 78 [(2, x), v1, v2, v3, v4, v5, v6, v7] st t g Q = Xp 167 d 79 [(2, x), v1, v2, v3, v4, v5, v6, v7] ((2, x) :: st) t g Q := Xp_go (i := .aload_n 0) (len := 1) (by decide +kernel) rfl
theorem x_167_79 : Xp 167 d 79 ls ((2, p) :: st) t g Q = (hkJK p = 10 ∧ jA p 37 ≤ t ∧ Xp 167 d 82 ls ((2, jR p 37) :: st) t g Q) := xr_getR (idx := 85) (ci := 10) (k := 37) (by decide +kernel) (by decide +kernel) (by decide +kernel)
theorem x_167_82 : Xp 167 d 82 [v0, (0, x), v2, v3, v4, v5, v6, v7] st t g Q = Xp 167 d 83 [v0, (0, x), v2, v3, v4, v5, v6, v7] ((0, x) :: st) t g Q := Xp_go (i := .iload_n 1) (len := 1) (by decide +kernel) rfl
theorem x_167_83 : Xp 167 d 83 ls ((0, a) :: (2, p) :: st) t g Q = ((hkJK p = 100 ∧ 0 ≤ a ∧ a < jL p) ∧ Xp 167 d 84 ls ((0, g p a) :: st) t g Q) := Xp_chk (i := .iaload) (len := 1) (by decide +kernel) rfl
theorem x_167_84 : Xp 167 d 84 ls st t g Q = Xp 167 d 85 ls ((0, 1) :: st) t g Q := xr_const (c := 1) (by decide +kernel) (by decide)
theorem x_167_85 : Xp 167 d 85 ls ((0, b) :: (0, a) :: st) t g Q = Xp 167 d 86 ls ((0, hkW (a - b)) :: st) t g Q := Xp_go (i := .isub) (len := 1) (by decide +kernel) rfl
theorem x_167_86 : Xp 167 d 86 [v0, v1, v2, (0, x), v4, v5, v6, v7] st t g Q = Xp 167 d 87 [v0, v1, v2, (0, x), v4, v5, v6, v7] ((0, x) :: st) t g Q := Xp_go (i := .iload_n 3) (len := 1) (by decide +kernel) rfl
theorem x_167_87 : Xp 167 d 87 ls ((0, b) :: (0, a) :: st) t g Q = Xp 167 d 88 ls ((0, hkW (a - b)) :: st) t g Q := Xp_go (i := .isub) (len := 1) (by decide +kernel) rfl
theorem x_167_88 : Xp 167 d 88 ls ((0, b) :: (0, a) :: st) t g Q = ((a ≤ b → Xp 167 d 94 ls st t g Q) ∧ (¬ (a ≤ b) → Xp 167 d 91 ls st t g Q)) := xr_if2 (cd := .le) (off := 6) (by decide +kernel) (by decide)
theorem x_167_91 : Xp 167 d 91 ls st t g Q = Xp 167 d 93 ls ((0, -12) :: st) t g Q := xr_bi (c := -12) (by decide +kernel) (by decide)
theorem x_167_93 : Xp 167 d 93 ls [(0, x)] t g Q = Q (some (0, x)) t g := xr_retI (by decide +kernel) (by decide +kernel)
theorem x_167_94 : Xp 167 d 94 [(2, x), v1, v2, v3, v4, v5, v6, v7] st t g Q = Xp 167 d 95 [(2, x), v1, v2, v3, v4, v5, v6, v7] ((2, x) :: st) t g Q := Xp_go (i := .aload_n 0) (len := 1) (by decide +kernel) rfl
theorem x_167_95 : Xp 167 d 95 ls ((2, p) :: st) t g Q = (hkJK p = 10 ∧ jA p 38 ≤ t ∧ Xp 167 d 98 ls ((2, jR p 38) :: st) t g Q) := xr_getR (idx := 88) (ci := 10) (k := 38) (by decide +kernel) (by decide +kernel) (by decide +kernel)
theorem x_167_98 : Xp 167 d 98 ls st t g Q = Xp 167 d 100 ls ((0, 40) :: st) t g Q := xr_bi (c := 40) (by decide +kernel) (by decide)
theorem x_167_100 : Xp 167 d 100 [v0, (0, x), v2, v3, v4, v5, v6, v7] st t g Q = Xp 167 d 101 [v0, (0, x), v2, v3, v4, v5, v6, v7] ((0, x) :: st) t g Q := Xp_go (i := .iload_n 1) (len := 1) (by decide +kernel) rfl
theorem x_167_101 : Xp 167 d 101 ls ((0, b) :: (0, a) :: st) t g Q = Xp 167 d 102 ls ((0, hkW (a * b)) :: st) t g Q := Xp_go (i := .imul) (len := 1) (by decide +kernel) rfl
theorem x_167_102 : Xp 167 d 102 [v0, v1, v2, (0, x), v4, v5, v6, v7] st t g Q = Xp 167 d 103 [v0, v1, v2, (0, x), v4, v5, v6, v7] ((0, x) :: st) t g Q := Xp_go (i := .iload_n 3) (len := 1) (by decide +kernel) rfl
theorem x_167_103 : Xp 167 d 103 ls ((0, b) :: (0, a) :: st) t g Q = Xp 167 d 104 ls ((0, hkW (a + b)) :: st) t g Q := Xp_go (i := .iadd) (len := 1) (by decide +kernel) rfl
theorem x_167_104 : Xp 167 d 104 [v0, v1, v2, v3, v4, v5, (0, x), v7] st t g Q = Xp 167 d 106 [v0, v1, v2, v3, v4, v5, (0, x), v7] ((0, x) :: st) t g Q := Xp_go (i := .iload 6) (len := 2) (by decide +kernel) rfl
theorem x_167_106 : Xp 167 d 106 ls ((0, b) :: (0, a) :: st) t g Q = Xp 167 d 107 ls ((0, hkW (a + b)) :: st) t g Q := Xp_go (i := .iadd) (len := 1) (by decide +kernel) rfl
theorem x_167_107 : Xp 167 d 107 ls ((0, a) :: (2, p) :: st) t g Q = ((hkJK p = 100 ∧ 0 ≤ a ∧ a < jL p) ∧ Xp 167 d 108 ls ((0, g p a) :: st) t g Q) := Xp_chk (i := .iaload) (len := 1) (by decide +kernel) rfl
theorem x_167_108 : Xp 167 d 108 [v0, v1, v2, v3, v4, v5, v6, v7] ((0, x) :: st) t g Q = (hkP1 v6 ∧ Xp 167 d 110 [v0, v1, v2, v3, v4, v5, v6, (0, x)] st t g Q) := Xp_chk (i := .istore 7) (len := 2) (by decide +kernel) rfl
theorem x_167_110 : Xp 167 d 110 [(2, x), v1, v2, v3, v4, v5, v6, v7] st t g Q = Xp 167 d 111 [(2, x), v1, v2, v3, v4, v5, v6, v7] ((2, x) :: st) t g Q := Xp_go (i := .aload_n 0) (len := 1) (by decide +kernel) rfl
theorem x_167_111 : Xp 167 d 111 [v0, v1, v2, v3, v4, v5, (0, x), v7] st t g Q = Xp 167 d 113 [v0, v1, v2, v3, v4, v5, (0, x), v7] ((0, x) :: st) t g Q := Xp_go (i := .iload 6) (len := 2) (by decide +kernel) rfl
theorem x_167_113 : Xp 167 (d + 1) 113 ls ((0, a1) :: (2, a0) :: st) t g Q = (hkJK a0 = 10 ∧ hkC8 st ∧ Xp 109 d 0 [(2, a0), (0, a1)] [] t g (fun r t g => Xp 167 (d + 1) 116 ls (hkPush r st) t g Q)) := xr_invV (idx := 123) (y' := 109) (ci := 10) (tg := [2, 0]) (by decide +kernel) (by decide +kernel) (by decide +kernel) (by decide +kernel) rfl rfl rfl
theorem x_167_116 : Xp 167 d 116 ls ((0, a) :: st) t g Q = ((a = 0 → Xp 167 d 146 ls st t g Q) ∧ (¬ (a = 0) → Xp 167 d 119 ls st t g Q)) := xr_if1 (cd := .eq) (off := 30) (by decide +kernel) (by decide)
theorem x_167_119 : Xp 167 d 119 [v0, v1, v2, v3, v4, v5, v6, (0, x)] st t g Q = Xp 167 d 121 [v0, v1, v2, v3, v4, v5, v6, (0, x)] ((0, x) :: st) t g Q := Xp_go (i := .iload 7) (len := 2) (by decide +kernel) rfl
theorem x_167_121 : Xp 167 d 121 ls ((0, a) :: st) t g Q = Xp 167 d 122 ls ((1, a) :: st) t g Q := Xp_go (i := .i2l) (len := 1) (by decide +kernel) rfl
theorem x_167_122 : Xp 167 d 122 ls st t g Q = Xp 167 d 125 ls ((1, -1000000) :: st) t g Q := xr_ldc2 (idx := 231) (by decide +kernel) (by decide +kernel)
theorem x_167_125 : Xp 167 d 125 ls st t g Q = Xp 167 d 128 ls ((1, 1000000) :: st) t g Q := xr_ldc2 (idx := 233) (by decide +kernel) (by decide +kernel)
theorem x_167_128 : Xp 167 (d + 1) 128 ls ((1, a2) :: (1, a1) :: (1, a0) :: st) t g Q = (hkC8 st ∧ Xp 107 d 0 [(1, a0), hkU, (1, a1), hkU, (1, a2), hkU] [] t g (fun r t g => Xp 167 (d + 1) 131 ls (hkPush r st) t g Q)) := xr_invS (idx := 115) (y' := 107) (tg := [1, 1, 1]) (by decide +kernel) (by decide +kernel) (by decide +kernel) rfl rfl
theorem x_167_131 : Xp 167 d 131 ls ((0, a) :: st) t g Q = ((a = 0 → Xp 167 d 146 ls st t g Q) ∧ (¬ (a = 0) → Xp 167 d 134 ls st t g Q)) := xr_if1 (cd := .eq) (off := 15) (by decide +kernel) (by decide)
theorem x_167_134 : Xp 167 d 134 [(2, x), v1, v2, v3, v4, v5, v6, v7] st t g Q = Xp 167 d 135 [(2, x), v1, v2, v3, v4, v5, v6, v7] ((2, x) :: st) t g Q := Xp_go (i := .aload_n 0) (len := 1) (by decide +kernel) rfl
theorem x_167_135 : Xp 167 d 135 ls ((2, p) :: st) t g Q = (hkJK p = 10 ∧ jA p 8 ≤ t ∧ Xp 167 d 138 ls ((2, jR p 8) :: st) t g Q) := xr_getR (idx := 36) (ci := 10) (k := 8) (by decide +kernel) (by decide +kernel) (by decide +kernel)
theorem x_167_138 : Xp 167 d 138 [v0, v1, v2, v3, v4, v5, (0, x), v7] st t g Q = Xp 167 d 140 [v0, v1, v2, v3, v4, v5, (0, x), v7] ((0, x) :: st) t g Q := Xp_go (i := .iload 6) (len := 2) (by decide +kernel) rfl
theorem x_167_140 : Xp 167 d 140 [v0, v1, v2, v3, v4, v5, v6, (0, x)] st t g Q = Xp 167 d 142 [v0, v1, v2, v3, v4, v5, v6, (0, x)] ((0, x) :: st) t g Q := Xp_go (i := .iload 7) (len := 2) (by decide +kernel) rfl
theorem x_167_142 : Xp 167 d 142 ls ((0, x) :: (0, a) :: (2, p) :: st) t g Q = ((hkJK p = 100 ∧ (100 = 102 → x = 0 ∨ x = 1) ∧ 0 ≤ a ∧ a < jL p) ∧ Xp 167 d 143 ls st t (hkSet g p a x) Q) := Xp_chk (i := .iastore) (len := 1) (by decide +kernel) rfl
theorem x_167_143 : Xp 167 d 143 [v0, v1, v2, v3, v4, (0, x), v6, v7] st t g Q = (hkP1 v4 ∧ Xp 167 d 146 [v0, v1, v2, v3, v4, (0, hkW (x + 1)), v6, v7] st t g Q) := Xp_chk (i := .iinc 5 (1)) (len := 3) (by decide +kernel) rfl
theorem x_167_146 : Xp 167 d 146 [v0, v1, v2, v3, v4, v5, (0, x), v7] st t g Q = (hkP1 v5 ∧ Xp 167 d 149 [v0, v1, v2, v3, v4, v5, (0, hkW (x + 1)), v7] st t g Q) := Xp_chk (i := .iinc 6 (1)) (len := 3) (by decide +kernel) rfl
theorem x_167_149 : Xp 167 d 149 ls st t g Q = Xp 167 d 65 ls st t g Q := xr_goto (off := -84) (by decide +kernel) (by decide)
theorem x_167_152 : Xp 167 d 152 [v0, v1, v2, v3, v4, (0, x), v6, v7] st t g Q = Xp 167 d 154 [v0, v1, v2, v3, v4, (0, x), v6, v7] ((0, x) :: st) t g Q := Xp_go (i := .iload 5) (len := 2) (by decide +kernel) rfl
theorem x_167_154 : Xp 167 d 154 ls [(0, x)] t g Q = Q (some (0, x)) t g := xr_retI (by decide +kernel) (by decide +kernel)
-- 168: HookBoxesModel.count(I)I
theorem x_168_0 : Xp 168 d 0 [v0, (0, x)] st t g Q = Xp 168 d 1 [v0, (0, x)] ((0, x) :: st) t g Q := Xp_go (i := .iload_n 1) (len := 1) (by decide +kernel) rfl
theorem x_168_1_f : hkFetch 168 1 = some (.tableswitch (69) (0) (5) #[39, 44, 49, 54, 59, 64], 39) := by decide +kernel
theorem x_168_1_k0 : Xp 168 d 1 ls ((0, 0) :: st) t g Q = Xp 168 d 40 ls st t g Q := xr_sw x_168_1_f (off := 39) (by decide +kernel) (by decide)
theorem x_168_1_k1 : Xp 168 d 1 ls ((0, 1) :: st) t g Q = Xp 168 d 45 ls st t g Q := xr_sw x_168_1_f (off := 44) (by decide +kernel) (by decide)
theorem x_168_1_k2 : Xp 168 d 1 ls ((0, 2) :: st) t g Q = Xp 168 d 50 ls st t g Q := xr_sw x_168_1_f (off := 49) (by decide +kernel) (by decide)
theorem x_168_1_k3 : Xp 168 d 1 ls ((0, 3) :: st) t g Q = Xp 168 d 55 ls st t g Q := xr_sw x_168_1_f (off := 54) (by decide +kernel) (by decide)
theorem x_168_1_k4 : Xp 168 d 1 ls ((0, 4) :: st) t g Q = Xp 168 d 60 ls st t g Q := xr_sw x_168_1_f (off := 59) (by decide +kernel) (by decide)
theorem x_168_1_k5 : Xp 168 d 1 ls ((0, 5) :: st) t g Q = Xp 168 d 65 ls st t g Q := xr_sw x_168_1_f (off := 64) (by decide +kernel) (by decide)
theorem x_168_1_d (h : a < 0 ∨ 5 < a) : Xp 168 d 1 ls ((0, a) :: st) t g Q = Xp 168 d 70 ls st t g Q := xr_swd x_168_1_f h (by decide)
theorem x_168_40 : Xp 168 d 40 [(2, x), v1] st t g Q = Xp 168 d 41 [(2, x), v1] ((2, x) :: st) t g Q := Xp_go (i := .aload_n 0) (len := 1) (by decide +kernel) rfl
theorem x_168_41 : Xp 168 d 41 ls ((2, p) :: st) t g Q = (hkJK p = 10 ∧ Xp 168 d 44 ls ((0, g p 2) :: st) t g Q) := xr_getI (idx := 97) (ci := 10) (k := 2) (by decide +kernel) (by decide +kernel) (by decide +kernel)
theorem x_168_44 : Xp 168 d 44 ls [(0, x)] t g Q = Q (some (0, x)) t g := xr_retI (by decide +kernel) (by decide +kernel)
theorem x_168_45 : Xp 168 d 45 [(2, x), v1] st t g Q = Xp 168 d 46 [(2, x), v1] ((2, x) :: st) t g Q := Xp_go (i := .aload_n 0) (len := 1) (by decide +kernel) rfl
theorem x_168_46 : Xp 168 d 46 ls ((2, p) :: st) t g Q = (hkJK p = 10 ∧ Xp 168 d 49 ls ((0, g p 0) :: st) t g Q) := xr_getI (idx := 11) (ci := 10) (k := 0) (by decide +kernel) (by decide +kernel) (by decide +kernel)
theorem x_168_49 : Xp 168 d 49 ls [(0, x)] t g Q = Q (some (0, x)) t g := xr_retI (by decide +kernel) (by decide +kernel)
theorem x_168_50 : Xp 168 d 50 [(2, x), v1] st t g Q = Xp 168 d 51 [(2, x), v1] ((2, x) :: st) t g Q := Xp_go (i := .aload_n 0) (len := 1) (by decide +kernel) rfl
theorem x_168_51 : Xp 168 d 51 ls ((2, p) :: st) t g Q = (hkJK p = 10 ∧ Xp 168 d 54 ls ((0, g p 1) :: st) t g Q) := xr_getI (idx := 15) (ci := 10) (k := 1) (by decide +kernel) (by decide +kernel) (by decide +kernel)
theorem x_168_54 : Xp 168 d 54 ls [(0, x)] t g Q = Q (some (0, x)) t g := xr_retI (by decide +kernel) (by decide +kernel)
theorem x_168_55 : Xp 168 d 55 [(2, x), v1] st t g Q = Xp 168 d 56 [(2, x), v1] ((2, x) :: st) t g Q := Xp_go (i := .aload_n 0) (len := 1) (by decide +kernel) rfl
theorem x_168_56 : Xp 168 (d + 1) 56 ls ((2, a0) :: st) t g Q = (hkJK a0 = 10 ∧ hkC8 st ∧ Xp 147 d 0 [(2, a0), hkU, hkU] [] t g (fun r t g => Xp 168 (d + 1) 59 ls (hkPush r st) t g Q)) := xr_invV (idx := 238) (y' := 147) (ci := 10) (tg := [2]) (by decide +kernel) (by decide +kernel) (by decide +kernel) (by decide +kernel) rfl rfl rfl
theorem x_168_59 : Xp 168 d 59 ls [(0, x)] t g Q = Q (some (0, x)) t g := xr_retI (by decide +kernel) (by decide +kernel)
theorem x_168_60 : Xp 168 d 60 [(2, x), v1] st t g Q = Xp 168 d 61 [(2, x), v1] ((2, x) :: st) t g Q := Xp_go (i := .aload_n 0) (len := 1) (by decide +kernel) rfl
theorem x_168_61 : Xp 168 d 61 ls ((2, p) :: st) t g Q = (hkJK p = 10 ∧ Xp 168 d 64 ls ((0, g p 32) :: st) t g Q) := xr_getI (idx := 253) (ci := 10) (k := 32) (by decide +kernel) (by decide +kernel) (by decide +kernel)
theorem x_168_64 : Xp 168 d 64 ls [(0, x)] t g Q = Q (some (0, x)) t g := xr_retI (by decide +kernel) (by decide +kernel)
theorem x_168_65 : Xp 168 d 65 [(2, x), v1] st t g Q = Xp 168 d 66 [(2, x), v1] ((2, x) :: st) t g Q := Xp_go (i := .aload_n 0) (len := 1) (by decide +kernel) rfl
theorem x_168_66 : Xp 168 d 66 ls ((2, p) :: st) t g Q = (hkJK p = 10 ∧ Xp 168 d 69 ls ((0, g p 12) :: st) t g Q) := xr_getI (idx := 297) (ci := 10) (k := 12) (by decide +kernel) (by decide +kernel) (by decide +kernel)
theorem x_168_69 : Xp 168 d 69 ls [(0, x)] t g Q = Q (some (0, x)) t g := xr_retI (by decide +kernel) (by decide +kernel)
theorem x_168_70 : Xp 168 d 70 ls st t g Q = Xp 168 d 72 ls ((0, -2) :: st) t g Q := xr_bi (c := -2) (by decide +kernel) (by decide)
theorem x_168_72 : Xp 168 d 72 ls [(0, x)] t g Q = Q (some (0, x)) t g := xr_retI (by decide +kernel) (by decide +kernel)
-- 169: HookBoxesModel.sheet(III)I
theorem x_169_0 : Xp 169 d 0 [v0, (0, x), v2, v3, v4] st t g Q = Xp 169 d 1 [v0, (0, x), v2, v3, v4] ((0, x) :: st) t g Q := Xp_go (i := .iload_n 1) (len := 1) (by decide +kernel) rfl
theorem x_169_1 : Xp 169 (d + 1) 1 ls ((0, a0) :: st) t g Q = (hkC8 st ∧ Xp 130 d 0 [(0, a0)] [] t g (fun r t g => Xp 169 (d + 1) 4 ls (hkPush r st) t g Q)) := xr_invS (idx := 189) (y' := 130) (tg := [0]) (by decide +kernel) (by decide +kernel) (by decide +kernel) rfl rfl
theorem x_169_4 : Xp 169 d 4 ls ((0, a) :: st) t g Q = ((a = 0 → Xp 169 d 30 ls st t g Q) ∧ (¬ (a = 0) → Xp 169 d 7 ls st t g Q)) := xr_if1 (cd := .eq) (off := 26) (by decide +kernel) (by decide)
theorem x_169_7 : Xp 169 d 7 [v0, v1, (0, x), v3, v4] st t g Q = Xp 169 d 8 [v0, v1, (0, x), v3, v4] ((0, x) :: st) t g Q := Xp_go (i := .iload_n 2) (len := 1) (by decide +kernel) rfl
theorem x_169_8 : Xp 169 d 8 ls ((0, a) :: st) t g Q = Xp 169 d 9 ls ((1, a) :: st) t g Q := Xp_go (i := .i2l) (len := 1) (by decide +kernel) rfl
theorem x_169_9 : Xp 169 d 9 ls st t g Q = Xp 169 d 12 ls ((1, -1) :: st) t g Q := xr_ldc2 (idx := 321) (by decide +kernel) (by decide +kernel)
theorem x_169_12 : Xp 169 d 12 ls st t g Q = Xp 169 d 13 ls ((1, 1) :: st) t g Q := Xp_go (i := .lconst 1) (len := 1) (by decide +kernel) rfl
theorem x_169_13 : Xp 169 (d + 1) 13 ls ((1, a2) :: (1, a1) :: (1, a0) :: st) t g Q = (hkC8 st ∧ Xp 107 d 0 [(1, a0), hkU, (1, a1), hkU, (1, a2), hkU] [] t g (fun r t g => Xp 169 (d + 1) 16 ls (hkPush r st) t g Q)) := xr_invS (idx := 115) (y' := 107) (tg := [1, 1, 1]) (by decide +kernel) (by decide +kernel) (by decide +kernel) rfl rfl
theorem x_169_16 : Xp 169 d 16 ls ((0, a) :: st) t g Q = ((a = 0 → Xp 169 d 30 ls st t g Q) ∧ (¬ (a = 0) → Xp 169 d 19 ls st t g Q)) := xr_if1 (cd := .eq) (off := 14) (by decide +kernel) (by decide)
theorem x_169_19 : Xp 169 d 19 [v0, v1, (0, x), v3, v4] st t g Q = Xp 169 d 20 [v0, v1, (0, x), v3, v4] ((0, x) :: st) t g Q := Xp_go (i := .iload_n 2) (len := 1) (by decide +kernel) rfl
theorem x_169_20 : Xp 169 d 20 ls st t g Q = Xp 169 d 21 ls ((0, -1) :: st) t g Q := xr_const (c := -1) (by decide +kernel) (by decide)
theorem x_169_21 : Xp 169 d 21 ls ((0, b) :: (0, a) :: st) t g Q = ((a = b → Xp 169 d 33 ls st t g Q) ∧ (¬ (a = b) → Xp 169 d 24 ls st t g Q)) := xr_if2 (cd := .eq) (off := 12) (by decide +kernel) (by decide)
theorem x_169_24 : Xp 169 d 24 [v0, v1, v2, (0, x), v4] st t g Q = Xp 169 d 25 [v0, v1, v2, (0, x), v4] ((0, x) :: st) t g Q := Xp_go (i := .iload_n 3) (len := 1) (by decide +kernel) rfl
theorem x_169_25 : Xp 169 d 25 ls st t g Q = Xp 169 d 27 ls ((0, 40) :: st) t g Q := xr_bi (c := 40) (by decide +kernel) (by decide)
theorem x_169_27 : Xp 169 d 27 ls ((0, b) :: (0, a) :: st) t g Q = ((a ≤ b → Xp 169 d 33 ls st t g Q) ∧ (¬ (a ≤ b) → Xp 169 d 30 ls st t g Q)) := xr_if2 (cd := .le) (off := 6) (by decide +kernel) (by decide)
theorem x_169_30 : Xp 169 d 30 ls st t g Q = Xp 169 d 32 ls ((0, -2) :: st) t g Q := xr_bi (c := -2) (by decide +kernel) (by decide)
theorem x_169_32 : Xp 169 d 32 ls [(0, x)] t g Q = Q (some (0, x)) t g := xr_retI (by decide +kernel) (by decide +kernel)
theorem x_169_33 : Xp 169 d 33 [v0, v1, (0, x), v3, v4] st t g Q = Xp 169 d 34 [v0, v1, (0, x), v3, v4] ((0, x) :: st) t g Q := Xp_go (i := .iload_n 2) (len := 1) (by decide +kernel) rfl
theorem x_169_34 : Xp 169 d 34 ls st t g Q = Xp 169 d 35 ls ((0, -1) :: st) t g Q := xr_const (c := -1) (by decide +kernel) (by decide)
theorem x_169_35 : Xp 169 d 35 ls ((0, b) :: (0, a) :: st) t g Q = ((a = b → Xp 169 d 45 ls st t g Q) ∧ (¬ (a = b) → Xp 169 d 38 ls st t g Q)) := xr_if2 (cd := .eq) (off := 10) (by decide +kernel) (by decide)
theorem x_169_38 : Xp 169 d 38 [v0, v1, v2, (0, x), v4] st t g Q = Xp 169 d 39 [v0, v1, v2, (0, x), v4] ((0, x) :: st) t g Q := Xp_go (i := .iload_n 3) (len := 1) (by decide +kernel) rfl
theorem x_169_39 : Xp 169 d 39 ls ((0, a) :: st) t g Q = ((0 ≤ a → Xp 169 d 45 ls st t g Q) ∧ (¬ (0 ≤ a) → Xp 169 d 42 ls st t g Q)) := xr_if1 (cd := .ge) (off := 6) (by decide +kernel) (by decide)
theorem x_169_42 : Xp 169 d 42 ls st t g Q = Xp 169 d 44 ls ((0, -14) :: st) t g Q := xr_bi (c := -14) (by decide +kernel) (by decide)
theorem x_169_44 : Xp 169 d 44 ls [(0, x)] t g Q = Q (some (0, x)) t g := xr_retI (by decide +kernel) (by decide +kernel)
theorem x_169_45 : Xp 169 d 45 [(2, x), v1, v2, v3, v4] st t g Q = Xp 169 d 46 [(2, x), v1, v2, v3, v4] ((2, x) :: st) t g Q := Xp_go (i := .aload_n 0) (len := 1) (by decide +kernel) rfl
theorem x_169_46 : Xp 169 d 46 ls ((2, p) :: st) t g Q = (hkJK p = 10 ∧ jA p 36 ≤ t ∧ Xp 169 d 49 ls ((2, jR p 36) :: st) t g Q) := xr_getR (idx := 82) (ci := 10) (k := 36) (by decide +kernel) (by decide +kernel) (by decide +kernel)
theorem x_169_49 : Xp 169 d 49 [v0, (0, x), v2, v3, v4] st t g Q = Xp 169 d 50 [v0, (0, x), v2, v3, v4] ((0, x) :: st) t g Q := Xp_go (i := .iload_n 1) (len := 1) (by decide +kernel) rfl
theorem x_169_50 : Xp 169 d 50 [v0, v1, (0, x), v3, v4] st t g Q = Xp 169 d 51 [v0, v1, (0, x), v3, v4] ((0, x) :: st) t g Q := Xp_go (i := .iload_n 2) (len := 1) (by decide +kernel) rfl
theorem x_169_51 : Xp 169 d 51 ls ((0, x) :: (0, a) :: (2, p) :: st) t g Q = ((hkJK p = 100 ∧ (100 = 102 → x = 0 ∨ x = 1) ∧ 0 ≤ a ∧ a < jL p) ∧ Xp 169 d 52 ls st t (hkSet g p a x) Q) := Xp_chk (i := .iastore) (len := 1) (by decide +kernel) rfl
theorem x_169_52 : Xp 169 d 52 [(2, x), v1, v2, v3, v4] st t g Q = Xp 169 d 53 [(2, x), v1, v2, v3, v4] ((2, x) :: st) t g Q := Xp_go (i := .aload_n 0) (len := 1) (by decide +kernel) rfl
theorem x_169_53 : Xp 169 d 53 ls ((2, p) :: st) t g Q = (hkJK p = 10 ∧ jA p 37 ≤ t ∧ Xp 169 d 56 ls ((2, jR p 37) :: st) t g Q) := xr_getR (idx := 85) (ci := 10) (k := 37) (by decide +kernel) (by decide +kernel) (by decide +kernel)
theorem x_169_56 : Xp 169 d 56 [v0, (0, x), v2, v3, v4] st t g Q = Xp 169 d 57 [v0, (0, x), v2, v3, v4] ((0, x) :: st) t g Q := Xp_go (i := .iload_n 1) (len := 1) (by decide +kernel) rfl
theorem x_169_57 : Xp 169 d 57 [v0, v1, (0, x), v3, v4] st t g Q = Xp 169 d 58 [v0, v1, (0, x), v3, v4] ((0, x) :: st) t g Q := Xp_go (i := .iload_n 2) (len := 1) (by decide +kernel) rfl
theorem x_169_58 : Xp 169 d 58 ls st t g Q = Xp 169 d 59 ls ((0, -1) :: st) t g Q := xr_const (c := -1) (by decide +kernel) (by decide)
theorem x_169_59 : Xp 169 d 59 ls ((0, b) :: (0, a) :: st) t g Q = ((¬ (a = b) → Xp 169 d 66 ls st t g Q) ∧ (¬ (¬ (a = b)) → Xp 169 d 62 ls st t g Q)) := xr_if2 (cd := .ne) (off := 7) (by decide +kernel) (by decide)
theorem x_169_62 : Xp 169 d 62 ls st t g Q = Xp 169 d 63 ls ((0, 0) :: st) t g Q := xr_const (c := 0) (by decide +kernel) (by decide)
theorem x_169_63 : Xp 169 d 63 ls st t g Q = Xp 169 d 67 ls st t g Q := xr_goto (off := 4) (by decide +kernel) (by decide)
theorem x_169_66 : Xp 169 d 66 [v0, v1, v2, (0, x), v4] st t g Q = Xp 169 d 67 [v0, v1, v2, (0, x), v4] ((0, x) :: st) t g Q := Xp_go (i := .iload_n 3) (len := 1) (by decide +kernel) rfl
theorem x_169_67 : Xp 169 d 67 ls ((0, x) :: (0, a) :: (2, p) :: st) t g Q = ((hkJK p = 100 ∧ (100 = 102 → x = 0 ∨ x = 1) ∧ 0 ≤ a ∧ a < jL p) ∧ Xp 169 d 68 ls st t (hkSet g p a x) Q) := Xp_chk (i := .iastore) (len := 1) (by decide +kernel) rfl
theorem x_169_68 : Xp 169 d 68 ls st t g Q = Xp 169 d 69 ls ((0, 0) :: st) t g Q := xr_const (c := 0) (by decide +kernel) (by decide)
theorem x_169_69 : Xp 169 d 69 [v0, v1, v2, v3, v4] ((0, x) :: st) t g Q = (hkP1 v3 ∧ Xp 169 d 71 [v0, v1, v2, v3, (0, x)] st t g Q) := Xp_chk (i := .istore 4) (len := 2) (by decide +kernel) rfl
theorem x_169_71 : Xp 169 d 71 [v0, v1, v2, v3, (0, x)] st t g Q = Xp 169 d 73 [v0, v1, v2, v3, (0, x)] ((0, x) :: st) t g Q := Xp_go (i := .iload 4) (len := 2) (by decide +kernel) rfl
theorem x_169_73 : Xp 169 d 73 ls st t g Q = Xp 169 d 75 ls ((0, 40) :: st) t g Q := xr_bi (c := 40) (by decide +kernel) (by decide)
theorem x_169_75 : Xp 169 d 75 ls ((0, b) :: (0, a) :: st) t g Q = ((b ≤ a → Xp 169 d 97 ls st t g Q) ∧ (¬ (b ≤ a) → Xp 169 d 78 ls st t g Q)) := xr_if2 (cd := .ge) (off := 22) (by decide +kernel) (by decide)
theorem x_169_78 : Xp 169 d 78 [(2, x), v1, v2, v3, v4] st t g Q = Xp 169 d 79 [(2, x), v1, v2, v3, v4] ((2, x) :: st) t g Q := Xp_go (i := .aload_n 0) (len := 1) (by decide +kernel) rfl
theorem x_169_79 : Xp 169 d 79 ls ((2, p) :: st) t g Q = (hkJK p = 10 ∧ jA p 38 ≤ t ∧ Xp 169 d 82 ls ((2, jR p 38) :: st) t g Q) := xr_getR (idx := 88) (ci := 10) (k := 38) (by decide +kernel) (by decide +kernel) (by decide +kernel)
theorem x_169_82 : Xp 169 d 82 ls st t g Q = Xp 169 d 84 ls ((0, 40) :: st) t g Q := xr_bi (c := 40) (by decide +kernel) (by decide)
theorem x_169_84 : Xp 169 d 84 [v0, (0, x), v2, v3, v4] st t g Q = Xp 169 d 85 [v0, (0, x), v2, v3, v4] ((0, x) :: st) t g Q := Xp_go (i := .iload_n 1) (len := 1) (by decide +kernel) rfl
theorem x_169_85 : Xp 169 d 85 ls ((0, b) :: (0, a) :: st) t g Q = Xp 169 d 86 ls ((0, hkW (a * b)) :: st) t g Q := Xp_go (i := .imul) (len := 1) (by decide +kernel) rfl
theorem x_169_86 : Xp 169 d 86 [v0, v1, v2, v3, (0, x)] st t g Q = Xp 169 d 88 [v0, v1, v2, v3, (0, x)] ((0, x) :: st) t g Q := Xp_go (i := .iload 4) (len := 2) (by decide +kernel) rfl
theorem x_169_88 : Xp 169 d 88 ls ((0, b) :: (0, a) :: st) t g Q = Xp 169 d 89 ls ((0, hkW (a + b)) :: st) t g Q := Xp_go (i := .iadd) (len := 1) (by decide +kernel) rfl
theorem x_169_89 : Xp 169 d 89 ls st t g Q = Xp 169 d 90 ls ((0, 0) :: st) t g Q := xr_const (c := 0) (by decide +kernel) (by decide)
theorem x_169_90 : Xp 169 d 90 ls ((0, x) :: (0, a) :: (2, p) :: st) t g Q = ((hkJK p = 100 ∧ (100 = 102 → x = 0 ∨ x = 1) ∧ 0 ≤ a ∧ a < jL p) ∧ Xp 169 d 91 ls st t (hkSet g p a x) Q) := Xp_chk (i := .iastore) (len := 1) (by decide +kernel) rfl
theorem x_169_91 : Xp 169 d 91 [v0, v1, v2, v3, (0, x)] st t g Q = (hkP1 v3 ∧ Xp 169 d 94 [v0, v1, v2, v3, (0, hkW (x + 1))] st t g Q) := Xp_chk (i := .iinc 4 (1)) (len := 3) (by decide +kernel) rfl
theorem x_169_94 : Xp 169 d 94 ls st t g Q = Xp 169 d 71 ls st t g Q := xr_goto (off := -23) (by decide +kernel) (by decide)
theorem x_169_97 : Xp 169 d 97 ls st t g Q = Xp 169 d 98 ls ((0, 1) :: st) t g Q := xr_const (c := 1) (by decide +kernel) (by decide)
theorem x_169_98 : Xp 169 d 98 ls [(0, x)] t g Q = Q (some (0, x)) t g := xr_retI (by decide +kernel) (by decide +kernel)
-- 170: HookBoxesModel.put(III)I
theorem x_170_0 : Xp 170 d 0 [v0, (0, x), v2, v3] st t g Q = Xp 170 d 1 [v0, (0, x), v2, v3] ((0, x) :: st) t g Q := Xp_go (i := .iload_n 1) (len := 1) (by decide +kernel) rfl
theorem x_170_1 : Xp 170 (d + 1) 1 ls ((0, a0) :: st) t g Q = (hkC8 st ∧ Xp 130 d 0 [(0, a0)] [] t g (fun r t g => Xp 170 (d + 1) 4 ls (hkPush r st) t g Q)) := xr_invS (idx := 189) (y' := 130) (tg := [0]) (by decide +kernel) (by decide +kernel) (by decide +kernel) rfl rfl
theorem x_170_4 : Xp 170 d 4 ls ((0, a) :: st) t g Q = ((¬ (a = 0) → Xp 170 d 10 ls st t g Q) ∧ (¬ (¬ (a = 0)) → Xp 170 d 7 ls st t g Q)) := xr_if1 (cd := .ne) (off := 6) (by decide +kernel) (by decide)
theorem x_170_7 : Xp 170 d 7 ls st t g Q = Xp 170 d 9 ls ((0, -2) :: st) t g Q := xr_bi (c := -2) (by decide +kernel) (by decide)
theorem x_170_9 : Xp 170 d 9 ls [(0, x)] t g Q = Q (some (0, x)) t g := xr_retI (by decide +kernel) (by decide +kernel)
theorem x_170_10 : Xp 170 d 10 [(2, x), v1, v2, v3] st t g Q = Xp 170 d 11 [(2, x), v1, v2, v3] ((2, x) :: st) t g Q := Xp_go (i := .aload_n 0) (len := 1) (by decide +kernel) rfl
theorem x_170_11 : Xp 170 d 11 ls ((2, p) :: st) t g Q = (hkJK p = 10 ∧ jA p 36 ≤ t ∧ Xp 170 d 14 ls ((2, jR p 36) :: st) t g Q) := xr_getR (idx := 82) (ci := 10) (k := 36) (by decide +kernel) (by decide +kernel) (by decide +kernel)
theorem x_170_14 : Xp 170 d 14 [v0, (0, x), v2, v3] st t g Q = Xp 170 d 15 [v0, (0, x), v2, v3] ((0, x) :: st) t g Q := Xp_go (i := .iload_n 1) (len := 1) (by decide +kernel) rfl
theorem x_170_15 : Xp 170 d 15 ls ((0, a) :: (2, p) :: st) t g Q = ((hkJK p = 100 ∧ 0 ≤ a ∧ a < jL p) ∧ Xp 170 d 16 ls ((0, g p a) :: st) t g Q) := Xp_chk (i := .iaload) (len := 1) (by decide +kernel) rfl
theorem x_170_16 : Xp 170 d 16 ls st t g Q = Xp 170 d 17 ls ((0, -1) :: st) t g Q := xr_const (c := -1) (by decide +kernel) (by decide)
theorem x_170_17 : Xp 170 d 17 ls ((0, b) :: (0, a) :: st) t g Q = ((¬ (a = b) → Xp 170 d 23 ls st t g Q) ∧ (¬ (¬ (a = b)) → Xp 170 d 20 ls st t g Q)) := xr_if2 (cd := .ne) (off := 6) (by decide +kernel) (by decide)
theorem x_170_20 : Xp 170 d 20 ls st t g Q = Xp 170 d 22 ls ((0, -11) :: st) t g Q := xr_bi (c := -11) (by decide +kernel) (by decide)
theorem x_170_22 : Xp 170 d 22 ls [(0, x)] t g Q = Q (some (0, x)) t g := xr_retI (by decide +kernel) (by decide +kernel)
theorem x_170_23 : Xp 170 d 23 [v0, v1, (0, x), v3] st t g Q = Xp 170 d 24 [v0, v1, (0, x), v3] ((0, x) :: st) t g Q := Xp_go (i := .iload_n 2) (len := 1) (by decide +kernel) rfl
theorem x_170_24 : Xp 170 d 24 ls ((0, a) :: st) t g Q = Xp 170 d 25 ls ((1, a) :: st) t g Q := Xp_go (i := .i2l) (len := 1) (by decide +kernel) rfl
theorem x_170_25 : Xp 170 d 25 ls st t g Q = Xp 170 d 26 ls ((1, 0) :: st) t g Q := Xp_go (i := .lconst 0) (len := 1) (by decide +kernel) rfl
theorem x_170_26 : Xp 170 d 26 [(2, x), v1, v2, v3] st t g Q = Xp 170 d 27 [(2, x), v1, v2, v3] ((2, x) :: st) t g Q := Xp_go (i := .aload_n 0) (len := 1) (by decide +kernel) rfl
theorem x_170_27 : Xp 170 d 27 ls ((2, p) :: st) t g Q = (hkJK p = 10 ∧ jA p 37 ≤ t ∧ Xp 170 d 30 ls ((2, jR p 37) :: st) t g Q) := xr_getR (idx := 85) (ci := 10) (k := 37) (by decide +kernel) (by decide +kernel) (by decide +kernel)
theorem x_170_30 : Xp 170 d 30 [v0, (0, x), v2, v3] st t g Q = Xp 170 d 31 [v0, (0, x), v2, v3] ((0, x) :: st) t g Q := Xp_go (i := .iload_n 1) (len := 1) (by decide +kernel) rfl
theorem x_170_31 : Xp 170 d 31 ls ((0, a) :: (2, p) :: st) t g Q = ((hkJK p = 100 ∧ 0 ≤ a ∧ a < jL p) ∧ Xp 170 d 32 ls ((0, g p a) :: st) t g Q) := Xp_chk (i := .iaload) (len := 1) (by decide +kernel) rfl
theorem x_170_32 : Xp 170 d 32 ls st t g Q = Xp 170 d 33 ls ((0, 1) :: st) t g Q := xr_const (c := 1) (by decide +kernel) (by decide)
theorem x_170_33 : Xp 170 d 33 ls ((0, b) :: (0, a) :: st) t g Q = Xp 170 d 34 ls ((0, hkW (a - b)) :: st) t g Q := Xp_go (i := .isub) (len := 1) (by decide +kernel) rfl
theorem x_170_34 : Xp 170 d 34 ls ((0, a) :: st) t g Q = Xp 170 d 35 ls ((1, a) :: st) t g Q := Xp_go (i := .i2l) (len := 1) (by decide +kernel) rfl
theorem x_170_35 : Xp 170 (d + 1) 35 ls ((1, a2) :: (1, a1) :: (1, a0) :: st) t g Q = (hkC8 st ∧ Xp 107 d 0 [(1, a0), hkU, (1, a1), hkU, (1, a2), hkU] [] t g (fun r t g => Xp 170 (d + 1) 38 ls (hkPush r st) t g Q)) := xr_invS (idx := 115) (y' := 107) (tg := [1, 1, 1]) (by decide +kernel) (by decide +kernel) (by decide +kernel) rfl rfl
theorem x_170_38 : Xp 170 d 38 ls ((0, a) :: st) t g Q = ((¬ (a = 0) → Xp 170 d 44 ls st t g Q) ∧ (¬ (¬ (a = 0)) → Xp 170 d 41 ls st t g Q)) := xr_if1 (cd := .ne) (off := 6) (by decide +kernel) (by decide)
theorem x_170_41 : Xp 170 d 41 ls st t g Q = Xp 170 d 43 ls ((0, -12) :: st) t g Q := xr_bi (c := -12) (by decide +kernel) (by decide)
theorem x_170_43 : Xp 170 d 43 ls [(0, x)] t g Q = Q (some (0, x)) t g := xr_retI (by decide +kernel) (by decide +kernel)
theorem x_170_44 : Xp 170 d 44 [(2, x), v1, v2, v3] st t g Q = Xp 170 d 45 [(2, x), v1, v2, v3] ((2, x) :: st) t g Q := Xp_go (i := .aload_n 0) (len := 1) (by decide +kernel) rfl
theorem x_170_45 : Xp 170 d 45 ls ((2, p) :: st) t g Q = (hkJK p = 10 ∧ jA p 38 ≤ t ∧ Xp 170 d 48 ls ((2, jR p 38) :: st) t g Q) := xr_getR (idx := 88) (ci := 10) (k := 38) (by decide +kernel) (by decide +kernel) (by decide +kernel)
theorem x_170_48 : Xp 170 d 48 ls st t g Q = Xp 170 d 50 ls ((0, 40) :: st) t g Q := xr_bi (c := 40) (by decide +kernel) (by decide)
theorem x_170_50 : Xp 170 d 50 [v0, (0, x), v2, v3] st t g Q = Xp 170 d 51 [v0, (0, x), v2, v3] ((0, x) :: st) t g Q := Xp_go (i := .iload_n 1) (len := 1) (by decide +kernel) rfl
theorem x_170_51 : Xp 170 d 51 ls ((0, b) :: (0, a) :: st) t g Q = Xp 170 d 52 ls ((0, hkW (a * b)) :: st) t g Q := Xp_go (i := .imul) (len := 1) (by decide +kernel) rfl
theorem x_170_52 : Xp 170 d 52 [v0, v1, (0, x), v3] st t g Q = Xp 170 d 53 [v0, v1, (0, x), v3] ((0, x) :: st) t g Q := Xp_go (i := .iload_n 2) (len := 1) (by decide +kernel) rfl
theorem x_170_53 : Xp 170 d 53 ls ((0, b) :: (0, a) :: st) t g Q = Xp 170 d 54 ls ((0, hkW (a + b)) :: st) t g Q := Xp_go (i := .iadd) (len := 1) (by decide +kernel) rfl
theorem x_170_54 : Xp 170 d 54 [(2, x), v1, v2, v3] st t g Q = Xp 170 d 55 [(2, x), v1, v2, v3] ((2, x) :: st) t g Q := Xp_go (i := .aload_n 0) (len := 1) (by decide +kernel) rfl
theorem x_170_55 : Xp 170 d 55 ls ((2, p) :: st) t g Q = (hkJK p = 10 ∧ jA p 36 ≤ t ∧ Xp 170 d 58 ls ((2, jR p 36) :: st) t g Q) := xr_getR (idx := 82) (ci := 10) (k := 36) (by decide +kernel) (by decide +kernel) (by decide +kernel)
theorem x_170_58 : Xp 170 d 58 [v0, (0, x), v2, v3] st t g Q = Xp 170 d 59 [v0, (0, x), v2, v3] ((0, x) :: st) t g Q := Xp_go (i := .iload_n 1) (len := 1) (by decide +kernel) rfl
theorem x_170_59 : Xp 170 d 59 ls ((0, a) :: (2, p) :: st) t g Q = ((hkJK p = 100 ∧ 0 ≤ a ∧ a < jL p) ∧ Xp 170 d 60 ls ((0, g p a) :: st) t g Q) := Xp_chk (i := .iaload) (len := 1) (by decide +kernel) rfl
theorem x_170_60 : Xp 170 d 60 ls ((0, a) :: st) t g Q = ((¬ (a = 0) → Xp 170 d 68 ls st t g Q) ∧ (¬ (¬ (a = 0)) → Xp 170 d 63 ls st t g Q)) := xr_if1 (cd := .ne) (off := 8) (by decide +kernel) (by decide)
theorem x_170_63 : Xp 170 d 63 [v0, v1, v2, (0, x)] st t g Q = Xp 170 d 64 [v0, v1, v2, (0, x)] ((0, x) :: st) t g Q := Xp_go (i := .iload_n 3) (len := 1) (by decide +kernel) rfl
theorem x_170_64 : Xp 170 d 64 ls ((0, a) :: st) t g Q = Xp 170 d 65 ls ((0, Int.bmod a 65536) :: st) t g Q := Xp_go (i := .i2s) (len := 1) (by decide +kernel) rfl
theorem x_170_65 : Xp 170 d 65 ls st t g Q = Xp 170 d 69 ls st t g Q := xr_goto (off := 4) (by decide +kernel) (by decide)
theorem x_170_68 : Xp 170 d 68 [v0, v1, v2, (0, x)] st t g Q = Xp 170 d 69 [v0, v1, v2, (0, x)] ((0, x) :: st) t g Q := Xp_go (i := .iload_n 3) (len := 1) (by decide +kernel) rfl
theorem x_170_69 : Xp 170 d 69 ls ((0, x) :: (0, a) :: (2, p) :: st) t g Q = ((hkJK p = 100 ∧ (100 = 102 → x = 0 ∨ x = 1) ∧ 0 ≤ a ∧ a < jL p) ∧ Xp 170 d 70 ls st t (hkSet g p a x) Q) := Xp_chk (i := .iastore) (len := 1) (by decide +kernel) rfl
theorem x_170_70 : Xp 170 d 70 ls st t g Q = Xp 170 d 71 ls ((0, 1) :: st) t g Q := xr_const (c := 1) (by decide +kernel) (by decide)
theorem x_170_71 : Xp 170 d 71 ls [(0, x)] t g Q = Q (some (0, x)) t g := xr_retI (by decide +kernel) (by decide +kernel)
-- 171: HookBoxesModel.copy(IIIII)I
theorem x_171_0 : Xp 171 d 0 [v0, (0, x), v2, v3, v4, v5, v6] st t g Q = Xp 171 d 1 [v0, (0, x), v2, v3, v4, v5, v6] ((0, x) :: st) t g Q := Xp_go (i := .iload_n 1) (len := 1) (by decide +kernel) rfl
theorem x_171_1 : Xp 171 (d + 1) 1 ls ((0, a0) :: st) t g Q = (hkC8 st ∧ Xp 130 d 0 [(0, a0)] [] t g (fun r t g => Xp 171 (d + 1) 4 ls (hkPush r st) t g Q)) := xr_invS (idx := 189) (y' := 130) (tg := [0]) (by decide +kernel) (by decide +kernel) (by decide +kernel) rfl rfl
theorem x_171_4 : Xp 171 d 4 ls ((0, a) :: st) t g Q = ((a = 0 → Xp 171 d 14 ls st t g Q) ∧ (¬ (a = 0) → Xp 171 d 7 ls st t g Q)) := xr_if1 (cd := .eq) (off := 10) (by decide +kernel) (by decide)
theorem x_171_7 : Xp 171 d 7 [v0, v1, v2, (0, x), v4, v5, v6] st t g Q = Xp 171 d 8 [v0, v1, v2, (0, x), v4, v5, v6] ((0, x) :: st) t g Q := Xp_go (i := .iload_n 3) (len := 1) (by decide +kernel) rfl
theorem x_171_8 : Xp 171 (d + 1) 8 ls ((0, a0) :: st) t g Q = (hkC8 st ∧ Xp 130 d 0 [(0, a0)] [] t g (fun r t g => Xp 171 (d + 1) 11 ls (hkPush r st) t g Q)) := xr_invS (idx := 189) (y' := 130) (tg := [0]) (by decide +kernel) (by decide +kernel) (by decide +kernel) rfl rfl
theorem x_171_11 : Xp 171 d 11 ls ((0, a) :: st) t g Q = ((¬ (a = 0) → Xp 171 d 17 ls st t g Q) ∧ (¬ (¬ (a = 0)) → Xp 171 d 14 ls st t g Q)) := xr_if1 (cd := .ne) (off := 6) (by decide +kernel) (by decide)
theorem x_171_14 : Xp 171 d 14 ls st t g Q = Xp 171 d 16 ls ((0, -2) :: st) t g Q := xr_bi (c := -2) (by decide +kernel) (by decide)
theorem x_171_16 : Xp 171 d 16 ls [(0, x)] t g Q = Q (some (0, x)) t g := xr_retI (by decide +kernel) (by decide +kernel)
theorem x_171_17 : Xp 171 d 17 [(2, x), v1, v2, v3, v4, v5, v6] st t g Q = Xp 171 d 18 [(2, x), v1, v2, v3, v4, v5, v6] ((2, x) :: st) t g Q := Xp_go (i := .aload_n 0) (len := 1) (by decide +kernel) rfl
theorem x_171_18 : Xp 171 d 18 ls ((2, p) :: st) t g Q = (hkJK p = 10 ∧ jA p 36 ≤ t ∧ Xp 171 d 21 ls ((2, jR p 36) :: st) t g Q) := xr_getR (idx := 82) (ci := 10) (k := 36) (by decide +kernel) (by decide +kernel) (by decide +kernel)
theorem x_171_21 : Xp 171 d 21 [v0, (0, x), v2, v3, v4, v5, v6] st t g Q = Xp 171 d 22 [v0, (0, x), v2, v3, v4, v5, v6] ((0, x) :: st) t g Q := Xp_go (i := .iload_n 1) (len := 1) (by decide +kernel) rfl
theorem x_171_22 : Xp 171 d 22 ls ((0, a) :: (2, p) :: st) t g Q = ((hkJK p = 100 ∧ 0 ≤ a ∧ a < jL p) ∧ Xp 171 d 23 ls ((0, g p a) :: st) t g Q) := Xp_chk (i := .iaload) (len := 1) (by decide +kernel) rfl
theorem x_171_23 : Xp 171 d 23 ls st t g Q = Xp 171 d 24 ls ((0, -1) :: st) t g Q := xr_const (c := -1) (by decide +kernel) (by decide)
theorem x_171_24 : Xp 171 d 24 ls ((0, b) :: (0, a) :: st) t g Q = ((a = b → Xp 171 d 37 ls st t g Q) ∧ (¬ (a = b) → Xp 171 d 27 ls st t g Q)) := xr_if2 (cd := .eq) (off := 13) (by decide +kernel) (by decide)
theorem x_171_27 : Xp 171 d 27 [(2, x), v1, v2, v3, v4, v5, v6] st t g Q = Xp 171 d 28 [(2, x), v1, v2, v3, v4, v5, v6] ((2, x) :: st) t g Q := Xp_go (i := .aload_n 0) (len := 1) (by decide +kernel) rfl
theorem x_171_28 : Xp 171 d 28 ls ((2, p) :: st) t g Q = (hkJK p = 10 ∧ jA p 36 ≤ t ∧ Xp 171 d 31 ls ((2, jR p 36) :: st) t g Q) := xr_getR (idx := 82) (ci := 10) (k := 36) (by decide +kernel) (by decide +kernel) (by decide +kernel)
theorem x_171_31 : Xp 171 d 31 [v0, v1, v2, (0, x), v4, v5, v6] st t g Q = Xp 171 d 32 [v0, v1, v2, (0, x), v4, v5, v6] ((0, x) :: st) t g Q := Xp_go (i := .iload_n 3) (len := 1) (by decide +kernel) rfl
theorem x_171_32 : Xp 171 d 32 ls ((0, a) :: (2, p) :: st) t g Q = ((hkJK p = 100 ∧ 0 ≤ a ∧ a < jL p) ∧ Xp 171 d 33 ls ((0, g p a) :: st) t g Q) := Xp_chk (i := .iaload) (len := 1) (by decide +kernel) rfl
theorem x_171_33 : Xp 171 d 33 ls st t g Q = Xp 171 d 34 ls ((0, -1) :: st) t g Q := xr_const (c := -1) (by decide +kernel) (by decide)
theorem x_171_34 : Xp 171 d 34 ls ((0, b) :: (0, a) :: st) t g Q = ((¬ (a = b) → Xp 171 d 40 ls st t g Q) ∧ (¬ (¬ (a = b)) → Xp 171 d 37 ls st t g Q)) := xr_if2 (cd := .ne) (off := 6) (by decide +kernel) (by decide)
theorem x_171_37 : Xp 171 d 37 ls st t g Q = Xp 171 d 39 ls ((0, -11) :: st) t g Q := xr_bi (c := -11) (by decide +kernel) (by decide)
theorem x_171_39 : Xp 171 d 39 ls [(0, x)] t g Q = Q (some (0, x)) t g := xr_retI (by decide +kernel) (by decide +kernel)
theorem x_171_40 : Xp 171 d 40 [(2, x), v1, v2, v3, v4, v5, v6] st t g Q = Xp 171 d 41 [(2, x), v1, v2, v3, v4, v5, v6] ((2, x) :: st) t g Q := Xp_go (i := .aload_n 0) (len := 1) (by decide +kernel) rfl
theorem x_171_41 : Xp 171 d 41 ls ((2, p) :: st) t g Q = (hkJK p = 10 ∧ jA p 36 ≤ t ∧ Xp 171 d 44 ls ((2, jR p 36) :: st) t g Q) := xr_getR (idx := 82) (ci := 10) (k := 36) (by decide +kernel) (by decide +kernel) (by decide +kernel)
theorem x_171_44 : Xp 171 d 44 [v0, (0, x), v2, v3, v4, v5, v6] st t g Q = Xp 171 d 45 [v0, (0, x), v2, v3, v4, v5, v6] ((0, x) :: st) t g Q := Xp_go (i := .iload_n 1) (len := 1) (by decide +kernel) rfl
theorem x_171_45 : Xp 171 d 45 ls ((0, a) :: (2, p) :: st) t g Q = ((hkJK p = 100 ∧ 0 ≤ a ∧ a < jL p) ∧ Xp 171 d 46 ls ((0, g p a) :: st) t g Q) := Xp_chk (i := .iaload) (len := 1) (by decide +kernel) rfl
theorem x_171_46 : Xp 171 d 46 [(2, x), v1, v2, v3, v4, v5, v6] st t g Q = Xp 171 d 47 [(2, x), v1, v2, v3, v4, v5, v6] ((2, x) :: st) t g Q := Xp_go (i := .aload_n 0) (len := 1) (by decide +kernel) rfl
theorem x_171_47 : Xp 171 d 47 ls ((2, p) :: st) t g Q = (hkJK p = 10 ∧ jA p 36 ≤ t ∧ Xp 171 d 50 ls ((2, jR p 36) :: st) t g Q) := xr_getR (idx := 82) (ci := 10) (k := 36) (by decide +kernel) (by decide +kernel) (by decide +kernel)
theorem x_171_50 : Xp 171 d 50 [v0, v1, v2, (0, x), v4, v5, v6] st t g Q = Xp 171 d 51 [v0, v1, v2, (0, x), v4, v5, v6] ((0, x) :: st) t g Q := Xp_go (i := .iload_n 3) (len := 1) (by decide +kernel) rfl
theorem x_171_51 : Xp 171 d 51 ls ((0, a) :: (2, p) :: st) t g Q = ((hkJK p = 100 ∧ 0 ≤ a ∧ a < jL p) ∧ Xp 171 d 52 ls ((0, g p a) :: st) t g Q) := Xp_chk (i := .iaload) (len := 1) (by decide +kernel) rfl
theorem x_171_52 : Xp 171 d 52 ls ((0, b) :: (0, a) :: st) t g Q = ((a = b → Xp 171 d 58 ls st t g Q) ∧ (¬ (a = b) → Xp 171 d 55 ls st t g Q)) := xr_if2 (cd := .eq) (off := 6) (by decide +kernel) (by decide)
theorem x_171_55 : Xp 171 d 55 ls st t g Q = Xp 171 d 57 ls ((0, -13) :: st) t g Q := xr_bi (c := -13) (by decide +kernel) (by decide)
theorem x_171_57 : Xp 171 d 57 ls [(0, x)] t g Q = Q (some (0, x)) t g := xr_retI (by decide +kernel) (by decide +kernel)
theorem x_171_58 : Xp 171 d 58 [v0, v1, v2, v3, v4, (0, x), v6] st t g Q = Xp 171 d 60 [v0, v1, v2, v3, v4, (0, x), v6] ((0, x) :: st) t g Q := Xp_go (i := .iload 5) (len := 2) (by decide +kernel) rfl
theorem x_171_60 : Xp 171 d 60 ls ((0, a) :: st) t g Q = ((a < 0 → Xp 171 d 99 ls st t g Q) ∧ (¬ (a < 0) → Xp 171 d 63 ls st t g Q)) := xr_if1 (cd := .lt) (off := 39) (by decide +kernel) (by decide)
theorem x_171_63 : Xp 171 d 63 [v0, v1, (0, x), v3, v4, v5, v6] st t g Q = Xp 171 d 64 [v0, v1, (0, x), v3, v4, v5, v6] ((0, x) :: st) t g Q := Xp_go (i := .iload_n 2) (len := 1) (by decide +kernel) rfl
theorem x_171_64 : Xp 171 d 64 ls ((0, a) :: st) t g Q = ((a < 0 → Xp 171 d 99 ls st t g Q) ∧ (¬ (a < 0) → Xp 171 d 67 ls st t g Q)) := xr_if1 (cd := .lt) (off := 35) (by decide +kernel) (by decide)
theorem x_171_67 : Xp 171 d 67 [v0, v1, v2, v3, (0, x), v5, v6] st t g Q = Xp 171 d 69 [v0, v1, v2, v3, (0, x), v5, v6] ((0, x) :: st) t g Q := Xp_go (i := .iload 4) (len := 2) (by decide +kernel) rfl
theorem x_171_69 : Xp 171 d 69 ls ((0, a) :: st) t g Q = ((a < 0 → Xp 171 d 99 ls st t g Q) ∧ (¬ (a < 0) → Xp 171 d 72 ls st t g Q)) := xr_if1 (cd := .lt) (off := 30) (by decide +kernel) (by decide)
theorem x_171_72 : Xp 171 d 72 [v0, v1, (0, x), v3, v4, v5, v6] st t g Q = Xp 171 d 73 [v0, v1, (0, x), v3, v4, v5, v6] ((0, x) :: st) t g Q := Xp_go (i := .iload_n 2) (len := 1) (by decide +kernel) rfl
theorem x_171_73 : Xp 171 d 73 [(2, x), v1, v2, v3, v4, v5, v6] st t g Q = Xp 171 d 74 [(2, x), v1, v2, v3, v4, v5, v6] ((2, x) :: st) t g Q := Xp_go (i := .aload_n 0) (len := 1) (by decide +kernel) rfl
theorem x_171_74 : Xp 171 d 74 ls ((2, p) :: st) t g Q = (hkJK p = 10 ∧ jA p 37 ≤ t ∧ Xp 171 d 77 ls ((2, jR p 37) :: st) t g Q) := xr_getR (idx := 85) (ci := 10) (k := 37) (by decide +kernel) (by decide +kernel) (by decide +kernel)
theorem x_171_77 : Xp 171 d 77 [v0, (0, x), v2, v3, v4, v5, v6] st t g Q = Xp 171 d 78 [v0, (0, x), v2, v3, v4, v5, v6] ((0, x) :: st) t g Q := Xp_go (i := .iload_n 1) (len := 1) (by decide +kernel) rfl
theorem x_171_78 : Xp 171 d 78 ls ((0, a) :: (2, p) :: st) t g Q = ((hkJK p = 100 ∧ 0 ≤ a ∧ a < jL p) ∧ Xp 171 d 79 ls ((0, g p a) :: st) t g Q) := Xp_chk (i := .iaload) (len := 1) (by decide +kernel) rfl
theorem x_171_79 : Xp 171 d 79 [v0, v1, v2, v3, v4, (0, x), v6] st t g Q = Xp 171 d 81 [v0, v1, v2, v3, v4, (0, x), v6] ((0, x) :: st) t g Q := Xp_go (i := .iload 5) (len := 2) (by decide +kernel) rfl
theorem x_171_81 : Xp 171 d 81 ls ((0, b) :: (0, a) :: st) t g Q = Xp 171 d 82 ls ((0, hkW (a - b)) :: st) t g Q := Xp_go (i := .isub) (len := 1) (by decide +kernel) rfl
theorem x_171_82 : Xp 171 d 82 ls ((0, b) :: (0, a) :: st) t g Q = ((b < a → Xp 171 d 99 ls st t g Q) ∧ (¬ (b < a) → Xp 171 d 85 ls st t g Q)) := xr_if2 (cd := .gt) (off := 17) (by decide +kernel) (by decide)
theorem x_171_85 : Xp 171 d 85 [v0, v1, v2, v3, (0, x), v5, v6] st t g Q = Xp 171 d 87 [v0, v1, v2, v3, (0, x), v5, v6] ((0, x) :: st) t g Q := Xp_go (i := .iload 4) (len := 2) (by decide +kernel) rfl
theorem x_171_87 : Xp 171 d 87 [(2, x), v1, v2, v3, v4, v5, v6] st t g Q = Xp 171 d 88 [(2, x), v1, v2, v3, v4, v5, v6] ((2, x) :: st) t g Q := Xp_go (i := .aload_n 0) (len := 1) (by decide +kernel) rfl
theorem x_171_88 : Xp 171 d 88 ls ((2, p) :: st) t g Q = (hkJK p = 10 ∧ jA p 37 ≤ t ∧ Xp 171 d 91 ls ((2, jR p 37) :: st) t g Q) := xr_getR (idx := 85) (ci := 10) (k := 37) (by decide +kernel) (by decide +kernel) (by decide +kernel)
theorem x_171_91 : Xp 171 d 91 [v0, v1, v2, (0, x), v4, v5, v6] st t g Q = Xp 171 d 92 [v0, v1, v2, (0, x), v4, v5, v6] ((0, x) :: st) t g Q := Xp_go (i := .iload_n 3) (len := 1) (by decide +kernel) rfl
theorem x_171_92 : Xp 171 d 92 ls ((0, a) :: (2, p) :: st) t g Q = ((hkJK p = 100 ∧ 0 ≤ a ∧ a < jL p) ∧ Xp 171 d 93 ls ((0, g p a) :: st) t g Q) := Xp_chk (i := .iaload) (len := 1) (by decide +kernel) rfl
theorem x_171_93 : Xp 171 d 93 [v0, v1, v2, v3, v4, (0, x), v6] st t g Q = Xp 171 d 95 [v0, v1, v2, v3, v4, (0, x), v6] ((0, x) :: st) t g Q := Xp_go (i := .iload 5) (len := 2) (by decide +kernel) rfl
theorem x_171_95 : Xp 171 d 95 ls ((0, b) :: (0, a) :: st) t g Q = Xp 171 d 96 ls ((0, hkW (a - b)) :: st) t g Q := Xp_go (i := .isub) (len := 1) (by decide +kernel) rfl
theorem x_171_96 : Xp 171 d 96 ls ((0, b) :: (0, a) :: st) t g Q = ((a ≤ b → Xp 171 d 102 ls st t g Q) ∧ (¬ (a ≤ b) → Xp 171 d 99 ls st t g Q)) := xr_if2 (cd := .le) (off := 6) (by decide +kernel) (by decide)
theorem x_171_99 : Xp 171 d 99 ls st t g Q = Xp 171 d 101 ls ((0, -12) :: st) t g Q := xr_bi (c := -12) (by decide +kernel) (by decide)
theorem x_171_101 : Xp 171 d 101 ls [(0, x)] t g Q = Q (some (0, x)) t g := xr_retI (by decide +kernel) (by decide +kernel)
theorem x_171_102 : Xp 171 d 102 ls st t g Q = Xp 171 d 103 ls ((0, 0) :: st) t g Q := xr_const (c := 0) (by decide +kernel) (by decide)
theorem x_171_103 : Xp 171 d 103 [v0, v1, v2, v3, v4, v5, v6] ((0, x) :: st) t g Q = (hkP1 v5 ∧ Xp 171 d 105 [v0, v1, v2, v3, v4, v5, (0, x)] st t g Q) := Xp_chk (i := .istore 6) (len := 2) (by decide +kernel) rfl
theorem x_171_105 : Xp 171 d 105 [v0, v1, v2, v3, v4, v5, (0, x)] st t g Q = Xp 171 d 107 [v0, v1, v2, v3, v4, v5, (0, x)] ((0, x) :: st) t g Q := Xp_go (i := .iload 6) (len := 2) (by decide +kernel) rfl
theorem x_171_107 : Xp 171 d 107 [v0, v1, v2, v3, v4, (0, x), v6] st t g Q = Xp 171 d 109 [v0, v1, v2, v3, v4, (0, x), v6] ((0, x) :: st) t g Q := Xp_go (i := .iload 5) (len := 2) (by decide +kernel) rfl
theorem x_171_109 : Xp 171 d 109 ls ((0, b) :: (0, a) :: st) t g Q = ((b ≤ a → Xp 171 d 139 ls st t g Q) ∧ (¬ (b ≤ a) → Xp 171 d 112 ls st t g Q)) := xr_if2 (cd := .ge) (off := 30) (by decide +kernel) (by decide)
theorem x_171_112 : Xp 171 d 112 [(2, x), v1, v2, v3, v4, v5, v6] st t g Q = Xp 171 d 113 [(2, x), v1, v2, v3, v4, v5, v6] ((2, x) :: st) t g Q := Xp_go (i := .aload_n 0) (len := 1) (by decide +kernel) rfl
theorem x_171_113 : Xp 171 d 113 ls ((2, p) :: st) t g Q = (hkJK p = 10 ∧ jA p 39 ≤ t ∧ Xp 171 d 116 ls ((2, jR p 39) :: st) t g Q) := xr_getR (idx := 91) (ci := 10) (k := 39) (by decide +kernel) (by decide +kernel) (by decide +kernel)
theorem x_171_116 : Xp 171 d 116 [v0, v1, v2, v3, v4, v5, (0, x)] st t g Q = Xp 171 d 118 [v0, v1, v2, v3, v4, v5, (0, x)] ((0, x) :: st) t g Q := Xp_go (i := .iload 6) (len := 2) (by decide +kernel) rfl
theorem x_171_118 : Xp 171 d 118 [(2, x), v1, v2, v3, v4, v5, v6] st t g Q = Xp 171 d 119 [(2, x), v1, v2, v3, v4, v5, v6] ((2, x) :: st) t g Q := Xp_go (i := .aload_n 0) (len := 1) (by decide +kernel) rfl
theorem x_171_119 : Xp 171 d 119 ls ((2, p) :: st) t g Q = (hkJK p = 10 ∧ jA p 38 ≤ t ∧ Xp 171 d 122 ls ((2, jR p 38) :: st) t g Q) := xr_getR (idx := 88) (ci := 10) (k := 38) (by decide +kernel) (by decide +kernel) (by decide +kernel)
theorem x_171_122 : Xp 171 d 122 ls st t g Q = Xp 171 d 124 ls ((0, 40) :: st) t g Q := xr_bi (c := 40) (by decide +kernel) (by decide)
theorem x_171_124 : Xp 171 d 124 [v0, (0, x), v2, v3, v4, v5, v6] st t g Q = Xp 171 d 125 [v0, (0, x), v2, v3, v4, v5, v6] ((0, x) :: st) t g Q := Xp_go (i := .iload_n 1) (len := 1) (by decide +kernel) rfl
theorem x_171_125 : Xp 171 d 125 ls ((0, b) :: (0, a) :: st) t g Q = Xp 171 d 126 ls ((0, hkW (a * b)) :: st) t g Q := Xp_go (i := .imul) (len := 1) (by decide +kernel) rfl
theorem x_171_126 : Xp 171 d 126 [v0, v1, (0, x), v3, v4, v5, v6] st t g Q = Xp 171 d 127 [v0, v1, (0, x), v3, v4, v5, v6] ((0, x) :: st) t g Q := Xp_go (i := .iload_n 2) (len := 1) (by decide +kernel) rfl
theorem x_171_127 : Xp 171 d 127 ls ((0, b) :: (0, a) :: st) t g Q = Xp 171 d 128 ls ((0, hkW (a + b)) :: st) t g Q := Xp_go (i := .iadd) (len := 1) (by decide +kernel) rfl
theorem x_171_128 : Xp 171 d 128 [v0, v1, v2, v3, v4, v5, (0, x)] st t g Q = Xp 171 d 130 [v0, v1, v2, v3, v4, v5, (0, x)] ((0, x) :: st) t g Q := Xp_go (i := .iload 6) (len := 2) (by decide +kernel) rfl
theorem x_171_130 : Xp 171 d 130 ls ((0, b) :: (0, a) :: st) t g Q = Xp 171 d 131 ls ((0, hkW (a + b)) :: st) t g Q := Xp_go (i := .iadd) (len := 1) (by decide +kernel) rfl
theorem x_171_131 : Xp 171 d 131 ls ((0, a) :: (2, p) :: st) t g Q = ((hkJK p = 100 ∧ 0 ≤ a ∧ a < jL p) ∧ Xp 171 d 132 ls ((0, g p a) :: st) t g Q) := Xp_chk (i := .iaload) (len := 1) (by decide +kernel) rfl
theorem x_171_132 : Xp 171 d 132 ls ((0, x) :: (0, a) :: (2, p) :: st) t g Q = ((hkJK p = 100 ∧ (100 = 102 → x = 0 ∨ x = 1) ∧ 0 ≤ a ∧ a < jL p) ∧ Xp 171 d 133 ls st t (hkSet g p a x) Q) := Xp_chk (i := .iastore) (len := 1) (by decide +kernel) rfl
theorem x_171_133 : Xp 171 d 133 [v0, v1, v2, v3, v4, v5, (0, x)] st t g Q = (hkP1 v5 ∧ Xp 171 d 136 [v0, v1, v2, v3, v4, v5, (0, hkW (x + 1))] st t g Q) := Xp_chk (i := .iinc 6 (1)) (len := 3) (by decide +kernel) rfl
theorem x_171_136 : Xp 171 d 136 ls st t g Q = Xp 171 d 105 ls st t g Q := xr_goto (off := -31) (by decide +kernel) (by decide)
theorem x_171_139 : Xp 171 d 139 ls st t g Q = Xp 171 d 140 ls ((0, 0) :: st) t g Q := xr_const (c := 0) (by decide +kernel) (by decide)
theorem x_171_140 : Xp 171 d 140 [v0, v1, v2, v3, v4, v5, v6] ((0, x) :: st) t g Q = (hkP1 v5 ∧ Xp 171 d 142 [v0, v1, v2, v3, v4, v5, (0, x)] st t g Q) := Xp_chk (i := .istore 6) (len := 2) (by decide +kernel) rfl
theorem x_171_142 : Xp 171 d 142 [v0, v1, v2, v3, v4, v5, (0, x)] st t g Q = Xp 171 d 144 [v0, v1, v2, v3, v4, v5, (0, x)] ((0, x) :: st) t g Q := Xp_go (i := .iload 6) (len := 2) (by decide +kernel) rfl
theorem x_171_144 : Xp 171 d 144 [v0, v1, v2, v3, v4, (0, x), v6] st t g Q = Xp 171 d 146 [v0, v1, v2, v3, v4, (0, x), v6] ((0, x) :: st) t g Q := Xp_go (i := .iload 5) (len := 2) (by decide +kernel) rfl
theorem x_171_146 : Xp 171 d 146 ls ((0, b) :: (0, a) :: st) t g Q = ((b ≤ a → Xp 171 d 177 ls st t g Q) ∧ (¬ (b ≤ a) → Xp 171 d 149 ls st t g Q)) := xr_if2 (cd := .ge) (off := 31) (by decide +kernel) (by decide)
theorem x_171_149 : Xp 171 d 149 [(2, x), v1, v2, v3, v4, v5, v6] st t g Q = Xp 171 d 150 [(2, x), v1, v2, v3, v4, v5, v6] ((2, x) :: st) t g Q := Xp_go (i := .aload_n 0) (len := 1) (by decide +kernel) rfl
theorem x_171_150 : Xp 171 d 150 ls ((2, p) :: st) t g Q = (hkJK p = 10 ∧ jA p 38 ≤ t ∧ Xp 171 d 153 ls ((2, jR p 38) :: st) t g Q) := xr_getR (idx := 88) (ci := 10) (k := 38) (by decide +kernel) (by decide +kernel) (by decide +kernel)
theorem x_171_153 : Xp 171 d 153 ls st t g Q = Xp 171 d 155 ls ((0, 40) :: st) t g Q := xr_bi (c := 40) (by decide +kernel) (by decide)
theorem x_171_155 : Xp 171 d 155 [v0, v1, v2, (0, x), v4, v5, v6] st t g Q = Xp 171 d 156 [v0, v1, v2, (0, x), v4, v5, v6] ((0, x) :: st) t g Q := Xp_go (i := .iload_n 3) (len := 1) (by decide +kernel) rfl
theorem x_171_156 : Xp 171 d 156 ls ((0, b) :: (0, a) :: st) t g Q = Xp 171 d 157 ls ((0, hkW (a * b)) :: st) t g Q := Xp_go (i := .imul) (len := 1) (by decide +kernel) rfl
theorem x_171_157 : Xp 171 d 157 [v0, v1, v2, v3, (0, x), v5, v6] st t g Q = Xp 171 d 159 [v0, v1, v2, v3, (0, x), v5, v6] ((0, x) :: st) t g Q := Xp_go (i := .iload 4) (len := 2) (by decide +kernel) rfl
theorem x_171_159 : Xp 171 d 159 ls ((0, b) :: (0, a) :: st) t g Q = Xp 171 d 160 ls ((0, hkW (a + b)) :: st) t g Q := Xp_go (i := .iadd) (len := 1) (by decide +kernel) rfl
theorem x_171_160 : Xp 171 d 160 [v0, v1, v2, v3, v4, v5, (0, x)] st t g Q = Xp 171 d 162 [v0, v1, v2, v3, v4, v5, (0, x)] ((0, x) :: st) t g Q := Xp_go (i := .iload 6) (len := 2) (by decide +kernel) rfl
theorem x_171_162 : Xp 171 d 162 ls ((0, b) :: (0, a) :: st) t g Q = Xp 171 d 163 ls ((0, hkW (a + b)) :: st) t g Q := Xp_go (i := .iadd) (len := 1) (by decide +kernel) rfl
theorem x_171_163 : Xp 171 d 163 [(2, x), v1, v2, v3, v4, v5, v6] st t g Q = Xp 171 d 164 [(2, x), v1, v2, v3, v4, v5, v6] ((2, x) :: st) t g Q := Xp_go (i := .aload_n 0) (len := 1) (by decide +kernel) rfl
theorem x_171_164 : Xp 171 d 164 ls ((2, p) :: st) t g Q = (hkJK p = 10 ∧ jA p 39 ≤ t ∧ Xp 171 d 167 ls ((2, jR p 39) :: st) t g Q) := xr_getR (idx := 91) (ci := 10) (k := 39) (by decide +kernel) (by decide +kernel) (by decide +kernel)
theorem x_171_167 : Xp 171 d 167 [v0, v1, v2, v3, v4, v5, (0, x)] st t g Q = Xp 171 d 169 [v0, v1, v2, v3, v4, v5, (0, x)] ((0, x) :: st) t g Q := Xp_go (i := .iload 6) (len := 2) (by decide +kernel) rfl
theorem x_171_169 : Xp 171 d 169 ls ((0, a) :: (2, p) :: st) t g Q = ((hkJK p = 100 ∧ 0 ≤ a ∧ a < jL p) ∧ Xp 171 d 170 ls ((0, g p a) :: st) t g Q) := Xp_chk (i := .iaload) (len := 1) (by decide +kernel) rfl
theorem x_171_170 : Xp 171 d 170 ls ((0, x) :: (0, a) :: (2, p) :: st) t g Q = ((hkJK p = 100 ∧ (100 = 102 → x = 0 ∨ x = 1) ∧ 0 ≤ a ∧ a < jL p) ∧ Xp 171 d 171 ls st t (hkSet g p a x) Q) := Xp_chk (i := .iastore) (len := 1) (by decide +kernel) rfl
theorem x_171_171 : Xp 171 d 171 [v0, v1, v2, v3, v4, v5, (0, x)] st t g Q = (hkP1 v5 ∧ Xp 171 d 174 [v0, v1, v2, v3, v4, v5, (0, hkW (x + 1))] st t g Q) := Xp_chk (i := .iinc 6 (1)) (len := 3) (by decide +kernel) rfl
theorem x_171_174 : Xp 171 d 174 ls st t g Q = Xp 171 d 142 ls st t g Q := xr_goto (off := -32) (by decide +kernel) (by decide)
theorem x_171_177 : Xp 171 d 177 [v0, v1, v2, v3, v4, (0, x), v6] st t g Q = Xp 171 d 179 [v0, v1, v2, v3, v4, (0, x), v6] ((0, x) :: st) t g Q := Xp_go (i := .iload 5) (len := 2) (by decide +kernel) rfl
theorem x_171_179 : Xp 171 d 179 ls [(0, x)] t g Q = Q (some (0, x)) t g := xr_retI (by decide +kernel) (by decide +kernel)
end XROWS
