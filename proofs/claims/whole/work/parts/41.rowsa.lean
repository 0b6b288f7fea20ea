/-! rows of the JDK and of Box, Rounder (by program: wip/whole/gen_rows.py) -/
section XROWS
variable {d t : Nat} {ls st : List hkV} {g : hkG} {Q : Option hkV → Nat → hkG → Prop} {v w v0 v1 v2 v3 v4 v5 v6 v7 v8 v9 v10 v11 v12 v13 v14 v15 : hkV} {a b x z p q a0 a1 a2 a3 a4 a5 a6 : Int}
-- 172: java/lang/Integer.compare(II)I
theorem x_172_0 : Xp 172 d 0 [(0, x), v1] st t g Q = Xp 172 d 1 [(0, x), v1] ((0, x) :: st) t g Q := Xp_go (i := .iload_n 0) (len := 1) (by decide +kernel) rfl
theorem x_172_1 : Xp 172 d 1 [v0, (0, x)] st t g Q = Xp 172 d 2 [v0, (0, x)] ((0, x) :: st) t g Q := Xp_go (i := .iload_n 1) (len := 1) (by decide +kernel) rfl
theorem x_172_2 : Xp 172 d 2 ls ((0, b) :: (0, a) :: st) t g Q = ((b ≤ a → Xp 172 d 9 ls st t g Q) ∧ (¬ (b ≤ a) → Xp 172 d 5 ls st t g Q)) := xr_if2 (cd := .ge) (off := 7) (by decide +kernel) (by decide)
theorem x_172_5 : Xp 172 d 5 ls st t g Q = Xp 172 d 6 ls ((0, -1) :: st) t g Q := xr_const (c := -1) (by decide +kernel) (by decide)
theorem x_172_6 : Xp 172 d 6 ls st t g Q = Xp 172 d 19 ls st t g Q := xr_goto (off := 13) (by decide +kernel) (by decide)
theorem x_172_9 : Xp 172 d 9 [(0, x), v1] st t g Q = Xp 172 d 10 [(0, x), v1] ((0, x) :: st) t g Q := Xp_go (i := .iload_n 0) (len := 1) (by decide +kernel) rfl
theorem x_172_10 : Xp 172 d 10 [v0, (0, x)] st t g Q = Xp 172 d 11 [v0, (0, x)] ((0, x) :: st) t g Q := Xp_go (i := .iload_n 1) (len := 1) (by decide +kernel) rfl
theorem x_172_11 : Xp 172 d 11 ls ((0, b) :: (0, a) :: st) t g Q = ((¬ (a = b) → Xp 172 d 18 ls st t g Q) ∧ (¬ (¬ (a = b)) → Xp 172 d 14 ls st t g Q)) := xr_if2 (cd := .ne) (off := 7) (by decide +kernel) (by decide)
theorem x_172_14 : Xp 172 d 14 ls st t g Q = Xp 172 d 15 ls ((0, 0) :: st) t g Q := xr_const (c := 0) (by decide +kernel) (by decide)
theorem x_172_15 : Xp 172 d 15 ls st t g Q = Xp 172 d 19 ls st t g Q := xr_goto (off := 4) (by decide +kernel) (by decide)
theorem x_172_18 : Xp 172 d 18 ls st t g Q = Xp 172 d 19 ls ((0, 1) :: st) t g Q := xr_const (c := 1) (by decide +kernel) (by decide)
theorem x_172_19 : Xp 172 d 19 ls [(0, x)] t g Q = Q (some (0, x)) t g := xr_retI (by decide +kernel) (by decide +kernel)
-- 173: java/lang/Integer.bitCount(I)I
theorem x_173_0 : Xp 173 d 0 [(0, x)] st t g Q = Xp 173 d 1 [(0, x)] ((0, x) :: st) t g Q := Xp_go (i := .iload_n 0) (len := 1) (by decide +kernel) rfl
theorem x_173_1 : Xp 173 d 1 [(0, x)] st t g Q = Xp 173 d 2 [(0, x)] ((0, x) :: st) t g Q := Xp_go (i := .iload_n 0) (len := 1) (by decide +kernel) rfl
theorem x_173_2 : Xp 173 d 2 ls st t g Q = Xp 173 d 3 ls ((0, 1) :: st) t g Q := xr_const (c := 1) (by decide +kernel) (by decide)
theorem x_173_3 : Xp 173 d 3 ls ((0, b) :: (0, a) :: st) t g Q = Xp 173 d 4 ls ((0, hkUsh a b) :: st) t g Q := Xp_go (i := .iushr) (len := 1) (by decide +kernel) rfl
theorem x_173_4 : Xp 173 d 4 ls st t g Q = Xp 173 d 7 ls ((0, 1431655765) :: st) t g Q := xr_ldcw (idx := 265) (by decide +kernel) (by decide +kernel)
theorem x_173_7 : Xp 173 d 7 ls ((0, b) :: (0, a) :: st) t g Q = Xp 173 d 8 ls ((0, hkAnd a b) :: st) t g Q := Xp_go (i := .iand) (len := 1) (by decide +kernel) rfl
theorem x_173_8 : Xp 173 d 8 ls ((0, b) :: (0, a) :: st) t g Q = Xp 173 d 9 ls ((0, hkW (a - b)) :: st) t g Q := Xp_go (i := .isub) (len := 1) (by decide +kernel) rfl
theorem x_173_9 : Xp 173 d 9 [v0] ((0, x) :: st) t g Q = (Xp 173 d 10 [(0, x)] st t g Q) := (Xp_chk (cd := True) (i := .istore_n 0) (len := 1) (by decide +kernel) rfl).trans (true_and _)
theorem x_173_10 : Xp 173 d 10 [(0, x)] st t g Q = Xp 173 d 11 [(0, x)] ((0, x) :: st) t g Q := Xp_go (i := .iload_n 0) (len := 1) (by decide +kernel) rfl
theorem x_173_11 : Xp 173 d 11 ls st t g Q = Xp 173 d 14 ls ((0, 858993459) :: st) t g Q := xr_ldcw (idx := 266) (by decide +kernel) (by decide +kernel)
theorem x_173_14 : Xp 173 d 14 ls ((0, b) :: (0, a) :: st) t g Q = Xp 173 d 15 ls ((0, hkAnd a b) :: st) t g Q := Xp_go (i := .iand) (len := 1) (by decide +kernel) rfl
theorem x_173_15 : Xp 173 d 15 [(0, x)] st t g Q = Xp 173 d 16 [(0, x)] ((0, x) :: st) t g Q := Xp_go (i := .iload_n 0) (len := 1) (by decide +kernel) rfl
theorem x_173_16 : Xp 173 d 16 ls st t g Q = Xp 173 d 17 ls ((0, 2) :: st) t g Q := xr_const (c := 2) (by decide +kernel) (by decide)
theorem x_173_17 : Xp 173 d 17 ls ((0, b) :: (0, a) :: st) t g Q = Xp 173 d 18 ls ((0, hkUsh a b) :: st) t g Q := Xp_go (i := .iushr) (len := 1) (by decide +kernel) rfl
theorem x_173_18 : Xp 173 d 18 ls st t g Q = Xp 173 d 21 ls ((0, 858993459) :: st) t g Q := xr_ldcw (idx := 266) (by decide +kernel) (by decide +kernel)
theorem x_173_21 : Xp 173 d 21 ls ((0, b) :: (0, a) :: st) t g Q = Xp 173 d 22 ls ((0, hkAnd a b) :: st) t g Q := Xp_go (i := .iand) (len := 1) (by decide +kernel) rfl
theorem x_173_22 : Xp 173 d 22 ls ((0, b) :: (0, a) :: st) t g Q = Xp 173 d 23 ls ((0, hkW (a + b)) :: st) t g Q := Xp_go (i := .iadd) (len := 1) (by decide +kernel) rfl
theorem x_173_23 : Xp 173 d 23 [v0] ((0, x) :: st) t g Q = (Xp 173 d 24 [(0, x)] st t g Q) := (Xp_chk (cd := True) (i := .istore_n 0) (len := 1) (by decide +kernel) rfl).trans (true_and _)
theorem x_173_24 : Xp 173 d 24 [(0, x)] st t g Q = Xp 173 d 25 [(0, x)] ((0, x) :: st) t g Q := Xp_go (i := .iload_n 0) (len := 1) (by decide +kernel) rfl
theorem x_173_25 : Xp 173 d 25 [(0, x)] st t g Q = Xp 173 d 26 [(0, x)] ((0, x) :: st) t g Q := Xp_go (i := .iload_n 0) (len := 1) (by decide +kernel) rfl
theorem x_173_26 : Xp 173 d 26 ls st t g Q = Xp 173 d 27 ls ((0, 4) :: st) t g Q := xr_const (c := 4) (by decide +kernel) (by decide)
theorem x_173_27 : Xp 173 d 27 ls ((0, b) :: (0, a) :: st) t g Q = Xp 173 d 28 ls ((0, hkUsh a b) :: st) t g Q := Xp_go (i := .iushr) (len := 1) (by decide +kernel) rfl
theorem x_173_28 : Xp 173 d 28 ls ((0, b) :: (0, a) :: st) t g Q = Xp 173 d 29 ls ((0, hkW (a + b)) :: st) t g Q := Xp_go (i := .iadd) (len := 1) (by decide +kernel) rfl
theorem x_173_29 : Xp 173 d 29 ls st t g Q = Xp 173 d 32 ls ((0, 252645135) :: st) t g Q := xr_ldcw (idx := 267) (by decide +kernel) (by decide +kernel)
theorem x_173_32 : Xp 173 d 32 ls ((0, b) :: (0, a) :: st) t g Q = Xp 173 d 33 ls ((0, hkAnd a b) :: st) t g Q := Xp_go (i := .iand) (len := 1) (by decide +kernel) rfl
theorem x_173_33 : Xp 173 d 33 [v0] ((0, x) :: st) t g Q = (Xp 173 d 34 [(0, x)] st t g Q) := (Xp_chk (cd := True) (i := .istore_n 0) (len := 1) (by decide +kernel) rfl).trans (true_and _)
theorem x_173_34 : Xp 173 d 34 [(0, x)] st t g Q = Xp 173 d 35 [(0, x)] ((0, x) :: st) t g Q := Xp_go (i := .iload_n 0) (len := 1) (by decide +kernel) rfl
theorem x_173_35 : Xp 173 d 35 [(0, x)] st t g Q = Xp 173 d 36 [(0, x)] ((0, x) :: st) t g Q := Xp_go (i := .iload_n 0) (len := 1) (by decide +kernel) rfl
theorem x_173_36 : Xp 173 d 36 ls st t g Q = Xp 173 d 38 ls ((0, 8) :: st) t g Q := xr_bi (c := 8) (by decide +kernel) (by decide)
theorem x_173_38 : Xp 173 d 38 ls ((0, b) :: (0, a) :: st) t g Q = Xp 173 d 39 ls ((0, hkUsh a b) :: st) t g Q := Xp_go (i := .iushr) (len := 1) (by decide +kernel) rfl
theorem x_173_39 : Xp 173 d 39 ls ((0, b) :: (0, a) :: st) t g Q = Xp 173 d 40 ls ((0, hkW (a + b)) :: st) t g Q := Xp_go (i := .iadd) (len := 1) (by decide +kernel) rfl
theorem x_173_40 : Xp 173 d 40 [v0] ((0, x) :: st) t g Q = (Xp 173 d 41 [(0, x)] st t g Q) := (Xp_chk (cd := True) (i := .istore_n 0) (len := 1) (by decide +kernel) rfl).trans (true_and _)
theorem x_173_41 : Xp 173 d 41 [(0, x)] st t g Q = Xp 173 d 42 [(0, x)] ((0, x) :: st) t g Q := Xp_go (i := .iload_n 0) (len := 1) (by decide +kernel) rfl
theorem x_173_42 : Xp 173 d 42 [(0, x)] st t g Q = Xp 173 d 43 [(0, x)] ((0, x) :: st) t g Q := Xp_go (i := .iload_n 0) (len := 1) (by decide +kernel) rfl
theorem x_173_43 : Xp 173 d 43 ls st t g Q = Xp 173 d 45 ls ((0, 16) :: st) t g Q := xr_bi (c := 16) (by decide +kernel) (by decide)
theorem x_173_45 : Xp 173 d 45 ls ((0, b) :: (0, a) :: st) t g Q = Xp 173 d 46 ls ((0, hkUsh a b) :: st) t g Q := Xp_go (i := .iushr) (len := 1) (by decide +kernel) rfl
theorem x_173_46 : Xp 173 d 46 ls ((0, b) :: (0, a) :: st) t g Q = Xp 173 d 47 ls ((0, hkW (a + b)) :: st) t g Q := Xp_go (i := .iadd) (len := 1) (by decide +kernel) rfl
theorem x_173_47 : Xp 173 d 47 [v0] ((0, x) :: st) t g Q = (Xp 173 d 48 [(0, x)] st t g Q) := (Xp_chk (cd := True) (i := .istore_n 0) (len := 1) (by decide +kernel) rfl).trans (true_and _)
theorem x_173_48 : Xp 173 d 48 [(0, x)] st t g Q = Xp 173 d 49 [(0, x)] ((0, x) :: st) t g Q := Xp_go (i := .iload_n 0) (len := 1) (by decide +kernel) rfl
theorem x_173_49 : Xp 173 d 49 ls st t g Q = Xp 173 d 51 ls ((0, 63) :: st) t g Q := xr_bi (c := 63) (by decide +kernel) (by decide)
theorem x_173_51 : Xp 173 d 51 ls ((0, b) :: (0, a) :: st) t g Q = Xp 173 d 52 ls ((0, hkAnd a b) :: st) t g Q := Xp_go (i := .iand) (len := 1) (by decide +kernel) rfl
theorem x_173_52 : Xp 173 d 52 ls [(0, x)] t g Q = Q (some (0, x)) t g := xr_retI (by decide +kernel) (by decide +kernel)
-- 174: java/lang/Math.min(II)I
theorem x_174_0 : Xp 174 d 0 [(0, x), v1] st t g Q = Xp 174 d 1 [(0, x), v1] ((0, x) :: st) t g Q := Xp_go (i := .iload_n 0) (len := 1) (by decide +kernel) rfl
theorem x_174_1 : Xp 174 d 1 [v0, (0, x)] st t g Q = Xp 174 d 2 [v0, (0, x)] ((0, x) :: st) t g Q := Xp_go (i := .iload_n 1) (len := 1) (by decide +kernel) rfl
theorem x_174_2 : Xp 174 d 2 ls ((0, b) :: (0, a) :: st) t g Q = ((b < a → Xp 174 d 9 ls st t g Q) ∧ (¬ (b < a) → Xp 174 d 5 ls st t g Q)) := xr_if2 (cd := .gt) (off := 7) (by decide +kernel) (by decide)
theorem x_174_5 : Xp 174 d 5 [(0, x), v1] st t g Q = Xp 174 d 6 [(0, x), v1] ((0, x) :: st) t g Q := Xp_go (i := .iload_n 0) (len := 1) (by decide +kernel) rfl
theorem x_174_6 : Xp 174 d 6 ls st t g Q = Xp 174 d 10 ls st t g Q := xr_goto (off := 4) (by decide +kernel) (by decide)
theorem x_174_9 : Xp 174 d 9 [v0, (0, x)] st t g Q = Xp 174 d 10 [v0, (0, x)] ((0, x) :: st) t g Q := Xp_go (i := .iload_n 1) (len := 1) (by decide +kernel) rfl
theorem x_174_10 : Xp 174 d 10 ls [(0, x)] t g Q = Q (some (0, x)) t g := xr_retI (by decide +kernel) (by decide +kernel)
-- 175: java/lang/Math.max(II)I
theorem x_175_0 : Xp 175 d 0 [(0, x), v1] st t g Q = Xp 175 d 1 [(0, x), v1] ((0, x) :: st) t g Q := Xp_go (i := .iload_n 0) (len := 1) (by decide +kernel) rfl
theorem x_175_1 : Xp 175 d 1 [v0, (0, x)] st t g Q = Xp 175 d 2 [v0, (0, x)] ((0, x) :: st) t g Q := Xp_go (i := .iload_n 1) (len := 1) (by decide +kernel) rfl
theorem x_175_2 : Xp 175 d 2 ls ((0, b) :: (0, a) :: st) t g Q = ((a < b → Xp 175 d 9 ls st t g Q) ∧ (¬ (a < b) → Xp 175 d 5 ls st t g Q)) := xr_if2 (cd := .lt) (off := 7) (by decide +kernel) (by decide)
theorem x_175_5 : Xp 175 d 5 [(0, x), v1] st t g Q = Xp 175 d 6 [(0, x), v1] ((0, x) :: st) t g Q := Xp_go (i := .iload_n 0) (len := 1) (by decide +kernel) rfl
theorem x_175_6 : Xp 175 d 6 ls st t g Q = Xp 175 d 10 ls st t g Q := xr_goto (off := 4) (by decide +kernel) (by decide)
theorem x_175_9 : Xp 175 d 9 [v0, (0, x)] st t g Q = Xp 175 d 10 [v0, (0, x)] ((0, x) :: st) t g Q := Xp_go (i := .iload_n 1) (len := 1) (by decide +kernel) rfl
theorem x_175_10 : Xp 175 d 10 ls [(0, x)] t g Q = Q (some (0, x)) t g := xr_retI (by decide +kernel) (by decide +kernel)
-- 176: java/lang/Math.floorMod(II)I
theorem x_176_0 : Xp 176 d 0 [(0, x), v1, v2] st t g Q = Xp 176 d 1 [(0, x), v1, v2] ((0, x) :: st) t g Q := Xp_go (i := .iload_n 0) (len := 1) (by decide +kernel) rfl
theorem x_176_1 : Xp 176 d 1 [v0, (0, x), v2] st t g Q = Xp 176 d 2 [v0, (0, x), v2] ((0, x) :: st) t g Q := Xp_go (i := .iload_n 1) (len := 1) (by decide +kernel) rfl
theorem x_176_2 : Xp 176 d 2 ls ((0, b) :: (0, a) :: st) t g Q = (b ≠ 0 ∧ Xp 176 d 3 ls ((0, a.tmod b) :: st) t g Q) := Xp_chk (i := .irem) (len := 1) (by decide +kernel) rfl
theorem x_176_3 : Xp 176 d 3 [v0, v1, v2] ((0, x) :: st) t g Q = (hkP1 v1 ∧ Xp 176 d 4 [v0, v1, (0, x)] st t g Q) := Xp_chk (i := .istore_n 2) (len := 1) (by decide +kernel) rfl
theorem x_176_4 : Xp 176 d 4 [(0, x), v1, v2] st t g Q = Xp 176 d 5 [(0, x), v1, v2] ((0, x) :: st) t g Q := Xp_go (i := .iload_n 0) (len := 1) (by decide +kernel) rfl
theorem x_176_5 : Xp 176 d 5 [v0, (0, x), v2] st t g Q = Xp 176 d 6 [v0, (0, x), v2] ((0, x) :: st) t g Q := Xp_go (i := .iload_n 1) (len := 1) (by decide +kernel) rfl
theorem x_176_6 : Xp 176 d 6 ls ((0, b) :: (0, a) :: st) t g Q = Xp 176 d 7 ls ((0, hkXor a b) :: st) t g Q := Xp_go (i := .ixor) (len := 1) (by decide +kernel) rfl
theorem x_176_7 : Xp 176 d 7 ls ((0, a) :: st) t g Q = ((0 ≤ a → Xp 176 d 18 ls st t g Q) ∧ (¬ (0 ≤ a) → Xp 176 d 10 ls st t g Q)) := xr_if1 (cd := .ge) (off := 11) (by decide +kernel) (by decide)
theorem x_176_10 : Xp 176 d 10 [v0, v1, (0, x)] st t g Q = Xp 176 d 11 [v0, v1, (0, x)] ((0, x) :: st) t g Q := Xp_go (i := .iload_n 2) (len := 1) (by decide +kernel) rfl
theorem x_176_11 : Xp 176 d 11 ls ((0, a) :: st) t g Q = ((a = 0 → Xp 176 d 18 ls st t g Q) ∧ (¬ (a = 0) → Xp 176 d 14 ls st t g Q)) := xr_if1 (cd := .eq) (off := 7) (by decide +kernel) (by decide)
theorem x_176_14 : Xp 176 d 14 [v0, v1, (0, x)] st t g Q = Xp 176 d 15 [v0, v1, (0, x)] ((0, x) :: st) t g Q := Xp_go (i := .iload_n 2) (len := 1) (by decide +kernel) rfl
theorem x_176_15 : Xp 176 d 15 [v0, (0, x), v2] st t g Q = Xp 176 d 16 [v0, (0, x), v2] ((0, x) :: st) t g Q := Xp_go (i := .iload_n 1) (len := 1) (by decide +kernel) rfl
theorem x_176_16 : Xp 176 d 16 ls ((0, b) :: (0, a) :: st) t g Q = Xp 176 d 17 ls ((0, hkW (a + b)) :: st) t g Q := Xp_go (i := .iadd) (len := 1) (by decide +kernel) rfl
theorem x_176_17 : Xp 176 d 17 ls [(0, x)] t g Q = Q (some (0, x)) t g := xr_retI (by decide +kernel) (by decide +kernel)
theorem x_176_18 : Xp 176 d 18 [v0, v1, (0, x)] st t g Q = Xp 176 d 19 [v0, v1, (0, x)] ((0, x) :: st) t g Q := Xp_go (i := .iload_n 2) (len := 1) (by decide +kernel) rfl
theorem x_176_19 : Xp 176 d 19 ls [(0, x)] t g Q = Q (some (0, x)) t g := xr_retI (by decide +kernel) (by decide +kernel)
-- 177: java/lang/Math.abs(J)J
theorem x_177_0 : Xp 177 d 0 [(1, x), v1] st t g Q = Xp 177 d 1 [(1, x), v1] ((1, x) :: st) t g Q := Xp_go (i := .lload_n 0) (len := 1) (by decide +kernel) rfl
theorem x_177_1 : Xp 177 d 1 ls st t g Q = Xp 177 d 2 ls ((1, 0) :: st) t g Q := Xp_go (i := .lconst 0) (len := 1) (by decide +kernel) rfl
theorem x_177_2 : Xp 177 d 2 ls ((1, b) :: (1, a) :: st) t g Q = Xp 177 d 3 ls ((0, hkCmp a b) :: st) t g Q := Xp_go (i := .lcmp) (len := 1) (by decide +kernel) rfl
theorem x_177_3 : Xp 177 d 3 ls ((0, a) :: st) t g Q = ((0 ≤ a → Xp 177 d 11 ls st t g Q) ∧ (¬ (0 ≤ a) → Xp 177 d 6 ls st t g Q)) := xr_if1 (cd := .ge) (off := 8) (by decide +kernel) (by decide)
theorem x_177_6 : Xp 177 d 6 [(1, x), v1] st t g Q = Xp 177 d 7 [(1, x), v1] ((1, x) :: st) t g Q := Xp_go (i := .lload_n 0) (len := 1) (by decide +kernel) rfl
theorem x_177_7 : Xp 177 d 7 ls ((1, a) :: st) t g Q = Xp 177 d 8 ls ((1, hkL (-a)) :: st) t g Q := Xp_go (i := .lneg) (len := 1) (by decide +kernel) rfl
theorem x_177_8 : Xp 177 d 8 ls st t g Q = Xp 177 d 12 ls st t g Q := xr_goto (off := 4) (by decide +kernel) (by decide)
theorem x_177_11 : Xp 177 d 11 [(1, x), v1] st t g Q = Xp 177 d 12 [(1, x), v1] ((1, x) :: st) t g Q := Xp_go (i := .lload_n 0) (len := 1) (by decide +kernel) rfl
theorem x_177_12 : Xp 177 d 12 ls [(1, x)] t g Q = Q (some (1, x)) t g := xr_retL (by decide +kernel) (by decide +kernel)
-- 178: java/lang/Math.abs(I)I
theorem x_178_0 : Xp 178 d 0 [(0, x)] st t g Q = Xp 178 d 1 [(0, x)] ((0, x) :: st) t g Q := Xp_go (i := .iload_n 0) (len := 1) (by decide +kernel) rfl
theorem x_178_1 : Xp 178 d 1 ls ((0, a) :: st) t g Q = ((0 ≤ a → Xp 178 d 9 ls st t g Q) ∧ (¬ (0 ≤ a) → Xp 178 d 4 ls st t g Q)) := xr_if1 (cd := .ge) (off := 8) (by decide +kernel) (by decide)
theorem x_178_4 : Xp 178 d 4 [(0, x)] st t g Q = Xp 178 d 5 [(0, x)] ((0, x) :: st) t g Q := Xp_go (i := .iload_n 0) (len := 1) (by decide +kernel) rfl
theorem x_178_5 : Xp 178 d 5 ls ((0, a) :: st) t g Q = Xp 178 d 6 ls ((0, hkW (-a)) :: st) t g Q := Xp_go (i := .ineg) (len := 1) (by decide +kernel) rfl
theorem x_178_6 : Xp 178 d 6 ls st t g Q = Xp 178 d 10 ls st t g Q := xr_goto (off := 4) (by decide +kernel) (by decide)
theorem x_178_9 : Xp 178 d 9 [(0, x)] st t g Q = Xp 178 d 10 [(0, x)] ((0, x) :: st) t g Q := Xp_go (i := .iload_n 0) (len := 1) (by decide +kernel) rfl
theorem x_178_10 : Xp 178 d 10 ls [(0, x)] t g Q = Q (some (0, x)) t g := xr_retI (by decide +kernel) (by decide +kernel)
-- 179: java/util/Arrays.fill([II)V
theorem x_179_0 : Xp 179 d 0 ls st t g Q = Xp 179 d 1 ls ((0, 0) :: st) t g Q := xr_const (c := 0) (by decide +kernel) (by decide)
theorem x_179_1 : Xp 179 d 1 [v0, v1, v2, v3] ((0, x) :: st) t g Q = (hkP1 v1 ∧ Xp 179 d 2 [v0, v1, (0, x), v3] st t g Q) := Xp_chk (i := .istore_n 2) (len := 1) (by decide +kernel) rfl
theorem x_179_2 : Xp 179 d 2 [(2, x), v1, v2, v3] st t g Q = Xp 179 d 3 [(2, x), v1, v2, v3] ((2, x) :: st) t g Q := Xp_go (i := .aload_n 0) (len := 1) (by decide +kernel) rfl
theorem x_179_3 : Xp 179 d 3 ls ((2, p) :: st) t g Q = ((100 ≤ hkJK p ∧ hkJK p ≤ 104) ∧ Xp 179 d 4 ls ((0, jL p) :: st) t g Q) := Xp_chk (i := .arraylength) (len := 1) (by decide +kernel) rfl
theorem x_179_4 : Xp 179 d 4 [v0, v1, v2, v3] ((0, x) :: st) t g Q = (hkP1 v2 ∧ Xp 179 d 5 [v0, v1, v2, (0, x)] st t g Q) := Xp_chk (i := .istore_n 3) (len := 1) (by decide +kernel) rfl
theorem x_179_5 : Xp 179 d 5 [v0, v1, (0, x), v3] st t g Q = Xp 179 d 6 [v0, v1, (0, x), v3] ((0, x) :: st) t g Q := Xp_go (i := .iload_n 2) (len := 1) (by decide +kernel) rfl
theorem x_179_6 : Xp 179 d 6 [v0, v1, v2, (0, x)] st t g Q = Xp 179 d 7 [v0, v1, v2, (0, x)] ((0, x) :: st) t g Q := Xp_go (i := .iload_n 3) (len := 1) (by decide +kernel) rfl
theorem x_179_7 : Xp 179 d 7 ls ((0, b) :: (0, a) :: st) t g Q = ((b ≤ a → Xp 179 d 20 ls st t g Q) ∧ (¬ (b ≤ a) → Xp 179 d 10 ls st t g Q)) := xr_if2 (cd := .ge) (off := 13) (by decide +kernel) (by decide)
theorem x_179_10 : Xp 179 d 10 [(2, x), v1, v2, v3] st t g Q = Xp 179 d 11 [(2, x), v1, v2, v3] ((2, x) :: st) t g Q := Xp_go (i := .aload_n 0) (len := 1) (by decide +kernel) rfl
theorem x_179_11 : Xp 179 d 11 [v0, v1, (0, x), v3] st t g Q = Xp 179 d 12 [v0, v1, (0, x), v3] ((0, x) :: st) t g Q := Xp_go (i := .iload_n 2) (len := 1) (by decide +kernel) rfl
theorem x_179_12 : Xp 179 d 12 [v0, (0, x), v2, v3] st t g Q = Xp 179 d 13 [v0, (0, x), v2, v3] ((0, x) :: st) t g Q := Xp_go (i := .iload_n 1) (len := 1) (by decide +kernel) rfl
theorem x_179_13 : Xp 179 d 13 ls ((0, x) :: (0, a) :: (2, p) :: st) t g Q = ((hkJK p = 100 ∧ (100 = 102 → x = 0 ∨ x = 1) ∧ 0 ≤ a ∧ a < jL p) ∧ Xp 179 d 14 ls st t (hkSet g p a x) Q) := Xp_chk (i := .iastore) (len := 1) (by decide +kernel) rfl
theorem x_179_14 : Xp 179 d 14 [v0, v1, (0, x), v3] st t g Q = (hkP1 v1 ∧ Xp 179 d 17 [v0, v1, (0, hkW (x + 1)), v3] st t g Q) := Xp_chk (i := .iinc 2 (1)) (len := 3) (by decide +kernel) rfl
theorem x_179_17 : Xp 179 d 17 ls st t g Q = Xp 179 d 5 ls st t g Q := xr_goto (off := -12) (by decide +kernel) (by decide)
theorem x_179_20 : Xp 179 d 20 ls [] t g Q = Q none t g := xr_retV (by decide +kernel) (by decide +kernel)
-- 180: java/util/Arrays.fill([IIII)V
theorem x_180_0 : Xp 180 d 0 [(2, x), v1, v2, v3, v4] st t g Q = Xp 180 d 1 [(2, x), v1, v2, v3, v4] ((2, x) :: st) t g Q := Xp_go (i := .aload_n 0) (len := 1) (by decide +kernel) rfl
theorem x_180_1 : Xp 180 d 1 ls ((2, p) :: st) t g Q = ((100 ≤ hkJK p ∧ hkJK p ≤ 104) ∧ Xp 180 d 2 ls ((0, jL p) :: st) t g Q) := Xp_chk (i := .arraylength) (len := 1) (by decide +kernel) rfl
theorem x_180_2 : Xp 180 d 2 [v0, (0, x), v2, v3, v4] st t g Q = Xp 180 d 3 [v0, (0, x), v2, v3, v4] ((0, x) :: st) t g Q := Xp_go (i := .iload_n 1) (len := 1) (by decide +kernel) rfl
theorem x_180_3 : Xp 180 d 3 [v0, v1, (0, x), v3, v4] st t g Q = Xp 180 d 4 [v0, v1, (0, x), v3, v4] ((0, x) :: st) t g Q := Xp_go (i := .iload_n 2) (len := 1) (by decide +kernel) rfl
theorem x_180_4 : Xp 180 (d + 1) 4 ls ((0, a2) :: (0, a1) :: (0, a0) :: st) t g Q = (hkC8 st ∧ Xp 181 d 0 [(0, a0), (0, a1), (0, a2)] [] t g (fun r t g => Xp 180 (d + 1) 7 ls (hkPush r st) t g Q)) := xr_invS (idx := 13) (y' := 181) (tg := [0, 0, 0]) (by decide +kernel) (by decide +kernel) (by decide +kernel) rfl rfl
theorem x_180_7 : Xp 180 d 7 [v0, (0, x), v2, v3, v4] st t g Q = Xp 180 d 8 [v0, (0, x), v2, v3, v4] ((0, x) :: st) t g Q := Xp_go (i := .iload_n 1) (len := 1) (by decide +kernel) rfl
theorem x_180_8 : Xp 180 d 8 [v0, v1, v2, v3, v4] ((0, x) :: st) t g Q = (hkP1 v3 ∧ Xp 180 d 10 [v0, v1, v2, v3, (0, x)] st t g Q) := Xp_chk (i := .istore 4) (len := 2) (by decide +kernel) rfl
theorem x_180_10 : Xp 180 d 10 [v0, v1, v2, v3, (0, x)] st t g Q = Xp 180 d 12 [v0, v1, v2, v3, (0, x)] ((0, x) :: st) t g Q := Xp_go (i := .iload 4) (len := 2) (by decide +kernel) rfl
theorem x_180_12 : Xp 180 d 12 [v0, v1, (0, x), v3, v4] st t g Q = Xp 180 d 13 [v0, v1, (0, x), v3, v4] ((0, x) :: st) t g Q := Xp_go (i := .iload_n 2) (len := 1) (by decide +kernel) rfl
theorem x_180_13 : Xp 180 d 13 ls ((0, b) :: (0, a) :: st) t g Q = ((b ≤ a → Xp 180 d 27 ls st t g Q) ∧ (¬ (b ≤ a) → Xp 180 d 16 ls st t g Q)) := xr_if2 (cd := .ge) (off := 14) (by decide +kernel) (by decide)
theorem x_180_16 : Xp 180 d 16 [(2, x), v1, v2, v3, v4] st t g Q = Xp 180 d 17 [(2, x), v1, v2, v3, v4] ((2, x) :: st) t g Q := Xp_go (i := .aload_n 0) (len := 1) (by decide +kernel) rfl
theorem x_180_17 : Xp 180 d 17 [v0, v1, v2, v3, (0, x)] st t g Q = Xp 180 d 19 [v0, v1, v2, v3, (0, x)] ((0, x) :: st) t g Q := Xp_go (i := .iload 4) (len := 2) (by decide +kernel) rfl
theorem x_180_19 : Xp 180 d 19 [v0, v1, v2, (0, x), v4] st t g Q = Xp 180 d 20 [v0, v1, v2, (0, x), v4] ((0, x) :: st) t g Q := Xp_go (i := .iload_n 3) (len := 1) (by decide +kernel) rfl
theorem x_180_20 : Xp 180 d 20 ls ((0, x) :: (0, a) :: (2, p) :: st) t g Q = ((hkJK p = 100 ∧ (100 = 102 → x = 0 ∨ x = 1) ∧ 0 ≤ a ∧ a < jL p) ∧ Xp 180 d 21 ls st t (hkSet g p a x) Q) := Xp_chk (i := .iastore) (len := 1) (by decide +kernel) rfl
theorem x_180_21 : Xp 180 d 21 [v0, v1, v2, v3, (0, x)] st t g Q = (hkP1 v3 ∧ Xp 180 d 24 [v0, v1, v2, v3, (0, hkW (x + 1))] st t g Q) := Xp_chk (i := .iinc 4 (1)) (len := 3) (by decide +kernel) rfl
theorem x_180_24 : Xp 180 d 24 ls st t g Q = Xp 180 d 10 ls st t g Q := xr_goto (off := -14) (by decide +kernel) (by decide)
theorem x_180_27 : Xp 180 d 27 ls [] t g Q = Q none t g := xr_retV (by decide +kernel) (by decide +kernel)
-- 181: java/util/Arrays.rangeCheck(III)V
theorem x_181_0 : Xp 181 d 0 [v0, (0, x), v2] st t g Q = Xp 181 d 1 [v0, (0, x), v2] ((0, x) :: st) t g Q := Xp_go (i := .iload_n 1) (len := 1) (by decide +kernel) rfl
theorem x_181_1 : Xp 181 d 1 [v0, v1, (0, x)] st t g Q = Xp 181 d 2 [v0, v1, (0, x)] ((0, x) :: st) t g Q := Xp_go (i := .iload_n 2) (len := 1) (by decide +kernel) rfl
theorem x_181_2 : Xp 181 d 2 ls ((0, b) :: (0, a) :: st) t g Q = ((a ≤ b → Xp 181 d 46 ls st t g Q) ∧ (¬ (a ≤ b) → Xp 181 d 5 ls st t g Q)) := xr_if2 (cd := .le) (off := 44) (by decide +kernel) (by decide)
theorem x_181_21 : Xp 181 d 21 [v0, (0, x), v2] st t g Q = Xp 181 d 22 [v0, (0, x), v2] ((0, x) :: st) t g Q := Xp_go (i := .iload_n 1) (len := 1) (by decide +kernel) rfl
theorem x_181_30 : Xp 181 d 30 [v0, v1, (0, x)] st t g Q = Xp 181 d 31 [v0, v1, (0, x)] ((0, x) :: st) t g Q := Xp_go (i := .iload_n 2) (len := 1) (by decide +kernel) rfl
theorem x_181_46 : Xp 181 d 46 [v0, (0, x), v2] st t g Q = Xp 181 d 47 [v0, (0, x), v2] ((0, x) :: st) t g Q := Xp_go (i := .iload_n 1) (len := 1) (by decide +kernel) rfl
theorem x_181_47 : Xp 181 d 47 ls ((0, a) :: st) t g Q = ((0 ≤ a → Xp 181 d 59 ls st t g Q) ∧ (¬ (0 ≤ a) → Xp 181 d 50 ls st t g Q)) := xr_if1 (cd := .ge) (off := 12) (by decide +kernel) (by decide)
theorem x_181_54 : Xp 181 d 54 [v0, (0, x), v2] st t g Q = Xp 181 d 55 [v0, (0, x), v2] ((0, x) :: st) t g Q := Xp_go (i := .iload_n 1) (len := 1) (by decide +kernel) rfl
theorem x_181_59 : Xp 181 d 59 [v0, v1, (0, x)] st t g Q = Xp 181 d 60 [v0, v1, (0, x)] ((0, x) :: st) t g Q := Xp_go (i := .iload_n 2) (len := 1) (by decide +kernel) rfl
theorem x_181_60 : Xp 181 d 60 [(0, x), v1, v2] st t g Q = Xp 181 d 61 [(0, x), v1, v2] ((0, x) :: st) t g Q := Xp_go (i := .iload_n 0) (len := 1) (by decide +kernel) rfl
theorem x_181_61 : Xp 181 d 61 ls ((0, b) :: (0, a) :: st) t g Q = ((a ≤ b → Xp 181 d 73 ls st t g Q) ∧ (¬ (a ≤ b) → Xp 181 d 64 ls st t g Q)) := xr_if2 (cd := .le) (off := 12) (by decide +kernel) (by decide)
theorem x_181_68 : Xp 181 d 68 [v0, v1, (0, x)] st t g Q = Xp 181 d 69 [v0, v1, (0, x)] ((0, x) :: st) t g Q := Xp_go (i := .iload_n 2) (len := 1) (by decide +kernel) rfl
theorem x_181_73 : Xp 181 d 73 ls [] t g Q = Q none t g := xr_retV (by decide +kernel) (by decide +kernel)
-- 182: java/util/Arrays.fill([JJ)V
theorem x_182_0 : Xp 182 d 0 ls st t g Q = Xp 182 d 1 ls ((0, 0) :: st) t g Q := xr_const (c := 0) (by decide +kernel) (by decide)
theorem x_182_1 : Xp 182 d 1 [v0, v1, v2, v3, v4] ((0, x) :: st) t g Q = (hkP1 v2 ∧ Xp 182 d 2 [v0, v1, v2, (0, x), v4] st t g Q) := Xp_chk (i := .istore_n 3) (len := 1) (by decide +kernel) rfl
theorem x_182_2 : Xp 182 d 2 [(2, x), v1, v2, v3, v4] st t g Q = Xp 182 d 3 [(2, x), v1, v2, v3, v4] ((2, x) :: st) t g Q := Xp_go (i := .aload_n 0) (len := 1) (by decide +kernel) rfl
theorem x_182_3 : Xp 182 d 3 ls ((2, p) :: st) t g Q = ((100 ≤ hkJK p ∧ hkJK p ≤ 104) ∧ Xp 182 d 4 ls ((0, jL p) :: st) t g Q) := Xp_chk (i := .arraylength) (len := 1) (by decide +kernel) rfl
theorem x_182_4 : Xp 182 d 4 [v0, v1, v2, v3, v4] ((0, x) :: st) t g Q = (hkP1 v3 ∧ Xp 182 d 6 [v0, v1, v2, v3, (0, x)] st t g Q) := Xp_chk (i := .istore 4) (len := 2) (by decide +kernel) rfl
theorem x_182_6 : Xp 182 d 6 [v0, v1, v2, (0, x), v4] st t g Q = Xp 182 d 7 [v0, v1, v2, (0, x), v4] ((0, x) :: st) t g Q := Xp_go (i := .iload_n 3) (len := 1) (by decide +kernel) rfl
theorem x_182_7 : Xp 182 d 7 [v0, v1, v2, v3, (0, x)] st t g Q = Xp 182 d 9 [v0, v1, v2, v3, (0, x)] ((0, x) :: st) t g Q := Xp_go (i := .iload 4) (len := 2) (by decide +kernel) rfl
theorem x_182_9 : Xp 182 d 9 ls ((0, b) :: (0, a) :: st) t g Q = ((b ≤ a → Xp 182 d 22 ls st t g Q) ∧ (¬ (b ≤ a) → Xp 182 d 12 ls st t g Q)) := xr_if2 (cd := .ge) (off := 13) (by decide +kernel) (by decide)
theorem x_182_12 : Xp 182 d 12 [(2, x), v1, v2, v3, v4] st t g Q = Xp 182 d 13 [(2, x), v1, v2, v3, v4] ((2, x) :: st) t g Q := Xp_go (i := .aload_n 0) (len := 1) (by decide +kernel) rfl
theorem x_182_13 : Xp 182 d 13 [v0, v1, v2, (0, x), v4] st t g Q = Xp 182 d 14 [v0, v1, v2, (0, x), v4] ((0, x) :: st) t g Q := Xp_go (i := .iload_n 3) (len := 1) (by decide +kernel) rfl
theorem x_182_14 : Xp 182 d 14 [v0, (1, x), v2, v3, v4] st t g Q = Xp 182 d 15 [v0, (1, x), v2, v3, v4] ((1, x) :: st) t g Q := Xp_go (i := .lload_n 1) (len := 1) (by decide +kernel) rfl
theorem x_182_15 : Xp 182 d 15 ls ((1, x) :: (0, a) :: (2, p) :: st) t g Q = ((hkJK p = 101 ∧ (101 = 102 → x = 0 ∨ x = 1) ∧ 0 ≤ a ∧ a < jL p) ∧ Xp 182 d 16 ls st t (hkSet g p a x) Q) := Xp_chk (i := .lastore) (len := 1) (by decide +kernel) rfl
theorem x_182_16 : Xp 182 d 16 [v0, v1, v2, (0, x), v4] st t g Q = (hkP1 v2 ∧ Xp 182 d 19 [v0, v1, v2, (0, hkW (x + 1)), v4] st t g Q) := Xp_chk (i := .iinc 3 (1)) (len := 3) (by decide +kernel) rfl
theorem x_182_19 : Xp 182 d 19 ls st t g Q = Xp 182 d 6 ls st t g Q := xr_goto (off := -13) (by decide +kernel) (by decide)
theorem x_182_22 : Xp 182 d 22 ls [] t g Q = Q none t g := xr_retV (by decide +kernel) (by decide +kernel)
-- 33: HookBoxes$Box.<init>()V
theorem x_33_0 : Xp 33 d 0 [(2, x)] st t g Q = Xp 33 d 1 [(2, x)] ((2, x) :: st) t g Q := Xp_go (i := .aload_n 0) (len := 1) (by decide +kernel) rfl
theorem x_33_1 : Xp 33 d 1 ls ((2, p) :: st) t g Q = (hkC8 st ∧ Xp 33 d 4 ls st t g Q) := xr_obj (idx := 3) (f := 183) (by decide +kernel) (by decide +kernel) (by decide +kernel) (by decide +kernel)
theorem x_33_4 : Xp 33 d 4 [(2, x)] st t g Q = Xp 33 d 5 [(2, x)] ((2, x) :: st) t g Q := Xp_go (i := .aload_n 0) (len := 1) (by decide +kernel) rfl
theorem x_33_5 : Xp 33 d 5 ls st t g Q = Xp 33 d 8 ls ((0, 140) :: st) t g Q := xr_si (c := 140) (by decide +kernel) (by decide)
theorem x_33_8 : Xp 33 d 8 ls ((0, x) :: st) t g Q = (∃ P z w, hkEV[t]? = some (0, P, z, w) ∧ hkKd P = 100 ∧ x = jL (P : Int) ∧ Xp 33 d 10 ls ((2, (P : Int)) :: st) (t + 1) g Q) := xr_newa (ty := .int) (ci := 100) (by decide +kernel) (by decide) (by decide)
theorem x_33_10 : Xp 33 d 10 ls ((2, z) :: (2, p) :: st) t g Q = (hkJK p = 1 ∧ hkEV[t]? = some (1, p.toNat, 4, z.toNat) ∧ Xp 33 d 13 ls st (t + 1) g Q) := xr_putR (idx := 9) (ci := 1) (k := 4) (by decide +kernel) (by decide +kernel) (by decide +kernel) (by decide +kernel) (by decide +kernel)
theorem x_33_13 : Xp 33 d 13 [(2, x)] st t g Q = Xp 33 d 14 [(2, x)] ((2, x) :: st) t g Q := Xp_go (i := .aload_n 0) (len := 1) (by decide +kernel) rfl
theorem x_33_14 : Xp 33 d 14 ls st t g Q = Xp 33 d 16 ls ((0, 35) :: st) t g Q := xr_bi (c := 35) (by decide +kernel) (by decide)
theorem x_33_16 : Xp 33 d 16 ls ((0, x) :: st) t g Q = (∃ P z w, hkEV[t]? = some (0, P, z, w) ∧ hkKd P = 100 ∧ x = jL (P : Int) ∧ Xp 33 d 18 ls ((2, (P : Int)) :: st) (t + 1) g Q) := xr_newa (ty := .int) (ci := 100) (by decide +kernel) (by decide) (by decide)
theorem x_33_18 : Xp 33 d 18 ls ((2, z) :: (2, p) :: st) t g Q = (hkJK p = 1 ∧ hkEV[t]? = some (1, p.toNat, 5, z.toNat) ∧ Xp 33 d 21 ls st (t + 1) g Q) := xr_putR (idx := 15) (ci := 1) (k := 5) (by decide +kernel) (by decide +kernel) (by decide +kernel) (by decide +kernel) (by decide +kernel)
theorem x_33_21 : Xp 33 d 21 [(2, x)] st t g Q = Xp 33 d 22 [(2, x)] ((2, x) :: st) t g Q := Xp_go (i := .aload_n 0) (len := 1) (by decide +kernel) rfl
theorem x_33_22 : Xp 33 d 22 ls st t g Q = Xp 33 d 24 ls ((0, 35) :: st) t g Q := xr_bi (c := 35) (by decide +kernel) (by decide)
theorem x_33_24 : Xp 33 d 24 ls ((0, x) :: st) t g Q = (∃ P z w, hkEV[t]? = some (0, P, z, w) ∧ hkKd P = 100 ∧ x = jL (P : Int) ∧ Xp 33 d 26 ls ((2, (P : Int)) :: st) (t + 1) g Q) := xr_newa (ty := .int) (ci := 100) (by decide +kernel) (by decide) (by decide)
theorem x_33_26 : Xp 33 d 26 ls ((2, z) :: (2, p) :: st) t g Q = (hkJK p = 1 ∧ hkEV[t]? = some (1, p.toNat, 6, z.toNat) ∧ Xp 33 d 29 ls st (t + 1) g Q) := xr_putR (idx := 18) (ci := 1) (k := 6) (by decide +kernel) (by decide +kernel) (by decide +kernel) (by decide +kernel) (by decide +kernel)
theorem x_33_29 : Xp 33 d 29 [(2, x)] st t g Q = Xp 33 d 30 [(2, x)] ((2, x) :: st) t g Q := Xp_go (i := .aload_n 0) (len := 1) (by decide +kernel) rfl
theorem x_33_30 : Xp 33 d 30 ls st t g Q = Xp 33 d 32 ls ((0, 35) :: st) t g Q := xr_bi (c := 35) (by decide +kernel) (by decide)
theorem x_33_32 : Xp 33 d 32 ls ((0, x) :: st) t g Q = (∃ P z w, hkEV[t]? = some (0, P, z, w) ∧ hkKd P = 100 ∧ x = jL (P : Int) ∧ Xp 33 d 34 ls ((2, (P : Int)) :: st) (t + 1) g Q) := xr_newa (ty := .int) (ci := 100) (by decide +kernel) (by decide) (by decide)
theorem x_33_34 : Xp 33 d 34 ls ((2, z) :: (2, p) :: st) t g Q = (hkJK p = 1 ∧ hkEV[t]? = some (1, p.toNat, 7, z.toNat) ∧ Xp 33 d 37 ls st (t + 1) g Q) := xr_putR (idx := 21) (ci := 1) (k := 7) (by decide +kernel) (by decide +kernel) (by decide +kernel) (by decide +kernel) (by decide +kernel)
theorem x_33_37 : Xp 33 d 37 [(2, x)] st t g Q = Xp 33 d 38 [(2, x)] ((2, x) :: st) t g Q := Xp_go (i := .aload_n 0) (len := 1) (by decide +kernel) rfl
theorem x_33_38 : Xp 33 d 38 ls st t g Q = Xp 33 d 40 ls ((0, 7) :: st) t g Q := xr_bi (c := 7) (by decide +kernel) (by decide)
theorem x_33_40 : Xp 33 d 40 ls ((0, x) :: st) t g Q = (∃ P z w, hkEV[t]? = some (0, P, z, w) ∧ hkKd P = 100 ∧ x = jL (P : Int) ∧ Xp 33 d 42 ls ((2, (P : Int)) :: st) (t + 1) g Q) := xr_newa (ty := .int) (ci := 100) (by decide +kernel) (by decide) (by decide)
theorem x_33_42 : Xp 33 d 42 ls ((2, z) :: (2, p) :: st) t g Q = (hkJK p = 1 ∧ hkEV[t]? = some (1, p.toNat, 8, z.toNat) ∧ Xp 33 d 45 ls st (t + 1) g Q) := xr_putR (idx := 24) (ci := 1) (k := 8) (by decide +kernel) (by decide +kernel) (by decide +kernel) (by decide +kernel) (by decide +kernel)
theorem x_33_45 : Xp 33 d 45 [(2, x)] st t g Q = Xp 33 d 46 [(2, x)] ((2, x) :: st) t g Q := Xp_go (i := .aload_n 0) (len := 1) (by decide +kernel) rfl
theorem x_33_46 : Xp 33 d 46 ls st t g Q = Xp 33 d 48 ls ((0, 35) :: st) t g Q := xr_bi (c := 35) (by decide +kernel) (by decide)
theorem x_33_48 : Xp 33 d 48 ls ((0, x) :: st) t g Q = (∃ P z w, hkEV[t]? = some (0, P, z, w) ∧ hkKd P = 100 ∧ x = jL (P : Int) ∧ Xp 33 d 50 ls ((2, (P : Int)) :: st) (t + 1) g Q) := xr_newa (ty := .int) (ci := 100) (by decide +kernel) (by decide) (by decide)
theorem x_33_50 : Xp 33 d 50 ls ((2, z) :: (2, p) :: st) t g Q = (hkJK p = 1 ∧ hkEV[t]? = some (1, p.toNat, 9, z.toNat) ∧ Xp 33 d 53 ls st (t + 1) g Q) := xr_putR (idx := 27) (ci := 1) (k := 9) (by decide +kernel) (by decide +kernel) (by decide +kernel) (by decide +kernel) (by decide +kernel)
theorem x_33_53 : Xp 33 d 53 [(2, x)] st t g Q = Xp 33 d 54 [(2, x)] ((2, x) :: st) t g Q := Xp_go (i := .aload_n 0) (len := 1) (by decide +kernel) rfl
theorem x_33_54 : Xp 33 d 54 ls st t g Q = Xp 33 d 57 ls ((0, 128) :: st) t g Q := xr_si (c := 128) (by decide +kernel) (by decide)
theorem x_33_57 : Xp 33 d 57 ls ((0, x) :: st) t g Q = (∃ P z w, hkEV[t]? = some (0, P, z, w) ∧ hkKd P = 100 ∧ x = jL (P : Int) ∧ Xp 33 d 59 ls ((2, (P : Int)) :: st) (t + 1) g Q) := xr_newa (ty := .int) (ci := 100) (by decide +kernel) (by decide) (by decide)
theorem x_33_59 : Xp 33 d 59 ls ((2, z) :: (2, p) :: st) t g Q = (hkJK p = 1 ∧ hkEV[t]? = some (1, p.toNat, 10, z.toNat) ∧ Xp 33 d 62 ls st (t + 1) g Q) := xr_putR (idx := 30) (ci := 1) (k := 10) (by decide +kernel) (by decide +kernel) (by decide +kernel) (by decide +kernel) (by decide +kernel)
theorem x_33_62 : Xp 33 d 62 [(2, x)] st t g Q = Xp 33 d 63 [(2, x)] ((2, x) :: st) t g Q := Xp_go (i := .aload_n 0) (len := 1) (by decide +kernel) rfl
theorem x_33_63 : Xp 33 d 63 ls st t g Q = Xp 33 d 64 ls ((0, 4) :: st) t g Q := xr_const (c := 4) (by decide +kernel) (by decide)
theorem x_33_64 : Xp 33 d 64 ls ((0, x) :: st) t g Q = (∃ P z w, hkEV[t]? = some (0, P, z, w) ∧ hkKd P = 100 ∧ x = jL (P : Int) ∧ Xp 33 d 66 ls ((2, (P : Int)) :: st) (t + 1) g Q) := xr_newa (ty := .int) (ci := 100) (by decide +kernel) (by decide) (by decide)
theorem x_33_66 : Xp 33 d 66 ls ((2, z) :: (2, p) :: st) t g Q = (hkJK p = 1 ∧ hkEV[t]? = some (1, p.toNat, 11, z.toNat) ∧ Xp 33 d 69 ls st (t + 1) g Q) := xr_putR (idx := 33) (ci := 1) (k := 11) (by decide +kernel) (by decide +kernel) (by decide +kernel) (by decide +kernel) (by decide +kernel)
theorem x_33_69 : Xp 33 d 69 [(2, x)] st t g Q = Xp 33 d 70 [(2, x)] ((2, x) :: st) t g Q := Xp_go (i := .aload_n 0) (len := 1) (by decide +kernel) rfl
theorem x_33_70 : Xp 33 d 70 ls st t g Q = Xp 33 d 71 ls ((0, 2) :: st) t g Q := xr_const (c := 2) (by decide +kernel) (by decide)
theorem x_33_71 : Xp 33 d 71 ls st t g Q = Xp 33 d 72 ls ((0, 4) :: st) t g Q := xr_const (c := 4) (by decide +kernel) (by decide)
theorem x_33_72 : Xp 33 (d + 1) 72 ls ((0, a2) :: (0, a1) :: (2, a0) :: st) t g Q = (hkJK a0 = 1 ∧ hkC8 st ∧ Xp 34 d 0 [(2, a0), (0, a1), (0, a2), hkU] [] t g (fun r t g => Xp 33 (d + 1) 75 ls (hkPush r st) t g Q)) := xr_invV (idx := 36) (y' := 34) (ci := 1) (tg := [2, 0, 0]) (by decide +kernel) (by decide +kernel) (by decide +kernel) (by decide +kernel) rfl rfl rfl
theorem x_33_75 : Xp 33 d 75 ls [] t g Q = Q none t g := xr_retV (by decide +kernel) (by decide +kernel)
-- 34: HookBoxes$Box.become(II)V
theorem x_34_0 : Xp 34 d 0 [(2, x), v1, v2, v3] st t g Q = Xp 34 d 1 [(2, x), v1, v2, v3] ((2, x) :: st) t g Q := Xp_go (i := .aload_n 0) (len := 1) (by decide +kernel) rfl
theorem x_34_1 : Xp 34 d 1 [v0, (0, x), v2, v3] st t g Q = Xp 34 d 2 [v0, (0, x), v2, v3] ((0, x) :: st) t g Q := Xp_go (i := .iload_n 1) (len := 1) (by decide +kernel) rfl
theorem x_34_2 : Xp 34 d 2 ls ((0, x) :: (2, p) :: st) t g Q = (hkJK p = 1 ∧ Xp 34 d 5 ls st t (hkSet g p 0 x) Q) := xr_putI (idx := 40) (ci := 1) (k := 0) (by decide +kernel) (by decide +kernel) (by decide +kernel)
theorem x_34_5 : Xp 34 d 5 [(2, x), v1, v2, v3] st t g Q = Xp 34 d 6 [(2, x), v1, v2, v3] ((2, x) :: st) t g Q := Xp_go (i := .aload_n 0) (len := 1) (by decide +kernel) rfl
theorem x_34_6 : Xp 34 d 6 [v0, v1, (0, x), v3] st t g Q = Xp 34 d 7 [v0, v1, (0, x), v3] ((0, x) :: st) t g Q := Xp_go (i := .iload_n 2) (len := 1) (by decide +kernel) rfl
theorem x_34_7 : Xp 34 d 7 ls ((0, x) :: (2, p) :: st) t g Q = (hkJK p = 1 ∧ Xp 34 d 10 ls st t (hkSet g p 1 x) Q) := xr_putI (idx := 44) (ci := 1) (k := 1) (by decide +kernel) (by decide +kernel) (by decide +kernel)
theorem x_34_10 : Xp 34 d 10 [(2, x), v1, v2, v3] st t g Q = Xp 34 d 11 [(2, x), v1, v2, v3] ((2, x) :: st) t g Q := Xp_go (i := .aload_n 0) (len := 1) (by decide +kernel) rfl
theorem x_34_11 : Xp 34 d 11 [v0, v1, (0, x), v3] st t g Q = Xp 34 d 12 [v0, v1, (0, x), v3] ((0, x) :: st) t g Q := Xp_go (i := .iload_n 2) (len := 1) (by decide +kernel) rfl
theorem x_34_12 : Xp 34 d 12 [v0, (0, x), v2, v3] st t g Q = Xp 34 d 13 [v0, (0, x), v2, v3] ((0, x) :: st) t g Q := Xp_go (i := .iload_n 1) (len := 1) (by decide +kernel) rfl
theorem x_34_13 : Xp 34 d 13 ls ((0, b) :: (0, a) :: st) t g Q = Xp 34 d 14 ls ((0, hkW (a - b)) :: st) t g Q := Xp_go (i := .isub) (len := 1) (by decide +kernel) rfl
theorem x_34_14 : Xp 34 d 14 ls ((0, x) :: (2, p) :: st) t g Q = (hkJK p = 1 ∧ Xp 34 d 17 ls st t (hkSet g p 2 x) Q) := xr_putI (idx := 47) (ci := 1) (k := 2) (by decide +kernel) (by decide +kernel) (by decide +kernel)
theorem x_34_17 : Xp 34 d 17 [(2, x), v1, v2, v3] st t g Q = Xp 34 d 18 [(2, x), v1, v2, v3] ((2, x) :: st) t g Q := Xp_go (i := .aload_n 0) (len := 1) (by decide +kernel) rfl
theorem x_34_18 : Xp 34 d 18 ls st t g Q = Xp 34 d 19 ls ((0, 0) :: st) t g Q := xr_const (c := 0) (by decide +kernel) (by decide)
theorem x_34_19 : Xp 34 d 19 ls ((0, x) :: (2, p) :: st) t g Q = (hkJK p = 1 ∧ Xp 34 d 22 ls st t (hkSet g p 3 x) Q) := xr_putI (idx := 50) (ci := 1) (k := 3) (by decide +kernel) (by decide +kernel) (by decide +kernel)
theorem x_34_22 : Xp 34 d 22 [(2, x), v1, v2, v3] st t g Q = Xp 34 d 23 [(2, x), v1, v2, v3] ((2, x) :: st) t g Q := Xp_go (i := .aload_n 0) (len := 1) (by decide +kernel) rfl
theorem x_34_23 : Xp 34 d 23 ls ((2, p) :: st) t g Q = (hkJK p = 1 ∧ jA p 10 ≤ t ∧ Xp 34 d 26 ls ((2, jR p 10) :: st) t g Q) := xr_getR (idx := 30) (ci := 1) (k := 10) (by decide +kernel) (by decide +kernel) (by decide +kernel)
theorem x_34_26 : Xp 34 d 26 ls st t g Q = Xp 34 d 27 ls ((0, -1) :: st) t g Q := xr_const (c := -1) (by decide +kernel) (by decide)
theorem x_34_27 : Xp 34 (d + 1) 27 ls ((0, a1) :: (2, a0) :: st) t g Q = (hkC8 st ∧ Xp 179 d 0 [(2, a0), (0, a1), hkU, hkU] [] t g (fun r t g => Xp 34 (d + 1) 30 ls (hkPush r st) t g Q)) := xr_invS (idx := 53) (y' := 179) (tg := [2, 0]) (by decide +kernel) (by decide +kernel) (by decide +kernel) rfl rfl
theorem x_34_30 : Xp 34 d 30 [(2, x), v1, v2, v3] st t g Q = Xp 34 d 31 [(2, x), v1, v2, v3] ((2, x) :: st) t g Q := Xp_go (i := .aload_n 0) (len := 1) (by decide +kernel) rfl
theorem x_34_31 : Xp 34 d 31 ls ((2, p) :: st) t g Q = (hkJK p = 1 ∧ jA p 8 ≤ t ∧ Xp 34 d 34 ls ((2, jR p 8) :: st) t g Q) := xr_getR (idx := 24) (ci := 1) (k := 8) (by decide +kernel) (by decide +kernel) (by decide +kernel)
theorem x_34_34 : Xp 34 d 34 ls st t g Q = Xp 34 d 35 ls ((0, 0) :: st) t g Q := xr_const (c := 0) (by decide +kernel) (by decide)
theorem x_34_35 : Xp 34 (d + 1) 35 ls ((0, a1) :: (2, a0) :: st) t g Q = (hkC8 st ∧ Xp 179 d 0 [(2, a0), (0, a1), hkU, hkU] [] t g (fun r t g => Xp 34 (d + 1) 38 ls (hkPush r st) t g Q)) := xr_invS (idx := 53) (y' := 179) (tg := [2, 0]) (by decide +kernel) (by decide +kernel) (by decide +kernel) rfl rfl
theorem x_34_38 : Xp 34 d 38 [(2, x), v1, v2, v3] st t g Q = Xp 34 d 39 [(2, x), v1, v2, v3] ((2, x) :: st) t g Q := Xp_go (i := .aload_n 0) (len := 1) (by decide +kernel) rfl
theorem x_34_39 : Xp 34 d 39 ls ((2, p) :: st) t g Q = (hkJK p = 1 ∧ jA p 11 ≤ t ∧ Xp 34 d 42 ls ((2, jR p 11) :: st) t g Q) := xr_getR (idx := 33) (ci := 1) (k := 11) (by decide +kernel) (by decide +kernel) (by decide +kernel)
theorem x_34_42 : Xp 34 d 42 ls st t g Q = Xp 34 d 43 ls ((0, 0) :: st) t g Q := xr_const (c := 0) (by decide +kernel) (by decide)
theorem x_34_43 : Xp 34 (d + 1) 43 ls ((0, a1) :: (2, a0) :: st) t g Q = (hkC8 st ∧ Xp 179 d 0 [(2, a0), (0, a1), hkU, hkU] [] t g (fun r t g => Xp 34 (d + 1) 46 ls (hkPush r st) t g Q)) := xr_invS (idx := 53) (y' := 179) (tg := [2, 0]) (by decide +kernel) (by decide +kernel) (by decide +kernel) rfl rfl
theorem x_34_46 : Xp 34 d 46 ls st t g Q = Xp 34 d 47 ls ((0, 0) :: st) t g Q := xr_const (c := 0) (by decide +kernel) (by decide)
theorem x_34_47 : Xp 34 d 47 [v0, v1, v2, v3] ((0, x) :: st) t g Q = (hkP1 v2 ∧ Xp 34 d 48 [v0, v1, v2, (0, x)] st t g Q) := Xp_chk (i := .istore_n 3) (len := 1) (by decide +kernel) rfl
theorem x_34_48 : Xp 34 d 48 [v0, v1, v2, (0, x)] st t g Q = Xp 34 d 49 [v0, v1, v2, (0, x)] ((0, x) :: st) t g Q := Xp_go (i := .iload_n 3) (len := 1) (by decide +kernel) rfl
theorem x_34_49 : Xp 34 d 49 [(2, x), v1, v2, v3] st t g Q = Xp 34 d 50 [(2, x), v1, v2, v3] ((2, x) :: st) t g Q := Xp_go (i := .aload_n 0) (len := 1) (by decide +kernel) rfl
theorem x_34_50 : Xp 34 d 50 ls ((2, p) :: st) t g Q = (hkJK p = 1 ∧ Xp 34 d 53 ls ((0, g p 0) :: st) t g Q) := xr_getI (idx := 40) (ci := 1) (k := 0) (by decide +kernel) (by decide +kernel) (by decide +kernel)
theorem x_34_53 : Xp 34 d 53 [(2, x), v1, v2, v3] st t g Q = Xp 34 d 54 [(2, x), v1, v2, v3] ((2, x) :: st) t g Q := Xp_go (i := .aload_n 0) (len := 1) (by decide +kernel) rfl
theorem x_34_54 : Xp 34 d 54 ls ((2, p) :: st) t g Q = (hkJK p = 1 ∧ Xp 34 d 57 ls ((0, g p 2) :: st) t g Q) := xr_getI (idx := 47) (ci := 1) (k := 2) (by decide +kernel) (by decide +kernel) (by decide +kernel)
theorem x_34_57 : Xp 34 d 57 ls ((0, b) :: (0, a) :: st) t g Q = Xp 34 d 58 ls ((0, hkW (a * b)) :: st) t g Q := Xp_go (i := .imul) (len := 1) (by decide +kernel) rfl
theorem x_34_58 : Xp 34 d 58 ls ((0, b) :: (0, a) :: st) t g Q = ((b < a → Xp 34 d 77 ls st t g Q) ∧ (¬ (b < a) → Xp 34 d 61 ls st t g Q)) := xr_if2 (cd := .gt) (off := 19) (by decide +kernel) (by decide)
theorem x_34_61 : Xp 34 d 61 [(2, x), v1, v2, v3] st t g Q = Xp 34 d 62 [(2, x), v1, v2, v3] ((2, x) :: st) t g Q := Xp_go (i := .aload_n 0) (len := 1) (by decide +kernel) rfl
theorem x_34_62 : Xp 34 d 62 ls st t g Q = Xp 34 d 63 ls ((0, 0) :: st) t g Q := xr_const (c := 0) (by decide +kernel) (by decide)
theorem x_34_63 : Xp 34 d 63 [(2, x), v1, v2, v3] st t g Q = Xp 34 d 64 [(2, x), v1, v2, v3] ((2, x) :: st) t g Q := Xp_go (i := .aload_n 0) (len := 1) (by decide +kernel) rfl
theorem x_34_64 : Xp 34 d 64 ls ((2, p) :: st) t g Q = (hkJK p = 1 ∧ Xp 34 d 67 ls ((0, g p 2) :: st) t g Q) := xr_getI (idx := 47) (ci := 1) (k := 2) (by decide +kernel) (by decide +kernel) (by decide +kernel)
theorem x_34_67 : Xp 34 d 67 [v0, v1, v2, (0, x)] st t g Q = Xp 34 d 68 [v0, v1, v2, (0, x)] ((0, x) :: st) t g Q := Xp_go (i := .iload_n 3) (len := 1) (by decide +kernel) rfl
theorem x_34_68 : Xp 34 (d + 1) 68 ls ((0, a3) :: (0, a2) :: (0, a1) :: (2, a0) :: st) t g Q = (hkJK a0 = 1 ∧ hkC8 st ∧ Xp 35 d 0 [(2, a0), (0, a1), (0, a2), (0, a3), hkU] [] t g (fun r t g => Xp 34 (d + 1) 71 ls (hkPush r st) t g Q)) := xr_invV (idx := 59) (y' := 35) (ci := 1) (tg := [2, 0, 0, 0]) (by decide +kernel) (by decide +kernel) (by decide +kernel) (by decide +kernel) rfl rfl rfl
theorem x_34_71 : Xp 34 d 71 [v0, v1, v2, (0, x)] st t g Q = (hkP1 v2 ∧ Xp 34 d 74 [v0, v1, v2, (0, hkW (x + 1))] st t g Q) := Xp_chk (i := .iinc 3 (1)) (len := 3) (by decide +kernel) rfl
theorem x_34_74 : Xp 34 d 74 ls st t g Q = Xp 34 d 48 ls st t g Q := xr_goto (off := -26) (by decide +kernel) (by decide)
theorem x_34_77 : Xp 34 d 77 ls [] t g Q = Q none t g := xr_retV (by decide +kernel) (by decide +kernel)
-- 35: HookBoxes$Box.addShapes(III)V
theorem x_35_0 : Xp 35 d 0 [v0, (0, x), v2, v3, v4] st t g Q = Xp 35 d 1 [v0, (0, x), v2, v3, v4] ((0, x) :: st) t g Q := Xp_go (i := .iload_n 1) (len := 1) (by decide +kernel) rfl
theorem x_35_1 : Xp 35 d 1 [(2, x), v1, v2, v3, v4] st t g Q = Xp 35 d 2 [(2, x), v1, v2, v3, v4] ((2, x) :: st) t g Q := Xp_go (i := .aload_n 0) (len := 1) (by decide +kernel) rfl
theorem x_35_2 : Xp 35 d 2 ls ((2, p) :: st) t g Q = (hkJK p = 1 ∧ Xp 35 d 5 ls ((0, g p 0) :: st) t g Q) := xr_getI (idx := 40) (ci := 1) (k := 0) (by decide +kernel) (by decide +kernel) (by decide +kernel)
theorem x_35_5 : Xp 35 d 5 ls ((0, b) :: (0, a) :: st) t g Q = ((a < b → Xp 35 d 17 ls st t g Q) ∧ (¬ (a < b) → Xp 35 d 8 ls st t g Q)) := xr_if2 (cd := .lt) (off := 12) (by decide +kernel) (by decide)
theorem x_35_8 : Xp 35 d 8 [v0, v1, v2, (0, x), v4] st t g Q = Xp 35 d 9 [v0, v1, v2, (0, x), v4] ((0, x) :: st) t g Q := Xp_go (i := .iload_n 3) (len := 1) (by decide +kernel) rfl
theorem x_35_9 : Xp 35 d 9 ls ((0, a) :: st) t g Q = ((¬ (a = 0) → Xp 35 d 16 ls st t g Q) ∧ (¬ (¬ (a = 0)) → Xp 35 d 12 ls st t g Q)) := xr_if1 (cd := .ne) (off := 7) (by decide +kernel) (by decide)
theorem x_35_12 : Xp 35 d 12 [(2, x), v1, v2, v3, v4] st t g Q = Xp 35 d 13 [(2, x), v1, v2, v3, v4] ((2, x) :: st) t g Q := Xp_go (i := .aload_n 0) (len := 1) (by decide +kernel) rfl
theorem x_35_13 : Xp 35 (d + 1) 13 ls ((2, a0) :: st) t g Q = (hkJK a0 = 1 ∧ hkC8 st ∧ Xp 36 d 0 [(2, a0), hkU, hkU, hkU] [] t g (fun r t g => Xp 35 (d + 1) 16 ls (hkPush r st) t g Q)) := xr_invV (idx := 63) (y' := 36) (ci := 1) (tg := [2]) (by decide +kernel) (by decide +kernel) (by decide +kernel) (by decide +kernel) rfl rfl rfl
theorem x_35_16 : Xp 35 d 16 ls [] t g Q = Q none t g := xr_retV (by decide +kernel) (by decide +kernel)
theorem x_35_17 : Xp 35 d 17 [v0, v1, (0, x), v3, v4] st t g Q = Xp 35 d 18 [v0, v1, (0, x), v3, v4] ((0, x) :: st) t g Q := Xp_go (i := .iload_n 2) (len := 1) (by decide +kernel) rfl
theorem x_35_18 : Xp 35 d 18 [v0, v1, v2, (0, x), v4] st t g Q = Xp 35 d 19 [v0, v1, v2, (0, x), v4] ((0, x) :: st) t g Q := Xp_go (i := .iload_n 3) (len := 1) (by decide +kernel) rfl
theorem x_35_19 : Xp 35 (d + 1) 19 ls ((0, a1) :: (0, a0) :: st) t g Q = (hkC8 st ∧ Xp 174 d 0 [(0, a0), (0, a1)] [] t g (fun r t g => Xp 35 (d + 1) 22 ls (hkPush r st) t g Q)) := xr_invS (idx := 66) (y' := 174) (tg := [0, 0]) (by decide +kernel) (by decide +kernel) (by decide +kernel) rfl rfl
theorem x_35_22 : Xp 35 d 22 [v0, v1, v2, v3, v4] ((0, x) :: st) t g Q = (hkP1 v3 ∧ Xp 35 d 24 [v0, v1, v2, v3, (0, x)] st t g Q) := Xp_chk (i := .istore 4) (len := 2) (by decide +kernel) rfl
theorem x_35_24 : Xp 35 d 24 [v0, v1, v2, v3, (0, x)] st t g Q = Xp 35 d 26 [v0, v1, v2, v3, (0, x)] ((0, x) :: st) t g Q := Xp_go (i := .iload 4) (len := 2) (by decide +kernel) rfl
theorem x_35_26 : Xp 35 d 26 ls ((0, a) :: st) t g Q = ((a < 0 → Xp 35 d 56 ls st t g Q) ∧ (¬ (a < 0) → Xp 35 d 29 ls st t g Q)) := xr_if1 (cd := .lt) (off := 30) (by decide +kernel) (by decide)
theorem x_35_29 : Xp 35 d 29 [(2, x), v1, v2, v3, v4] st t g Q = Xp 35 d 30 [(2, x), v1, v2, v3, v4] ((2, x) :: st) t g Q := Xp_go (i := .aload_n 0) (len := 1) (by decide +kernel) rfl
theorem x_35_30 : Xp 35 d 30 ls ((2, p) :: st) t g Q = (hkJK p = 1 ∧ jA p 11 ≤ t ∧ Xp 35 d 33 ls ((2, jR p 11) :: st) t g Q) := xr_getR (idx := 33) (ci := 1) (k := 11) (by decide +kernel) (by decide +kernel) (by decide +kernel)
theorem x_35_33 : Xp 35 d 33 [v0, (0, x), v2, v3, v4] st t g Q = Xp 35 d 34 [v0, (0, x), v2, v3, v4] ((0, x) :: st) t g Q := Xp_go (i := .iload_n 1) (len := 1) (by decide +kernel) rfl
theorem x_35_34 : Xp 35 d 34 [v0, v1, v2, v3, (0, x)] st t g Q = Xp 35 d 36 [v0, v1, v2, v3, (0, x)] ((0, x) :: st) t g Q := Xp_go (i := .iload 4) (len := 2) (by decide +kernel) rfl
theorem x_35_36 : Xp 35 d 36 ls ((0, x) :: (0, a) :: (2, p) :: st) t g Q = ((hkJK p = 100 ∧ (100 = 102 → x = 0 ∨ x = 1) ∧ 0 ≤ a ∧ a < jL p) ∧ Xp 35 d 37 ls st t (hkSet g p a x) Q) := Xp_chk (i := .iastore) (len := 1) (by decide +kernel) rfl
theorem x_35_37 : Xp 35 d 37 [(2, x), v1, v2, v3, v4] st t g Q = Xp 35 d 38 [(2, x), v1, v2, v3, v4] ((2, x) :: st) t g Q := Xp_go (i := .aload_n 0) (len := 1) (by decide +kernel) rfl
theorem x_35_38 : Xp 35 d 38 [v0, (0, x), v2, v3, v4] st t g Q = Xp 35 d 39 [v0, (0, x), v2, v3, v4] ((0, x) :: st) t g Q := Xp_go (i := .iload_n 1) (len := 1) (by decide +kernel) rfl
theorem x_35_39 : Xp 35 d 39 ls st t g Q = Xp 35 d 40 ls ((0, 1) :: st) t g Q := xr_const (c := 1) (by decide +kernel) (by decide)
theorem x_35_40 : Xp 35 d 40 ls ((0, b) :: (0, a) :: st) t g Q = Xp 35 d 41 ls ((0, hkW (a + b)) :: st) t g Q := Xp_go (i := .iadd) (len := 1) (by decide +kernel) rfl
theorem x_35_41 : Xp 35 d 41 [v0, v1, v2, v3, (0, x)] st t g Q = Xp 35 d 43 [v0, v1, v2, v3, (0, x)] ((0, x) :: st) t g Q := Xp_go (i := .iload 4) (len := 2) (by decide +kernel) rfl
theorem x_35_43 : Xp 35 d 43 [v0, v1, v2, (0, x), v4] st t g Q = Xp 35 d 44 [v0, v1, v2, (0, x), v4] ((0, x) :: st) t g Q := Xp_go (i := .iload_n 3) (len := 1) (by decide +kernel) rfl
theorem x_35_44 : Xp 35 d 44 [v0, v1, v2, v3, (0, x)] st t g Q = Xp 35 d 46 [v0, v1, v2, v3, (0, x)] ((0, x) :: st) t g Q := Xp_go (i := .iload 4) (len := 2) (by decide +kernel) rfl
theorem x_35_46 : Xp 35 d 46 ls ((0, b) :: (0, a) :: st) t g Q = Xp 35 d 47 ls ((0, hkW (a - b)) :: st) t g Q := Xp_go (i := .isub) (len := 1) (by decide +kernel) rfl
theorem x_35_47 : Xp 35 (d + 1) 47 ls ((0, a3) :: (0, a2) :: (0, a1) :: (2, a0) :: st) t g Q = (hkJK a0 = 1 ∧ hkC8 st ∧ Xp 35 d 0 [(2, a0), (0, a1), (0, a2), (0, a3), hkU] [] t g (fun r t g => Xp 35 (d + 1) 50 ls (hkPush r st) t g Q)) := xr_invV (idx := 59) (y' := 35) (ci := 1) (tg := [2, 0, 0, 0]) (by decide +kernel) (by decide +kernel) (by decide +kernel) (by decide +kernel) rfl rfl rfl
theorem x_35_50 : Xp 35 d 50 [v0, v1, v2, v3, (0, x)] st t g Q = (hkP1 v3 ∧ Xp 35 d 53 [v0, v1, v2, v3, (0, hkW (x + -1))] st t g Q) := Xp_chk (i := .iinc 4 (-1)) (len := 3) (by decide +kernel) rfl
theorem x_35_53 : Xp 35 d 53 ls st t g Q = Xp 35 d 24 ls st t g Q := xr_goto (off := -29) (by decide +kernel) (by decide)
theorem x_35_56 : Xp 35 d 56 ls [] t g Q = Q none t g := xr_retV (by decide +kernel) (by decide +kernel)
-- 36: HookBoxes$Box.addTrial()V
theorem x_36_0 : Xp 36 d 0 ls st t g Q = Xp 36 d 1 ls ((0, 0) :: st) t g Q := xr_const (c := 0) (by decide +kernel) (by decide)
theorem x_36_1 : Xp 36 d 1 [v0, v1, v2, v3] ((0, x) :: st) t g Q = (hkP1 v0 ∧ Xp 36 d 2 [v0, (0, x), v2, v3] st t g Q) := Xp_chk (i := .istore_n 1) (len := 1) (by decide +kernel) rfl
theorem x_36_2 : Xp 36 d 2 ls st t g Q = Xp 36 d 3 ls ((0, 0) :: st) t g Q := xr_const (c := 0) (by decide +kernel) (by decide)
theorem x_36_3 : Xp 36 d 3 [v0, v1, v2, v3] ((0, x) :: st) t g Q = (hkP1 v1 ∧ Xp 36 d 4 [v0, v1, (0, x), v3] st t g Q) := Xp_chk (i := .istore_n 2) (len := 1) (by decide +kernel) rfl
theorem x_36_4 : Xp 36 d 4 ls st t g Q = Xp 36 d 5 ls ((0, 0) :: st) t g Q := xr_const (c := 0) (by decide +kernel) (by decide)
theorem x_36_5 : Xp 36 d 5 [v0, v1, v2, v3] ((0, x) :: st) t g Q = (hkP1 v2 ∧ Xp 36 d 6 [v0, v1, v2, (0, x)] st t g Q) := Xp_chk (i := .istore_n 3) (len := 1) (by decide +kernel) rfl
theorem x_36_6 : Xp 36 d 6 [v0, v1, v2, (0, x)] st t g Q = Xp 36 d 7 [v0, v1, v2, (0, x)] ((0, x) :: st) t g Q := Xp_go (i := .iload_n 3) (len := 1) (by decide +kernel) rfl
theorem x_36_7 : Xp 36 d 7 [(2, x), v1, v2, v3] st t g Q = Xp 36 d 8 [(2, x), v1, v2, v3] ((2, x) :: st) t g Q := Xp_go (i := .aload_n 0) (len := 1) (by decide +kernel) rfl
theorem x_36_8 : Xp 36 d 8 ls ((2, p) :: st) t g Q = (hkJK p = 1 ∧ Xp 36 d 11 ls ((0, g p 0) :: st) t g Q) := xr_getI (idx := 40) (ci := 1) (k := 0) (by decide +kernel) (by decide +kernel) (by decide +kernel)
theorem x_36_11 : Xp 36 d 11 ls ((0, b) :: (0, a) :: st) t g Q = ((b ≤ a → Xp 36 d 45 ls st t g Q) ∧ (¬ (b ≤ a) → Xp 36 d 14 ls st t g Q)) := xr_if2 (cd := .ge) (off := 34) (by decide +kernel) (by decide)
theorem x_36_14 : Xp 36 d 14 [v0, (0, x), v2, v3] st t g Q = Xp 36 d 15 [v0, (0, x), v2, v3] ((0, x) :: st) t g Q := Xp_go (i := .iload_n 1) (len := 1) (by decide +kernel) rfl
theorem x_36_15 : Xp 36 d 15 [(2, x), v1, v2, v3] st t g Q = Xp 36 d 16 [(2, x), v1, v2, v3] ((2, x) :: st) t g Q := Xp_go (i := .aload_n 0) (len := 1) (by decide +kernel) rfl
theorem x_36_16 : Xp 36 d 16 ls ((2, p) :: st) t g Q = (hkJK p = 1 ∧ jA p 11 ≤ t ∧ Xp 36 d 19 ls ((2, jR p 11) :: st) t g Q) := xr_getR (idx := 33) (ci := 1) (k := 11) (by decide +kernel) (by decide +kernel) (by decide +kernel)
theorem x_36_19 : Xp 36 d 19 [v0, v1, v2, (0, x)] st t g Q = Xp 36 d 20 [v0, v1, v2, (0, x)] ((0, x) :: st) t g Q := Xp_go (i := .iload_n 3) (len := 1) (by decide +kernel) rfl
theorem x_36_20 : Xp 36 d 20 ls ((0, a) :: (2, p) :: st) t g Q = ((hkJK p = 100 ∧ 0 ≤ a ∧ a < jL p) ∧ Xp 36 d 21 ls ((0, g p a) :: st) t g Q) := Xp_chk (i := .iaload) (len := 1) (by decide +kernel) rfl
theorem x_36_21 : Xp 36 d 21 ls ((0, b) :: (0, a) :: st) t g Q = Xp 36 d 22 ls ((0, hkW (a + b)) :: st) t g Q := Xp_go (i := .iadd) (len := 1) (by decide +kernel) rfl
theorem x_36_22 : Xp 36 d 22 [v0, v1, v2, v3] ((0, x) :: st) t g Q = (hkP1 v0 ∧ Xp 36 d 23 [v0, (0, x), v2, v3] st t g Q) := Xp_chk (i := .istore_n 1) (len := 1) (by decide +kernel) rfl
theorem x_36_23 : Xp 36 d 23 [v0, v1, (0, x), v3] st t g Q = Xp 36 d 24 [v0, v1, (0, x), v3] ((0, x) :: st) t g Q := Xp_go (i := .iload_n 2) (len := 1) (by decide +kernel) rfl
theorem x_36_24 : Xp 36 d 24 ls st t g Q = Xp 36 d 25 ls ((0, 1) :: st) t g Q := xr_const (c := 1) (by decide +kernel) (by decide)
theorem x_36_25 : Xp 36 d 25 [(2, x), v1, v2, v3] st t g Q = Xp 36 d 26 [(2, x), v1, v2, v3] ((2, x) :: st) t g Q := Xp_go (i := .aload_n 0) (len := 1) (by decide +kernel) rfl
theorem x_36_26 : Xp 36 d 26 [(2, x), v1, v2, v3] st t g Q = Xp 36 d 27 [(2, x), v1, v2, v3] ((2, x) :: st) t g Q := Xp_go (i := .aload_n 0) (len := 1) (by decide +kernel) rfl
theorem x_36_27 : Xp 36 d 27 ls ((2, p) :: st) t g Q = (hkJK p = 1 ∧ jA p 11 ≤ t ∧ Xp 36 d 30 ls ((2, jR p 11) :: st) t g Q) := xr_getR (idx := 33) (ci := 1) (k := 11) (by decide +kernel) (by decide +kernel) (by decide +kernel)
theorem x_36_30 : Xp 36 d 30 [v0, v1, v2, (0, x)] st t g Q = Xp 36 d 31 [v0, v1, v2, (0, x)] ((0, x) :: st) t g Q := Xp_go (i := .iload_n 3) (len := 1) (by decide +kernel) rfl
theorem x_36_31 : Xp 36 d 31 ls ((0, a) :: (2, p) :: st) t g Q = ((hkJK p = 100 ∧ 0 ≤ a ∧ a < jL p) ∧ Xp 36 d 32 ls ((0, g p a) :: st) t g Q) := Xp_chk (i := .iaload) (len := 1) (by decide +kernel) rfl
theorem x_36_32 : Xp 36 d 32 [v0, v1, v2, (0, x)] st t g Q = Xp 36 d 33 [v0, v1, v2, (0, x)] ((0, x) :: st) t g Q := Xp_go (i := .iload_n 3) (len := 1) (by decide +kernel) rfl
theorem x_36_33 : Xp 36 (d + 1) 33 ls ((0, a2) :: (0, a1) :: (2, a0) :: st) t g Q = (hkJK a0 = 1 ∧ hkC8 st ∧ Xp 37 d 0 [(2, a0), (0, a1), (0, a2)] [] t g (fun r t g => Xp 36 (d + 1) 36 ls (hkPush r st) t g Q)) := xr_invV (idx := 72) (y' := 37) (ci := 1) (tg := [2, 0, 0]) (by decide +kernel) (by decide +kernel) (by decide +kernel) (by decide +kernel) rfl rfl rfl
theorem x_36_36 : Xp 36 d 36 ls ((0, b) :: (0, a) :: st) t g Q = Xp 36 d 37 ls ((0, hkShl a b) :: st) t g Q := Xp_go (i := .ishl) (len := 1) (by decide +kernel) rfl
theorem x_36_37 : Xp 36 d 37 ls ((0, b) :: (0, a) :: st) t g Q = Xp 36 d 38 ls ((0, hkOr a b) :: st) t g Q := Xp_go (i := .ior) (len := 1) (by decide +kernel) rfl
theorem x_36_38 : Xp 36 d 38 [v0, v1, v2, v3] ((0, x) :: st) t g Q = (hkP1 v1 ∧ Xp 36 d 39 [v0, v1, (0, x), v3] st t g Q) := Xp_chk (i := .istore_n 2) (len := 1) (by decide +kernel) rfl
theorem x_36_39 : Xp 36 d 39 [v0, v1, v2, (0, x)] st t g Q = (hkP1 v2 ∧ Xp 36 d 42 [v0, v1, v2, (0, hkW (x + 1))] st t g Q) := Xp_chk (i := .iinc 3 (1)) (len := 3) (by decide +kernel) rfl
theorem x_36_42 : Xp 36 d 42 ls st t g Q = Xp 36 d 6 ls st t g Q := xr_goto (off := -36) (by decide +kernel) (by decide)
theorem x_36_45 : Xp 36 d 45 [v0, (0, x), v2, v3] st t g Q = Xp 36 d 46 [v0, (0, x), v2, v3] ((0, x) :: st) t g Q := Xp_go (i := .iload_n 1) (len := 1) (by decide +kernel) rfl
theorem x_36_46 : Xp 36 d 46 [(2, x), v1, v2, v3] st t g Q = Xp 36 d 47 [(2, x), v1, v2, v3] ((2, x) :: st) t g Q := Xp_go (i := .aload_n 0) (len := 1) (by decide +kernel) rfl
theorem x_36_47 : Xp 36 d 47 ls ((2, p) :: st) t g Q = (hkJK p = 1 ∧ Xp 36 d 50 ls ((0, g p 1) :: st) t g Q) := xr_getI (idx := 44) (ci := 1) (k := 1) (by decide +kernel) (by decide +kernel) (by decide +kernel)
theorem x_36_50 : Xp 36 d 50 ls ((0, b) :: (0, a) :: st) t g Q = (b ≠ 0 ∧ Xp 36 d 51 ls ((0, a.tmod b) :: st) t g Q) := Xp_chk (i := .irem) (len := 1) (by decide +kernel) rfl
theorem x_36_51 : Xp 36 d 51 [v0, v1, v2, v3] ((0, x) :: st) t g Q = (hkP1 v2 ∧ Xp 36 d 52 [v0, v1, v2, (0, x)] st t g Q) := Xp_chk (i := .istore_n 3) (len := 1) (by decide +kernel) rfl
theorem x_36_52 : Xp 36 d 52 [(2, x), v1, v2, v3] st t g Q = Xp 36 d 53 [(2, x), v1, v2, v3] ((2, x) :: st) t g Q := Xp_go (i := .aload_n 0) (len := 1) (by decide +kernel) rfl
theorem x_36_53 : Xp 36 d 53 ls ((2, p) :: st) t g Q = (hkJK p = 1 ∧ Xp 36 d 56 ls ((0, g p 3) :: st) t g Q) := xr_getI (idx := 50) (ci := 1) (k := 3) (by decide +kernel) (by decide +kernel) (by decide +kernel)
theorem x_36_56 : Xp 36 d 56 ls st t g Q = Xp 36 d 58 ls ((0, 35) :: st) t g Q := xr_bi (c := 35) (by decide +kernel) (by decide)
theorem x_36_58 : Xp 36 d 58 ls ((0, b) :: (0, a) :: st) t g Q = ((b ≤ a → Xp 36 d 71 ls st t g Q) ∧ (¬ (b ≤ a) → Xp 36 d 61 ls st t g Q)) := xr_if2 (cd := .ge) (off := 13) (by decide +kernel) (by decide)
theorem x_36_61 : Xp 36 d 61 [(2, x), v1, v2, v3] st t g Q = Xp 36 d 62 [(2, x), v1, v2, v3] ((2, x) :: st) t g Q := Xp_go (i := .aload_n 0) (len := 1) (by decide +kernel) rfl
theorem x_36_62 : Xp 36 d 62 ls ((2, p) :: st) t g Q = (hkJK p = 1 ∧ jA p 8 ≤ t ∧ Xp 36 d 65 ls ((2, jR p 8) :: st) t g Q) := xr_getR (idx := 24) (ci := 1) (k := 8) (by decide +kernel) (by decide +kernel) (by decide +kernel)
theorem x_36_65 : Xp 36 d 65 [v0, v1, v2, (0, x)] st t g Q = Xp 36 d 66 [v0, v1, v2, (0, x)] ((0, x) :: st) t g Q := Xp_go (i := .iload_n 3) (len := 1) (by decide +kernel) rfl
theorem x_36_66 : Xp 36 d 66 ls ((0, a) :: (2, p) :: st) t g Q = ((hkJK p = 100 ∧ 0 ≤ a ∧ a < jL p) ∧ Xp 36 d 67 ls ((0, g p a) :: st) t g Q) := Xp_chk (i := .iaload) (len := 1) (by decide +kernel) rfl
theorem x_36_67 : Xp 36 d 67 ls st t g Q = Xp 36 d 68 ls ((0, 5) :: st) t g Q := xr_const (c := 5) (by decide +kernel) (by decide)
theorem x_36_68 : Xp 36 d 68 ls ((0, b) :: (0, a) :: st) t g Q = ((a < b → Xp 36 d 72 ls st t g Q) ∧ (¬ (a < b) → Xp 36 d 71 ls st t g Q)) := xr_if2 (cd := .lt) (off := 4) (by decide +kernel) (by decide)
theorem x_36_71 : Xp 36 d 71 ls [] t g Q = Q none t g := xr_retV (by decide +kernel) (by decide +kernel)
theorem x_36_72 : Xp 36 d 72 [(2, x), v1, v2, v3] st t g Q = Xp 36 d 73 [(2, x), v1, v2, v3] ((2, x) :: st) t g Q := Xp_go (i := .aload_n 0) (len := 1) (by decide +kernel) rfl
theorem x_36_73 : Xp 36 d 73 ls ((2, p) :: st) t g Q = (hkJK p = 1 ∧ jA p 11 ≤ t ∧ Xp 36 d 76 ls ((2, jR p 11) :: st) t g Q) := xr_getR (idx := 33) (ci := 1) (k := 11) (by decide +kernel) (by decide +kernel) (by decide +kernel)
theorem x_36_76 : Xp 36 d 76 ls st t g Q = Xp 36 d 77 ls ((0, 0) :: st) t g Q := xr_const (c := 0) (by decide +kernel) (by decide)
theorem x_36_77 : Xp 36 d 77 [(2, x), v1, v2, v3] st t g Q = Xp 36 d 78 [(2, x), v1, v2, v3] ((2, x) :: st) t g Q := Xp_go (i := .aload_n 0) (len := 1) (by decide +kernel) rfl
theorem x_36_78 : Xp 36 d 78 ls ((2, p) :: st) t g Q = (hkJK p = 1 ∧ jA p 4 ≤ t ∧ Xp 36 d 81 ls ((2, jR p 4) :: st) t g Q) := xr_getR (idx := 9) (ci := 1) (k := 4) (by decide +kernel) (by decide +kernel) (by decide +kernel)
theorem x_36_81 : Xp 36 d 81 [(2, x), v1, v2, v3] st t g Q = Xp 36 d 82 [(2, x), v1, v2, v3] ((2, x) :: st) t g Q := Xp_go (i := .aload_n 0) (len := 1) (by decide +kernel) rfl
theorem x_36_82 : Xp 36 d 82 ls ((2, p) :: st) t g Q = (hkJK p = 1 ∧ Xp 36 d 85 ls ((0, g p 3) :: st) t g Q) := xr_getI (idx := 50) (ci := 1) (k := 3) (by decide +kernel) (by decide +kernel) (by decide +kernel)
theorem x_36_85 : Xp 36 d 85 ls st t g Q = Xp 36 d 86 ls ((0, 4) :: st) t g Q := xr_const (c := 4) (by decide +kernel) (by decide)
theorem x_36_86 : Xp 36 d 86 ls ((0, b) :: (0, a) :: st) t g Q = Xp 36 d 87 ls ((0, hkW (a * b)) :: st) t g Q := Xp_go (i := .imul) (len := 1) (by decide +kernel) rfl
theorem x_36_87 : Xp 36 d 87 ls st t g Q = Xp 36 d 88 ls ((0, 4) :: st) t g Q := xr_const (c := 4) (by decide +kernel) (by decide)
theorem x_36_88 : Xp 36 d 88 ls ((0, z) :: (0, b) :: (2, q) :: (0, a) :: (2, p) :: st) t g Q = ((hkJK p = 100 ∧ hkJK q = 100 ∧ 0 ≤ a ∧ 0 ≤ b ∧ 0 ≤ z ∧ a + z ≤ jL p ∧ b + z ≤ jL q) ∧ hkC8 st ∧ Xp 36 d 91 ls st t (hkCpy g p a q b z) Q) := xr_copy (idx := 75) (f := 999) (by decide +kernel) (by decide +kernel) (by decide +kernel)
theorem x_36_91 : Xp 36 d 91 [(2, x), v1, v2, v3] st t g Q = Xp 36 d 92 [(2, x), v1, v2, v3] ((2, x) :: st) t g Q := Xp_go (i := .aload_n 0) (len := 1) (by decide +kernel) rfl
theorem x_36_92 : Xp 36 d 92 ls ((2, p) :: st) t g Q = (hkJK p = 1 ∧ jA p 5 ≤ t ∧ Xp 36 d 95 ls ((2, jR p 5) :: st) t g Q) := xr_getR (idx := 15) (ci := 1) (k := 5) (by decide +kernel) (by decide +kernel) (by decide +kernel)
theorem x_36_95 : Xp 36 d 95 [(2, x), v1, v2, v3] st t g Q = Xp 36 d 96 [(2, x), v1, v2, v3] ((2, x) :: st) t g Q := Xp_go (i := .aload_n 0) (len := 1) (by decide +kernel) rfl
theorem x_36_96 : Xp 36 d 96 ls ((2, p) :: st) t g Q = (hkJK p = 1 ∧ Xp 36 d 99 ls ((0, g p 3) :: st) t g Q) := xr_getI (idx := 50) (ci := 1) (k := 3) (by decide +kernel) (by decide +kernel) (by decide +kernel)
theorem x_36_99 : Xp 36 d 99 [v0, (0, x), v2, v3] st t g Q = Xp 36 d 100 [v0, (0, x), v2, v3] ((0, x) :: st) t g Q := Xp_go (i := .iload_n 1) (len := 1) (by decide +kernel) rfl
theorem x_36_100 : Xp 36 d 100 ls ((0, x) :: (0, a) :: (2, p) :: st) t g Q = ((hkJK p = 100 ∧ (100 = 102 → x = 0 ∨ x = 1) ∧ 0 ≤ a ∧ a < jL p) ∧ Xp 36 d 101 ls st t (hkSet g p a x) Q) := Xp_chk (i := .iastore) (len := 1) (by decide +kernel) rfl
theorem x_36_101 : Xp 36 d 101 [(2, x), v1, v2, v3] st t g Q = Xp 36 d 102 [(2, x), v1, v2, v3] ((2, x) :: st) t g Q := Xp_go (i := .aload_n 0) (len := 1) (by decide +kernel) rfl
theorem x_36_102 : Xp 36 d 102 ls ((2, p) :: st) t g Q = (hkJK p = 1 ∧ jA p 6 ≤ t ∧ Xp 36 d 105 ls ((2, jR p 6) :: st) t g Q) := xr_getR (idx := 18) (ci := 1) (k := 6) (by decide +kernel) (by decide +kernel) (by decide +kernel)
theorem x_36_105 : Xp 36 d 105 [(2, x), v1, v2, v3] st t g Q = Xp 36 d 106 [(2, x), v1, v2, v3] ((2, x) :: st) t g Q := Xp_go (i := .aload_n 0) (len := 1) (by decide +kernel) rfl
theorem x_36_106 : Xp 36 d 106 ls ((2, p) :: st) t g Q = (hkJK p = 1 ∧ Xp 36 d 109 ls ((0, g p 3) :: st) t g Q) := xr_getI (idx := 50) (ci := 1) (k := 3) (by decide +kernel) (by decide +kernel) (by decide +kernel)
theorem x_36_109 : Xp 36 d 109 [v0, v1, (0, x), v3] st t g Q = Xp 36 d 110 [v0, v1, (0, x), v3] ((0, x) :: st) t g Q := Xp_go (i := .iload_n 2) (len := 1) (by decide +kernel) rfl
theorem x_36_110 : Xp 36 d 110 ls ((0, x) :: (0, a) :: (2, p) :: st) t g Q = ((hkJK p = 100 ∧ (100 = 102 → x = 0 ∨ x = 1) ∧ 0 ≤ a ∧ a < jL p) ∧ Xp 36 d 111 ls st t (hkSet g p a x) Q) := Xp_chk (i := .iastore) (len := 1) (by decide +kernel) rfl
theorem x_36_111 : Xp 36 d 111 [(2, x), v1, v2, v3] st t g Q = Xp 36 d 112 [(2, x), v1, v2, v3] ((2, x) :: st) t g Q := Xp_go (i := .aload_n 0) (len := 1) (by decide +kernel) rfl
theorem x_36_112 : Xp 36 d 112 ls ((2, p) :: st) t g Q = (hkJK p = 1 ∧ jA p 10 ≤ t ∧ Xp 36 d 115 ls ((2, jR p 10) :: st) t g Q) := xr_getR (idx := 30) (ci := 1) (k := 10) (by decide +kernel) (by decide +kernel) (by decide +kernel)
theorem x_36_115 : Xp 36 d 115 [v0, v1, (0, x), v3] st t g Q = Xp 36 d 116 [v0, v1, (0, x), v3] ((0, x) :: st) t g Q := Xp_go (i := .iload_n 2) (len := 1) (by decide +kernel) rfl
theorem x_36_116 : Xp 36 d 116 [(2, x), v1, v2, v3] st t g Q = Xp 36 d 117 [(2, x), v1, v2, v3] ((2, x) :: st) t g Q := Xp_go (i := .aload_n 0) (len := 1) (by decide +kernel) rfl
theorem x_36_117 : Xp 36 d 117 ls ((2, p) :: st) t g Q = (hkJK p = 1 ∧ Xp 36 d 120 ls ((0, g p 3) :: st) t g Q) := xr_getI (idx := 50) (ci := 1) (k := 3) (by decide +kernel) (by decide +kernel) (by decide +kernel)
theorem x_36_120 : Xp 36 d 120 ls ((0, x) :: (0, a) :: (2, p) :: st) t g Q = ((hkJK p = 100 ∧ (100 = 102 → x = 0 ∨ x = 1) ∧ 0 ≤ a ∧ a < jL p) ∧ Xp 36 d 121 ls st t (hkSet g p a x) Q) := Xp_chk (i := .iastore) (len := 1) (by decide +kernel) rfl
theorem x_36_121 : Xp 36 d 121 [(2, x), v1, v2, v3] st t g Q = Xp 36 d 122 [(2, x), v1, v2, v3] ((2, x) :: st) t g Q := Xp_go (i := .aload_n 0) (len := 1) (by decide +kernel) rfl
theorem x_36_122 : Xp 36 d 122 ls ((2, p) :: st) t g Q = (hkJK p = 1 ∧ jA p 9 ≤ t ∧ Xp 36 d 125 ls ((2, jR p 9) :: st) t g Q) := xr_getR (idx := 27) (ci := 1) (k := 9) (by decide +kernel) (by decide +kernel) (by decide +kernel)
theorem x_36_125 : Xp 36 d 125 [(2, x), v1, v2, v3] st t g Q = Xp 36 d 126 [(2, x), v1, v2, v3] ((2, x) :: st) t g Q := Xp_go (i := .aload_n 0) (len := 1) (by decide +kernel) rfl
theorem x_36_126 : Xp 36 d 126 ls ((2, p) :: st) t g Q = (hkJK p = 1 ∧ Xp 36 d 129 ls ((0, g p 3) :: st) t g Q) := xr_getI (idx := 50) (ci := 1) (k := 3) (by decide +kernel) (by decide +kernel) (by decide +kernel)
theorem x_36_129 : Xp 36 d 129 [(2, x), v1, v2, v3] st t g Q = Xp 36 d 130 [(2, x), v1, v2, v3] ((2, x) :: st) t g Q := Xp_go (i := .aload_n 0) (len := 1) (by decide +kernel) rfl
theorem x_36_130 : Xp 36 d 130 ls ((2, p) :: st) t g Q = (hkJK p = 1 ∧ jA p 8 ≤ t ∧ Xp 36 d 133 ls ((2, jR p 8) :: st) t g Q) := xr_getR (idx := 24) (ci := 1) (k := 8) (by decide +kernel) (by decide +kernel) (by decide +kernel)
theorem x_36_133 : Xp 36 d 133 [v0, v1, v2, (0, x)] st t g Q = Xp 36 d 134 [v0, v1, v2, (0, x)] ((0, x) :: st) t g Q := Xp_go (i := .iload_n 3) (len := 1) (by decide +kernel) rfl
theorem x_36_134 : Xp 36 d 134 ls ((0, a) :: (2, p) :: st) t g Q = ((hkJK p = 100 ∧ 0 ≤ a ∧ a < jL p) ∧ Xp 36 d 135 ls ((0, g p a) :: st) t g Q) := Xp_chk (i := .iaload) (len := 1) (by decide +kernel) rfl
theorem x_36_135 : Xp 36 d 135 ls ((0, x) :: (0, a) :: (2, p) :: st) t g Q = ((hkJK p = 100 ∧ (100 = 102 → x = 0 ∨ x = 1) ∧ 0 ≤ a ∧ a < jL p) ∧ Xp 36 d 136 ls st t (hkSet g p a x) Q) := Xp_chk (i := .iastore) (len := 1) (by decide +kernel) rfl
theorem x_36_136 : Xp 36 d 136 [(2, x), v1, v2, v3] st t g Q = Xp 36 d 137 [(2, x), v1, v2, v3] ((2, x) :: st) t g Q := Xp_go (i := .aload_n 0) (len := 1) (by decide +kernel) rfl
theorem x_36_137 : Xp 36 d 137 ls ((2, p) :: st) t g Q = (hkJK p = 1 ∧ jA p 7 ≤ t ∧ Xp 36 d 140 ls ((2, jR p 7) :: st) t g Q) := xr_getR (idx := 21) (ci := 1) (k := 7) (by decide +kernel) (by decide +kernel) (by decide +kernel)
theorem x_36_140 : Xp 36 d 140 [v0, v1, v2, (0, x)] st t g Q = Xp 36 d 141 [v0, v1, v2, (0, x)] ((0, x) :: st) t g Q := Xp_go (i := .iload_n 3) (len := 1) (by decide +kernel) rfl
theorem x_36_141 : Xp 36 d 141 ls st t g Q = Xp 36 d 142 ls ((0, 5) :: st) t g Q := xr_const (c := 5) (by decide +kernel) (by decide)
theorem x_36_142 : Xp 36 d 142 ls ((0, b) :: (0, a) :: st) t g Q = Xp 36 d 143 ls ((0, hkW (a * b)) :: st) t g Q := Xp_go (i := .imul) (len := 1) (by decide +kernel) rfl
theorem x_36_143 : Xp 36 d 143 [(2, x), v1, v2, v3] st t g Q = Xp 36 d 144 [(2, x), v1, v2, v3] ((2, x) :: st) t g Q := Xp_go (i := .aload_n 0) (len := 1) (by decide +kernel) rfl
theorem x_36_144 : Xp 36 d 144 ls ((2, p) :: st) t g Q = (hkJK p = 1 ∧ jA p 8 ≤ t ∧ Xp 36 d 147 ls ((2, jR p 8) :: st) t g Q) := xr_getR (idx := 24) (ci := 1) (k := 8) (by decide +kernel) (by decide +kernel) (by decide +kernel)
theorem x_36_147 : Xp 36 d 147 [v0, v1, v2, (0, x)] st t g Q = Xp 36 d 148 [v0, v1, v2, (0, x)] ((0, x) :: st) t g Q := Xp_go (i := .iload_n 3) (len := 1) (by decide +kernel) rfl
theorem x_36_148 : Xp 36 d 148 ls ((0, a) :: (2, p) :: st) t g Q = ((hkJK p = 100 ∧ 0 ≤ a ∧ a < jL p) ∧ Xp 36 d 149 ls ((0, g p a) :: st) t g Q) := Xp_chk (i := .iaload) (len := 1) (by decide +kernel) rfl
theorem x_36_149 : Xp 36 d 149 ls ((0, b) :: (0, a) :: st) t g Q = Xp 36 d 150 ls ((0, hkW (a + b)) :: st) t g Q := Xp_go (i := .iadd) (len := 1) (by decide +kernel) rfl
theorem x_36_150 : Xp 36 d 150 [(2, x), v1, v2, v3] st t g Q = Xp 36 d 151 [(2, x), v1, v2, v3] ((2, x) :: st) t g Q := Xp_go (i := .aload_n 0) (len := 1) (by decide +kernel) rfl
theorem x_36_151 : Xp 36 d 151 ls ((2, p) :: st) t g Q = (hkJK p = 1 ∧ Xp 36 d 154 ls ((0, g p 3) :: st) t g Q) := xr_getI (idx := 50) (ci := 1) (k := 3) (by decide +kernel) (by decide +kernel) (by decide +kernel)
theorem x_36_154 : Xp 36 d 154 ls ((0, x) :: (0, a) :: (2, p) :: st) t g Q = ((hkJK p = 100 ∧ (100 = 102 → x = 0 ∨ x = 1) ∧ 0 ≤ a ∧ a < jL p) ∧ Xp 36 d 155 ls st t (hkSet g p a x) Q) := Xp_chk (i := .iastore) (len := 1) (by decide +kernel) rfl
theorem x_36_155 : Xp 36 d 155 [(2, x), v1, v2, v3] st t g Q = Xp 36 d 156 [(2, x), v1, v2, v3] ((2, x) :: st) t g Q := Xp_go (i := .aload_n 0) (len := 1) (by decide +kernel) rfl
theorem x_36_156 : Xp 36 d 156 ls ((2, p) :: st) t g Q = (hkJK p = 1 ∧ jA p 8 ≤ t ∧ Xp 36 d 159 ls ((2, jR p 8) :: st) t g Q) := xr_getR (idx := 24) (ci := 1) (k := 8) (by decide +kernel) (by decide +kernel) (by decide +kernel)
theorem x_36_159 : Xp 36 d 159 [v0, v1, v2, (0, x)] st t g Q = Xp 36 d 160 [v0, v1, v2, (0, x)] ((0, x) :: st) t g Q := Xp_go (i := .iload_n 3) (len := 1) (by decide +kernel) rfl
theorem x_36_160 : Xp 36 d 160 ls (v :: w :: st) t g Q = ((hkP1 v ∧ hkP1 w) ∧ Xp 36 d 161 ls (v :: w :: v :: w :: st) t g Q) := Xp_chk (i := .dup2) (len := 1) (by decide +kernel) rfl
theorem x_36_161 : Xp 36 d 161 ls ((0, a) :: (2, p) :: st) t g Q = ((hkJK p = 100 ∧ 0 ≤ a ∧ a < jL p) ∧ Xp 36 d 162 ls ((0, g p a) :: st) t g Q) := Xp_chk (i := .iaload) (len := 1) (by decide +kernel) rfl
theorem x_36_162 : Xp 36 d 162 ls st t g Q = Xp 36 d 163 ls ((0, 1) :: st) t g Q := xr_const (c := 1) (by decide +kernel) (by decide)
theorem x_36_163 : Xp 36 d 163 ls ((0, b) :: (0, a) :: st) t g Q = Xp 36 d 164 ls ((0, hkW (a + b)) :: st) t g Q := Xp_go (i := .iadd) (len := 1) (by decide +kernel) rfl
theorem x_36_164 : Xp 36 d 164 ls ((0, x) :: (0, a) :: (2, p) :: st) t g Q = ((hkJK p = 100 ∧ (100 = 102 → x = 0 ∨ x = 1) ∧ 0 ≤ a ∧ a < jL p) ∧ Xp 36 d 165 ls st t (hkSet g p a x) Q) := Xp_chk (i := .iastore) (len := 1) (by decide +kernel) rfl
theorem x_36_165 : Xp 36 d 165 [(2, x), v1, v2, v3] st t g Q = Xp 36 d 166 [(2, x), v1, v2, v3] ((2, x) :: st) t g Q := Xp_go (i := .aload_n 0) (len := 1) (by decide +kernel) rfl
theorem x_36_166 : Xp 36 d 166 ls (v :: st) t g Q = (hkP1 v ∧ Xp 36 d 167 ls (v :: v :: st) t g Q) := Xp_chk (i := .dup) (len := 1) (by decide +kernel) rfl
theorem x_36_167 : Xp 36 d 167 ls ((2, p) :: st) t g Q = (hkJK p = 1 ∧ Xp 36 d 170 ls ((0, g p 3) :: st) t g Q) := xr_getI (idx := 50) (ci := 1) (k := 3) (by decide +kernel) (by decide +kernel) (by decide +kernel)
theorem x_36_170 : Xp 36 d 170 ls st t g Q = Xp 36 d 171 ls ((0, 1) :: st) t g Q := xr_const (c := 1) (by decide +kernel) (by decide)
theorem x_36_171 : Xp 36 d 171 ls ((0, b) :: (0, a) :: st) t g Q = Xp 36 d 172 ls ((0, hkW (a + b)) :: st) t g Q := Xp_go (i := .iadd) (len := 1) (by decide +kernel) rfl
theorem x_36_172 : Xp 36 d 172 ls ((0, x) :: (2, p) :: st) t g Q = (hkJK p = 1 ∧ Xp 36 d 175 ls st t (hkSet g p 3 x) Q) := xr_putI (idx := 50) (ci := 1) (k := 3) (by decide +kernel) (by decide +kernel) (by decide +kernel)
theorem x_36_175 : Xp 36 d 175 ls [] t g Q = Q none t g := xr_retV (by decide +kernel) (by decide +kernel)
-- 37: HookBoxes$Box.beadOf(II)I
theorem x_37_0 : Xp 37 d 0 [v0, (0, x), v2] st t g Q = Xp 37 d 1 [v0, (0, x), v2] ((0, x) :: st) t g Q := Xp_go (i := .iload_n 1) (len := 1) (by decide +kernel) rfl
theorem x_37_1 : Xp 37 d 1 [(2, x), v1, v2] st t g Q = Xp 37 d 2 [(2, x), v1, v2] ((2, x) :: st) t g Q := Xp_go (i := .aload_n 0) (len := 1) (by decide +kernel) rfl
theorem x_37_2 : Xp 37 d 2 ls ((2, p) :: st) t g Q = (hkJK p = 1 ∧ Xp 37 d 5 ls ((0, g p 0) :: st) t g Q) := xr_getI (idx := 40) (ci := 1) (k := 0) (by decide +kernel) (by decide +kernel) (by decide +kernel)
theorem x_37_5 : Xp 37 d 5 ls ((0, b) :: (0, a) :: st) t g Q = Xp 37 d 6 ls ((0, hkW (a + b)) :: st) t g Q := Xp_go (i := .iadd) (len := 1) (by decide +kernel) rfl
theorem x_37_6 : Xp 37 d 6 ls st t g Q = Xp 37 d 7 ls ((0, 1) :: st) t g Q := xr_const (c := 1) (by decide +kernel) (by decide)
theorem x_37_7 : Xp 37 d 7 ls ((0, b) :: (0, a) :: st) t g Q = Xp 37 d 8 ls ((0, hkW (a - b)) :: st) t g Q := Xp_go (i := .isub) (len := 1) (by decide +kernel) rfl
theorem x_37_8 : Xp 37 d 8 [v0, v1, (0, x)] st t g Q = Xp 37 d 9 [v0, v1, (0, x)] ((0, x) :: st) t g Q := Xp_go (i := .iload_n 2) (len := 1) (by decide +kernel) rfl
theorem x_37_9 : Xp 37 d 9 ls ((0, b) :: (0, a) :: st) t g Q = Xp 37 d 10 ls ((0, hkW (a - b)) :: st) t g Q := Xp_go (i := .isub) (len := 1) (by decide +kernel) rfl
theorem x_37_10 : Xp 37 d 10 ls [(0, x)] t g Q = Q (some (0, x)) t g := xr_retI (by decide +kernel) (by decide +kernel)
-- 38: HookBoxes$Box.withWord(I)I
theorem x_38_0 : Xp 38 d 0 [v0, (0, x)] st t g Q = Xp 38 d 1 [v0, (0, x)] ((0, x) :: st) t g Q := Xp_go (i := .iload_n 1) (len := 1) (by decide +kernel) rfl
theorem x_38_1 : Xp 38 d 1 ls ((0, a) :: st) t g Q = ((a < 0 → Xp 38 d 22 ls st t g Q) ∧ (¬ (a < 0) → Xp 38 d 4 ls st t g Q)) := xr_if1 (cd := .lt) (off := 21) (by decide +kernel) (by decide)
theorem x_38_4 : Xp 38 d 4 [v0, (0, x)] st t g Q = Xp 38 d 5 [v0, (0, x)] ((0, x) :: st) t g Q := Xp_go (i := .iload_n 1) (len := 1) (by decide +kernel) rfl
theorem x_38_5 : Xp 38 d 5 [(2, x), v1] st t g Q = Xp 38 d 6 [(2, x), v1] ((2, x) :: st) t g Q := Xp_go (i := .aload_n 0) (len := 1) (by decide +kernel) rfl
theorem x_38_6 : Xp 38 d 6 ls ((2, p) :: st) t g Q = (hkJK p = 1 ∧ jA p 10 ≤ t ∧ Xp 38 d 9 ls ((2, jR p 10) :: st) t g Q) := xr_getR (idx := 30) (ci := 1) (k := 10) (by decide +kernel) (by decide +kernel) (by decide +kernel)
theorem x_38_9 : Xp 38 d 9 ls ((2, p) :: st) t g Q = ((100 ≤ hkJK p ∧ hkJK p ≤ 104) ∧ Xp 38 d 10 ls ((0, jL p) :: st) t g Q) := Xp_chk (i := .arraylength) (len := 1) (by decide +kernel) rfl
theorem x_38_10 : Xp 38 d 10 ls ((0, b) :: (0, a) :: st) t g Q = ((b ≤ a → Xp 38 d 22 ls st t g Q) ∧ (¬ (b ≤ a) → Xp 38 d 13 ls st t g Q)) := xr_if2 (cd := .ge) (off := 12) (by decide +kernel) (by decide)
theorem x_38_13 : Xp 38 d 13 [(2, x), v1] st t g Q = Xp 38 d 14 [(2, x), v1] ((2, x) :: st) t g Q := Xp_go (i := .aload_n 0) (len := 1) (by decide +kernel) rfl
theorem x_38_14 : Xp 38 d 14 ls ((2, p) :: st) t g Q = (hkJK p = 1 ∧ jA p 10 ≤ t ∧ Xp 38 d 17 ls ((2, jR p 10) :: st) t g Q) := xr_getR (idx := 30) (ci := 1) (k := 10) (by decide +kernel) (by decide +kernel) (by decide +kernel)
theorem x_38_17 : Xp 38 d 17 [v0, (0, x)] st t g Q = Xp 38 d 18 [v0, (0, x)] ((0, x) :: st) t g Q := Xp_go (i := .iload_n 1) (len := 1) (by decide +kernel) rfl
theorem x_38_18 : Xp 38 d 18 ls ((0, a) :: (2, p) :: st) t g Q = ((hkJK p = 100 ∧ 0 ≤ a ∧ a < jL p) ∧ Xp 38 d 19 ls ((0, g p a) :: st) t g Q) := Xp_chk (i := .iaload) (len := 1) (by decide +kernel) rfl
theorem x_38_19 : Xp 38 d 19 ls st t g Q = Xp 38 d 23 ls st t g Q := xr_goto (off := 4) (by decide +kernel) (by decide)
theorem x_38_22 : Xp 38 d 22 ls st t g Q = Xp 38 d 23 ls ((0, -1) :: st) t g Q := xr_const (c := -1) (by decide +kernel) (by decide)
theorem x_38_23 : Xp 38 d 23 ls [(0, x)] t g Q = Q (some (0, x)) t g := xr_retI (by decide +kernel) (by decide +kernel)
-- 39: HookBoxes$Box.isShape(I)Z
theorem x_39_0 : Xp 39 d 0 [v0, (0, x)] st t g Q = Xp 39 d 1 [v0, (0, x)] ((0, x) :: st) t g Q := Xp_go (i := .iload_n 1) (len := 1) (by decide +kernel) rfl
theorem x_39_1 : Xp 39 d 1 ls ((0, a) :: st) t g Q = ((a < 0 → Xp 39 d 16 ls st t g Q) ∧ (¬ (a < 0) → Xp 39 d 4 ls st t g Q)) := xr_if1 (cd := .lt) (off := 15) (by decide +kernel) (by decide)
theorem x_39_4 : Xp 39 d 4 [v0, (0, x)] st t g Q = Xp 39 d 5 [v0, (0, x)] ((0, x) :: st) t g Q := Xp_go (i := .iload_n 1) (len := 1) (by decide +kernel) rfl
theorem x_39_5 : Xp 39 d 5 [(2, x), v1] st t g Q = Xp 39 d 6 [(2, x), v1] ((2, x) :: st) t g Q := Xp_go (i := .aload_n 0) (len := 1) (by decide +kernel) rfl
theorem x_39_6 : Xp 39 d 6 ls ((2, p) :: st) t g Q = (hkJK p = 1 ∧ Xp 39 d 9 ls ((0, g p 3) :: st) t g Q) := xr_getI (idx := 50) (ci := 1) (k := 3) (by decide +kernel) (by decide +kernel) (by decide +kernel)
theorem x_39_9 : Xp 39 d 9 ls ((0, b) :: (0, a) :: st) t g Q = ((b ≤ a → Xp 39 d 16 ls st t g Q) ∧ (¬ (b ≤ a) → Xp 39 d 12 ls st t g Q)) := xr_if2 (cd := .ge) (off := 7) (by decide +kernel) (by decide)
theorem x_39_12 : Xp 39 d 12 ls st t g Q = Xp 39 d 13 ls ((0, 1) :: st) t g Q := xr_const (c := 1) (by decide +kernel) (by decide)
theorem x_39_13 : Xp 39 d 13 ls st t g Q = Xp 39 d 17 ls st t g Q := xr_goto (off := 4) (by decide +kernel) (by decide)
theorem x_39_16 : Xp 39 d 16 ls st t g Q = Xp 39 d 17 ls ((0, 0) :: st) t g Q := xr_const (c := 0) (by decide +kernel) (by decide)
theorem x_39_17 : Xp 39 d 17 ls [(0, x)] t g Q = ((x = 0 ∨ x = 1) ∧ Q (some (0, x)) t g) := xr_retZ (by decide +kernel) (by decide +kernel)
-- 40: HookBoxes$Box.numbered(I)I
theorem x_40_0 : Xp 40 d 0 ls st t g Q = Xp 40 d 1 ls ((0, 0) :: st) t g Q := xr_const (c := 0) (by decide +kernel) (by decide)
theorem x_40_1 : Xp 40 d 1 [v0, v1, v2, v3, v4, v5, v6, v7] ((0, x) :: st) t g Q = (hkP1 v1 ∧ Xp 40 d 2 [v0, v1, (0, x), v3, v4, v5, v6, v7] st t g Q) := Xp_chk (i := .istore_n 2) (len := 1) (by decide +kernel) rfl
theorem x_40_2 : Xp 40 d 2 [v0, (0, x), v2, v3, v4, v5, v6, v7] st t g Q = Xp 40 d 3 [v0, (0, x), v2, v3, v4, v5, v6, v7] ((0, x) :: st) t g Q := Xp_go (i := .iload_n 1) (len := 1) (by decide +kernel) rfl
theorem x_40_3 : Xp 40 d 3 [v0, v1, v2, v3, v4, v5, v6, v7] ((0, x) :: st) t g Q = (hkP1 v2 ∧ Xp 40 d 4 [v0, v1, v2, (0, x), v4, v5, v6, v7] st t g Q) := Xp_chk (i := .istore_n 3) (len := 1) (by decide +kernel) rfl
theorem x_40_4 : Xp 40 d 4 [v0, v1, v2, (0, x), v4, v5, v6, v7] st t g Q = Xp 40 d 5 [v0, v1, v2, (0, x), v4, v5, v6, v7] ((0, x) :: st) t g Q := Xp_go (i := .iload_n 3) (len := 1) (by decide +kernel) rfl
theorem x_40_5 : Xp 40 d 5 ls ((0, a) :: st) t g Q = ((a ≤ 0 → Xp 40 d 19 ls st t g Q) ∧ (¬ (a ≤ 0) → Xp 40 d 8 ls st t g Q)) := xr_if1 (cd := .le) (off := 14) (by decide +kernel) (by decide)
theorem x_40_8 : Xp 40 d 8 [v0, v1, (0, x), v3, v4, v5, v6, v7] st t g Q = (hkP1 v1 ∧ Xp 40 d 11 [v0, v1, (0, hkW (x + 1)), v3, v4, v5, v6, v7] st t g Q) := Xp_chk (i := .iinc 2 (1)) (len := 3) (by decide +kernel) rfl
theorem x_40_11 : Xp 40 d 11 [v0, v1, v2, (0, x), v4, v5, v6, v7] st t g Q = Xp 40 d 12 [v0, v1, v2, (0, x), v4, v5, v6, v7] ((0, x) :: st) t g Q := Xp_go (i := .iload_n 3) (len := 1) (by decide +kernel) rfl
theorem x_40_12 : Xp 40 d 12 ls st t g Q = Xp 40 d 14 ls ((0, 10) :: st) t g Q := xr_bi (c := 10) (by decide +kernel) (by decide)
theorem x_40_14 : Xp 40 d 14 ls ((0, b) :: (0, a) :: st) t g Q = (b ≠ 0 ∧ Xp 40 d 15 ls ((0, hkW (a.tdiv b)) :: st) t g Q) := Xp_chk (i := .idiv) (len := 1) (by decide +kernel) rfl
theorem x_40_15 : Xp 40 d 15 [v0, v1, v2, v3, v4, v5, v6, v7] ((0, x) :: st) t g Q = (hkP1 v2 ∧ Xp 40 d 16 [v0, v1, v2, (0, x), v4, v5, v6, v7] st t g Q) := Xp_chk (i := .istore_n 3) (len := 1) (by decide +kernel) rfl
theorem x_40_16 : Xp 40 d 16 ls st t g Q = Xp 40 d 4 ls st t g Q := xr_goto (off := -12) (by decide +kernel) (by decide)
theorem x_40_19 : Xp 40 d 19 [v0, v1, (0, x), v3, v4, v5, v6, v7] st t g Q = Xp 40 d 20 [v0, v1, (0, x), v3, v4, v5, v6, v7] ((0, x) :: st) t g Q := Xp_go (i := .iload_n 2) (len := 1) (by decide +kernel) rfl
theorem x_40_20 : Xp 40 d 20 [(2, x), v1, v2, v3, v4, v5, v6, v7] st t g Q = Xp 40 d 21 [(2, x), v1, v2, v3, v4, v5, v6, v7] ((2, x) :: st) t g Q := Xp_go (i := .aload_n 0) (len := 1) (by decide +kernel) rfl
theorem x_40_21 : Xp 40 d 21 ls ((2, p) :: st) t g Q = (hkJK p = 1 ∧ Xp 40 d 24 ls ((0, g p 0) :: st) t g Q) := xr_getI (idx := 40) (ci := 1) (k := 0) (by decide +kernel) (by decide +kernel) (by decide +kernel)
theorem x_40_24 : Xp 40 d 24 ls ((0, b) :: (0, a) :: st) t g Q = ((a ≤ b → Xp 40 d 29 ls st t g Q) ∧ (¬ (a ≤ b) → Xp 40 d 27 ls st t g Q)) := xr_if2 (cd := .le) (off := 5) (by decide +kernel) (by decide)
theorem x_40_27 : Xp 40 d 27 ls st t g Q = Xp 40 d 28 ls ((0, -1) :: st) t g Q := xr_const (c := -1) (by decide +kernel) (by decide)
theorem x_40_28 : Xp 40 d 28 ls [(0, x)] t g Q = Q (some (0, x)) t g := xr_retI (by decide +kernel) (by decide +kernel)
theorem x_40_29 : Xp 40 d 29 ls st t g Q = Xp 40 d 30 ls ((0, 1) :: st) t g Q := xr_const (c := 1) (by decide +kernel) (by decide)
theorem x_40_30 : Xp 40 d 30 [(2, x), v1, v2, v3, v4, v5, v6, v7] st t g Q = Xp 40 d 31 [(2, x), v1, v2, v3, v4, v5, v6, v7] ((2, x) :: st) t g Q := Xp_go (i := .aload_n 0) (len := 1) (by decide +kernel) rfl
theorem x_40_31 : Xp 40 d 31 ls ((2, p) :: st) t g Q = (hkJK p = 1 ∧ Xp 40 d 34 ls ((0, g p 0) :: st) t g Q) := xr_getI (idx := 40) (ci := 1) (k := 0) (by decide +kernel) (by decide +kernel) (by decide +kernel)
theorem x_40_34 : Xp 40 d 34 [v0, v1, (0, x), v3, v4, v5, v6, v7] st t g Q = Xp 40 d 35 [v0, v1, (0, x), v3, v4, v5, v6, v7] ((0, x) :: st) t g Q := Xp_go (i := .iload_n 2) (len := 1) (by decide +kernel) rfl
theorem x_40_35 : Xp 40 d 35 ls ((0, b) :: (0, a) :: st) t g Q = Xp 40 d 36 ls ((0, hkW (a - b)) :: st) t g Q := Xp_go (i := .isub) (len := 1) (by decide +kernel) rfl
theorem x_40_36 : Xp 40 d 36 ls ((0, b) :: (0, a) :: st) t g Q = Xp 40 d 37 ls ((0, hkShl a b) :: st) t g Q := Xp_go (i := .ishl) (len := 1) (by decide +kernel) rfl
theorem x_40_37 : Xp 40 d 37 ls st t g Q = Xp 40 d 38 ls ((0, 1) :: st) t g Q := xr_const (c := 1) (by decide +kernel) (by decide)
theorem x_40_38 : Xp 40 d 38 ls ((0, b) :: (0, a) :: st) t g Q = Xp 40 d 39 ls ((0, hkW (a - b)) :: st) t g Q := Xp_go (i := .isub) (len := 1) (by decide +kernel) rfl
theorem x_40_39 : Xp 40 d 39 [v0, v1, v2, v3, v4, v5, v6, v7] ((0, x) :: st) t g Q = (hkP1 v2 ∧ Xp 40 d 40 [v0, v1, v2, (0, x), v4, v5, v6, v7] st t g Q) := Xp_chk (i := .istore_n 3) (len := 1) (by decide +kernel) rfl
theorem x_40_40 : Xp 40 d 40 [v0, (0, x), v2, v3, v4, v5, v6, v7] st t g Q = Xp 40 d 41 [v0, (0, x), v2, v3, v4, v5, v6, v7] ((0, x) :: st) t g Q := Xp_go (i := .iload_n 1) (len := 1) (by decide +kernel) rfl
theorem x_40_41 : Xp 40 d 41 [v0, v1, v2, v3, v4, v5, v6, v7] ((0, x) :: st) t g Q = (hkP1 v3 ∧ Xp 40 d 43 [v0, v1, v2, v3, (0, x), v5, v6, v7] st t g Q) := Xp_chk (i := .istore 4) (len := 2) (by decide +kernel) rfl
theorem x_40_43 : Xp 40 d 43 ls st t g Q = Xp 40 d 44 ls ((0, 1) :: st) t g Q := xr_const (c := 1) (by decide +kernel) (by decide)
theorem x_40_44 : Xp 40 d 44 [v0, v1, v2, v3, v4, v5, v6, v7] ((0, x) :: st) t g Q = (hkP1 v4 ∧ Xp 40 d 46 [v0, v1, v2, v3, v4, (0, x), v6, v7] st t g Q) := Xp_chk (i := .istore 5) (len := 2) (by decide +kernel) rfl
theorem x_40_46 : Xp 40 d 46 [v0, v1, (0, x), v3, v4, v5, v6, v7] st t g Q = Xp 40 d 47 [v0, v1, (0, x), v3, v4, v5, v6, v7] ((0, x) :: st) t g Q := Xp_go (i := .iload_n 2) (len := 1) (by decide +kernel) rfl
theorem x_40_47 : Xp 40 d 47 ls st t g Q = Xp 40 d 48 ls ((0, 1) :: st) t g Q := xr_const (c := 1) (by decide +kernel) (by decide)
theorem x_40_48 : Xp 40 d 48 ls ((0, b) :: (0, a) :: st) t g Q = Xp 40 d 49 ls ((0, hkW (a - b)) :: st) t g Q := Xp_go (i := .isub) (len := 1) (by decide +kernel) rfl
theorem x_40_49 : Xp 40 d 49 [v0, v1, v2, v3, v4, v5, v6, v7] ((0, x) :: st) t g Q = (hkP1 v5 ∧ Xp 40 d 51 [v0, v1, v2, v3, v4, v5, (0, x), v7] st t g Q) := Xp_chk (i := .istore 6) (len := 2) (by decide +kernel) rfl
theorem x_40_51 : Xp 40 d 51 [v0, v1, v2, v3, v4, v5, (0, x), v7] st t g Q = Xp 40 d 53 [v0, v1, v2, v3, v4, v5, (0, x), v7] ((0, x) :: st) t g Q := Xp_go (i := .iload 6) (len := 2) (by decide +kernel) rfl
theorem x_40_53 : Xp 40 d 53 ls ((0, a) :: st) t g Q = ((a < 0 → Xp 40 d 111 ls st t g Q) ∧ (¬ (a < 0) → Xp 40 d 56 ls st t g Q)) := xr_if1 (cd := .lt) (off := 58) (by decide +kernel) (by decide)
theorem x_40_56 : Xp 40 d 56 [v0, v1, v2, v3, (0, x), v5, v6, v7] st t g Q = Xp 40 d 58 [v0, v1, v2, v3, (0, x), v5, v6, v7] ((0, x) :: st) t g Q := Xp_go (i := .iload 4) (len := 2) (by decide +kernel) rfl
theorem x_40_58 : Xp 40 d 58 ls st t g Q = Xp 40 d 60 ls ((0, 10) :: st) t g Q := xr_bi (c := 10) (by decide +kernel) (by decide)
theorem x_40_60 : Xp 40 d 60 ls ((0, b) :: (0, a) :: st) t g Q = (b ≠ 0 ∧ Xp 40 d 61 ls ((0, a.tmod b) :: st) t g Q) := Xp_chk (i := .irem) (len := 1) (by decide +kernel) rfl
theorem x_40_61 : Xp 40 d 61 [v0, v1, v2, v3, v4, v5, v6, v7] ((0, x) :: st) t g Q = (hkP1 v6 ∧ Xp 40 d 63 [v0, v1, v2, v3, v4, v5, v6, (0, x)] st t g Q) := Xp_chk (i := .istore 7) (len := 2) (by decide +kernel) rfl
theorem x_40_63 : Xp 40 d 63 [v0, v1, v2, v3, v4, v5, v6, (0, x)] st t g Q = Xp 40 d 65 [v0, v1, v2, v3, v4, v5, v6, (0, x)] ((0, x) :: st) t g Q := Xp_go (i := .iload 7) (len := 2) (by decide +kernel) rfl
theorem x_40_65 : Xp 40 d 65 [v0, v1, v2, v3, v4, (0, x), v6, v7] st t g Q = Xp 40 d 67 [v0, v1, v2, v3, v4, (0, x), v6, v7] ((0, x) :: st) t g Q := Xp_go (i := .iload 5) (len := 2) (by decide +kernel) rfl
theorem x_40_67 : Xp 40 d 67 ls ((0, b) :: (0, a) :: st) t g Q = ((a < b → Xp 40 d 79 ls st t g Q) ∧ (¬ (a < b) → Xp 40 d 70 ls st t g Q)) := xr_if2 (cd := .lt) (off := 12) (by decide +kernel) (by decide)
theorem x_40_70 : Xp 40 d 70 [v0, v1, v2, v3, v4, v5, v6, (0, x)] st t g Q = Xp 40 d 72 [v0, v1, v2, v3, v4, v5, v6, (0, x)] ((0, x) :: st) t g Q := Xp_go (i := .iload 7) (len := 2) (by decide +kernel) rfl
theorem x_40_72 : Xp 40 d 72 [(2, x), v1, v2, v3, v4, v5, v6, v7] st t g Q = Xp 40 d 73 [(2, x), v1, v2, v3, v4, v5, v6, v7] ((2, x) :: st) t g Q := Xp_go (i := .aload_n 0) (len := 1) (by decide +kernel) rfl
theorem x_40_73 : Xp 40 d 73 ls ((2, p) :: st) t g Q = (hkJK p = 1 ∧ Xp 40 d 76 ls ((0, g p 2) :: st) t g Q) := xr_getI (idx := 47) (ci := 1) (k := 2) (by decide +kernel) (by decide +kernel) (by decide +kernel)
theorem x_40_76 : Xp 40 d 76 ls ((0, b) :: (0, a) :: st) t g Q = ((a ≤ b → Xp 40 d 81 ls st t g Q) ∧ (¬ (a ≤ b) → Xp 40 d 79 ls st t g Q)) := xr_if2 (cd := .le) (off := 5) (by decide +kernel) (by decide)
theorem x_40_79 : Xp 40 d 79 ls st t g Q = Xp 40 d 80 ls ((0, -1) :: st) t g Q := xr_const (c := -1) (by decide +kernel) (by decide)
theorem x_40_80 : Xp 40 d 80 ls [(0, x)] t g Q = Q (some (0, x)) t g := xr_retI (by decide +kernel) (by decide +kernel)
theorem x_40_81 : Xp 40 d 81 [v0, v1, v2, (0, x), v4, v5, v6, v7] st t g Q = Xp 40 d 82 [v0, v1, v2, (0, x), v4, v5, v6, v7] ((0, x) :: st) t g Q := Xp_go (i := .iload_n 3) (len := 1) (by decide +kernel) rfl
theorem x_40_82 : Xp 40 d 82 ls st t g Q = Xp 40 d 83 ls ((0, 1) :: st) t g Q := xr_const (c := 1) (by decide +kernel) (by decide)
theorem x_40_83 : Xp 40 d 83 [(2, x), v1, v2, v3, v4, v5, v6, v7] st t g Q = Xp 40 d 84 [(2, x), v1, v2, v3, v4, v5, v6, v7] ((2, x) :: st) t g Q := Xp_go (i := .aload_n 0) (len := 1) (by decide +kernel) rfl
theorem x_40_84 : Xp 40 d 84 [v0, v1, v2, v3, v4, v5, v6, (0, x)] st t g Q = Xp 40 d 86 [v0, v1, v2, v3, v4, v5, v6, (0, x)] ((0, x) :: st) t g Q := Xp_go (i := .iload 7) (len := 2) (by decide +kernel) rfl
theorem x_40_86 : Xp 40 d 86 [v0, v1, v2, v3, v4, v5, (0, x), v7] st t g Q = Xp 40 d 88 [v0, v1, v2, v3, v4, v5, (0, x), v7] ((0, x) :: st) t g Q := Xp_go (i := .iload 6) (len := 2) (by decide +kernel) rfl
theorem x_40_88 : Xp 40 (d + 1) 88 ls ((0, a2) :: (0, a1) :: (2, a0) :: st) t g Q = (hkJK a0 = 1 ∧ hkC8 st ∧ Xp 37 d 0 [(2, a0), (0, a1), (0, a2)] [] t g (fun r t g => Xp 40 (d + 1) 91 ls (hkPush r st) t g Q)) := xr_invV (idx := 72) (y' := 37) (ci := 1) (tg := [2, 0, 0]) (by decide +kernel) (by decide +kernel) (by decide +kernel) (by decide +kernel) rfl rfl rfl
theorem x_40_91 : Xp 40 d 91 ls ((0, b) :: (0, a) :: st) t g Q = Xp 40 d 92 ls ((0, hkShl a b) :: st) t g Q := Xp_go (i := .ishl) (len := 1) (by decide +kernel) rfl
theorem x_40_92 : Xp 40 d 92 ls ((0, b) :: (0, a) :: st) t g Q = Xp 40 d 93 ls ((0, hkOr a b) :: st) t g Q := Xp_go (i := .ior) (len := 1) (by decide +kernel) rfl
theorem x_40_93 : Xp 40 d 93 [v0, v1, v2, v3, v4, v5, v6, v7] ((0, x) :: st) t g Q = (hkP1 v2 ∧ Xp 40 d 94 [v0, v1, v2, (0, x), v4, v5, v6, v7] st t g Q) := Xp_chk (i := .istore_n 3) (len := 1) (by decide +kernel) rfl
theorem x_40_94 : Xp 40 d 94 [v0, v1, v2, v3, v4, v5, v6, (0, x)] st t g Q = Xp 40 d 96 [v0, v1, v2, v3, v4, v5, v6, (0, x)] ((0, x) :: st) t g Q := Xp_go (i := .iload 7) (len := 2) (by decide +kernel) rfl
theorem x_40_96 : Xp 40 d 96 [v0, v1, v2, v3, v4, v5, v6, v7] ((0, x) :: st) t g Q = (hkP1 v4 ∧ Xp 40 d 98 [v0, v1, v2, v3, v4, (0, x), v6, v7] st t g Q) := Xp_chk (i := .istore 5) (len := 2) (by decide +kernel) rfl
theorem x_40_98 : Xp 40 d 98 [v0, v1, v2, v3, (0, x), v5, v6, v7] st t g Q = Xp 40 d 100 [v0, v1, v2, v3, (0, x), v5, v6, v7] ((0, x) :: st) t g Q := Xp_go (i := .iload 4) (len := 2) (by decide +kernel) rfl
theorem x_40_100 : Xp 40 d 100 ls st t g Q = Xp 40 d 102 ls ((0, 10) :: st) t g Q := xr_bi (c := 10) (by decide +kernel) (by decide)
theorem x_40_102 : Xp 40 d 102 ls ((0, b) :: (0, a) :: st) t g Q = (b ≠ 0 ∧ Xp 40 d 103 ls ((0, hkW (a.tdiv b)) :: st) t g Q) := Xp_chk (i := .idiv) (len := 1) (by decide +kernel) rfl
theorem x_40_103 : Xp 40 d 103 [v0, v1, v2, v3, v4, v5, v6, v7] ((0, x) :: st) t g Q = (hkP1 v3 ∧ Xp 40 d 105 [v0, v1, v2, v3, (0, x), v5, v6, v7] st t g Q) := Xp_chk (i := .istore 4) (len := 2) (by decide +kernel) rfl
theorem x_40_105 : Xp 40 d 105 [v0, v1, v2, v3, v4, v5, (0, x), v7] st t g Q = (hkP1 v5 ∧ Xp 40 d 108 [v0, v1, v2, v3, v4, v5, (0, hkW (x + -1)), v7] st t g Q) := Xp_chk (i := .iinc 6 (-1)) (len := 3) (by decide +kernel) rfl
theorem x_40_108 : Xp 40 d 108 ls st t g Q = Xp 40 d 51 ls st t g Q := xr_goto (off := -57) (by decide +kernel) (by decide)
theorem x_40_111 : Xp 40 d 111 [(2, x), v1, v2, v3, v4, v5, v6, v7] st t g Q = Xp 40 d 112 [(2, x), v1, v2, v3, v4, v5, v6, v7] ((2, x) :: st) t g Q := Xp_go (i := .aload_n 0) (len := 1) (by decide +kernel) rfl
theorem x_40_112 : Xp 40 d 112 [v0, v1, v2, (0, x), v4, v5, v6, v7] st t g Q = Xp 40 d 113 [v0, v1, v2, (0, x), v4, v5, v6, v7] ((0, x) :: st) t g Q := Xp_go (i := .iload_n 3) (len := 1) (by decide +kernel) rfl
theorem x_40_113 : Xp 40 (d + 1) 113 ls ((0, a1) :: (2, a0) :: st) t g Q = (hkJK a0 = 1 ∧ hkC8 st ∧ Xp 38 d 0 [(2, a0), (0, a1)] [] t g (fun r t g => Xp 40 (d + 1) 116 ls (hkPush r st) t g Q)) := xr_invV (idx := 81) (y' := 38) (ci := 1) (tg := [2, 0]) (by decide +kernel) (by decide +kernel) (by decide +kernel) (by decide +kernel) rfl rfl rfl
theorem x_40_116 : Xp 40 d 116 ls [(0, x)] t g Q = Q (some (0, x)) t g := xr_retI (by decide +kernel) (by decide +kernel)
-- 41: HookBoxes$Box.filledRows(I)I
theorem x_41_0 : Xp 41 d 0 ls st t g Q = Xp 41 d 1 ls ((0, 0) :: st) t g Q := xr_const (c := 0) (by decide +kernel) (by decide)
theorem x_41_1 : Xp 41 d 1 [v0, v1, v2, v3] ((0, x) :: st) t g Q = (hkP1 v1 ∧ Xp 41 d 2 [v0, v1, (0, x), v3] st t g Q) := Xp_chk (i := .istore_n 2) (len := 1) (by decide +kernel) rfl
theorem x_41_2 : Xp 41 d 2 ls st t g Q = Xp 41 d 3 ls ((0, 0) :: st) t g Q := xr_const (c := 0) (by decide +kernel) (by decide)
theorem x_41_3 : Xp 41 d 3 [v0, v1, v2, v3] ((0, x) :: st) t g Q = (hkP1 v2 ∧ Xp 41 d 4 [v0, v1, v2, (0, x)] st t g Q) := Xp_chk (i := .istore_n 3) (len := 1) (by decide +kernel) rfl
theorem x_41_4 : Xp 41 d 4 [v0, v1, v2, (0, x)] st t g Q = Xp 41 d 5 [v0, v1, v2, (0, x)] ((0, x) :: st) t g Q := Xp_go (i := .iload_n 3) (len := 1) (by decide +kernel) rfl
theorem x_41_5 : Xp 41 d 5 [(2, x), v1, v2, v3] st t g Q = Xp 41 d 6 [(2, x), v1, v2, v3] ((2, x) :: st) t g Q := Xp_go (i := .aload_n 0) (len := 1) (by decide +kernel) rfl
theorem x_41_6 : Xp 41 d 6 ls ((2, p) :: st) t g Q = (hkJK p = 1 ∧ Xp 41 d 9 ls ((0, g p 0) :: st) t g Q) := xr_getI (idx := 40) (ci := 1) (k := 0) (by decide +kernel) (by decide +kernel) (by decide +kernel)
theorem x_41_9 : Xp 41 d 9 ls ((0, b) :: (0, a) :: st) t g Q = ((b ≤ a → Xp 41 d 34 ls st t g Q) ∧ (¬ (b ≤ a) → Xp 41 d 12 ls st t g Q)) := xr_if2 (cd := .ge) (off := 25) (by decide +kernel) (by decide)
theorem x_41_12 : Xp 41 d 12 [(2, x), v1, v2, v3] st t g Q = Xp 41 d 13 [(2, x), v1, v2, v3] ((2, x) :: st) t g Q := Xp_go (i := .aload_n 0) (len := 1) (by decide +kernel) rfl
theorem x_41_13 : Xp 41 d 13 ls ((2, p) :: st) t g Q = (hkJK p = 1 ∧ jA p 4 ≤ t ∧ Xp 41 d 16 ls ((2, jR p 4) :: st) t g Q) := xr_getR (idx := 9) (ci := 1) (k := 4) (by decide +kernel) (by decide +kernel) (by decide +kernel)
theorem x_41_16 : Xp 41 d 16 [v0, (0, x), v2, v3] st t g Q = Xp 41 d 17 [v0, (0, x), v2, v3] ((0, x) :: st) t g Q := Xp_go (i := .iload_n 1) (len := 1) (by decide +kernel) rfl
theorem x_41_17 : Xp 41 d 17 ls st t g Q = Xp 41 d 18 ls ((0, 4) :: st) t g Q := xr_const (c := 4) (by decide +kernel) (by decide)
theorem x_41_18 : Xp 41 d 18 ls ((0, b) :: (0, a) :: st) t g Q = Xp 41 d 19 ls ((0, hkW (a * b)) :: st) t g Q := Xp_go (i := .imul) (len := 1) (by decide +kernel) rfl
theorem x_41_19 : Xp 41 d 19 [v0, v1, v2, (0, x)] st t g Q = Xp 41 d 20 [v0, v1, v2, (0, x)] ((0, x) :: st) t g Q := Xp_go (i := .iload_n 3) (len := 1) (by decide +kernel) rfl
theorem x_41_20 : Xp 41 d 20 ls ((0, b) :: (0, a) :: st) t g Q = Xp 41 d 21 ls ((0, hkW (a + b)) :: st) t g Q := Xp_go (i := .iadd) (len := 1) (by decide +kernel) rfl
theorem x_41_21 : Xp 41 d 21 ls ((0, a) :: (2, p) :: st) t g Q = ((hkJK p = 100 ∧ 0 ≤ a ∧ a < jL p) ∧ Xp 41 d 22 ls ((0, g p a) :: st) t g Q) := Xp_chk (i := .iaload) (len := 1) (by decide +kernel) rfl
theorem x_41_22 : Xp 41 d 22 ls ((0, a) :: st) t g Q = ((a ≤ 0 → Xp 41 d 28 ls st t g Q) ∧ (¬ (a ≤ 0) → Xp 41 d 25 ls st t g Q)) := xr_if1 (cd := .le) (off := 6) (by decide +kernel) (by decide)
theorem x_41_25 : Xp 41 d 25 [v0, v1, (0, x), v3] st t g Q = (hkP1 v1 ∧ Xp 41 d 28 [v0, v1, (0, hkW (x + 1)), v3] st t g Q) := Xp_chk (i := .iinc 2 (1)) (len := 3) (by decide +kernel) rfl
theorem x_41_28 : Xp 41 d 28 [v0, v1, v2, (0, x)] st t g Q = (hkP1 v2 ∧ Xp 41 d 31 [v0, v1, v2, (0, hkW (x + 1))] st t g Q) := Xp_chk (i := .iinc 3 (1)) (len := 3) (by decide +kernel) rfl
theorem x_41_31 : Xp 41 d 31 ls st t g Q = Xp 41 d 4 ls st t g Q := xr_goto (off := -27) (by decide +kernel) (by decide)
theorem x_41_34 : Xp 41 d 34 [v0, v1, (0, x), v3] st t g Q = Xp 41 d 35 [v0, v1, (0, x), v3] ((0, x) :: st) t g Q := Xp_go (i := .iload_n 2) (len := 1) (by decide +kernel) rfl
theorem x_41_35 : Xp 41 d 35 ls [(0, x)] t g Q = Q (some (0, x)) t g := xr_retI (by decide +kernel) (by decide +kernel)
-- 42: HookBoxes$Box.kindOf(I)I
theorem x_42_0 : Xp 42 d 0 [(2, x), v1, v2, v3] st t g Q = Xp 42 d 1 [(2, x), v1, v2, v3] ((2, x) :: st) t g Q := Xp_go (i := .aload_n 0) (len := 1) (by decide +kernel) rfl
theorem x_42_1 : Xp 42 d 1 [v0, (0, x), v2, v3] st t g Q = Xp 42 d 2 [v0, (0, x), v2, v3] ((0, x) :: st) t g Q := Xp_go (i := .iload_n 1) (len := 1) (by decide +kernel) rfl
theorem x_42_2 : Xp 42 (d + 1) 2 ls ((0, a1) :: (2, a0) :: st) t g Q = (hkJK a0 = 1 ∧ hkC8 st ∧ Xp 41 d 0 [(2, a0), (0, a1), hkU, hkU] [] t g (fun r t g => Xp 42 (d + 1) 5 ls (hkPush r st) t g Q)) := xr_invV (idx := 85) (y' := 41) (ci := 1) (tg := [2, 0]) (by decide +kernel) (by decide +kernel) (by decide +kernel) (by decide +kernel) rfl rfl rfl
theorem x_42_5 : Xp 42 d 5 [v0, v1, v2, v3] ((0, x) :: st) t g Q = (hkP1 v1 ∧ Xp 42 d 6 [v0, v1, (0, x), v3] st t g Q) := Xp_chk (i := .istore_n 2) (len := 1) (by decide +kernel) rfl
theorem x_42_6 : Xp 42 d 6 [(2, x), v1, v2, v3] st t g Q = Xp 42 d 7 [(2, x), v1, v2, v3] ((2, x) :: st) t g Q := Xp_go (i := .aload_n 0) (len := 1) (by decide +kernel) rfl
theorem x_42_7 : Xp 42 d 7 ls ((2, p) :: st) t g Q = (hkJK p = 1 ∧ jA p 4 ≤ t ∧ Xp 42 d 10 ls ((2, jR p 4) :: st) t g Q) := xr_getR (idx := 9) (ci := 1) (k := 4) (by decide +kernel) (by decide +kernel) (by decide +kernel)
theorem x_42_10 : Xp 42 d 10 [v0, (0, x), v2, v3] st t g Q = Xp 42 d 11 [v0, (0, x), v2, v3] ((0, x) :: st) t g Q := Xp_go (i := .iload_n 1) (len := 1) (by decide +kernel) rfl
theorem x_42_11 : Xp 42 d 11 ls st t g Q = Xp 42 d 12 ls ((0, 4) :: st) t g Q := xr_const (c := 4) (by decide +kernel) (by decide)
theorem x_42_12 : Xp 42 d 12 ls ((0, b) :: (0, a) :: st) t g Q = Xp 42 d 13 ls ((0, hkW (a * b)) :: st) t g Q := Xp_go (i := .imul) (len := 1) (by decide +kernel) rfl
theorem x_42_13 : Xp 42 d 13 ls ((0, a) :: (2, p) :: st) t g Q = ((hkJK p = 100 ∧ 0 ≤ a ∧ a < jL p) ∧ Xp 42 d 14 ls ((0, g p a) :: st) t g Q) := Xp_chk (i := .iaload) (len := 1) (by decide +kernel) rfl
theorem x_42_14 : Xp 42 d 14 [v0, v1, v2, v3] ((0, x) :: st) t g Q = (hkP1 v2 ∧ Xp 42 d 15 [v0, v1, v2, (0, x)] st t g Q) := Xp_chk (i := .istore_n 3) (len := 1) (by decide +kernel) rfl
theorem x_42_15 : Xp 42 d 15 [v0, v1, (0, x), v3] st t g Q = Xp 42 d 16 [v0, v1, (0, x), v3] ((0, x) :: st) t g Q := Xp_go (i := .iload_n 2) (len := 1) (by decide +kernel) rfl
theorem x_42_16 : Xp 42 d 16 ls st t g Q = Xp 42 d 17 ls ((0, 1) :: st) t g Q := xr_const (c := 1) (by decide +kernel) (by decide)
theorem x_42_17 : Xp 42 d 17 ls ((0, b) :: (0, a) :: st) t g Q = ((b < a → Xp 42 d 22 ls st t g Q) ∧ (¬ (b < a) → Xp 42 d 20 ls st t g Q)) := xr_if2 (cd := .gt) (off := 5) (by decide +kernel) (by decide)
theorem x_42_20 : Xp 42 d 20 [v0, v1, (0, x), v3] st t g Q = Xp 42 d 21 [v0, v1, (0, x), v3] ((0, x) :: st) t g Q := Xp_go (i := .iload_n 2) (len := 1) (by decide +kernel) rfl
theorem x_42_21 : Xp 42 d 21 ls [(0, x)] t g Q = Q (some (0, x)) t g := xr_retI (by decide +kernel) (by decide +kernel)
theorem x_42_22 : Xp 42 d 22 [v0, v1, v2, (0, x)] st t g Q = Xp 42 d 23 [v0, v1, v2, (0, x)] ((0, x) :: st) t g Q := Xp_go (i := .iload_n 3) (len := 1) (by decide +kernel) rfl
theorem x_42_23 : Xp 42 d 23 ls st t g Q = Xp 42 d 24 ls ((0, 1) :: st) t g Q := xr_const (c := 1) (by decide +kernel) (by decide)
theorem x_42_24 : Xp 42 d 24 ls ((0, b) :: (0, a) :: st) t g Q = ((¬ (a = b) → Xp 42 d 29 ls st t g Q) ∧ (¬ (¬ (a = b)) → Xp 42 d 27 ls st t g Q)) := xr_if2 (cd := .ne) (off := 5) (by decide +kernel) (by decide)
theorem x_42_27 : Xp 42 d 27 ls st t g Q = Xp 42 d 28 ls ((0, 2) :: st) t g Q := xr_const (c := 2) (by decide +kernel) (by decide)
theorem x_42_28 : Xp 42 d 28 ls [(0, x)] t g Q = Q (some (0, x)) t g := xr_retI (by decide +kernel) (by decide +kernel)
theorem x_42_29 : Xp 42 d 29 [(2, x), v1, v2, v3] st t g Q = Xp 42 d 30 [(2, x), v1, v2, v3] ((2, x) :: st) t g Q := Xp_go (i := .aload_n 0) (len := 1) (by decide +kernel) rfl
theorem x_42_30 : Xp 42 d 30 ls ((2, p) :: st) t g Q = (hkJK p = 1 ∧ jA p 4 ≤ t ∧ Xp 42 d 33 ls ((2, jR p 4) :: st) t g Q) := xr_getR (idx := 9) (ci := 1) (k := 4) (by decide +kernel) (by decide +kernel) (by decide +kernel)
theorem x_42_33 : Xp 42 d 33 [v0, (0, x), v2, v3] st t g Q = Xp 42 d 34 [v0, (0, x), v2, v3] ((0, x) :: st) t g Q := Xp_go (i := .iload_n 1) (len := 1) (by decide +kernel) rfl
theorem x_42_34 : Xp 42 d 34 ls st t g Q = Xp 42 d 35 ls ((0, 4) :: st) t g Q := xr_const (c := 4) (by decide +kernel) (by decide)
theorem x_42_35 : Xp 42 d 35 ls ((0, b) :: (0, a) :: st) t g Q = Xp 42 d 36 ls ((0, hkW (a * b)) :: st) t g Q := Xp_go (i := .imul) (len := 1) (by decide +kernel) rfl
theorem x_42_36 : Xp 42 d 36 [v0, v1, (0, x), v3] st t g Q = Xp 42 d 37 [v0, v1, (0, x), v3] ((0, x) :: st) t g Q := Xp_go (i := .iload_n 2) (len := 1) (by decide +kernel) rfl
theorem x_42_37 : Xp 42 d 37 ls ((0, b) :: (0, a) :: st) t g Q = Xp 42 d 38 ls ((0, hkW (a + b)) :: st) t g Q := Xp_go (i := .iadd) (len := 1) (by decide +kernel) rfl
theorem x_42_38 : Xp 42 d 38 ls st t g Q = Xp 42 d 39 ls ((0, 1) :: st) t g Q := xr_const (c := 1) (by decide +kernel) (by decide)
theorem x_42_39 : Xp 42 d 39 ls ((0, b) :: (0, a) :: st) t g Q = Xp 42 d 40 ls ((0, hkW (a - b)) :: st) t g Q := Xp_go (i := .isub) (len := 1) (by decide +kernel) rfl
theorem x_42_40 : Xp 42 d 40 ls ((0, a) :: (2, p) :: st) t g Q = ((hkJK p = 100 ∧ 0 ≤ a ∧ a < jL p) ∧ Xp 42 d 41 ls ((0, g p a) :: st) t g Q) := Xp_chk (i := .iaload) (len := 1) (by decide +kernel) rfl
theorem x_42_41 : Xp 42 d 41 [v0, v1, v2, (0, x)] st t g Q = Xp 42 d 42 [v0, v1, v2, (0, x)] ((0, x) :: st) t g Q := Xp_go (i := .iload_n 3) (len := 1) (by decide +kernel) rfl
theorem x_42_42 : Xp 42 d 42 ls ((0, b) :: (0, a) :: st) t g Q = ((¬ (a = b) → Xp 42 d 47 ls st t g Q) ∧ (¬ (¬ (a = b)) → Xp 42 d 45 ls st t g Q)) := xr_if2 (cd := .ne) (off := 5) (by decide +kernel) (by decide)
theorem x_42_45 : Xp 42 d 45 ls st t g Q = Xp 42 d 46 ls ((0, 3) :: st) t g Q := xr_const (c := 3) (by decide +kernel) (by decide)
theorem x_42_46 : Xp 42 d 46 ls [(0, x)] t g Q = Q (some (0, x)) t g := xr_retI (by decide +kernel) (by decide +kernel)
theorem x_42_47 : Xp 42 d 47 [(2, x), v1, v2, v3] st t g Q = Xp 42 d 48 [(2, x), v1, v2, v3] ((2, x) :: st) t g Q := Xp_go (i := .aload_n 0) (len := 1) (by decide +kernel) rfl
theorem x_42_48 : Xp 42 d 48 ls ((2, p) :: st) t g Q = (hkJK p = 1 ∧ jA p 4 ≤ t ∧ Xp 42 d 51 ls ((2, jR p 4) :: st) t g Q) := xr_getR (idx := 9) (ci := 1) (k := 4) (by decide +kernel) (by decide +kernel) (by decide +kernel)
theorem x_42_51 : Xp 42 d 51 [v0, (0, x), v2, v3] st t g Q = Xp 42 d 52 [v0, (0, x), v2, v3] ((0, x) :: st) t g Q := Xp_go (i := .iload_n 1) (len := 1) (by decide +kernel) rfl
theorem x_42_52 : Xp 42 d 52 ls st t g Q = Xp 42 d 53 ls ((0, 4) :: st) t g Q := xr_const (c := 4) (by decide +kernel) (by decide)
theorem x_42_53 : Xp 42 d 53 ls ((0, b) :: (0, a) :: st) t g Q = Xp 42 d 54 ls ((0, hkW (a * b)) :: st) t g Q := Xp_go (i := .imul) (len := 1) (by decide +kernel) rfl
theorem x_42_54 : Xp 42 d 54 ls st t g Q = Xp 42 d 55 ls ((0, 1) :: st) t g Q := xr_const (c := 1) (by decide +kernel) (by decide)
theorem x_42_55 : Xp 42 d 55 ls ((0, b) :: (0, a) :: st) t g Q = Xp 42 d 56 ls ((0, hkW (a + b)) :: st) t g Q := Xp_go (i := .iadd) (len := 1) (by decide +kernel) rfl
theorem x_42_56 : Xp 42 d 56 ls ((0, a) :: (2, p) :: st) t g Q = ((hkJK p = 100 ∧ 0 ≤ a ∧ a < jL p) ∧ Xp 42 d 57 ls ((0, g p a) :: st) t g Q) := Xp_chk (i := .iaload) (len := 1) (by decide +kernel) rfl
theorem x_42_57 : Xp 42 d 57 ls st t g Q = Xp 42 d 58 ls ((0, 1) :: st) t g Q := xr_const (c := 1) (by decide +kernel) (by decide)
theorem x_42_58 : Xp 42 d 58 ls ((0, b) :: (0, a) :: st) t g Q = ((¬ (a = b) → Xp 42 d 65 ls st t g Q) ∧ (¬ (¬ (a = b)) → Xp 42 d 61 ls st t g Q)) := xr_if2 (cd := .ne) (off := 7) (by decide +kernel) (by decide)
theorem x_42_61 : Xp 42 d 61 ls st t g Q = Xp 42 d 62 ls ((0, 4) :: st) t g Q := xr_const (c := 4) (by decide +kernel) (by decide)
theorem x_42_62 : Xp 42 d 62 ls st t g Q = Xp 42 d 66 ls st t g Q := xr_goto (off := 4) (by decide +kernel) (by decide)
theorem x_42_65 : Xp 42 d 65 ls st t g Q = Xp 42 d 66 ls ((0, 5) :: st) t g Q := xr_const (c := 5) (by decide +kernel) (by decide)
theorem x_42_66 : Xp 42 d 66 ls [(0, x)] t g Q = Q (some (0, x)) t g := xr_retI (by decide +kernel) (by decide +kernel)
-- 43: HookBoxes$Box.dualOf(I)I
theorem x_43_0 : Xp 43 d 0 [(2, x), v1] st t g Q = Xp 43 d 1 [(2, x), v1] ((2, x) :: st) t g Q := Xp_go (i := .aload_n 0) (len := 1) (by decide +kernel) rfl
theorem x_43_1 : Xp 43 d 1 [(2, x), v1] st t g Q = Xp 43 d 2 [(2, x), v1] ((2, x) :: st) t g Q := Xp_go (i := .aload_n 0) (len := 1) (by decide +kernel) rfl
theorem x_43_2 : Xp 43 d 2 [(2, x), v1] st t g Q = Xp 43 d 3 [(2, x), v1] ((2, x) :: st) t g Q := Xp_go (i := .aload_n 0) (len := 1) (by decide +kernel) rfl
theorem x_43_3 : Xp 43 d 3 ls ((2, p) :: st) t g Q = (hkJK p = 1 ∧ jA p 6 ≤ t ∧ Xp 43 d 6 ls ((2, jR p 6) :: st) t g Q) := xr_getR (idx := 18) (ci := 1) (k := 6) (by decide +kernel) (by decide +kernel) (by decide +kernel)
theorem x_43_6 : Xp 43 d 6 [v0, (0, x)] st t g Q = Xp 43 d 7 [v0, (0, x)] ((0, x) :: st) t g Q := Xp_go (i := .iload_n 1) (len := 1) (by decide +kernel) rfl
theorem x_43_7 : Xp 43 d 7 ls ((0, a) :: (2, p) :: st) t g Q = ((hkJK p = 100 ∧ 0 ≤ a ∧ a < jL p) ∧ Xp 43 d 8 ls ((0, g p a) :: st) t g Q) := Xp_chk (i := .iaload) (len := 1) (by decide +kernel) rfl
theorem x_43_8 : Xp 43 (d + 1) 8 ls ((0, a1) :: (2, a0) :: st) t g Q = (hkJK a0 = 1 ∧ hkC8 st ∧ Xp 44 d 0 [(2, a0), (0, a1), hkU, hkU] [] t g (fun r t g => Xp 43 (d + 1) 11 ls (hkPush r st) t g Q)) := xr_invV (idx := 88) (y' := 44) (ci := 1) (tg := [2, 0]) (by decide +kernel) (by decide +kernel) (by decide +kernel) (by decide +kernel) rfl rfl rfl
theorem x_43_11 : Xp 43 (d + 1) 11 ls ((0, a1) :: (2, a0) :: st) t g Q = (hkJK a0 = 1 ∧ hkC8 st ∧ Xp 38 d 0 [(2, a0), (0, a1)] [] t g (fun r t g => Xp 43 (d + 1) 14 ls (hkPush r st) t g Q)) := xr_invV (idx := 81) (y' := 38) (ci := 1) (tg := [2, 0]) (by decide +kernel) (by decide +kernel) (by decide +kernel) (by decide +kernel) rfl rfl rfl
theorem x_43_14 : Xp 43 d 14 ls [(0, x)] t g Q = Q (some (0, x)) t g := xr_retI (by decide +kernel) (by decide +kernel)
-- 44: HookBoxes$Box.mirrored(I)I
theorem x_44_0 : Xp 44 d 0 ls st t g Q = Xp 44 d 1 ls ((0, 0) :: st) t g Q := xr_const (c := 0) (by decide +kernel) (by decide)
theorem x_44_1 : Xp 44 d 1 [v0, v1, v2, v3] ((0, x) :: st) t g Q = (hkP1 v1 ∧ Xp 44 d 2 [v0, v1, (0, x), v3] st t g Q) := Xp_chk (i := .istore_n 2) (len := 1) (by decide +kernel) rfl
theorem x_44_2 : Xp 44 d 2 ls st t g Q = Xp 44 d 3 ls ((0, 0) :: st) t g Q := xr_const (c := 0) (by decide +kernel) (by decide)
theorem x_44_3 : Xp 44 d 3 [v0, v1, v2, v3] ((0, x) :: st) t g Q = (hkP1 v2 ∧ Xp 44 d 4 [v0, v1, v2, (0, x)] st t g Q) := Xp_chk (i := .istore_n 3) (len := 1) (by decide +kernel) rfl
theorem x_44_4 : Xp 44 d 4 [v0, v1, v2, (0, x)] st t g Q = Xp 44 d 5 [v0, v1, v2, (0, x)] ((0, x) :: st) t g Q := Xp_go (i := .iload_n 3) (len := 1) (by decide +kernel) rfl
theorem x_44_5 : Xp 44 d 5 [(2, x), v1, v2, v3] st t g Q = Xp 44 d 6 [(2, x), v1, v2, v3] ((2, x) :: st) t g Q := Xp_go (i := .aload_n 0) (len := 1) (by decide +kernel) rfl
theorem x_44_6 : Xp 44 d 6 ls ((2, p) :: st) t g Q = (hkJK p = 1 ∧ Xp 44 d 9 ls ((0, g p 1) :: st) t g Q) := xr_getI (idx := 44) (ci := 1) (k := 1) (by decide +kernel) (by decide +kernel) (by decide +kernel)
theorem x_44_9 : Xp 44 d 9 ls ((0, b) :: (0, a) :: st) t g Q = ((b ≤ a → Xp 44 d 35 ls st t g Q) ∧ (¬ (b ≤ a) → Xp 44 d 12 ls st t g Q)) := xr_if2 (cd := .ge) (off := 26) (by decide +kernel) (by decide)
theorem x_44_12 : Xp 44 d 12 [v0, v1, (0, x), v3] st t g Q = Xp 44 d 13 [v0, v1, (0, x), v3] ((0, x) :: st) t g Q := Xp_go (i := .iload_n 2) (len := 1) (by decide +kernel) rfl
theorem x_44_13 : Xp 44 d 13 [v0, (0, x), v2, v3] st t g Q = Xp 44 d 14 [v0, (0, x), v2, v3] ((0, x) :: st) t g Q := Xp_go (i := .iload_n 1) (len := 1) (by decide +kernel) rfl
theorem x_44_14 : Xp 44 d 14 [(2, x), v1, v2, v3] st t g Q = Xp 44 d 15 [(2, x), v1, v2, v3] ((2, x) :: st) t g Q := Xp_go (i := .aload_n 0) (len := 1) (by decide +kernel) rfl
theorem x_44_15 : Xp 44 d 15 ls ((2, p) :: st) t g Q = (hkJK p = 1 ∧ Xp 44 d 18 ls ((0, g p 1) :: st) t g Q) := xr_getI (idx := 44) (ci := 1) (k := 1) (by decide +kernel) (by decide +kernel) (by decide +kernel)
theorem x_44_18 : Xp 44 d 18 ls st t g Q = Xp 44 d 19 ls ((0, 1) :: st) t g Q := xr_const (c := 1) (by decide +kernel) (by decide)
theorem x_44_19 : Xp 44 d 19 ls ((0, b) :: (0, a) :: st) t g Q = Xp 44 d 20 ls ((0, hkW (a - b)) :: st) t g Q := Xp_go (i := .isub) (len := 1) (by decide +kernel) rfl
theorem x_44_20 : Xp 44 d 20 [v0, v1, v2, (0, x)] st t g Q = Xp 44 d 21 [v0, v1, v2, (0, x)] ((0, x) :: st) t g Q := Xp_go (i := .iload_n 3) (len := 1) (by decide +kernel) rfl
theorem x_44_21 : Xp 44 d 21 ls ((0, b) :: (0, a) :: st) t g Q = Xp 44 d 22 ls ((0, hkW (a - b)) :: st) t g Q := Xp_go (i := .isub) (len := 1) (by decide +kernel) rfl
theorem x_44_22 : Xp 44 d 22 ls ((0, b) :: (0, a) :: st) t g Q = Xp 44 d 23 ls ((0, hkShr a b) :: st) t g Q := Xp_go (i := .ishr) (len := 1) (by decide +kernel) rfl
theorem x_44_23 : Xp 44 d 23 ls st t g Q = Xp 44 d 24 ls ((0, 1) :: st) t g Q := xr_const (c := 1) (by decide +kernel) (by decide)
theorem x_44_24 : Xp 44 d 24 ls ((0, b) :: (0, a) :: st) t g Q = Xp 44 d 25 ls ((0, hkAnd a b) :: st) t g Q := Xp_go (i := .iand) (len := 1) (by decide +kernel) rfl
theorem x_44_25 : Xp 44 d 25 [v0, v1, v2, (0, x)] st t g Q = Xp 44 d 26 [v0, v1, v2, (0, x)] ((0, x) :: st) t g Q := Xp_go (i := .iload_n 3) (len := 1) (by decide +kernel) rfl
theorem x_44_26 : Xp 44 d 26 ls ((0, b) :: (0, a) :: st) t g Q = Xp 44 d 27 ls ((0, hkShl a b) :: st) t g Q := Xp_go (i := .ishl) (len := 1) (by decide +kernel) rfl
theorem x_44_27 : Xp 44 d 27 ls ((0, b) :: (0, a) :: st) t g Q = Xp 44 d 28 ls ((0, hkOr a b) :: st) t g Q := Xp_go (i := .ior) (len := 1) (by decide +kernel) rfl
theorem x_44_28 : Xp 44 d 28 [v0, v1, v2, v3] ((0, x) :: st) t g Q = (hkP1 v1 ∧ Xp 44 d 29 [v0, v1, (0, x), v3] st t g Q) := Xp_chk (i := .istore_n 2) (len := 1) (by decide +kernel) rfl
theorem x_44_29 : Xp 44 d 29 [v0, v1, v2, (0, x)] st t g Q = (hkP1 v2 ∧ Xp 44 d 32 [v0, v1, v2, (0, hkW (x + 1))] st t g Q) := Xp_chk (i := .iinc 3 (1)) (len := 3) (by decide +kernel) rfl
theorem x_44_32 : Xp 44 d 32 ls st t g Q = Xp 44 d 4 ls st t g Q := xr_goto (off := -28) (by decide +kernel) (by decide)
theorem x_44_35 : Xp 44 d 35 [v0, v1, (0, x), v3] st t g Q = Xp 44 d 36 [v0, v1, (0, x), v3] ((0, x) :: st) t g Q := Xp_go (i := .iload_n 2) (len := 1) (by decide +kernel) rfl
theorem x_44_36 : Xp 44 d 36 ls [(0, x)] t g Q = Q (some (0, x)) t g := xr_retI (by decide +kernel) (by decide +kernel)
-- 45: HookBoxes$Box.rolledOf(I)I
theorem x_45_0 : Xp 45 d 0 [(2, x), v1, v2] st t g Q = Xp 45 d 1 [(2, x), v1, v2] ((2, x) :: st) t g Q := Xp_go (i := .aload_n 0) (len := 1) (by decide +kernel) rfl
theorem x_45_1 : Xp 45 d 1 ls ((2, p) :: st) t g Q = (hkJK p = 1 ∧ jA p 6 ≤ t ∧ Xp 45 d 4 ls ((2, jR p 6) :: st) t g Q) := xr_getR (idx := 18) (ci := 1) (k := 6) (by decide +kernel) (by decide +kernel) (by decide +kernel)
theorem x_45_4 : Xp 45 d 4 [v0, (0, x), v2] st t g Q = Xp 45 d 5 [v0, (0, x), v2] ((0, x) :: st) t g Q := Xp_go (i := .iload_n 1) (len := 1) (by decide +kernel) rfl
theorem x_45_5 : Xp 45 d 5 ls ((0, a) :: (2, p) :: st) t g Q = ((hkJK p = 100 ∧ 0 ≤ a ∧ a < jL p) ∧ Xp 45 d 6 ls ((0, g p a) :: st) t g Q) := Xp_chk (i := .iaload) (len := 1) (by decide +kernel) rfl
theorem x_45_6 : Xp 45 d 6 [v0, v1, v2] ((0, x) :: st) t g Q = (hkP1 v1 ∧ Xp 45 d 7 [v0, v1, (0, x)] st t g Q) := Xp_chk (i := .istore_n 2) (len := 1) (by decide +kernel) rfl
theorem x_45_7 : Xp 45 d 7 [(2, x), v1, v2] st t g Q = Xp 45 d 8 [(2, x), v1, v2] ((2, x) :: st) t g Q := Xp_go (i := .aload_n 0) (len := 1) (by decide +kernel) rfl
theorem x_45_8 : Xp 45 d 8 [v0, v1, (0, x)] st t g Q = Xp 45 d 9 [v0, v1, (0, x)] ((0, x) :: st) t g Q := Xp_go (i := .iload_n 2) (len := 1) (by decide +kernel) rfl
theorem x_45_9 : Xp 45 d 9 ls st t g Q = Xp 45 d 10 ls ((0, 1) :: st) t g Q := xr_const (c := 1) (by decide +kernel) (by decide)
theorem x_45_10 : Xp 45 d 10 ls ((0, b) :: (0, a) :: st) t g Q = Xp 45 d 11 ls ((0, hkShl a b) :: st) t g Q := Xp_go (i := .ishl) (len := 1) (by decide +kernel) rfl
theorem x_45_11 : Xp 45 d 11 [(2, x), v1, v2] st t g Q = Xp 45 d 12 [(2, x), v1, v2] ((2, x) :: st) t g Q := Xp_go (i := .aload_n 0) (len := 1) (by decide +kernel) rfl
theorem x_45_12 : Xp 45 (d + 1) 12 ls ((2, a0) :: st) t g Q = (hkJK a0 = 1 ∧ hkC8 st ∧ Xp 46 d 0 [(2, a0)] [] t g (fun r t g => Xp 45 (d + 1) 15 ls (hkPush r st) t g Q)) := xr_invV (idx := 91) (y' := 46) (ci := 1) (tg := [2]) (by decide +kernel) (by decide +kernel) (by decide +kernel) (by decide +kernel) rfl rfl rfl
theorem x_45_15 : Xp 45 d 15 ls ((0, b) :: (0, a) :: st) t g Q = Xp 45 d 16 ls ((0, hkAnd a b) :: st) t g Q := Xp_go (i := .iand) (len := 1) (by decide +kernel) rfl
theorem x_45_16 : Xp 45 d 16 [v0, v1, (0, x)] st t g Q = Xp 45 d 17 [v0, v1, (0, x)] ((0, x) :: st) t g Q := Xp_go (i := .iload_n 2) (len := 1) (by decide +kernel) rfl
theorem x_45_17 : Xp 45 d 17 [(2, x), v1, v2] st t g Q = Xp 45 d 18 [(2, x), v1, v2] ((2, x) :: st) t g Q := Xp_go (i := .aload_n 0) (len := 1) (by decide +kernel) rfl
theorem x_45_18 : Xp 45 d 18 ls ((2, p) :: st) t g Q = (hkJK p = 1 ∧ Xp 45 d 21 ls ((0, g p 1) :: st) t g Q) := xr_getI (idx := 44) (ci := 1) (k := 1) (by decide +kernel) (by decide +kernel) (by decide +kernel)
theorem x_45_21 : Xp 45 d 21 ls st t g Q = Xp 45 d 22 ls ((0, 1) :: st) t g Q := xr_const (c := 1) (by decide +kernel) (by decide)
theorem x_45_22 : Xp 45 d 22 ls ((0, b) :: (0, a) :: st) t g Q = Xp 45 d 23 ls ((0, hkW (a - b)) :: st) t g Q := Xp_go (i := .isub) (len := 1) (by decide +kernel) rfl
theorem x_45_23 : Xp 45 d 23 ls ((0, b) :: (0, a) :: st) t g Q = Xp 45 d 24 ls ((0, hkShr a b) :: st) t g Q := Xp_go (i := .ishr) (len := 1) (by decide +kernel) rfl
theorem x_45_24 : Xp 45 d 24 ls ((0, b) :: (0, a) :: st) t g Q = Xp 45 d 25 ls ((0, hkOr a b) :: st) t g Q := Xp_go (i := .ior) (len := 1) (by decide +kernel) rfl
theorem x_45_25 : Xp 45 (d + 1) 25 ls ((0, a1) :: (2, a0) :: st) t g Q = (hkJK a0 = 1 ∧ hkC8 st ∧ Xp 38 d 0 [(2, a0), (0, a1)] [] t g (fun r t g => Xp 45 (d + 1) 28 ls (hkPush r st) t g Q)) := xr_invV (idx := 81) (y' := 38) (ci := 1) (tg := [2, 0]) (by decide +kernel) (by decide +kernel) (by decide +kernel) (by decide +kernel) rfl rfl rfl
theorem x_45_28 : Xp 45 d 28 ls [(0, x)] t g Q = Q (some (0, x)) t g := xr_retI (by decide +kernel) (by decide +kernel)
-- 46: HookBoxes$Box.fullWord()I
theorem x_46_0 : Xp 46 d 0 ls st t g Q = Xp 46 d 1 ls ((0, 1) :: st) t g Q := xr_const (c := 1) (by decide +kernel) (by decide)
theorem x_46_1 : Xp 46 d 1 [(2, x)] st t g Q = Xp 46 d 2 [(2, x)] ((2, x) :: st) t g Q := Xp_go (i := .aload_n 0) (len := 1) (by decide +kernel) rfl
theorem x_46_2 : Xp 46 d 2 ls ((2, p) :: st) t g Q = (hkJK p = 1 ∧ Xp 46 d 5 ls ((0, g p 1) :: st) t g Q) := xr_getI (idx := 44) (ci := 1) (k := 1) (by decide +kernel) (by decide +kernel) (by decide +kernel)
theorem x_46_5 : Xp 46 d 5 ls ((0, b) :: (0, a) :: st) t g Q = Xp 46 d 6 ls ((0, hkShl a b) :: st) t g Q := Xp_go (i := .ishl) (len := 1) (by decide +kernel) rfl
theorem x_46_6 : Xp 46 d 6 ls st t g Q = Xp 46 d 7 ls ((0, 1) :: st) t g Q := xr_const (c := 1) (by decide +kernel) (by decide)
theorem x_46_7 : Xp 46 d 7 ls ((0, b) :: (0, a) :: st) t g Q = Xp 46 d 8 ls ((0, hkW (a - b)) :: st) t g Q := Xp_go (i := .isub) (len := 1) (by decide +kernel) rfl
theorem x_46_8 : Xp 46 d 8 ls [(0, x)] t g Q = Q (some (0, x)) t g := xr_retI (by decide +kernel) (by decide +kernel)
-- 47: HookBoxes$Box.turnedWordOf(I)I
theorem x_47_0 : Xp 47 d 0 [(2, x), v1] st t g Q = Xp 47 d 1 [(2, x), v1] ((2, x) :: st) t g Q := Xp_go (i := .aload_n 0) (len := 1) (by decide +kernel) rfl
theorem x_47_1 : Xp 47 (d + 1) 1 ls ((2, a0) :: st) t g Q = (hkJK a0 = 1 ∧ hkC8 st ∧ Xp 46 d 0 [(2, a0)] [] t g (fun r t g => Xp 47 (d + 1) 4 ls (hkPush r st) t g Q)) := xr_invV (idx := 91) (y' := 46) (ci := 1) (tg := [2]) (by decide +kernel) (by decide +kernel) (by decide +kernel) (by decide +kernel) rfl rfl rfl
theorem x_47_4 : Xp 47 d 4 [(2, x), v1] st t g Q = Xp 47 d 5 [(2, x), v1] ((2, x) :: st) t g Q := Xp_go (i := .aload_n 0) (len := 1) (by decide +kernel) rfl
theorem x_47_5 : Xp 47 d 5 [(2, x), v1] st t g Q = Xp 47 d 6 [(2, x), v1] ((2, x) :: st) t g Q := Xp_go (i := .aload_n 0) (len := 1) (by decide +kernel) rfl
theorem x_47_6 : Xp 47 d 6 ls ((2, p) :: st) t g Q = (hkJK p = 1 ∧ jA p 6 ≤ t ∧ Xp 47 d 9 ls ((2, jR p 6) :: st) t g Q) := xr_getR (idx := 18) (ci := 1) (k := 6) (by decide +kernel) (by decide +kernel) (by decide +kernel)
theorem x_47_9 : Xp 47 d 9 [v0, (0, x)] st t g Q = Xp 47 d 10 [v0, (0, x)] ((0, x) :: st) t g Q := Xp_go (i := .iload_n 1) (len := 1) (by decide +kernel) rfl
theorem x_47_10 : Xp 47 d 10 ls ((0, a) :: (2, p) :: st) t g Q = ((hkJK p = 100 ∧ 0 ≤ a ∧ a < jL p) ∧ Xp 47 d 11 ls ((0, g p a) :: st) t g Q) := Xp_chk (i := .iaload) (len := 1) (by decide +kernel) rfl
theorem x_47_11 : Xp 47 (d + 1) 11 ls ((0, a1) :: (2, a0) :: st) t g Q = (hkJK a0 = 1 ∧ hkC8 st ∧ Xp 44 d 0 [(2, a0), (0, a1), hkU, hkU] [] t g (fun r t g => Xp 47 (d + 1) 14 ls (hkPush r st) t g Q)) := xr_invV (idx := 88) (y' := 44) (ci := 1) (tg := [2, 0]) (by decide +kernel) (by decide +kernel) (by decide +kernel) (by decide +kernel) rfl rfl rfl
theorem x_47_14 : Xp 47 d 14 ls st t g Q = Xp 47 d 15 ls ((0, -1) :: st) t g Q := xr_const (c := -1) (by decide +kernel) (by decide)
theorem x_47_15 : Xp 47 d 15 ls ((0, b) :: (0, a) :: st) t g Q = Xp 47 d 16 ls ((0, hkXor a b) :: st) t g Q := Xp_go (i := .ixor) (len := 1) (by decide +kernel) rfl
theorem x_47_16 : Xp 47 d 16 ls ((0, b) :: (0, a) :: st) t g Q = Xp 47 d 17 ls ((0, hkAnd a b) :: st) t g Q := Xp_go (i := .iand) (len := 1) (by decide +kernel) rfl
theorem x_47_17 : Xp 47 d 17 ls [(0, x)] t g Q = Q (some (0, x)) t g := xr_retI (by decide +kernel) (by decide +kernel)
-- 48: HookBoxes$Rounder.<init>(LHookBoxes$Box;)V
theorem x_48_0 : Xp 48 d 0 [(2, x), v1] st t g Q = Xp 48 d 1 [(2, x), v1] ((2, x) :: st) t g Q := Xp_go (i := .aload_n 0) (len := 1) (by decide +kernel) rfl
theorem x_48_1 : Xp 48 d 1 ls ((2, p) :: st) t g Q = (hkC8 st ∧ Xp 48 d 4 ls st t g Q) := xr_obj (idx := 3) (f := 183) (by decide +kernel) (by decide +kernel) (by decide +kernel) (by decide +kernel)
theorem x_48_4 : Xp 48 d 4 [(2, x), v1] st t g Q = Xp 48 d 5 [(2, x), v1] ((2, x) :: st) t g Q := Xp_go (i := .aload_n 0) (len := 1) (by decide +kernel) rfl
theorem x_48_5 : Xp 48 d 5 ls st t g Q = Xp 48 d 6 ls ((0, 4) :: st) t g Q := xr_const (c := 4) (by decide +kernel) (by decide)
theorem x_48_6 : Xp 48 d 6 ls ((0, x) :: st) t g Q = (∃ P z w, hkEV[t]? = some (0, P, z, w) ∧ hkKd P = 100 ∧ x = jL (P : Int) ∧ Xp 48 d 8 ls ((2, (P : Int)) :: st) (t + 1) g Q) := xr_newa (ty := .int) (ci := 100) (by decide +kernel) (by decide) (by decide)
theorem x_48_8 : Xp 48 d 8 ls ((2, z) :: (2, p) :: st) t g Q = (hkJK p = 2 ∧ hkEV[t]? = some (1, p.toNat, 4, z.toNat) ∧ Xp 48 d 11 ls st (t + 1) g Q) := xr_putR (idx := 9) (ci := 2) (k := 4) (by decide +kernel) (by decide +kernel) (by decide +kernel) (by decide +kernel) (by decide +kernel)
theorem x_48_11 : Xp 48 d 11 [(2, x), v1] st t g Q = Xp 48 d 12 [(2, x), v1] ((2, x) :: st) t g Q := Xp_go (i := .aload_n 0) (len := 1) (by decide +kernel) rfl
theorem x_48_12 : Xp 48 d 12 [v0, (2, x)] st t g Q = Xp 48 d 13 [v0, (2, x)] ((2, x) :: st) t g Q := Xp_go (i := .aload_n 1) (len := 1) (by decide +kernel) rfl
theorem x_48_13 : Xp 48 d 13 ls ((2, z) :: (2, p) :: st) t g Q = (hkJK p = 2 ∧ hkEV[t]? = some (1, p.toNat, 3, z.toNat) ∧ Xp 48 d 16 ls st (t + 1) g Q) := xr_putR (idx := 15) (ci := 2) (k := 3) (by decide +kernel) (by decide +kernel) (by decide +kernel) (by decide +kernel) (by decide +kernel)
theorem x_48_16 : Xp 48 d 16 ls [] t g Q = Q none t g := xr_retV (by decide +kernel) (by decide +kernel)
-- 49: HookBoxes$Rounder.takeRound([I)V
theorem x_49_0 : Xp 49 d 0 [(2, x), v1, v2, v3, v4, v5, v6] st t g Q = Xp 49 d 1 [(2, x), v1, v2, v3, v4, v5, v6] ((2, x) :: st) t g Q := Xp_go (i := .aload_n 0) (len := 1) (by decide +kernel) rfl
theorem x_49_1 : Xp 49 d 1 ls st t g Q = Xp 49 d 2 ls ((0, 1) :: st) t g Q := xr_const (c := 1) (by decide +kernel) (by decide)
theorem x_49_2 : Xp 49 d 2 ls ((0, x) :: (2, p) :: st) t g Q = (hkJK p = 2 ∧ Xp 49 d 5 ls st t (hkSet g p 0 x) Q) := xr_putI (idx := 19) (ci := 2) (k := 0) (by decide +kernel) (by decide +kernel) (by decide +kernel)
theorem x_49_5 : Xp 49 d 5 [(2, x), v1, v2, v3, v4, v5, v6] st t g Q = Xp 49 d 6 [(2, x), v1, v2, v3, v4, v5, v6] ((2, x) :: st) t g Q := Xp_go (i := .aload_n 0) (len := 1) (by decide +kernel) rfl
theorem x_49_6 : Xp 49 d 6 ls st t g Q = Xp 49 d 7 ls ((0, 0) :: st) t g Q := xr_const (c := 0) (by decide +kernel) (by decide)
theorem x_49_7 : Xp 49 d 7 ls ((0, x) :: (2, p) :: st) t g Q = (hkJK p = 2 ∧ Xp 49 d 10 ls st t (hkSet g p 1 x) Q) := xr_putI (idx := 23) (ci := 2) (k := 1) (by decide +kernel) (by decide +kernel) (by decide +kernel)
theorem x_49_10 : Xp 49 d 10 ls st t g Q = Xp 49 d 11 ls ((0, 0) :: st) t g Q := xr_const (c := 0) (by decide +kernel) (by decide)
theorem x_49_11 : Xp 49 d 11 [v0, v1, v2, v3, v4, v5, v6] ((0, x) :: st) t g Q = (hkP1 v1 ∧ Xp 49 d 12 [v0, v1, (0, x), v3, v4, v5, v6] st t g Q) := Xp_chk (i := .istore_n 2) (len := 1) (by decide +kernel) rfl
theorem x_49_12 : Xp 49 d 12 ls st t g Q = Xp 49 d 13 ls ((0, 0) :: st) t g Q := xr_const (c := 0) (by decide +kernel) (by decide)
theorem x_49_13 : Xp 49 d 13 [v0, v1, v2, v3, v4, v5, v6] ((0, x) :: st) t g Q = (hkP1 v2 ∧ Xp 49 d 14 [v0, v1, v2, (0, x), v4, v5, v6] st t g Q) := Xp_chk (i := .istore_n 3) (len := 1) (by decide +kernel) rfl
theorem x_49_14 : Xp 49 d 14 [v0, v1, v2, (0, x), v4, v5, v6] st t g Q = Xp 49 d 15 [v0, v1, v2, (0, x), v4, v5, v6] ((0, x) :: st) t g Q := Xp_go (i := .iload_n 3) (len := 1) (by decide +kernel) rfl
theorem x_49_15 : Xp 49 d 15 [(2, x), v1, v2, v3, v4, v5, v6] st t g Q = Xp 49 d 16 [(2, x), v1, v2, v3, v4, v5, v6] ((2, x) :: st) t g Q := Xp_go (i := .aload_n 0) (len := 1) (by decide +kernel) rfl
theorem x_49_16 : Xp 49 d 16 ls ((2, p) :: st) t g Q = (hkJK p = 2 ∧ jA p 3 ≤ t ∧ Xp 49 d 19 ls ((2, jR p 3) :: st) t g Q) := xr_getR (idx := 15) (ci := 2) (k := 3) (by decide +kernel) (by decide +kernel) (by decide +kernel)
theorem x_49_19 : Xp 49 d 19 ls ((2, p) :: st) t g Q = (hkJK p = 1 ∧ Xp 49 d 22 ls ((0, g p 0) :: st) t g Q) := xr_getI (idx := 26) (ci := 1) (k := 0) (by decide +kernel) (by decide +kernel) (by decide +kernel)
theorem x_49_22 : Xp 49 d 22 ls ((0, b) :: (0, a) :: st) t g Q = ((b ≤ a → Xp 49 d 162 ls st t g Q) ∧ (¬ (b ≤ a) → Xp 49 d 25 ls st t g Q)) := xr_if2 (cd := .ge) (off := 140) (by decide +kernel) (by decide)
theorem x_49_25 : Xp 49 d 25 [(2, x), v1, v2, v3, v4, v5, v6] st t g Q = Xp 49 d 26 [(2, x), v1, v2, v3, v4, v5, v6] ((2, x) :: st) t g Q := Xp_go (i := .aload_n 0) (len := 1) (by decide +kernel) rfl
theorem x_49_26 : Xp 49 d 26 ls ((2, p) :: st) t g Q = (hkJK p = 2 ∧ jA p 3 ≤ t ∧ Xp 49 d 29 ls ((2, jR p 3) :: st) t g Q) := xr_getR (idx := 15) (ci := 2) (k := 3) (by decide +kernel) (by decide +kernel) (by decide +kernel)
theorem x_49_29 : Xp 49 d 29 [v0, (2, x), v2, v3, v4, v5, v6] st t g Q = Xp 49 d 30 [v0, (2, x), v2, v3, v4, v5, v6] ((2, x) :: st) t g Q := Xp_go (i := .aload_n 1) (len := 1) (by decide +kernel) rfl
theorem x_49_30 : Xp 49 d 30 [v0, v1, v2, (0, x), v4, v5, v6] st t g Q = Xp 49 d 31 [v0, v1, v2, (0, x), v4, v5, v6] ((0, x) :: st) t g Q := Xp_go (i := .iload_n 3) (len := 1) (by decide +kernel) rfl
theorem x_49_31 : Xp 49 d 31 ls ((0, a) :: (2, p) :: st) t g Q = ((hkJK p = 100 ∧ 0 ≤ a ∧ a < jL p) ∧ Xp 49 d 32 ls ((0, g p a) :: st) t g Q) := Xp_chk (i := .iaload) (len := 1) (by decide +kernel) rfl
theorem x_49_32 : Xp 49 d 32 [v0, v1, v2, (0, x), v4, v5, v6] st t g Q = Xp 49 d 33 [v0, v1, v2, (0, x), v4, v5, v6] ((0, x) :: st) t g Q := Xp_go (i := .iload_n 3) (len := 1) (by decide +kernel) rfl
theorem x_49_33 : Xp 49 (d + 1) 33 ls ((0, a2) :: (0, a1) :: (2, a0) :: st) t g Q = (hkJK a0 = 1 ∧ hkC8 st ∧ Xp 37 d 0 [(2, a0), (0, a1), (0, a2)] [] t g (fun r t g => Xp 49 (d + 1) 36 ls (hkPush r st) t g Q)) := xr_invV (idx := 31) (y' := 37) (ci := 1) (tg := [2, 0, 0]) (by decide +kernel) (by decide +kernel) (by decide +kernel) (by decide +kernel) rfl rfl rfl
theorem x_49_36 : Xp 49 d 36 [v0, v1, v2, v3, v4, v5, v6] ((0, x) :: st) t g Q = (hkP1 v3 ∧ Xp 49 d 38 [v0, v1, v2, v3, (0, x), v5, v6] st t g Q) := Xp_chk (i := .istore 4) (len := 2) (by decide +kernel) rfl
theorem x_49_38 : Xp 49 d 38 [v0, v1, v2, v3, (0, x), v5, v6] st t g Q = Xp 49 d 40 [v0, v1, v2, v3, (0, x), v5, v6] ((0, x) :: st) t g Q := Xp_go (i := .iload 4) (len := 2) (by decide +kernel) rfl
theorem x_49_40 : Xp 49 d 40 [(2, x), v1, v2, v3, v4, v5, v6] st t g Q = Xp 49 d 41 [(2, x), v1, v2, v3, v4, v5, v6] ((2, x) :: st) t g Q := Xp_go (i := .aload_n 0) (len := 1) (by decide +kernel) rfl
theorem x_49_41 : Xp 49 d 41 ls ((2, p) :: st) t g Q = (hkJK p = 2 ∧ jA p 3 ≤ t ∧ Xp 49 d 44 ls ((2, jR p 3) :: st) t g Q) := xr_getR (idx := 15) (ci := 2) (k := 3) (by decide +kernel) (by decide +kernel) (by decide +kernel)
theorem x_49_44 : Xp 49 d 44 ls ((2, p) :: st) t g Q = (hkJK p = 1 ∧ Xp 49 d 47 ls ((0, g p 1) :: st) t g Q) := xr_getI (idx := 35) (ci := 1) (k := 1) (by decide +kernel) (by decide +kernel) (by decide +kernel)
theorem x_49_47 : Xp 49 d 47 ls ((0, b) :: (0, a) :: st) t g Q = (b ≠ 0 ∧ Xp 49 d 48 ls ((0, hkW (a.tdiv b)) :: st) t g Q) := Xp_chk (i := .idiv) (len := 1) (by decide +kernel) rfl
theorem x_49_48 : Xp 49 d 48 [v0, v1, v2, v3, v4, v5, v6] ((0, x) :: st) t g Q = (hkP1 v4 ∧ Xp 49 d 50 [v0, v1, v2, v3, v4, (0, x), v6] st t g Q) := Xp_chk (i := .istore 5) (len := 2) (by decide +kernel) rfl
theorem x_49_50 : Xp 49 d 50 [(2, x), v1, v2, v3, v4, v5, v6] st t g Q = Xp 49 d 51 [(2, x), v1, v2, v3, v4, v5, v6] ((2, x) :: st) t g Q := Xp_go (i := .aload_n 0) (len := 1) (by decide +kernel) rfl
theorem x_49_51 : Xp 49 d 51 ls (v :: st) t g Q = (hkP1 v ∧ Xp 49 d 52 ls (v :: v :: st) t g Q) := Xp_chk (i := .dup) (len := 1) (by decide +kernel) rfl
theorem x_49_52 : Xp 49 d 52 ls ((2, p) :: st) t g Q = (hkJK p = 2 ∧ Xp 49 d 55 ls ((0, g p 1) :: st) t g Q) := xr_getI (idx := 23) (ci := 2) (k := 1) (by decide +kernel) (by decide +kernel) (by decide +kernel)
theorem x_49_55 : Xp 49 d 55 [v0, v1, v2, v3, v4, (0, x), v6] st t g Q = Xp 49 d 57 [v0, v1, v2, v3, v4, (0, x), v6] ((0, x) :: st) t g Q := Xp_go (i := .iload 5) (len := 2) (by decide +kernel) rfl
theorem x_49_57 : Xp 49 d 57 ls ((0, b) :: (0, a) :: st) t g Q = Xp 49 d 58 ls ((0, hkW (a + b)) :: st) t g Q := Xp_go (i := .iadd) (len := 1) (by decide +kernel) rfl
theorem x_49_58 : Xp 49 d 58 ls ((0, x) :: (2, p) :: st) t g Q = (hkJK p = 2 ∧ Xp 49 d 61 ls st t (hkSet g p 1 x) Q) := xr_putI (idx := 23) (ci := 2) (k := 1) (by decide +kernel) (by decide +kernel) (by decide +kernel)
theorem x_49_61 : Xp 49 d 61 [(2, x), v1, v2, v3, v4, v5, v6] st t g Q = Xp 49 d 62 [(2, x), v1, v2, v3, v4, v5, v6] ((2, x) :: st) t g Q := Xp_go (i := .aload_n 0) (len := 1) (by decide +kernel) rfl
theorem x_49_62 : Xp 49 d 62 ls ((2, p) :: st) t g Q = (hkJK p = 2 ∧ jA p 3 ≤ t ∧ Xp 49 d 65 ls ((2, jR p 3) :: st) t g Q) := xr_getR (idx := 15) (ci := 2) (k := 3) (by decide +kernel) (by decide +kernel) (by decide +kernel)
theorem x_49_65 : Xp 49 d 65 ls ((2, p) :: st) t g Q = (hkJK p = 1 ∧ Xp 49 d 68 ls ((0, g p 0) :: st) t g Q) := xr_getI (idx := 26) (ci := 1) (k := 0) (by decide +kernel) (by decide +kernel) (by decide +kernel)
theorem x_49_68 : Xp 49 d 68 ls st t g Q = Xp 49 d 69 ls ((0, 2) :: st) t g Q := xr_const (c := 2) (by decide +kernel) (by decide)
theorem x_49_69 : Xp 49 d 69 ls ((0, b) :: (0, a) :: st) t g Q = (b ≠ 0 ∧ Xp 49 d 70 ls ((0, a.tmod b) :: st) t g Q) := Xp_chk (i := .irem) (len := 1) (by decide +kernel) rfl
theorem x_49_70 : Xp 49 d 70 ls ((0, a) :: st) t g Q = ((¬ (a = 0) → Xp 49 d 89 ls st t g Q) ∧ (¬ (¬ (a = 0)) → Xp 49 d 73 ls st t g Q)) := xr_if1 (cd := .ne) (off := 19) (by decide +kernel) (by decide)
theorem x_49_73 : Xp 49 d 73 [v0, v1, v2, v3, v4, (0, x), v6] st t g Q = Xp 49 d 75 [v0, v1, v2, v3, v4, (0, x), v6] ((0, x) :: st) t g Q := Xp_go (i := .iload 5) (len := 2) (by decide +kernel) rfl
theorem x_49_75 : Xp 49 d 75 ls st t g Q = Xp 49 d 76 ls ((0, 2) :: st) t g Q := xr_const (c := 2) (by decide +kernel) (by decide)
theorem x_49_76 : Xp 49 d 76 ls ((0, b) :: (0, a) :: st) t g Q = (b ≠ 0 ∧ Xp 49 d 77 ls ((0, a.tmod b) :: st) t g Q) := Xp_chk (i := .irem) (len := 1) (by decide +kernel) rfl
theorem x_49_77 : Xp 49 d 77 ls ((0, a) :: st) t g Q = ((a = 0 → Xp 49 d 89 ls st t g Q) ∧ (¬ (a = 0) → Xp 49 d 80 ls st t g Q)) := xr_if1 (cd := .eq) (off := 12) (by decide +kernel) (by decide)
theorem x_49_80 : Xp 49 d 80 [(2, x), v1, v2, v3, v4, v5, v6] st t g Q = Xp 49 d 81 [(2, x), v1, v2, v3, v4, v5, v6] ((2, x) :: st) t g Q := Xp_go (i := .aload_n 0) (len := 1) (by decide +kernel) rfl
theorem x_49_81 : Xp 49 d 81 [(2, x), v1, v2, v3, v4, v5, v6] st t g Q = Xp 49 d 82 [(2, x), v1, v2, v3, v4, v5, v6] ((2, x) :: st) t g Q := Xp_go (i := .aload_n 0) (len := 1) (by decide +kernel) rfl
theorem x_49_82 : Xp 49 d 82 ls ((2, p) :: st) t g Q = (hkJK p = 2 ∧ Xp 49 d 85 ls ((0, g p 0) :: st) t g Q) := xr_getI (idx := 19) (ci := 2) (k := 0) (by decide +kernel) (by decide +kernel) (by decide +kernel)
theorem x_49_85 : Xp 49 d 85 ls ((0, a) :: st) t g Q = Xp 49 d 86 ls ((0, hkW (-a)) :: st) t g Q := Xp_go (i := .ineg) (len := 1) (by decide +kernel) rfl
theorem x_49_86 : Xp 49 d 86 ls ((0, x) :: (2, p) :: st) t g Q = (hkJK p = 2 ∧ Xp 49 d 89 ls st t (hkSet g p 0 x) Q) := xr_putI (idx := 19) (ci := 2) (k := 0) (by decide +kernel) (by decide +kernel) (by decide +kernel)
theorem x_49_89 : Xp 49 d 89 [(2, x), v1, v2, v3, v4, v5, v6] st t g Q = Xp 49 d 90 [(2, x), v1, v2, v3, v4, v5, v6] ((2, x) :: st) t g Q := Xp_go (i := .aload_n 0) (len := 1) (by decide +kernel) rfl
theorem x_49_90 : Xp 49 d 90 ls ((2, p) :: st) t g Q = (hkJK p = 2 ∧ jA p 4 ≤ t ∧ Xp 49 d 93 ls ((2, jR p 4) :: st) t g Q) := xr_getR (idx := 9) (ci := 2) (k := 4) (by decide +kernel) (by decide +kernel) (by decide +kernel)
theorem x_49_93 : Xp 49 d 93 [v0, v1, v2, (0, x), v4, v5, v6] st t g Q = Xp 49 d 94 [v0, v1, v2, (0, x), v4, v5, v6] ((0, x) :: st) t g Q := Xp_go (i := .iload_n 3) (len := 1) (by decide +kernel) rfl
theorem x_49_94 : Xp 49 d 94 [v0, v1, v2, v3, (0, x), v5, v6] st t g Q = Xp 49 d 96 [v0, v1, v2, v3, (0, x), v5, v6] ((0, x) :: st) t g Q := Xp_go (i := .iload 4) (len := 2) (by decide +kernel) rfl
theorem x_49_96 : Xp 49 d 96 [(2, x), v1, v2, v3, v4, v5, v6] st t g Q = Xp 49 d 97 [(2, x), v1, v2, v3, v4, v5, v6] ((2, x) :: st) t g Q := Xp_go (i := .aload_n 0) (len := 1) (by decide +kernel) rfl
theorem x_49_97 : Xp 49 d 97 ls ((2, p) :: st) t g Q = (hkJK p = 2 ∧ jA p 3 ≤ t ∧ Xp 49 d 100 ls ((2, jR p 3) :: st) t g Q) := xr_getR (idx := 15) (ci := 2) (k := 3) (by decide +kernel) (by decide +kernel) (by decide +kernel)
theorem x_49_100 : Xp 49 d 100 ls ((2, p) :: st) t g Q = (hkJK p = 1 ∧ Xp 49 d 103 ls ((0, g p 1) :: st) t g Q) := xr_getI (idx := 35) (ci := 1) (k := 1) (by decide +kernel) (by decide +kernel) (by decide +kernel)
theorem x_49_103 : Xp 49 d 103 ls ((0, b) :: (0, a) :: st) t g Q = (b ≠ 0 ∧ Xp 49 d 104 ls ((0, a.tmod b) :: st) t g Q) := Xp_chk (i := .irem) (len := 1) (by decide +kernel) rfl
theorem x_49_104 : Xp 49 d 104 ls ((0, x) :: (0, a) :: (2, p) :: st) t g Q = ((hkJK p = 100 ∧ (100 = 102 → x = 0 ∨ x = 1) ∧ 0 ≤ a ∧ a < jL p) ∧ Xp 49 d 105 ls st t (hkSet g p a x) Q) := Xp_chk (i := .iastore) (len := 1) (by decide +kernel) rfl
theorem x_49_105 : Xp 49 d 105 ls st t g Q = Xp 49 d 106 ls ((0, 0) :: st) t g Q := xr_const (c := 0) (by decide +kernel) (by decide)
theorem x_49_106 : Xp 49 d 106 [v0, v1, v2, v3, v4, v5, v6] ((0, x) :: st) t g Q = (hkP1 v5 ∧ Xp 49 d 108 [v0, v1, v2, v3, v4, v5, (0, x)] st t g Q) := Xp_chk (i := .istore 6) (len := 2) (by decide +kernel) rfl
theorem x_49_108 : Xp 49 d 108 [v0, v1, v2, v3, v4, v5, (0, x)] st t g Q = Xp 49 d 110 [v0, v1, v2, v3, v4, v5, (0, x)] ((0, x) :: st) t g Q := Xp_go (i := .iload 6) (len := 2) (by decide +kernel) rfl
theorem x_49_110 : Xp 49 d 110 [v0, v1, v2, (0, x), v4, v5, v6] st t g Q = Xp 49 d 111 [v0, v1, v2, (0, x), v4, v5, v6] ((0, x) :: st) t g Q := Xp_go (i := .iload_n 3) (len := 1) (by decide +kernel) rfl
theorem x_49_111 : Xp 49 d 111 ls ((0, b) :: (0, a) :: st) t g Q = ((b ≤ a → Xp 49 d 145 ls st t g Q) ∧ (¬ (b ≤ a) → Xp 49 d 114 ls st t g Q)) := xr_if2 (cd := .ge) (off := 34) (by decide +kernel) (by decide)
theorem x_49_114 : Xp 49 d 114 [(2, x), v1, v2, v3, v4, v5, v6] st t g Q = Xp 49 d 115 [(2, x), v1, v2, v3, v4, v5, v6] ((2, x) :: st) t g Q := Xp_go (i := .aload_n 0) (len := 1) (by decide +kernel) rfl
theorem x_49_115 : Xp 49 d 115 ls (v :: st) t g Q = (hkP1 v ∧ Xp 49 d 116 ls (v :: v :: st) t g Q) := Xp_chk (i := .dup) (len := 1) (by decide +kernel) rfl
theorem x_49_116 : Xp 49 d 116 ls ((2, p) :: st) t g Q = (hkJK p = 2 ∧ Xp 49 d 119 ls ((0, g p 0) :: st) t g Q) := xr_getI (idx := 19) (ci := 2) (k := 0) (by decide +kernel) (by decide +kernel) (by decide +kernel)
theorem x_49_119 : Xp 49 d 119 [(2, x), v1, v2, v3, v4, v5, v6] st t g Q = Xp 49 d 120 [(2, x), v1, v2, v3, v4, v5, v6] ((2, x) :: st) t g Q := Xp_go (i := .aload_n 0) (len := 1) (by decide +kernel) rfl
theorem x_49_120 : Xp 49 d 120 ls ((2, p) :: st) t g Q = (hkJK p = 2 ∧ jA p 4 ≤ t ∧ Xp 49 d 123 ls ((2, jR p 4) :: st) t g Q) := xr_getR (idx := 9) (ci := 2) (k := 4) (by decide +kernel) (by decide +kernel) (by decide +kernel)
theorem x_49_123 : Xp 49 d 123 [v0, v1, v2, v3, v4, v5, (0, x)] st t g Q = Xp 49 d 125 [v0, v1, v2, v3, v4, v5, (0, x)] ((0, x) :: st) t g Q := Xp_go (i := .iload 6) (len := 2) (by decide +kernel) rfl
theorem x_49_125 : Xp 49 d 125 ls ((0, a) :: (2, p) :: st) t g Q = ((hkJK p = 100 ∧ 0 ≤ a ∧ a < jL p) ∧ Xp 49 d 126 ls ((0, g p a) :: st) t g Q) := Xp_chk (i := .iaload) (len := 1) (by decide +kernel) rfl
theorem x_49_126 : Xp 49 d 126 [(2, x), v1, v2, v3, v4, v5, v6] st t g Q = Xp 49 d 127 [(2, x), v1, v2, v3, v4, v5, v6] ((2, x) :: st) t g Q := Xp_go (i := .aload_n 0) (len := 1) (by decide +kernel) rfl
theorem x_49_127 : Xp 49 d 127 ls ((2, p) :: st) t g Q = (hkJK p = 2 ∧ jA p 4 ≤ t ∧ Xp 49 d 130 ls ((2, jR p 4) :: st) t g Q) := xr_getR (idx := 9) (ci := 2) (k := 4) (by decide +kernel) (by decide +kernel) (by decide +kernel)
theorem x_49_130 : Xp 49 d 130 [v0, v1, v2, (0, x), v4, v5, v6] st t g Q = Xp 49 d 131 [v0, v1, v2, (0, x), v4, v5, v6] ((0, x) :: st) t g Q := Xp_go (i := .iload_n 3) (len := 1) (by decide +kernel) rfl
theorem x_49_131 : Xp 49 d 131 ls ((0, a) :: (2, p) :: st) t g Q = ((hkJK p = 100 ∧ 0 ≤ a ∧ a < jL p) ∧ Xp 49 d 132 ls ((0, g p a) :: st) t g Q) := Xp_chk (i := .iaload) (len := 1) (by decide +kernel) rfl
theorem x_49_132 : Xp 49 (d + 1) 132 ls ((0, a1) :: (0, a0) :: st) t g Q = (hkC8 st ∧ Xp 172 d 0 [(0, a0), (0, a1)] [] t g (fun r t g => Xp 49 (d + 1) 135 ls (hkPush r st) t g Q)) := xr_invS (idx := 38) (y' := 172) (tg := [0, 0]) (by decide +kernel) (by decide +kernel) (by decide +kernel) rfl rfl
theorem x_49_135 : Xp 49 d 135 ls ((0, b) :: (0, a) :: st) t g Q = Xp 49 d 136 ls ((0, hkW (a * b)) :: st) t g Q := Xp_go (i := .imul) (len := 1) (by decide +kernel) rfl
theorem x_49_136 : Xp 49 d 136 ls ((0, x) :: (2, p) :: st) t g Q = (hkJK p = 2 ∧ Xp 49 d 139 ls st t (hkSet g p 0 x) Q) := xr_putI (idx := 19) (ci := 2) (k := 0) (by decide +kernel) (by decide +kernel) (by decide +kernel)
theorem x_49_139 : Xp 49 d 139 [v0, v1, v2, v3, v4, v5, (0, x)] st t g Q = (hkP1 v5 ∧ Xp 49 d 142 [v0, v1, v2, v3, v4, v5, (0, hkW (x + 1))] st t g Q) := Xp_chk (i := .iinc 6 (1)) (len := 3) (by decide +kernel) rfl
theorem x_49_142 : Xp 49 d 142 ls st t g Q = Xp 49 d 108 ls st t g Q := xr_goto (off := -34) (by decide +kernel) (by decide)
theorem x_49_145 : Xp 49 d 145 [v0, v1, (0, x), v3, v4, v5, v6] st t g Q = Xp 49 d 146 [v0, v1, (0, x), v3, v4, v5, v6] ((0, x) :: st) t g Q := Xp_go (i := .iload_n 2) (len := 1) (by decide +kernel) rfl
theorem x_49_146 : Xp 49 d 146 ls st t g Q = Xp 49 d 147 ls ((0, 1) :: st) t g Q := xr_const (c := 1) (by decide +kernel) (by decide)
theorem x_49_147 : Xp 49 d 147 [(2, x), v1, v2, v3, v4, v5, v6] st t g Q = Xp 49 d 148 [(2, x), v1, v2, v3, v4, v5, v6] ((2, x) :: st) t g Q := Xp_go (i := .aload_n 0) (len := 1) (by decide +kernel) rfl
theorem x_49_148 : Xp 49 d 148 ls ((2, p) :: st) t g Q = (hkJK p = 2 ∧ jA p 4 ≤ t ∧ Xp 49 d 151 ls ((2, jR p 4) :: st) t g Q) := xr_getR (idx := 9) (ci := 2) (k := 4) (by decide +kernel) (by decide +kernel) (by decide +kernel)
theorem x_49_151 : Xp 49 d 151 [v0, v1, v2, (0, x), v4, v5, v6] st t g Q = Xp 49 d 152 [v0, v1, v2, (0, x), v4, v5, v6] ((0, x) :: st) t g Q := Xp_go (i := .iload_n 3) (len := 1) (by decide +kernel) rfl
theorem x_49_152 : Xp 49 d 152 ls ((0, a) :: (2, p) :: st) t g Q = ((hkJK p = 100 ∧ 0 ≤ a ∧ a < jL p) ∧ Xp 49 d 153 ls ((0, g p a) :: st) t g Q) := Xp_chk (i := .iaload) (len := 1) (by decide +kernel) rfl
theorem x_49_153 : Xp 49 d 153 ls ((0, b) :: (0, a) :: st) t g Q = Xp 49 d 154 ls ((0, hkShl a b) :: st) t g Q := Xp_go (i := .ishl) (len := 1) (by decide +kernel) rfl
theorem x_49_154 : Xp 49 d 154 ls ((0, b) :: (0, a) :: st) t g Q = Xp 49 d 155 ls ((0, hkOr a b) :: st) t g Q := Xp_go (i := .ior) (len := 1) (by decide +kernel) rfl
theorem x_49_155 : Xp 49 d 155 [v0, v1, v2, v3, v4, v5, v6] ((0, x) :: st) t g Q = (hkP1 v1 ∧ Xp 49 d 156 [v0, v1, (0, x), v3, v4, v5, v6] st t g Q) := Xp_chk (i := .istore_n 2) (len := 1) (by decide +kernel) rfl
theorem x_49_156 : Xp 49 d 156 [v0, v1, v2, (0, x), v4, v5, v6] st t g Q = (hkP1 v2 ∧ Xp 49 d 159 [v0, v1, v2, (0, hkW (x + 1)), v4, v5, v6] st t g Q) := Xp_chk (i := .iinc 3 (1)) (len := 3) (by decide +kernel) rfl
theorem x_49_159 : Xp 49 d 159 ls st t g Q = Xp 49 d 14 ls st t g Q := xr_goto (off := -145) (by decide +kernel) (by decide)
theorem x_49_162 : Xp 49 d 162 [(2, x), v1, v2, v3, v4, v5, v6] st t g Q = Xp 49 d 163 [(2, x), v1, v2, v3, v4, v5, v6] ((2, x) :: st) t g Q := Xp_go (i := .aload_n 0) (len := 1) (by decide +kernel) rfl
theorem x_49_163 : Xp 49 d 163 [(2, x), v1, v2, v3, v4, v5, v6] st t g Q = Xp 49 d 164 [(2, x), v1, v2, v3, v4, v5, v6] ((2, x) :: st) t g Q := Xp_go (i := .aload_n 0) (len := 1) (by decide +kernel) rfl
theorem x_49_164 : Xp 49 d 164 ls ((2, p) :: st) t g Q = (hkJK p = 2 ∧ Xp 49 d 167 ls ((0, g p 0) :: st) t g Q) := xr_getI (idx := 19) (ci := 2) (k := 0) (by decide +kernel) (by decide +kernel) (by decide +kernel)
theorem x_49_167 : Xp 49 d 167 ls ((0, a) :: st) t g Q = ((¬ (a = 0) → Xp 49 d 174 ls st t g Q) ∧ (¬ (¬ (a = 0)) → Xp 49 d 170 ls st t g Q)) := xr_if1 (cd := .ne) (off := 7) (by decide +kernel) (by decide)
theorem x_49_170 : Xp 49 d 170 ls st t g Q = Xp 49 d 171 ls ((0, -1) :: st) t g Q := xr_const (c := -1) (by decide +kernel) (by decide)
theorem x_49_171 : Xp 49 d 171 ls st t g Q = Xp 49 d 182 ls st t g Q := xr_goto (off := 11) (by decide +kernel) (by decide)
theorem x_49_174 : Xp 49 d 174 [(2, x), v1, v2, v3, v4, v5, v6] st t g Q = Xp 49 d 175 [(2, x), v1, v2, v3, v4, v5, v6] ((2, x) :: st) t g Q := Xp_go (i := .aload_n 0) (len := 1) (by decide +kernel) rfl
theorem x_49_175 : Xp 49 d 175 ls ((2, p) :: st) t g Q = (hkJK p = 2 ∧ jA p 3 ≤ t ∧ Xp 49 d 178 ls ((2, jR p 3) :: st) t g Q) := xr_getR (idx := 15) (ci := 2) (k := 3) (by decide +kernel) (by decide +kernel) (by decide +kernel)
theorem x_49_178 : Xp 49 d 178 [v0, v1, (0, x), v3, v4, v5, v6] st t g Q = Xp 49 d 179 [v0, v1, (0, x), v3, v4, v5, v6] ((0, x) :: st) t g Q := Xp_go (i := .iload_n 2) (len := 1) (by decide +kernel) rfl
theorem x_49_179 : Xp 49 (d + 1) 179 ls ((0, a1) :: (2, a0) :: st) t g Q = (hkJK a0 = 1 ∧ hkC8 st ∧ Xp 38 d 0 [(2, a0), (0, a1)] [] t g (fun r t g => Xp 49 (d + 1) 182 ls (hkPush r st) t g Q)) := xr_invV (idx := 43) (y' := 38) (ci := 1) (tg := [2, 0]) (by decide +kernel) (by decide +kernel) (by decide +kernel) (by decide +kernel) rfl rfl rfl
theorem x_49_182 : Xp 49 d 182 ls ((0, x) :: (2, p) :: st) t g Q = (hkJK p = 2 ∧ Xp 49 d 185 ls st t (hkSet g p 2 x) Q) := xr_putI (idx := 47) (ci := 2) (k := 2) (by decide +kernel) (by decide +kernel) (by decide +kernel)
theorem x_49_185 : Xp 49 d 185 ls [] t g Q = Q none t g := xr_retV (by decide +kernel) (by decide +kernel)
end XROWS
