/-! rows of the law (by program: wip/whole/gen_rows.py) -/
section XROWS
variable {d t : Nat} {ls st : List hkV} {g : hkG} {Q : Option hkV → Nat → hkG → Prop} {v w v0 v1 v2 v3 v4 v5 v6 v7 v8 v9 v10 v11 v12 v13 v14 v15 : hkV} {a b x z p q a0 a1 a2 a3 a4 a5 a6 : Int}
-- 184: HookBoxesLaw.law([I)Z
theorem x_184_0 : Xp 184 d 0 ls st t g Q = (∃ P z w, hkEV[t]? = some (0, P, z, w) ∧ hkKd P = 0 ∧ Xp 184 d 3 ls ((2, (P : Int)) :: st) (t + 1) g Q) := xr_new (idx := 7) (ci := 0) (by decide +kernel) (by decide +kernel) (by decide)
theorem x_184_3 : Xp 184 d 3 ls (v :: st) t g Q = (hkP1 v ∧ Xp 184 d 4 ls (v :: v :: st) t g Q) := Xp_chk (i := .dup) (len := 1) (by decide +kernel) rfl
theorem x_184_4 : Xp 184 (d + 1) 4 ls ((2, a0) :: st) t g Q = (hkC8 st ∧ Xp 0 d 0 [(2, a0), hkU] [] t g (fun r t g => Xp 184 (d + 1) 7 ls (hkPush r st) t g Q)) := xr_invP (idx := 9) (y' := 0) (tg := [2]) (by decide +kernel) (by decide +kernel) (by decide +kernel) rfl rfl
theorem x_184_7 : Xp 184 d 7 [v0, v1, v2, v3] ((2, x) :: st) t g Q = (hkP1 v0 ∧ Xp 184 d 8 [v0, (2, x), v2, v3] st t g Q) := Xp_chk (i := .astore_n 1) (len := 1) (by decide +kernel) rfl
theorem x_184_8 : Xp 184 d 8 ls st t g Q = (∃ P z w, hkEV[t]? = some (0, P, z, w) ∧ hkKd P = 10 ∧ Xp 184 d 11 ls ((2, (P : Int)) :: st) (t + 1) g Q) := xr_new (idx := 10) (ci := 10) (by decide +kernel) (by decide +kernel) (by decide)
theorem x_184_11 : Xp 184 d 11 ls (v :: st) t g Q = (hkP1 v ∧ Xp 184 d 12 ls (v :: v :: st) t g Q) := Xp_chk (i := .dup) (len := 1) (by decide +kernel) rfl
theorem x_184_12 : Xp 184 (d + 1) 12 ls ((2, a0) :: st) t g Q = (hkC8 st ∧ Xp 101 d 0 [(2, a0), hkU] [] t g (fun r t g => Xp 184 (d + 1) 15 ls (hkPush r st) t g Q)) := xr_invP (idx := 12) (y' := 101) (tg := [2]) (by decide +kernel) (by decide +kernel) (by decide +kernel) rfl rfl
theorem x_184_15 : Xp 184 d 15 [v0, v1, v2, v3] ((2, x) :: st) t g Q = (hkP1 v1 ∧ Xp 184 d 16 [v0, v1, (2, x), v3] st t g Q) := Xp_chk (i := .astore_n 2) (len := 1) (by decide +kernel) rfl
theorem x_184_16 : Xp 184 d 16 ls st t g Q = Xp 184 d 17 ls ((0, 0) :: st) t g Q := xr_const (c := 0) (by decide +kernel) (by decide)
theorem x_184_17 : Xp 184 d 17 [v0, v1, v2, v3] ((0, x) :: st) t g Q = (hkP1 v2 ∧ Xp 184 d 18 [v0, v1, v2, (0, x)] st t g Q) := Xp_chk (i := .istore_n 3) (len := 1) (by decide +kernel) rfl
theorem x_184_18 : Xp 184 d 18 [v0, v1, v2, (0, x)] st t g Q = Xp 184 d 19 [v0, v1, v2, (0, x)] ((0, x) :: st) t g Q := Xp_go (i := .iload_n 3) (len := 1) (by decide +kernel) rfl
theorem x_184_19 : Xp 184 d 19 [(4, x), v1, v2, v3] st t g Q = Xp 184 d 20 [(4, x), v1, v2, v3] ((4, x) :: st) t g Q := Xp_go (i := .aload_n 0) (len := 1) (by decide +kernel) rfl
theorem x_184_20 : Xp 184 d 20 ls ((4, p) :: st) t g Q = Xp 184 d 21 ls ((0, g (-2) 0) :: st) t g Q := Xp_go (i := .arraylength) (len := 1) (by decide +kernel) rfl
theorem x_184_21 : Xp 184 d 21 ls st t g Q = Xp 184 d 23 ls ((0, 7) :: st) t g Q := xr_bi (c := 7) (by decide +kernel) (by decide)
theorem x_184_23 : Xp 184 d 23 ls ((0, b) :: (0, a) :: st) t g Q = Xp 184 d 24 ls ((0, hkW (a - b)) :: st) t g Q := Xp_go (i := .isub) (len := 1) (by decide +kernel) rfl
theorem x_184_24 : Xp 184 d 24 ls ((0, b) :: (0, a) :: st) t g Q = ((b < a → Xp 184 d 1196 ls st t g Q) ∧ (¬ (b < a) → Xp 184 d 27 ls st t g Q)) := xr_if2 (cd := .gt) (off := 1172) (by decide +kernel) (by decide)
theorem x_184_27 : Xp 184 d 27 [(4, x), v1, v2, v3] st t g Q = Xp 184 d 28 [(4, x), v1, v2, v3] ((4, x) :: st) t g Q := Xp_go (i := .aload_n 0) (len := 1) (by decide +kernel) rfl
theorem x_184_28 : Xp 184 d 28 [v0, v1, v2, (0, x)] st t g Q = Xp 184 d 29 [v0, v1, v2, (0, x)] ((0, x) :: st) t g Q := Xp_go (i := .iload_n 3) (len := 1) (by decide +kernel) rfl
theorem x_184_29 : Xp 184 d 29 ls ((0, a) :: (4, p) :: st) t g Q = ((0 ≤ a ∧ a < g (-2) 0) ∧ Xp 184 d 30 ls ((0, g (-1) a) :: st) t g Q) := Xp_chk (i := .iaload) (len := 1) (by decide +kernel) rfl
theorem x_184_30 : Xp 184 d 30 ls st t g Q = Xp 184 d 32 ls ((0, 31) :: st) t g Q := xr_bi (c := 31) (by decide +kernel) (by decide)
theorem x_184_32 : Xp 184 d 32 ls ((0, b) :: (0, a) :: st) t g Q = Xp 184 d 33 ls ((0, hkAnd a b) :: st) t g Q := Xp_go (i := .iand) (len := 1) (by decide +kernel) rfl
theorem x_184_33_f : hkFetch 184 33 = some (.tableswitch (1157) (0) (26) #[123, 156, 189, 212, 245, 268, 321, 364, 417, 450, 493, 526, 559, 603, 626, 701, 714, 757, 820, 863, 906, 919, 932, 985, 1008, 1051, 1094], 123) := by decide +kernel
theorem x_184_33_k0 : Xp 184 d 33 ls ((0, 0) :: st) t g Q = Xp 184 d 156 ls st t g Q := xr_sw x_184_33_f (off := 123) (by decide +kernel) (by decide)
theorem x_184_33_k1 : Xp 184 d 33 ls ((0, 1) :: st) t g Q = Xp 184 d 189 ls st t g Q := xr_sw x_184_33_f (off := 156) (by decide +kernel) (by decide)
theorem x_184_33_k2 : Xp 184 d 33 ls ((0, 2) :: st) t g Q = Xp 184 d 222 ls st t g Q := xr_sw x_184_33_f (off := 189) (by decide +kernel) (by decide)
theorem x_184_33_k3 : Xp 184 d 33 ls ((0, 3) :: st) t g Q = Xp 184 d 245 ls st t g Q := xr_sw x_184_33_f (off := 212) (by decide +kernel) (by decide)
theorem x_184_33_k4 : Xp 184 d 33 ls ((0, 4) :: st) t g Q = Xp 184 d 278 ls st t g Q := xr_sw x_184_33_f (off := 245) (by decide +kernel) (by decide)
theorem x_184_33_k5 : Xp 184 d 33 ls ((0, 5) :: st) t g Q = Xp 184 d 301 ls st t g Q := xr_sw x_184_33_f (off := 268) (by decide +kernel) (by decide)
theorem x_184_33_k6 : Xp 184 d 33 ls ((0, 6) :: st) t g Q = Xp 184 d 354 ls st t g Q := xr_sw x_184_33_f (off := 321) (by decide +kernel) (by decide)
theorem x_184_33_k7 : Xp 184 d 33 ls ((0, 7) :: st) t g Q = Xp 184 d 397 ls st t g Q := xr_sw x_184_33_f (off := 364) (by decide +kernel) (by decide)
theorem x_184_33_k8 : Xp 184 d 33 ls ((0, 8) :: st) t g Q = Xp 184 d 450 ls st t g Q := xr_sw x_184_33_f (off := 417) (by decide +kernel) (by decide)
theorem x_184_33_k9 : Xp 184 d 33 ls ((0, 9) :: st) t g Q = Xp 184 d 483 ls st t g Q := xr_sw x_184_33_f (off := 450) (by decide +kernel) (by decide)
theorem x_184_33_k10 : Xp 184 d 33 ls ((0, 10) :: st) t g Q = Xp 184 d 526 ls st t g Q := xr_sw x_184_33_f (off := 493) (by decide +kernel) (by decide)
theorem x_184_33_k11 : Xp 184 d 33 ls ((0, 11) :: st) t g Q = Xp 184 d 559 ls st t g Q := xr_sw x_184_33_f (off := 526) (by decide +kernel) (by decide)
theorem x_184_33_k12 : Xp 184 d 33 ls ((0, 12) :: st) t g Q = Xp 184 d 592 ls st t g Q := xr_sw x_184_33_f (off := 559) (by decide +kernel) (by decide)
theorem x_184_33_k13 : Xp 184 d 33 ls ((0, 13) :: st) t g Q = Xp 184 d 636 ls st t g Q := xr_sw x_184_33_f (off := 603) (by decide +kernel) (by decide)
theorem x_184_33_k14 : Xp 184 d 33 ls ((0, 14) :: st) t g Q = Xp 184 d 659 ls st t g Q := xr_sw x_184_33_f (off := 626) (by decide +kernel) (by decide)
theorem x_184_33_k15 : Xp 184 d 33 ls ((0, 15) :: st) t g Q = Xp 184 d 734 ls st t g Q := xr_sw x_184_33_f (off := 701) (by decide +kernel) (by decide)
theorem x_184_33_k16 : Xp 184 d 33 ls ((0, 16) :: st) t g Q = Xp 184 d 747 ls st t g Q := xr_sw x_184_33_f (off := 714) (by decide +kernel) (by decide)
theorem x_184_33_k17 : Xp 184 d 33 ls ((0, 17) :: st) t g Q = Xp 184 d 790 ls st t g Q := xr_sw x_184_33_f (off := 757) (by decide +kernel) (by decide)
theorem x_184_33_k18 : Xp 184 d 33 ls ((0, 18) :: st) t g Q = Xp 184 d 853 ls st t g Q := xr_sw x_184_33_f (off := 820) (by decide +kernel) (by decide)
theorem x_184_33_k19 : Xp 184 d 33 ls ((0, 19) :: st) t g Q = Xp 184 d 896 ls st t g Q := xr_sw x_184_33_f (off := 863) (by decide +kernel) (by decide)
theorem x_184_33_k20 : Xp 184 d 33 ls ((0, 20) :: st) t g Q = Xp 184 d 939 ls st t g Q := xr_sw x_184_33_f (off := 906) (by decide +kernel) (by decide)
theorem x_184_33_k21 : Xp 184 d 33 ls ((0, 21) :: st) t g Q = Xp 184 d 952 ls st t g Q := xr_sw x_184_33_f (off := 919) (by decide +kernel) (by decide)
theorem x_184_33_k22 : Xp 184 d 33 ls ((0, 22) :: st) t g Q = Xp 184 d 965 ls st t g Q := xr_sw x_184_33_f (off := 932) (by decide +kernel) (by decide)
theorem x_184_33_k23 : Xp 184 d 33 ls ((0, 23) :: st) t g Q = Xp 184 d 1018 ls st t g Q := xr_sw x_184_33_f (off := 985) (by decide +kernel) (by decide)
theorem x_184_33_k24 : Xp 184 d 33 ls ((0, 24) :: st) t g Q = Xp 184 d 1041 ls st t g Q := xr_sw x_184_33_f (off := 1008) (by decide +kernel) (by decide)
theorem x_184_33_k25 : Xp 184 d 33 ls ((0, 25) :: st) t g Q = Xp 184 d 1084 ls st t g Q := xr_sw x_184_33_f (off := 1051) (by decide +kernel) (by decide)
theorem x_184_33_k26 : Xp 184 d 33 ls ((0, 26) :: st) t g Q = Xp 184 d 1127 ls st t g Q := xr_sw x_184_33_f (off := 1094) (by decide +kernel) (by decide)
theorem x_184_33_d (h : a < 0 ∨ 26 < a) : Xp 184 d 33 ls ((0, a) :: st) t g Q = Xp 184 d 1190 ls st t g Q := xr_swd x_184_33_f h (by decide)
theorem x_184_156 : Xp 184 d 156 [v0, (2, x), v2, v3] st t g Q = Xp 184 d 157 [v0, (2, x), v2, v3] ((2, x) :: st) t g Q := Xp_go (i := .aload_n 1) (len := 1) (by decide +kernel) rfl
theorem x_184_157 : Xp 184 d 157 [(4, x), v1, v2, v3] st t g Q = Xp 184 d 158 [(4, x), v1, v2, v3] ((4, x) :: st) t g Q := Xp_go (i := .aload_n 0) (len := 1) (by decide +kernel) rfl
theorem x_184_158 : Xp 184 d 158 [v0, v1, v2, (0, x)] st t g Q = Xp 184 d 159 [v0, v1, v2, (0, x)] ((0, x) :: st) t g Q := Xp_go (i := .iload_n 3) (len := 1) (by decide +kernel) rfl
theorem x_184_159 : Xp 184 d 159 ls st t g Q = Xp 184 d 160 ls ((0, 1) :: st) t g Q := xr_const (c := 1) (by decide +kernel) (by decide)
theorem x_184_160 : Xp 184 d 160 ls ((0, b) :: (0, a) :: st) t g Q = Xp 184 d 161 ls ((0, hkW (a + b)) :: st) t g Q := Xp_go (i := .iadd) (len := 1) (by decide +kernel) rfl
theorem x_184_161 : Xp 184 d 161 ls ((0, a) :: (4, p) :: st) t g Q = ((0 ≤ a ∧ a < g (-2) 0) ∧ Xp 184 d 162 ls ((0, g (-1) a) :: st) t g Q) := Xp_chk (i := .iaload) (len := 1) (by decide +kernel) rfl
theorem x_184_162 : Xp 184 d 162 [(4, x), v1, v2, v3] st t g Q = Xp 184 d 163 [(4, x), v1, v2, v3] ((4, x) :: st) t g Q := Xp_go (i := .aload_n 0) (len := 1) (by decide +kernel) rfl
theorem x_184_163 : Xp 184 d 163 [v0, v1, v2, (0, x)] st t g Q = Xp 184 d 164 [v0, v1, v2, (0, x)] ((0, x) :: st) t g Q := Xp_go (i := .iload_n 3) (len := 1) (by decide +kernel) rfl
theorem x_184_164 : Xp 184 d 164 ls st t g Q = Xp 184 d 165 ls ((0, 2) :: st) t g Q := xr_const (c := 2) (by decide +kernel) (by decide)
theorem x_184_165 : Xp 184 d 165 ls ((0, b) :: (0, a) :: st) t g Q = Xp 184 d 166 ls ((0, hkW (a + b)) :: st) t g Q := Xp_go (i := .iadd) (len := 1) (by decide +kernel) rfl
theorem x_184_166 : Xp 184 d 166 ls ((0, a) :: (4, p) :: st) t g Q = ((0 ≤ a ∧ a < g (-2) 0) ∧ Xp 184 d 167 ls ((0, g (-1) a) :: st) t g Q) := Xp_chk (i := .iaload) (len := 1) (by decide +kernel) rfl
theorem x_184_167 : Xp 184 (d + 1) 167 ls ((0, a2) :: (0, a1) :: (2, a0) :: st) t g Q = (hkJK a0 = 0 ∧ hkC8 st ∧ Xp 1 d 0 [(2, a0), (0, a1), (0, a2)] [] t g (fun r t g => Xp 184 (d + 1) 170 ls (hkPush r st) t g Q)) := xr_invV (idx := 13) (y' := 1) (ci := 0) (tg := [2, 0, 0]) (by decide +kernel) (by decide +kernel) (by decide +kernel) (by decide +kernel) rfl rfl rfl
theorem x_184_170 : Xp 184 d 170 [v0, v1, (2, x), v3] st t g Q = Xp 184 d 171 [v0, v1, (2, x), v3] ((2, x) :: st) t g Q := Xp_go (i := .aload_n 2) (len := 1) (by decide +kernel) rfl
theorem x_184_171 : Xp 184 d 171 [(4, x), v1, v2, v3] st t g Q = Xp 184 d 172 [(4, x), v1, v2, v3] ((4, x) :: st) t g Q := Xp_go (i := .aload_n 0) (len := 1) (by decide +kernel) rfl
theorem x_184_172 : Xp 184 d 172 [v0, v1, v2, (0, x)] st t g Q = Xp 184 d 173 [v0, v1, v2, (0, x)] ((0, x) :: st) t g Q := Xp_go (i := .iload_n 3) (len := 1) (by decide +kernel) rfl
theorem x_184_173 : Xp 184 d 173 ls st t g Q = Xp 184 d 174 ls ((0, 1) :: st) t g Q := xr_const (c := 1) (by decide +kernel) (by decide)
theorem x_184_174 : Xp 184 d 174 ls ((0, b) :: (0, a) :: st) t g Q = Xp 184 d 175 ls ((0, hkW (a + b)) :: st) t g Q := Xp_go (i := .iadd) (len := 1) (by decide +kernel) rfl
theorem x_184_175 : Xp 184 d 175 ls ((0, a) :: (4, p) :: st) t g Q = ((0 ≤ a ∧ a < g (-2) 0) ∧ Xp 184 d 176 ls ((0, g (-1) a) :: st) t g Q) := Xp_chk (i := .iaload) (len := 1) (by decide +kernel) rfl
theorem x_184_176 : Xp 184 d 176 [(4, x), v1, v2, v3] st t g Q = Xp 184 d 177 [(4, x), v1, v2, v3] ((4, x) :: st) t g Q := Xp_go (i := .aload_n 0) (len := 1) (by decide +kernel) rfl
theorem x_184_177 : Xp 184 d 177 [v0, v1, v2, (0, x)] st t g Q = Xp 184 d 178 [v0, v1, v2, (0, x)] ((0, x) :: st) t g Q := Xp_go (i := .iload_n 3) (len := 1) (by decide +kernel) rfl
theorem x_184_178 : Xp 184 d 178 ls st t g Q = Xp 184 d 179 ls ((0, 2) :: st) t g Q := xr_const (c := 2) (by decide +kernel) (by decide)
theorem x_184_179 : Xp 184 d 179 ls ((0, b) :: (0, a) :: st) t g Q = Xp 184 d 180 ls ((0, hkW (a + b)) :: st) t g Q := Xp_go (i := .iadd) (len := 1) (by decide +kernel) rfl
theorem x_184_180 : Xp 184 d 180 ls ((0, a) :: (4, p) :: st) t g Q = ((0 ≤ a ∧ a < g (-2) 0) ∧ Xp 184 d 181 ls ((0, g (-1) a) :: st) t g Q) := Xp_chk (i := .iaload) (len := 1) (by decide +kernel) rfl
theorem x_184_181 : Xp 184 (d + 1) 181 ls ((0, a2) :: (0, a1) :: (2, a0) :: st) t g Q = (hkJK a0 = 10 ∧ hkC8 st ∧ Xp 106 d 0 [(2, a0), (0, a1), (0, a2), hkU] [] t g (fun r t g => Xp 184 (d + 1) 184 ls (hkPush r st) t g Q)) := xr_invV (idx := 17) (y' := 106) (ci := 10) (tg := [2, 0, 0]) (by decide +kernel) (by decide +kernel) (by decide +kernel) (by decide +kernel) rfl rfl rfl
theorem x_184_184 : Xp 184 d 184 ls ((0, b) :: (0, a) :: st) t g Q = ((a = b → Xp 184 d 1190 ls st t g Q) ∧ (¬ (a = b) → Xp 184 d 187 ls st t g Q)) := xr_if2 (cd := .eq) (off := 1006) (by decide +kernel) (by decide)
theorem x_184_187 : Xp 184 d 187 ls st t g Q = Xp 184 d 188 ls ((0, 0) :: st) t g Q := xr_const (c := 0) (by decide +kernel) (by decide)
theorem x_184_188 : Xp 184 d 188 ls [(0, x)] t g Q = ((x = 0 ∨ x = 1) ∧ Q (some (0, x)) t g) := xr_retZ (by decide +kernel) (by decide +kernel)
theorem x_184_189 : Xp 184 d 189 [v0, (2, x), v2, v3] st t g Q = Xp 184 d 190 [v0, (2, x), v2, v3] ((2, x) :: st) t g Q := Xp_go (i := .aload_n 1) (len := 1) (by decide +kernel) rfl
theorem x_184_190 : Xp 184 d 190 [(4, x), v1, v2, v3] st t g Q = Xp 184 d 191 [(4, x), v1, v2, v3] ((4, x) :: st) t g Q := Xp_go (i := .aload_n 0) (len := 1) (by decide +kernel) rfl
theorem x_184_191 : Xp 184 d 191 [v0, v1, v2, (0, x)] st t g Q = Xp 184 d 192 [v0, v1, v2, (0, x)] ((0, x) :: st) t g Q := Xp_go (i := .iload_n 3) (len := 1) (by decide +kernel) rfl
theorem x_184_192 : Xp 184 d 192 ls st t g Q = Xp 184 d 193 ls ((0, 1) :: st) t g Q := xr_const (c := 1) (by decide +kernel) (by decide)
theorem x_184_193 : Xp 184 d 193 ls ((0, b) :: (0, a) :: st) t g Q = Xp 184 d 194 ls ((0, hkW (a + b)) :: st) t g Q := Xp_go (i := .iadd) (len := 1) (by decide +kernel) rfl
theorem x_184_194 : Xp 184 d 194 ls ((0, a) :: (4, p) :: st) t g Q = ((0 ≤ a ∧ a < g (-2) 0) ∧ Xp 184 d 195 ls ((0, g (-1) a) :: st) t g Q) := Xp_chk (i := .iaload) (len := 1) (by decide +kernel) rfl
theorem x_184_195 : Xp 184 d 195 [(4, x), v1, v2, v3] st t g Q = Xp 184 d 196 [(4, x), v1, v2, v3] ((4, x) :: st) t g Q := Xp_go (i := .aload_n 0) (len := 1) (by decide +kernel) rfl
theorem x_184_196 : Xp 184 d 196 [v0, v1, v2, (0, x)] st t g Q = Xp 184 d 197 [v0, v1, v2, (0, x)] ((0, x) :: st) t g Q := Xp_go (i := .iload_n 3) (len := 1) (by decide +kernel) rfl
theorem x_184_197 : Xp 184 d 197 ls st t g Q = Xp 184 d 198 ls ((0, 2) :: st) t g Q := xr_const (c := 2) (by decide +kernel) (by decide)
theorem x_184_198 : Xp 184 d 198 ls ((0, b) :: (0, a) :: st) t g Q = Xp 184 d 199 ls ((0, hkW (a + b)) :: st) t g Q := Xp_go (i := .iadd) (len := 1) (by decide +kernel) rfl
theorem x_184_199 : Xp 184 d 199 ls ((0, a) :: (4, p) :: st) t g Q = ((0 ≤ a ∧ a < g (-2) 0) ∧ Xp 184 d 200 ls ((0, g (-1) a) :: st) t g Q) := Xp_chk (i := .iaload) (len := 1) (by decide +kernel) rfl
theorem x_184_200 : Xp 184 (d + 1) 200 ls ((0, a2) :: (0, a1) :: (2, a0) :: st) t g Q = (hkJK a0 = 0 ∧ hkC8 st ∧ Xp 4 d 0 [(2, a0), (0, a1), (0, a2)] [] t g (fun r t g => Xp 184 (d + 1) 203 ls (hkPush r st) t g Q)) := xr_invV (idx := 18) (y' := 4) (ci := 0) (tg := [2, 0, 0]) (by decide +kernel) (by decide +kernel) (by decide +kernel) (by decide +kernel) rfl rfl rfl
theorem x_184_203 : Xp 184 d 203 [v0, v1, (2, x), v3] st t g Q = Xp 184 d 204 [v0, v1, (2, x), v3] ((2, x) :: st) t g Q := Xp_go (i := .aload_n 2) (len := 1) (by decide +kernel) rfl
theorem x_184_204 : Xp 184 d 204 [(4, x), v1, v2, v3] st t g Q = Xp 184 d 205 [(4, x), v1, v2, v3] ((4, x) :: st) t g Q := Xp_go (i := .aload_n 0) (len := 1) (by decide +kernel) rfl
theorem x_184_205 : Xp 184 d 205 [v0, v1, v2, (0, x)] st t g Q = Xp 184 d 206 [v0, v1, v2, (0, x)] ((0, x) :: st) t g Q := Xp_go (i := .iload_n 3) (len := 1) (by decide +kernel) rfl
theorem x_184_206 : Xp 184 d 206 ls st t g Q = Xp 184 d 207 ls ((0, 1) :: st) t g Q := xr_const (c := 1) (by decide +kernel) (by decide)
theorem x_184_207 : Xp 184 d 207 ls ((0, b) :: (0, a) :: st) t g Q = Xp 184 d 208 ls ((0, hkW (a + b)) :: st) t g Q := Xp_go (i := .iadd) (len := 1) (by decide +kernel) rfl
theorem x_184_208 : Xp 184 d 208 ls ((0, a) :: (4, p) :: st) t g Q = ((0 ≤ a ∧ a < g (-2) 0) ∧ Xp 184 d 209 ls ((0, g (-1) a) :: st) t g Q) := Xp_chk (i := .iaload) (len := 1) (by decide +kernel) rfl
theorem x_184_209 : Xp 184 d 209 [(4, x), v1, v2, v3] st t g Q = Xp 184 d 210 [(4, x), v1, v2, v3] ((4, x) :: st) t g Q := Xp_go (i := .aload_n 0) (len := 1) (by decide +kernel) rfl
theorem x_184_210 : Xp 184 d 210 [v0, v1, v2, (0, x)] st t g Q = Xp 184 d 211 [v0, v1, v2, (0, x)] ((0, x) :: st) t g Q := Xp_go (i := .iload_n 3) (len := 1) (by decide +kernel) rfl
theorem x_184_211 : Xp 184 d 211 ls st t g Q = Xp 184 d 212 ls ((0, 2) :: st) t g Q := xr_const (c := 2) (by decide +kernel) (by decide)
theorem x_184_212 : Xp 184 d 212 ls ((0, b) :: (0, a) :: st) t g Q = Xp 184 d 213 ls ((0, hkW (a + b)) :: st) t g Q := Xp_go (i := .iadd) (len := 1) (by decide +kernel) rfl
theorem x_184_213 : Xp 184 d 213 ls ((0, a) :: (4, p) :: st) t g Q = ((0 ≤ a ∧ a < g (-2) 0) ∧ Xp 184 d 214 ls ((0, g (-1) a) :: st) t g Q) := Xp_chk (i := .iaload) (len := 1) (by decide +kernel) rfl
theorem x_184_214 : Xp 184 (d + 1) 214 ls ((0, a2) :: (0, a1) :: (2, a0) :: st) t g Q = (hkJK a0 = 10 ∧ hkC8 st ∧ Xp 108 d 0 [(2, a0), (0, a1), (0, a2)] [] t g (fun r t g => Xp 184 (d + 1) 217 ls (hkPush r st) t g Q)) := xr_invV (idx := 21) (y' := 108) (ci := 10) (tg := [2, 0, 0]) (by decide +kernel) (by decide +kernel) (by decide +kernel) (by decide +kernel) rfl rfl rfl
theorem x_184_217 : Xp 184 d 217 ls ((0, b) :: (0, a) :: st) t g Q = ((a = b → Xp 184 d 1190 ls st t g Q) ∧ (¬ (a = b) → Xp 184 d 220 ls st t g Q)) := xr_if2 (cd := .eq) (off := 973) (by decide +kernel) (by decide)
theorem x_184_220 : Xp 184 d 220 ls st t g Q = Xp 184 d 221 ls ((0, 0) :: st) t g Q := xr_const (c := 0) (by decide +kernel) (by decide)
theorem x_184_221 : Xp 184 d 221 ls [(0, x)] t g Q = ((x = 0 ∨ x = 1) ∧ Q (some (0, x)) t g) := xr_retZ (by decide +kernel) (by decide +kernel)
theorem x_184_222 : Xp 184 d 222 [v0, (2, x), v2, v3] st t g Q = Xp 184 d 223 [v0, (2, x), v2, v3] ((2, x) :: st) t g Q := Xp_go (i := .aload_n 1) (len := 1) (by decide +kernel) rfl
theorem x_184_223 : Xp 184 d 223 [(4, x), v1, v2, v3] st t g Q = Xp 184 d 224 [(4, x), v1, v2, v3] ((4, x) :: st) t g Q := Xp_go (i := .aload_n 0) (len := 1) (by decide +kernel) rfl
theorem x_184_224 : Xp 184 d 224 [v0, v1, v2, (0, x)] st t g Q = Xp 184 d 225 [v0, v1, v2, (0, x)] ((0, x) :: st) t g Q := Xp_go (i := .iload_n 3) (len := 1) (by decide +kernel) rfl
theorem x_184_225 : Xp 184 d 225 ls st t g Q = Xp 184 d 226 ls ((0, 1) :: st) t g Q := xr_const (c := 1) (by decide +kernel) (by decide)
theorem x_184_226 : Xp 184 d 226 ls ((0, b) :: (0, a) :: st) t g Q = Xp 184 d 227 ls ((0, hkW (a + b)) :: st) t g Q := Xp_go (i := .iadd) (len := 1) (by decide +kernel) rfl
theorem x_184_227 : Xp 184 d 227 ls ((0, a) :: (4, p) :: st) t g Q = ((0 ≤ a ∧ a < g (-2) 0) ∧ Xp 184 d 228 ls ((0, g (-1) a) :: st) t g Q) := Xp_chk (i := .iaload) (len := 1) (by decide +kernel) rfl
theorem x_184_228 : Xp 184 (d + 1) 228 ls ((0, a1) :: (2, a0) :: st) t g Q = (hkJK a0 = 0 ∧ hkC8 st ∧ Xp 5 d 0 [(2, a0), (0, a1)] [] t g (fun r t g => Xp 184 (d + 1) 231 ls (hkPush r st) t g Q)) := xr_invV (idx := 22) (y' := 5) (ci := 0) (tg := [2, 0]) (by decide +kernel) (by decide +kernel) (by decide +kernel) (by decide +kernel) rfl rfl rfl
theorem x_184_231 : Xp 184 d 231 [v0, v1, (2, x), v3] st t g Q = Xp 184 d 232 [v0, v1, (2, x), v3] ((2, x) :: st) t g Q := Xp_go (i := .aload_n 2) (len := 1) (by decide +kernel) rfl
theorem x_184_232 : Xp 184 d 232 [(4, x), v1, v2, v3] st t g Q = Xp 184 d 233 [(4, x), v1, v2, v3] ((4, x) :: st) t g Q := Xp_go (i := .aload_n 0) (len := 1) (by decide +kernel) rfl
theorem x_184_233 : Xp 184 d 233 [v0, v1, v2, (0, x)] st t g Q = Xp 184 d 234 [v0, v1, v2, (0, x)] ((0, x) :: st) t g Q := Xp_go (i := .iload_n 3) (len := 1) (by decide +kernel) rfl
theorem x_184_234 : Xp 184 d 234 ls st t g Q = Xp 184 d 235 ls ((0, 1) :: st) t g Q := xr_const (c := 1) (by decide +kernel) (by decide)
theorem x_184_235 : Xp 184 d 235 ls ((0, b) :: (0, a) :: st) t g Q = Xp 184 d 236 ls ((0, hkW (a + b)) :: st) t g Q := Xp_go (i := .iadd) (len := 1) (by decide +kernel) rfl
theorem x_184_236 : Xp 184 d 236 ls ((0, a) :: (4, p) :: st) t g Q = ((0 ≤ a ∧ a < g (-2) 0) ∧ Xp 184 d 237 ls ((0, g (-1) a) :: st) t g Q) := Xp_chk (i := .iaload) (len := 1) (by decide +kernel) rfl
theorem x_184_237 : Xp 184 (d + 1) 237 ls ((0, a1) :: (2, a0) :: st) t g Q = (hkJK a0 = 10 ∧ hkC8 st ∧ Xp 111 d 0 [(2, a0), (0, a1), hkU, hkU, hkU] [] t g (fun r t g => Xp 184 (d + 1) 240 ls (hkPush r st) t g Q)) := xr_invV (idx := 26) (y' := 111) (ci := 10) (tg := [2, 0]) (by decide +kernel) (by decide +kernel) (by decide +kernel) (by decide +kernel) rfl rfl rfl
theorem x_184_240 : Xp 184 d 240 ls ((0, b) :: (0, a) :: st) t g Q = ((a = b → Xp 184 d 1190 ls st t g Q) ∧ (¬ (a = b) → Xp 184 d 243 ls st t g Q)) := xr_if2 (cd := .eq) (off := 950) (by decide +kernel) (by decide)
theorem x_184_243 : Xp 184 d 243 ls st t g Q = Xp 184 d 244 ls ((0, 0) :: st) t g Q := xr_const (c := 0) (by decide +kernel) (by decide)
theorem x_184_244 : Xp 184 d 244 ls [(0, x)] t g Q = ((x = 0 ∨ x = 1) ∧ Q (some (0, x)) t g) := xr_retZ (by decide +kernel) (by decide +kernel)
theorem x_184_245 : Xp 184 d 245 [v0, (2, x), v2, v3] st t g Q = Xp 184 d 246 [v0, (2, x), v2, v3] ((2, x) :: st) t g Q := Xp_go (i := .aload_n 1) (len := 1) (by decide +kernel) rfl
theorem x_184_246 : Xp 184 d 246 [(4, x), v1, v2, v3] st t g Q = Xp 184 d 247 [(4, x), v1, v2, v3] ((4, x) :: st) t g Q := Xp_go (i := .aload_n 0) (len := 1) (by decide +kernel) rfl
theorem x_184_247 : Xp 184 d 247 [v0, v1, v2, (0, x)] st t g Q = Xp 184 d 248 [v0, v1, v2, (0, x)] ((0, x) :: st) t g Q := Xp_go (i := .iload_n 3) (len := 1) (by decide +kernel) rfl
theorem x_184_248 : Xp 184 d 248 ls st t g Q = Xp 184 d 249 ls ((0, 1) :: st) t g Q := xr_const (c := 1) (by decide +kernel) (by decide)
theorem x_184_249 : Xp 184 d 249 ls ((0, b) :: (0, a) :: st) t g Q = Xp 184 d 250 ls ((0, hkW (a + b)) :: st) t g Q := Xp_go (i := .iadd) (len := 1) (by decide +kernel) rfl
theorem x_184_250 : Xp 184 d 250 ls ((0, a) :: (4, p) :: st) t g Q = ((0 ≤ a ∧ a < g (-2) 0) ∧ Xp 184 d 251 ls ((0, g (-1) a) :: st) t g Q) := Xp_chk (i := .iaload) (len := 1) (by decide +kernel) rfl
theorem x_184_251 : Xp 184 d 251 [(4, x), v1, v2, v3] st t g Q = Xp 184 d 252 [(4, x), v1, v2, v3] ((4, x) :: st) t g Q := Xp_go (i := .aload_n 0) (len := 1) (by decide +kernel) rfl
theorem x_184_252 : Xp 184 d 252 [v0, v1, v2, (0, x)] st t g Q = Xp 184 d 253 [v0, v1, v2, (0, x)] ((0, x) :: st) t g Q := Xp_go (i := .iload_n 3) (len := 1) (by decide +kernel) rfl
theorem x_184_253 : Xp 184 d 253 ls st t g Q = Xp 184 d 254 ls ((0, 2) :: st) t g Q := xr_const (c := 2) (by decide +kernel) (by decide)
theorem x_184_254 : Xp 184 d 254 ls ((0, b) :: (0, a) :: st) t g Q = Xp 184 d 255 ls ((0, hkW (a + b)) :: st) t g Q := Xp_go (i := .iadd) (len := 1) (by decide +kernel) rfl
theorem x_184_255 : Xp 184 d 255 ls ((0, a) :: (4, p) :: st) t g Q = ((0 ≤ a ∧ a < g (-2) 0) ∧ Xp 184 d 256 ls ((0, g (-1) a) :: st) t g Q) := Xp_chk (i := .iaload) (len := 1) (by decide +kernel) rfl
theorem x_184_256 : Xp 184 (d + 1) 256 ls ((0, a2) :: (0, a1) :: (2, a0) :: st) t g Q = (hkJK a0 = 0 ∧ hkC8 st ∧ Xp 6 d 0 [(2, a0), (0, a1), (0, a2)] [] t g (fun r t g => Xp 184 (d + 1) 259 ls (hkPush r st) t g Q)) := xr_invV (idx := 27) (y' := 6) (ci := 0) (tg := [2, 0, 0]) (by decide +kernel) (by decide +kernel) (by decide +kernel) (by decide +kernel) rfl rfl rfl
theorem x_184_259 : Xp 184 d 259 [v0, v1, (2, x), v3] st t g Q = Xp 184 d 260 [v0, v1, (2, x), v3] ((2, x) :: st) t g Q := Xp_go (i := .aload_n 2) (len := 1) (by decide +kernel) rfl
theorem x_184_260 : Xp 184 d 260 [(4, x), v1, v2, v3] st t g Q = Xp 184 d 261 [(4, x), v1, v2, v3] ((4, x) :: st) t g Q := Xp_go (i := .aload_n 0) (len := 1) (by decide +kernel) rfl
theorem x_184_261 : Xp 184 d 261 [v0, v1, v2, (0, x)] st t g Q = Xp 184 d 262 [v0, v1, v2, (0, x)] ((0, x) :: st) t g Q := Xp_go (i := .iload_n 3) (len := 1) (by decide +kernel) rfl
theorem x_184_262 : Xp 184 d 262 ls st t g Q = Xp 184 d 263 ls ((0, 1) :: st) t g Q := xr_const (c := 1) (by decide +kernel) (by decide)
theorem x_184_263 : Xp 184 d 263 ls ((0, b) :: (0, a) :: st) t g Q = Xp 184 d 264 ls ((0, hkW (a + b)) :: st) t g Q := Xp_go (i := .iadd) (len := 1) (by decide +kernel) rfl
theorem x_184_264 : Xp 184 d 264 ls ((0, a) :: (4, p) :: st) t g Q = ((0 ≤ a ∧ a < g (-2) 0) ∧ Xp 184 d 265 ls ((0, g (-1) a) :: st) t g Q) := Xp_chk (i := .iaload) (len := 1) (by decide +kernel) rfl
theorem x_184_265 : Xp 184 d 265 [(4, x), v1, v2, v3] st t g Q = Xp 184 d 266 [(4, x), v1, v2, v3] ((4, x) :: st) t g Q := Xp_go (i := .aload_n 0) (len := 1) (by decide +kernel) rfl
theorem x_184_266 : Xp 184 d 266 [v0, v1, v2, (0, x)] st t g Q = Xp 184 d 267 [v0, v1, v2, (0, x)] ((0, x) :: st) t g Q := Xp_go (i := .iload_n 3) (len := 1) (by decide +kernel) rfl
theorem x_184_267 : Xp 184 d 267 ls st t g Q = Xp 184 d 268 ls ((0, 2) :: st) t g Q := xr_const (c := 2) (by decide +kernel) (by decide)
theorem x_184_268 : Xp 184 d 268 ls ((0, b) :: (0, a) :: st) t g Q = Xp 184 d 269 ls ((0, hkW (a + b)) :: st) t g Q := Xp_go (i := .iadd) (len := 1) (by decide +kernel) rfl
theorem x_184_269 : Xp 184 d 269 ls ((0, a) :: (4, p) :: st) t g Q = ((0 ≤ a ∧ a < g (-2) 0) ∧ Xp 184 d 270 ls ((0, g (-1) a) :: st) t g Q) := Xp_chk (i := .iaload) (len := 1) (by decide +kernel) rfl
theorem x_184_270 : Xp 184 (d + 1) 270 ls ((0, a2) :: (0, a1) :: (2, a0) :: st) t g Q = (hkJK a0 = 10 ∧ hkC8 st ∧ Xp 113 d 0 [(2, a0), (0, a1), (0, a2), hkU] [] t g (fun r t g => Xp 184 (d + 1) 273 ls (hkPush r st) t g Q)) := xr_invV (idx := 30) (y' := 113) (ci := 10) (tg := [2, 0, 0]) (by decide +kernel) (by decide +kernel) (by decide +kernel) (by decide +kernel) rfl rfl rfl
theorem x_184_273 : Xp 184 d 273 ls ((0, b) :: (0, a) :: st) t g Q = ((a = b → Xp 184 d 1190 ls st t g Q) ∧ (¬ (a = b) → Xp 184 d 276 ls st t g Q)) := xr_if2 (cd := .eq) (off := 917) (by decide +kernel) (by decide)
theorem x_184_276 : Xp 184 d 276 ls st t g Q = Xp 184 d 277 ls ((0, 0) :: st) t g Q := xr_const (c := 0) (by decide +kernel) (by decide)
theorem x_184_277 : Xp 184 d 277 ls [(0, x)] t g Q = ((x = 0 ∨ x = 1) ∧ Q (some (0, x)) t g) := xr_retZ (by decide +kernel) (by decide +kernel)
theorem x_184_278 : Xp 184 d 278 [v0, (2, x), v2, v3] st t g Q = Xp 184 d 279 [v0, (2, x), v2, v3] ((2, x) :: st) t g Q := Xp_go (i := .aload_n 1) (len := 1) (by decide +kernel) rfl
theorem x_184_279 : Xp 184 d 279 [(4, x), v1, v2, v3] st t g Q = Xp 184 d 280 [(4, x), v1, v2, v3] ((4, x) :: st) t g Q := Xp_go (i := .aload_n 0) (len := 1) (by decide +kernel) rfl
theorem x_184_280 : Xp 184 d 280 [v0, v1, v2, (0, x)] st t g Q = Xp 184 d 281 [v0, v1, v2, (0, x)] ((0, x) :: st) t g Q := Xp_go (i := .iload_n 3) (len := 1) (by decide +kernel) rfl
theorem x_184_281 : Xp 184 d 281 ls st t g Q = Xp 184 d 282 ls ((0, 1) :: st) t g Q := xr_const (c := 1) (by decide +kernel) (by decide)
theorem x_184_282 : Xp 184 d 282 ls ((0, b) :: (0, a) :: st) t g Q = Xp 184 d 283 ls ((0, hkW (a + b)) :: st) t g Q := Xp_go (i := .iadd) (len := 1) (by decide +kernel) rfl
theorem x_184_283 : Xp 184 d 283 ls ((0, a) :: (4, p) :: st) t g Q = ((0 ≤ a ∧ a < g (-2) 0) ∧ Xp 184 d 284 ls ((0, g (-1) a) :: st) t g Q) := Xp_chk (i := .iaload) (len := 1) (by decide +kernel) rfl
theorem x_184_284 : Xp 184 (d + 1) 284 ls ((0, a1) :: (2, a0) :: st) t g Q = (hkJK a0 = 0 ∧ hkC8 st ∧ Xp 7 d 0 [(2, a0), (0, a1), hkU, hkU] [] t g (fun r t g => Xp 184 (d + 1) 287 ls (hkPush r st) t g Q)) := xr_invV (idx := 31) (y' := 7) (ci := 0) (tg := [2, 0]) (by decide +kernel) (by decide +kernel) (by decide +kernel) (by decide +kernel) rfl rfl rfl
theorem x_184_287 : Xp 184 d 287 [v0, v1, (2, x), v3] st t g Q = Xp 184 d 288 [v0, v1, (2, x), v3] ((2, x) :: st) t g Q := Xp_go (i := .aload_n 2) (len := 1) (by decide +kernel) rfl
theorem x_184_288 : Xp 184 d 288 [(4, x), v1, v2, v3] st t g Q = Xp 184 d 289 [(4, x), v1, v2, v3] ((4, x) :: st) t g Q := Xp_go (i := .aload_n 0) (len := 1) (by decide +kernel) rfl
theorem x_184_289 : Xp 184 d 289 [v0, v1, v2, (0, x)] st t g Q = Xp 184 d 290 [v0, v1, v2, (0, x)] ((0, x) :: st) t g Q := Xp_go (i := .iload_n 3) (len := 1) (by decide +kernel) rfl
theorem x_184_290 : Xp 184 d 290 ls st t g Q = Xp 184 d 291 ls ((0, 1) :: st) t g Q := xr_const (c := 1) (by decide +kernel) (by decide)
theorem x_184_291 : Xp 184 d 291 ls ((0, b) :: (0, a) :: st) t g Q = Xp 184 d 292 ls ((0, hkW (a + b)) :: st) t g Q := Xp_go (i := .iadd) (len := 1) (by decide +kernel) rfl
theorem x_184_292 : Xp 184 d 292 ls ((0, a) :: (4, p) :: st) t g Q = ((0 ≤ a ∧ a < g (-2) 0) ∧ Xp 184 d 293 ls ((0, g (-1) a) :: st) t g Q) := Xp_chk (i := .iaload) (len := 1) (by decide +kernel) rfl
theorem x_184_293 : Xp 184 (d + 1) 293 ls ((0, a1) :: (2, a0) :: st) t g Q = (hkJK a0 = 10 ∧ hkC8 st ∧ Xp 119 d 0 [(2, a0), (0, a1), hkU, hkU] [] t g (fun r t g => Xp 184 (d + 1) 296 ls (hkPush r st) t g Q)) := xr_invV (idx := 34) (y' := 119) (ci := 10) (tg := [2, 0]) (by decide +kernel) (by decide +kernel) (by decide +kernel) (by decide +kernel) rfl rfl rfl
theorem x_184_296 : Xp 184 d 296 ls ((0, b) :: (0, a) :: st) t g Q = ((a = b → Xp 184 d 1190 ls st t g Q) ∧ (¬ (a = b) → Xp 184 d 299 ls st t g Q)) := xr_if2 (cd := .eq) (off := 894) (by decide +kernel) (by decide)
theorem x_184_299 : Xp 184 d 299 ls st t g Q = Xp 184 d 300 ls ((0, 0) :: st) t g Q := xr_const (c := 0) (by decide +kernel) (by decide)
theorem x_184_300 : Xp 184 d 300 ls [(0, x)] t g Q = ((x = 0 ∨ x = 1) ∧ Q (some (0, x)) t g) := xr_retZ (by decide +kernel) (by decide +kernel)
theorem x_184_301 : Xp 184 d 301 [v0, (2, x), v2, v3] st t g Q = Xp 184 d 302 [v0, (2, x), v2, v3] ((2, x) :: st) t g Q := Xp_go (i := .aload_n 1) (len := 1) (by decide +kernel) rfl
theorem x_184_302 : Xp 184 d 302 [(4, x), v1, v2, v3] st t g Q = Xp 184 d 303 [(4, x), v1, v2, v3] ((4, x) :: st) t g Q := Xp_go (i := .aload_n 0) (len := 1) (by decide +kernel) rfl
theorem x_184_303 : Xp 184 d 303 [v0, v1, v2, (0, x)] st t g Q = Xp 184 d 304 [v0, v1, v2, (0, x)] ((0, x) :: st) t g Q := Xp_go (i := .iload_n 3) (len := 1) (by decide +kernel) rfl
theorem x_184_304 : Xp 184 d 304 ls st t g Q = Xp 184 d 305 ls ((0, 1) :: st) t g Q := xr_const (c := 1) (by decide +kernel) (by decide)
theorem x_184_305 : Xp 184 d 305 ls ((0, b) :: (0, a) :: st) t g Q = Xp 184 d 306 ls ((0, hkW (a + b)) :: st) t g Q := Xp_go (i := .iadd) (len := 1) (by decide +kernel) rfl
theorem x_184_306 : Xp 184 d 306 ls ((0, a) :: (4, p) :: st) t g Q = ((0 ≤ a ∧ a < g (-2) 0) ∧ Xp 184 d 307 ls ((0, g (-1) a) :: st) t g Q) := Xp_chk (i := .iaload) (len := 1) (by decide +kernel) rfl
theorem x_184_307 : Xp 184 d 307 [(4, x), v1, v2, v3] st t g Q = Xp 184 d 308 [(4, x), v1, v2, v3] ((4, x) :: st) t g Q := Xp_go (i := .aload_n 0) (len := 1) (by decide +kernel) rfl
theorem x_184_308 : Xp 184 d 308 [v0, v1, v2, (0, x)] st t g Q = Xp 184 d 309 [v0, v1, v2, (0, x)] ((0, x) :: st) t g Q := Xp_go (i := .iload_n 3) (len := 1) (by decide +kernel) rfl
theorem x_184_309 : Xp 184 d 309 ls st t g Q = Xp 184 d 310 ls ((0, 2) :: st) t g Q := xr_const (c := 2) (by decide +kernel) (by decide)
theorem x_184_310 : Xp 184 d 310 ls ((0, b) :: (0, a) :: st) t g Q = Xp 184 d 311 ls ((0, hkW (a + b)) :: st) t g Q := Xp_go (i := .iadd) (len := 1) (by decide +kernel) rfl
theorem x_184_311 : Xp 184 d 311 ls ((0, a) :: (4, p) :: st) t g Q = ((0 ≤ a ∧ a < g (-2) 0) ∧ Xp 184 d 312 ls ((0, g (-1) a) :: st) t g Q) := Xp_chk (i := .iaload) (len := 1) (by decide +kernel) rfl
theorem x_184_312 : Xp 184 d 312 [(4, x), v1, v2, v3] st t g Q = Xp 184 d 313 [(4, x), v1, v2, v3] ((4, x) :: st) t g Q := Xp_go (i := .aload_n 0) (len := 1) (by decide +kernel) rfl
theorem x_184_313 : Xp 184 d 313 [v0, v1, v2, (0, x)] st t g Q = Xp 184 d 314 [v0, v1, v2, (0, x)] ((0, x) :: st) t g Q := Xp_go (i := .iload_n 3) (len := 1) (by decide +kernel) rfl
theorem x_184_314 : Xp 184 d 314 ls st t g Q = Xp 184 d 315 ls ((0, 3) :: st) t g Q := xr_const (c := 3) (by decide +kernel) (by decide)
theorem x_184_315 : Xp 184 d 315 ls ((0, b) :: (0, a) :: st) t g Q = Xp 184 d 316 ls ((0, hkW (a + b)) :: st) t g Q := Xp_go (i := .iadd) (len := 1) (by decide +kernel) rfl
theorem x_184_316 : Xp 184 d 316 ls ((0, a) :: (4, p) :: st) t g Q = ((0 ≤ a ∧ a < g (-2) 0) ∧ Xp 184 d 317 ls ((0, g (-1) a) :: st) t g Q) := Xp_chk (i := .iaload) (len := 1) (by decide +kernel) rfl
theorem x_184_317 : Xp 184 d 317 [(4, x), v1, v2, v3] st t g Q = Xp 184 d 318 [(4, x), v1, v2, v3] ((4, x) :: st) t g Q := Xp_go (i := .aload_n 0) (len := 1) (by decide +kernel) rfl
theorem x_184_318 : Xp 184 d 318 [v0, v1, v2, (0, x)] st t g Q = Xp 184 d 319 [v0, v1, v2, (0, x)] ((0, x) :: st) t g Q := Xp_go (i := .iload_n 3) (len := 1) (by decide +kernel) rfl
theorem x_184_319 : Xp 184 d 319 ls st t g Q = Xp 184 d 320 ls ((0, 4) :: st) t g Q := xr_const (c := 4) (by decide +kernel) (by decide)
theorem x_184_320 : Xp 184 d 320 ls ((0, b) :: (0, a) :: st) t g Q = Xp 184 d 321 ls ((0, hkW (a + b)) :: st) t g Q := Xp_go (i := .iadd) (len := 1) (by decide +kernel) rfl
theorem x_184_321 : Xp 184 d 321 ls ((0, a) :: (4, p) :: st) t g Q = ((0 ≤ a ∧ a < g (-2) 0) ∧ Xp 184 d 322 ls ((0, g (-1) a) :: st) t g Q) := Xp_chk (i := .iaload) (len := 1) (by decide +kernel) rfl
theorem x_184_322 : Xp 184 (d + 1) 322 ls ((0, a4) :: (0, a3) :: (0, a2) :: (0, a1) :: (2, a0) :: st) t g Q = (hkJK a0 = 0 ∧ hkC8 st ∧ Xp 8 d 0 [(2, a0), (0, a1), (0, a2), (0, a3), (0, a4), hkU] [] t g (fun r t g => Xp 184 (d + 1) 325 ls (hkPush r st) t g Q)) := xr_invV (idx := 35) (y' := 8) (ci := 0) (tg := [2, 0, 0, 0, 0]) (by decide +kernel) (by decide +kernel) (by decide +kernel) (by decide +kernel) rfl rfl rfl
theorem x_184_325 : Xp 184 d 325 [v0, v1, (2, x), v3] st t g Q = Xp 184 d 326 [v0, v1, (2, x), v3] ((2, x) :: st) t g Q := Xp_go (i := .aload_n 2) (len := 1) (by decide +kernel) rfl
theorem x_184_326 : Xp 184 d 326 [(4, x), v1, v2, v3] st t g Q = Xp 184 d 327 [(4, x), v1, v2, v3] ((4, x) :: st) t g Q := Xp_go (i := .aload_n 0) (len := 1) (by decide +kernel) rfl
theorem x_184_327 : Xp 184 d 327 [v0, v1, v2, (0, x)] st t g Q = Xp 184 d 328 [v0, v1, v2, (0, x)] ((0, x) :: st) t g Q := Xp_go (i := .iload_n 3) (len := 1) (by decide +kernel) rfl
theorem x_184_328 : Xp 184 d 328 ls st t g Q = Xp 184 d 329 ls ((0, 1) :: st) t g Q := xr_const (c := 1) (by decide +kernel) (by decide)
theorem x_184_329 : Xp 184 d 329 ls ((0, b) :: (0, a) :: st) t g Q = Xp 184 d 330 ls ((0, hkW (a + b)) :: st) t g Q := Xp_go (i := .iadd) (len := 1) (by decide +kernel) rfl
theorem x_184_330 : Xp 184 d 330 ls ((0, a) :: (4, p) :: st) t g Q = ((0 ≤ a ∧ a < g (-2) 0) ∧ Xp 184 d 331 ls ((0, g (-1) a) :: st) t g Q) := Xp_chk (i := .iaload) (len := 1) (by decide +kernel) rfl
theorem x_184_331 : Xp 184 d 331 [(4, x), v1, v2, v3] st t g Q = Xp 184 d 332 [(4, x), v1, v2, v3] ((4, x) :: st) t g Q := Xp_go (i := .aload_n 0) (len := 1) (by decide +kernel) rfl
theorem x_184_332 : Xp 184 d 332 [v0, v1, v2, (0, x)] st t g Q = Xp 184 d 333 [v0, v1, v2, (0, x)] ((0, x) :: st) t g Q := Xp_go (i := .iload_n 3) (len := 1) (by decide +kernel) rfl
theorem x_184_333 : Xp 184 d 333 ls st t g Q = Xp 184 d 334 ls ((0, 2) :: st) t g Q := xr_const (c := 2) (by decide +kernel) (by decide)
theorem x_184_334 : Xp 184 d 334 ls ((0, b) :: (0, a) :: st) t g Q = Xp 184 d 335 ls ((0, hkW (a + b)) :: st) t g Q := Xp_go (i := .iadd) (len := 1) (by decide +kernel) rfl
theorem x_184_335 : Xp 184 d 335 ls ((0, a) :: (4, p) :: st) t g Q = ((0 ≤ a ∧ a < g (-2) 0) ∧ Xp 184 d 336 ls ((0, g (-1) a) :: st) t g Q) := Xp_chk (i := .iaload) (len := 1) (by decide +kernel) rfl
theorem x_184_336 : Xp 184 d 336 [(4, x), v1, v2, v3] st t g Q = Xp 184 d 337 [(4, x), v1, v2, v3] ((4, x) :: st) t g Q := Xp_go (i := .aload_n 0) (len := 1) (by decide +kernel) rfl
theorem x_184_337 : Xp 184 d 337 [v0, v1, v2, (0, x)] st t g Q = Xp 184 d 338 [v0, v1, v2, (0, x)] ((0, x) :: st) t g Q := Xp_go (i := .iload_n 3) (len := 1) (by decide +kernel) rfl
theorem x_184_338 : Xp 184 d 338 ls st t g Q = Xp 184 d 339 ls ((0, 3) :: st) t g Q := xr_const (c := 3) (by decide +kernel) (by decide)
theorem x_184_339 : Xp 184 d 339 ls ((0, b) :: (0, a) :: st) t g Q = Xp 184 d 340 ls ((0, hkW (a + b)) :: st) t g Q := Xp_go (i := .iadd) (len := 1) (by decide +kernel) rfl
theorem x_184_340 : Xp 184 d 340 ls ((0, a) :: (4, p) :: st) t g Q = ((0 ≤ a ∧ a < g (-2) 0) ∧ Xp 184 d 341 ls ((0, g (-1) a) :: st) t g Q) := Xp_chk (i := .iaload) (len := 1) (by decide +kernel) rfl
theorem x_184_341 : Xp 184 d 341 [(4, x), v1, v2, v3] st t g Q = Xp 184 d 342 [(4, x), v1, v2, v3] ((4, x) :: st) t g Q := Xp_go (i := .aload_n 0) (len := 1) (by decide +kernel) rfl
theorem x_184_342 : Xp 184 d 342 [v0, v1, v2, (0, x)] st t g Q = Xp 184 d 343 [v0, v1, v2, (0, x)] ((0, x) :: st) t g Q := Xp_go (i := .iload_n 3) (len := 1) (by decide +kernel) rfl
theorem x_184_343 : Xp 184 d 343 ls st t g Q = Xp 184 d 344 ls ((0, 4) :: st) t g Q := xr_const (c := 4) (by decide +kernel) (by decide)
theorem x_184_344 : Xp 184 d 344 ls ((0, b) :: (0, a) :: st) t g Q = Xp 184 d 345 ls ((0, hkW (a + b)) :: st) t g Q := Xp_go (i := .iadd) (len := 1) (by decide +kernel) rfl
theorem x_184_345 : Xp 184 d 345 ls ((0, a) :: (4, p) :: st) t g Q = ((0 ≤ a ∧ a < g (-2) 0) ∧ Xp 184 d 346 ls ((0, g (-1) a) :: st) t g Q) := Xp_chk (i := .iaload) (len := 1) (by decide +kernel) rfl
theorem x_184_346 : Xp 184 (d + 1) 346 ls ((0, a4) :: (0, a3) :: (0, a2) :: (0, a1) :: (2, a0) :: st) t g Q = (hkJK a0 = 10 ∧ hkC8 st ∧ Xp 120 d 0 [(2, a0), (0, a1), (0, a2), (0, a3), (0, a4), hkU] [] t g (fun r t g => Xp 184 (d + 1) 349 ls (hkPush r st) t g Q)) := xr_invV (idx := 39) (y' := 120) (ci := 10) (tg := [2, 0, 0, 0, 0]) (by decide +kernel) (by decide +kernel) (by decide +kernel) (by decide +kernel) rfl rfl rfl
theorem x_184_349 : Xp 184 d 349 ls ((0, b) :: (0, a) :: st) t g Q = ((a = b → Xp 184 d 1190 ls st t g Q) ∧ (¬ (a = b) → Xp 184 d 352 ls st t g Q)) := xr_if2 (cd := .eq) (off := 841) (by decide +kernel) (by decide)
theorem x_184_352 : Xp 184 d 352 ls st t g Q = Xp 184 d 353 ls ((0, 0) :: st) t g Q := xr_const (c := 0) (by decide +kernel) (by decide)
theorem x_184_353 : Xp 184 d 353 ls [(0, x)] t g Q = ((x = 0 ∨ x = 1) ∧ Q (some (0, x)) t g) := xr_retZ (by decide +kernel) (by decide +kernel)
theorem x_184_354 : Xp 184 d 354 [v0, (2, x), v2, v3] st t g Q = Xp 184 d 355 [v0, (2, x), v2, v3] ((2, x) :: st) t g Q := Xp_go (i := .aload_n 1) (len := 1) (by decide +kernel) rfl
theorem x_184_355 : Xp 184 d 355 [(4, x), v1, v2, v3] st t g Q = Xp 184 d 356 [(4, x), v1, v2, v3] ((4, x) :: st) t g Q := Xp_go (i := .aload_n 0) (len := 1) (by decide +kernel) rfl
theorem x_184_356 : Xp 184 d 356 [v0, v1, v2, (0, x)] st t g Q = Xp 184 d 357 [v0, v1, v2, (0, x)] ((0, x) :: st) t g Q := Xp_go (i := .iload_n 3) (len := 1) (by decide +kernel) rfl
theorem x_184_357 : Xp 184 d 357 ls st t g Q = Xp 184 d 358 ls ((0, 1) :: st) t g Q := xr_const (c := 1) (by decide +kernel) (by decide)
theorem x_184_358 : Xp 184 d 358 ls ((0, b) :: (0, a) :: st) t g Q = Xp 184 d 359 ls ((0, hkW (a + b)) :: st) t g Q := Xp_go (i := .iadd) (len := 1) (by decide +kernel) rfl
theorem x_184_359 : Xp 184 d 359 ls ((0, a) :: (4, p) :: st) t g Q = ((0 ≤ a ∧ a < g (-2) 0) ∧ Xp 184 d 360 ls ((0, g (-1) a) :: st) t g Q) := Xp_chk (i := .iaload) (len := 1) (by decide +kernel) rfl
theorem x_184_360 : Xp 184 d 360 [(4, x), v1, v2, v3] st t g Q = Xp 184 d 361 [(4, x), v1, v2, v3] ((4, x) :: st) t g Q := Xp_go (i := .aload_n 0) (len := 1) (by decide +kernel) rfl
theorem x_184_361 : Xp 184 d 361 [v0, v1, v2, (0, x)] st t g Q = Xp 184 d 362 [v0, v1, v2, (0, x)] ((0, x) :: st) t g Q := Xp_go (i := .iload_n 3) (len := 1) (by decide +kernel) rfl
theorem x_184_362 : Xp 184 d 362 ls st t g Q = Xp 184 d 363 ls ((0, 2) :: st) t g Q := xr_const (c := 2) (by decide +kernel) (by decide)
theorem x_184_363 : Xp 184 d 363 ls ((0, b) :: (0, a) :: st) t g Q = Xp 184 d 364 ls ((0, hkW (a + b)) :: st) t g Q := Xp_go (i := .iadd) (len := 1) (by decide +kernel) rfl
theorem x_184_364 : Xp 184 d 364 ls ((0, a) :: (4, p) :: st) t g Q = ((0 ≤ a ∧ a < g (-2) 0) ∧ Xp 184 d 365 ls ((0, g (-1) a) :: st) t g Q) := Xp_chk (i := .iaload) (len := 1) (by decide +kernel) rfl
theorem x_184_365 : Xp 184 d 365 [(4, x), v1, v2, v3] st t g Q = Xp 184 d 366 [(4, x), v1, v2, v3] ((4, x) :: st) t g Q := Xp_go (i := .aload_n 0) (len := 1) (by decide +kernel) rfl
theorem x_184_366 : Xp 184 d 366 [v0, v1, v2, (0, x)] st t g Q = Xp 184 d 367 [v0, v1, v2, (0, x)] ((0, x) :: st) t g Q := Xp_go (i := .iload_n 3) (len := 1) (by decide +kernel) rfl
theorem x_184_367 : Xp 184 d 367 ls st t g Q = Xp 184 d 368 ls ((0, 3) :: st) t g Q := xr_const (c := 3) (by decide +kernel) (by decide)
theorem x_184_368 : Xp 184 d 368 ls ((0, b) :: (0, a) :: st) t g Q = Xp 184 d 369 ls ((0, hkW (a + b)) :: st) t g Q := Xp_go (i := .iadd) (len := 1) (by decide +kernel) rfl
theorem x_184_369 : Xp 184 d 369 ls ((0, a) :: (4, p) :: st) t g Q = ((0 ≤ a ∧ a < g (-2) 0) ∧ Xp 184 d 370 ls ((0, g (-1) a) :: st) t g Q) := Xp_chk (i := .iaload) (len := 1) (by decide +kernel) rfl
theorem x_184_370 : Xp 184 (d + 1) 370 ls ((0, a3) :: (0, a2) :: (0, a1) :: (2, a0) :: st) t g Q = (hkJK a0 = 0 ∧ hkC8 st ∧ Xp 9 d 0 [(2, a0), (0, a1), (0, a2), (0, a3), hkU, hkU, hkU, hkU, hkU, hkU, hkU] [] t g (fun r t g => Xp 184 (d + 1) 373 ls (hkPush r st) t g Q)) := xr_invV (idx := 40) (y' := 9) (ci := 0) (tg := [2, 0, 0, 0]) (by decide +kernel) (by decide +kernel) (by decide +kernel) (by decide +kernel) rfl rfl rfl
theorem x_184_373 : Xp 184 d 373 [v0, v1, (2, x), v3] st t g Q = Xp 184 d 374 [v0, v1, (2, x), v3] ((2, x) :: st) t g Q := Xp_go (i := .aload_n 2) (len := 1) (by decide +kernel) rfl
theorem x_184_374 : Xp 184 d 374 [(4, x), v1, v2, v3] st t g Q = Xp 184 d 375 [(4, x), v1, v2, v3] ((4, x) :: st) t g Q := Xp_go (i := .aload_n 0) (len := 1) (by decide +kernel) rfl
theorem x_184_375 : Xp 184 d 375 [v0, v1, v2, (0, x)] st t g Q = Xp 184 d 376 [v0, v1, v2, (0, x)] ((0, x) :: st) t g Q := Xp_go (i := .iload_n 3) (len := 1) (by decide +kernel) rfl
theorem x_184_376 : Xp 184 d 376 ls st t g Q = Xp 184 d 377 ls ((0, 1) :: st) t g Q := xr_const (c := 1) (by decide +kernel) (by decide)
theorem x_184_377 : Xp 184 d 377 ls ((0, b) :: (0, a) :: st) t g Q = Xp 184 d 378 ls ((0, hkW (a + b)) :: st) t g Q := Xp_go (i := .iadd) (len := 1) (by decide +kernel) rfl
theorem x_184_378 : Xp 184 d 378 ls ((0, a) :: (4, p) :: st) t g Q = ((0 ≤ a ∧ a < g (-2) 0) ∧ Xp 184 d 379 ls ((0, g (-1) a) :: st) t g Q) := Xp_chk (i := .iaload) (len := 1) (by decide +kernel) rfl
theorem x_184_379 : Xp 184 d 379 [(4, x), v1, v2, v3] st t g Q = Xp 184 d 380 [(4, x), v1, v2, v3] ((4, x) :: st) t g Q := Xp_go (i := .aload_n 0) (len := 1) (by decide +kernel) rfl
theorem x_184_380 : Xp 184 d 380 [v0, v1, v2, (0, x)] st t g Q = Xp 184 d 381 [v0, v1, v2, (0, x)] ((0, x) :: st) t g Q := Xp_go (i := .iload_n 3) (len := 1) (by decide +kernel) rfl
theorem x_184_381 : Xp 184 d 381 ls st t g Q = Xp 184 d 382 ls ((0, 2) :: st) t g Q := xr_const (c := 2) (by decide +kernel) (by decide)
theorem x_184_382 : Xp 184 d 382 ls ((0, b) :: (0, a) :: st) t g Q = Xp 184 d 383 ls ((0, hkW (a + b)) :: st) t g Q := Xp_go (i := .iadd) (len := 1) (by decide +kernel) rfl
theorem x_184_383 : Xp 184 d 383 ls ((0, a) :: (4, p) :: st) t g Q = ((0 ≤ a ∧ a < g (-2) 0) ∧ Xp 184 d 384 ls ((0, g (-1) a) :: st) t g Q) := Xp_chk (i := .iaload) (len := 1) (by decide +kernel) rfl
theorem x_184_384 : Xp 184 d 384 [(4, x), v1, v2, v3] st t g Q = Xp 184 d 385 [(4, x), v1, v2, v3] ((4, x) :: st) t g Q := Xp_go (i := .aload_n 0) (len := 1) (by decide +kernel) rfl
theorem x_184_385 : Xp 184 d 385 [v0, v1, v2, (0, x)] st t g Q = Xp 184 d 386 [v0, v1, v2, (0, x)] ((0, x) :: st) t g Q := Xp_go (i := .iload_n 3) (len := 1) (by decide +kernel) rfl
theorem x_184_386 : Xp 184 d 386 ls st t g Q = Xp 184 d 387 ls ((0, 3) :: st) t g Q := xr_const (c := 3) (by decide +kernel) (by decide)
theorem x_184_387 : Xp 184 d 387 ls ((0, b) :: (0, a) :: st) t g Q = Xp 184 d 388 ls ((0, hkW (a + b)) :: st) t g Q := Xp_go (i := .iadd) (len := 1) (by decide +kernel) rfl
theorem x_184_388 : Xp 184 d 388 ls ((0, a) :: (4, p) :: st) t g Q = ((0 ≤ a ∧ a < g (-2) 0) ∧ Xp 184 d 389 ls ((0, g (-1) a) :: st) t g Q) := Xp_chk (i := .iaload) (len := 1) (by decide +kernel) rfl
theorem x_184_389 : Xp 184 (d + 1) 389 ls ((0, a3) :: (0, a2) :: (0, a1) :: (2, a0) :: st) t g Q = (hkJK a0 = 10 ∧ hkC8 st ∧ Xp 127 d 0 [(2, a0), (0, a1), (0, a2), (0, a3), hkU, hkU, hkU, hkU, hkU, hkU, hkU] [] t g (fun r t g => Xp 184 (d + 1) 392 ls (hkPush r st) t g Q)) := xr_invV (idx := 44) (y' := 127) (ci := 10) (tg := [2, 0, 0, 0]) (by decide +kernel) (by decide +kernel) (by decide +kernel) (by decide +kernel) rfl rfl rfl
theorem x_184_392 : Xp 184 d 392 ls ((0, b) :: (0, a) :: st) t g Q = ((a = b → Xp 184 d 1190 ls st t g Q) ∧ (¬ (a = b) → Xp 184 d 395 ls st t g Q)) := xr_if2 (cd := .eq) (off := 798) (by decide +kernel) (by decide)
theorem x_184_395 : Xp 184 d 395 ls st t g Q = Xp 184 d 396 ls ((0, 0) :: st) t g Q := xr_const (c := 0) (by decide +kernel) (by decide)
theorem x_184_396 : Xp 184 d 396 ls [(0, x)] t g Q = ((x = 0 ∨ x = 1) ∧ Q (some (0, x)) t g) := xr_retZ (by decide +kernel) (by decide +kernel)
theorem x_184_397 : Xp 184 d 397 [v0, (2, x), v2, v3] st t g Q = Xp 184 d 398 [v0, (2, x), v2, v3] ((2, x) :: st) t g Q := Xp_go (i := .aload_n 1) (len := 1) (by decide +kernel) rfl
theorem x_184_398 : Xp 184 d 398 [(4, x), v1, v2, v3] st t g Q = Xp 184 d 399 [(4, x), v1, v2, v3] ((4, x) :: st) t g Q := Xp_go (i := .aload_n 0) (len := 1) (by decide +kernel) rfl
theorem x_184_399 : Xp 184 d 399 [v0, v1, v2, (0, x)] st t g Q = Xp 184 d 400 [v0, v1, v2, (0, x)] ((0, x) :: st) t g Q := Xp_go (i := .iload_n 3) (len := 1) (by decide +kernel) rfl
theorem x_184_400 : Xp 184 d 400 ls st t g Q = Xp 184 d 401 ls ((0, 1) :: st) t g Q := xr_const (c := 1) (by decide +kernel) (by decide)
theorem x_184_401 : Xp 184 d 401 ls ((0, b) :: (0, a) :: st) t g Q = Xp 184 d 402 ls ((0, hkW (a + b)) :: st) t g Q := Xp_go (i := .iadd) (len := 1) (by decide +kernel) rfl
theorem x_184_402 : Xp 184 d 402 ls ((0, a) :: (4, p) :: st) t g Q = ((0 ≤ a ∧ a < g (-2) 0) ∧ Xp 184 d 403 ls ((0, g (-1) a) :: st) t g Q) := Xp_chk (i := .iaload) (len := 1) (by decide +kernel) rfl
theorem x_184_403 : Xp 184 d 403 [(4, x), v1, v2, v3] st t g Q = Xp 184 d 404 [(4, x), v1, v2, v3] ((4, x) :: st) t g Q := Xp_go (i := .aload_n 0) (len := 1) (by decide +kernel) rfl
theorem x_184_404 : Xp 184 d 404 [v0, v1, v2, (0, x)] st t g Q = Xp 184 d 405 [v0, v1, v2, (0, x)] ((0, x) :: st) t g Q := Xp_go (i := .iload_n 3) (len := 1) (by decide +kernel) rfl
theorem x_184_405 : Xp 184 d 405 ls st t g Q = Xp 184 d 406 ls ((0, 2) :: st) t g Q := xr_const (c := 2) (by decide +kernel) (by decide)
theorem x_184_406 : Xp 184 d 406 ls ((0, b) :: (0, a) :: st) t g Q = Xp 184 d 407 ls ((0, hkW (a + b)) :: st) t g Q := Xp_go (i := .iadd) (len := 1) (by decide +kernel) rfl
theorem x_184_407 : Xp 184 d 407 ls ((0, a) :: (4, p) :: st) t g Q = ((0 ≤ a ∧ a < g (-2) 0) ∧ Xp 184 d 408 ls ((0, g (-1) a) :: st) t g Q) := Xp_chk (i := .iaload) (len := 1) (by decide +kernel) rfl
theorem x_184_408 : Xp 184 d 408 [(4, x), v1, v2, v3] st t g Q = Xp 184 d 409 [(4, x), v1, v2, v3] ((4, x) :: st) t g Q := Xp_go (i := .aload_n 0) (len := 1) (by decide +kernel) rfl
theorem x_184_409 : Xp 184 d 409 [v0, v1, v2, (0, x)] st t g Q = Xp 184 d 410 [v0, v1, v2, (0, x)] ((0, x) :: st) t g Q := Xp_go (i := .iload_n 3) (len := 1) (by decide +kernel) rfl
theorem x_184_410 : Xp 184 d 410 ls st t g Q = Xp 184 d 411 ls ((0, 3) :: st) t g Q := xr_const (c := 3) (by decide +kernel) (by decide)
theorem x_184_411 : Xp 184 d 411 ls ((0, b) :: (0, a) :: st) t g Q = Xp 184 d 412 ls ((0, hkW (a + b)) :: st) t g Q := Xp_go (i := .iadd) (len := 1) (by decide +kernel) rfl
theorem x_184_412 : Xp 184 d 412 ls ((0, a) :: (4, p) :: st) t g Q = ((0 ≤ a ∧ a < g (-2) 0) ∧ Xp 184 d 413 ls ((0, g (-1) a) :: st) t g Q) := Xp_chk (i := .iaload) (len := 1) (by decide +kernel) rfl
theorem x_184_413 : Xp 184 d 413 [(4, x), v1, v2, v3] st t g Q = Xp 184 d 414 [(4, x), v1, v2, v3] ((4, x) :: st) t g Q := Xp_go (i := .aload_n 0) (len := 1) (by decide +kernel) rfl
theorem x_184_414 : Xp 184 d 414 [v0, v1, v2, (0, x)] st t g Q = Xp 184 d 415 [v0, v1, v2, (0, x)] ((0, x) :: st) t g Q := Xp_go (i := .iload_n 3) (len := 1) (by decide +kernel) rfl
theorem x_184_415 : Xp 184 d 415 ls st t g Q = Xp 184 d 416 ls ((0, 4) :: st) t g Q := xr_const (c := 4) (by decide +kernel) (by decide)
theorem x_184_416 : Xp 184 d 416 ls ((0, b) :: (0, a) :: st) t g Q = Xp 184 d 417 ls ((0, hkW (a + b)) :: st) t g Q := Xp_go (i := .iadd) (len := 1) (by decide +kernel) rfl
theorem x_184_417 : Xp 184 d 417 ls ((0, a) :: (4, p) :: st) t g Q = ((0 ≤ a ∧ a < g (-2) 0) ∧ Xp 184 d 418 ls ((0, g (-1) a) :: st) t g Q) := Xp_chk (i := .iaload) (len := 1) (by decide +kernel) rfl
theorem x_184_418 : Xp 184 (d + 1) 418 ls ((0, a4) :: (0, a3) :: (0, a2) :: (0, a1) :: (2, a0) :: st) t g Q = (hkJK a0 = 0 ∧ hkC8 st ∧ Xp 10 d 0 [(2, a0), (0, a1), (0, a2), (0, a3), (0, a4), hkU, hkU, hkU] [] t g (fun r t g => Xp 184 (d + 1) 421 ls (hkPush r st) t g Q)) := xr_invV (idx := 45) (y' := 10) (ci := 0) (tg := [2, 0, 0, 0, 0]) (by decide +kernel) (by decide +kernel) (by decide +kernel) (by decide +kernel) rfl rfl rfl
theorem x_184_421 : Xp 184 d 421 [v0, v1, (2, x), v3] st t g Q = Xp 184 d 422 [v0, v1, (2, x), v3] ((2, x) :: st) t g Q := Xp_go (i := .aload_n 2) (len := 1) (by decide +kernel) rfl
theorem x_184_422 : Xp 184 d 422 [(4, x), v1, v2, v3] st t g Q = Xp 184 d 423 [(4, x), v1, v2, v3] ((4, x) :: st) t g Q := Xp_go (i := .aload_n 0) (len := 1) (by decide +kernel) rfl
theorem x_184_423 : Xp 184 d 423 [v0, v1, v2, (0, x)] st t g Q = Xp 184 d 424 [v0, v1, v2, (0, x)] ((0, x) :: st) t g Q := Xp_go (i := .iload_n 3) (len := 1) (by decide +kernel) rfl
theorem x_184_424 : Xp 184 d 424 ls st t g Q = Xp 184 d 425 ls ((0, 1) :: st) t g Q := xr_const (c := 1) (by decide +kernel) (by decide)
theorem x_184_425 : Xp 184 d 425 ls ((0, b) :: (0, a) :: st) t g Q = Xp 184 d 426 ls ((0, hkW (a + b)) :: st) t g Q := Xp_go (i := .iadd) (len := 1) (by decide +kernel) rfl
theorem x_184_426 : Xp 184 d 426 ls ((0, a) :: (4, p) :: st) t g Q = ((0 ≤ a ∧ a < g (-2) 0) ∧ Xp 184 d 427 ls ((0, g (-1) a) :: st) t g Q) := Xp_chk (i := .iaload) (len := 1) (by decide +kernel) rfl
theorem x_184_427 : Xp 184 d 427 [(4, x), v1, v2, v3] st t g Q = Xp 184 d 428 [(4, x), v1, v2, v3] ((4, x) :: st) t g Q := Xp_go (i := .aload_n 0) (len := 1) (by decide +kernel) rfl
theorem x_184_428 : Xp 184 d 428 [v0, v1, v2, (0, x)] st t g Q = Xp 184 d 429 [v0, v1, v2, (0, x)] ((0, x) :: st) t g Q := Xp_go (i := .iload_n 3) (len := 1) (by decide +kernel) rfl
theorem x_184_429 : Xp 184 d 429 ls st t g Q = Xp 184 d 430 ls ((0, 2) :: st) t g Q := xr_const (c := 2) (by decide +kernel) (by decide)
theorem x_184_430 : Xp 184 d 430 ls ((0, b) :: (0, a) :: st) t g Q = Xp 184 d 431 ls ((0, hkW (a + b)) :: st) t g Q := Xp_go (i := .iadd) (len := 1) (by decide +kernel) rfl
theorem x_184_431 : Xp 184 d 431 ls ((0, a) :: (4, p) :: st) t g Q = ((0 ≤ a ∧ a < g (-2) 0) ∧ Xp 184 d 432 ls ((0, g (-1) a) :: st) t g Q) := Xp_chk (i := .iaload) (len := 1) (by decide +kernel) rfl
theorem x_184_432 : Xp 184 d 432 [(4, x), v1, v2, v3] st t g Q = Xp 184 d 433 [(4, x), v1, v2, v3] ((4, x) :: st) t g Q := Xp_go (i := .aload_n 0) (len := 1) (by decide +kernel) rfl
theorem x_184_433 : Xp 184 d 433 [v0, v1, v2, (0, x)] st t g Q = Xp 184 d 434 [v0, v1, v2, (0, x)] ((0, x) :: st) t g Q := Xp_go (i := .iload_n 3) (len := 1) (by decide +kernel) rfl
theorem x_184_434 : Xp 184 d 434 ls st t g Q = Xp 184 d 435 ls ((0, 3) :: st) t g Q := xr_const (c := 3) (by decide +kernel) (by decide)
theorem x_184_435 : Xp 184 d 435 ls ((0, b) :: (0, a) :: st) t g Q = Xp 184 d 436 ls ((0, hkW (a + b)) :: st) t g Q := Xp_go (i := .iadd) (len := 1) (by decide +kernel) rfl
theorem x_184_436 : Xp 184 d 436 ls ((0, a) :: (4, p) :: st) t g Q = ((0 ≤ a ∧ a < g (-2) 0) ∧ Xp 184 d 437 ls ((0, g (-1) a) :: st) t g Q) := Xp_chk (i := .iaload) (len := 1) (by decide +kernel) rfl
theorem x_184_437 : Xp 184 d 437 [(4, x), v1, v2, v3] st t g Q = Xp 184 d 438 [(4, x), v1, v2, v3] ((4, x) :: st) t g Q := Xp_go (i := .aload_n 0) (len := 1) (by decide +kernel) rfl
theorem x_184_438 : Xp 184 d 438 [v0, v1, v2, (0, x)] st t g Q = Xp 184 d 439 [v0, v1, v2, (0, x)] ((0, x) :: st) t g Q := Xp_go (i := .iload_n 3) (len := 1) (by decide +kernel) rfl
theorem x_184_439 : Xp 184 d 439 ls st t g Q = Xp 184 d 440 ls ((0, 4) :: st) t g Q := xr_const (c := 4) (by decide +kernel) (by decide)
theorem x_184_440 : Xp 184 d 440 ls ((0, b) :: (0, a) :: st) t g Q = Xp 184 d 441 ls ((0, hkW (a + b)) :: st) t g Q := Xp_go (i := .iadd) (len := 1) (by decide +kernel) rfl
theorem x_184_441 : Xp 184 d 441 ls ((0, a) :: (4, p) :: st) t g Q = ((0 ≤ a ∧ a < g (-2) 0) ∧ Xp 184 d 442 ls ((0, g (-1) a) :: st) t g Q) := Xp_chk (i := .iaload) (len := 1) (by decide +kernel) rfl
theorem x_184_442 : Xp 184 (d + 1) 442 ls ((0, a4) :: (0, a3) :: (0, a2) :: (0, a1) :: (2, a0) :: st) t g Q = (hkJK a0 = 10 ∧ hkC8 st ∧ Xp 128 d 0 [(2, a0), (0, a1), (0, a2), (0, a3), (0, a4), hkU, hkU, hkU] [] t g (fun r t g => Xp 184 (d + 1) 445 ls (hkPush r st) t g Q)) := xr_invV (idx := 48) (y' := 128) (ci := 10) (tg := [2, 0, 0, 0, 0]) (by decide +kernel) (by decide +kernel) (by decide +kernel) (by decide +kernel) rfl rfl rfl
theorem x_184_445 : Xp 184 d 445 ls ((0, b) :: (0, a) :: st) t g Q = ((a = b → Xp 184 d 1190 ls st t g Q) ∧ (¬ (a = b) → Xp 184 d 448 ls st t g Q)) := xr_if2 (cd := .eq) (off := 745) (by decide +kernel) (by decide)
theorem x_184_448 : Xp 184 d 448 ls st t g Q = Xp 184 d 449 ls ((0, 0) :: st) t g Q := xr_const (c := 0) (by decide +kernel) (by decide)
theorem x_184_449 : Xp 184 d 449 ls [(0, x)] t g Q = ((x = 0 ∨ x = 1) ∧ Q (some (0, x)) t g) := xr_retZ (by decide +kernel) (by decide +kernel)
theorem x_184_450 : Xp 184 d 450 [v0, (2, x), v2, v3] st t g Q = Xp 184 d 451 [v0, (2, x), v2, v3] ((2, x) :: st) t g Q := Xp_go (i := .aload_n 1) (len := 1) (by decide +kernel) rfl
theorem x_184_451 : Xp 184 d 451 [(4, x), v1, v2, v3] st t g Q = Xp 184 d 452 [(4, x), v1, v2, v3] ((4, x) :: st) t g Q := Xp_go (i := .aload_n 0) (len := 1) (by decide +kernel) rfl
theorem x_184_452 : Xp 184 d 452 [v0, v1, v2, (0, x)] st t g Q = Xp 184 d 453 [v0, v1, v2, (0, x)] ((0, x) :: st) t g Q := Xp_go (i := .iload_n 3) (len := 1) (by decide +kernel) rfl
theorem x_184_453 : Xp 184 d 453 ls st t g Q = Xp 184 d 454 ls ((0, 1) :: st) t g Q := xr_const (c := 1) (by decide +kernel) (by decide)
theorem x_184_454 : Xp 184 d 454 ls ((0, b) :: (0, a) :: st) t g Q = Xp 184 d 455 ls ((0, hkW (a + b)) :: st) t g Q := Xp_go (i := .iadd) (len := 1) (by decide +kernel) rfl
theorem x_184_455 : Xp 184 d 455 ls ((0, a) :: (4, p) :: st) t g Q = ((0 ≤ a ∧ a < g (-2) 0) ∧ Xp 184 d 456 ls ((0, g (-1) a) :: st) t g Q) := Xp_chk (i := .iaload) (len := 1) (by decide +kernel) rfl
theorem x_184_456 : Xp 184 d 456 [(4, x), v1, v2, v3] st t g Q = Xp 184 d 457 [(4, x), v1, v2, v3] ((4, x) :: st) t g Q := Xp_go (i := .aload_n 0) (len := 1) (by decide +kernel) rfl
theorem x_184_457 : Xp 184 d 457 [v0, v1, v2, (0, x)] st t g Q = Xp 184 d 458 [v0, v1, v2, (0, x)] ((0, x) :: st) t g Q := Xp_go (i := .iload_n 3) (len := 1) (by decide +kernel) rfl
theorem x_184_458 : Xp 184 d 458 ls st t g Q = Xp 184 d 459 ls ((0, 2) :: st) t g Q := xr_const (c := 2) (by decide +kernel) (by decide)
theorem x_184_459 : Xp 184 d 459 ls ((0, b) :: (0, a) :: st) t g Q = Xp 184 d 460 ls ((0, hkW (a + b)) :: st) t g Q := Xp_go (i := .iadd) (len := 1) (by decide +kernel) rfl
theorem x_184_460 : Xp 184 d 460 ls ((0, a) :: (4, p) :: st) t g Q = ((0 ≤ a ∧ a < g (-2) 0) ∧ Xp 184 d 461 ls ((0, g (-1) a) :: st) t g Q) := Xp_chk (i := .iaload) (len := 1) (by decide +kernel) rfl
theorem x_184_461 : Xp 184 (d + 1) 461 ls ((0, a2) :: (0, a1) :: (2, a0) :: st) t g Q = (hkJK a0 = 0 ∧ hkC8 st ∧ Xp 11 d 0 [(2, a0), (0, a1), (0, a2), hkU] [] t g (fun r t g => Xp 184 (d + 1) 464 ls (hkPush r st) t g Q)) := xr_invV (idx := 49) (y' := 11) (ci := 0) (tg := [2, 0, 0]) (by decide +kernel) (by decide +kernel) (by decide +kernel) (by decide +kernel) rfl rfl rfl
theorem x_184_464 : Xp 184 d 464 [v0, v1, (2, x), v3] st t g Q = Xp 184 d 465 [v0, v1, (2, x), v3] ((2, x) :: st) t g Q := Xp_go (i := .aload_n 2) (len := 1) (by decide +kernel) rfl
theorem x_184_465 : Xp 184 d 465 [(4, x), v1, v2, v3] st t g Q = Xp 184 d 466 [(4, x), v1, v2, v3] ((4, x) :: st) t g Q := Xp_go (i := .aload_n 0) (len := 1) (by decide +kernel) rfl
theorem x_184_466 : Xp 184 d 466 [v0, v1, v2, (0, x)] st t g Q = Xp 184 d 467 [v0, v1, v2, (0, x)] ((0, x) :: st) t g Q := Xp_go (i := .iload_n 3) (len := 1) (by decide +kernel) rfl
theorem x_184_467 : Xp 184 d 467 ls st t g Q = Xp 184 d 468 ls ((0, 1) :: st) t g Q := xr_const (c := 1) (by decide +kernel) (by decide)
theorem x_184_468 : Xp 184 d 468 ls ((0, b) :: (0, a) :: st) t g Q = Xp 184 d 469 ls ((0, hkW (a + b)) :: st) t g Q := Xp_go (i := .iadd) (len := 1) (by decide +kernel) rfl
theorem x_184_469 : Xp 184 d 469 ls ((0, a) :: (4, p) :: st) t g Q = ((0 ≤ a ∧ a < g (-2) 0) ∧ Xp 184 d 470 ls ((0, g (-1) a) :: st) t g Q) := Xp_chk (i := .iaload) (len := 1) (by decide +kernel) rfl
theorem x_184_470 : Xp 184 d 470 [(4, x), v1, v2, v3] st t g Q = Xp 184 d 471 [(4, x), v1, v2, v3] ((4, x) :: st) t g Q := Xp_go (i := .aload_n 0) (len := 1) (by decide +kernel) rfl
theorem x_184_471 : Xp 184 d 471 [v0, v1, v2, (0, x)] st t g Q = Xp 184 d 472 [v0, v1, v2, (0, x)] ((0, x) :: st) t g Q := Xp_go (i := .iload_n 3) (len := 1) (by decide +kernel) rfl
theorem x_184_472 : Xp 184 d 472 ls st t g Q = Xp 184 d 473 ls ((0, 2) :: st) t g Q := xr_const (c := 2) (by decide +kernel) (by decide)
theorem x_184_473 : Xp 184 d 473 ls ((0, b) :: (0, a) :: st) t g Q = Xp 184 d 474 ls ((0, hkW (a + b)) :: st) t g Q := Xp_go (i := .iadd) (len := 1) (by decide +kernel) rfl
theorem x_184_474 : Xp 184 d 474 ls ((0, a) :: (4, p) :: st) t g Q = ((0 ≤ a ∧ a < g (-2) 0) ∧ Xp 184 d 475 ls ((0, g (-1) a) :: st) t g Q) := Xp_chk (i := .iaload) (len := 1) (by decide +kernel) rfl
theorem x_184_475 : Xp 184 (d + 1) 475 ls ((0, a2) :: (0, a1) :: (2, a0) :: st) t g Q = (hkJK a0 = 10 ∧ hkC8 st ∧ Xp 129 d 0 [(2, a0), (0, a1), (0, a2), hkU, hkU] [] t g (fun r t g => Xp 184 (d + 1) 478 ls (hkPush r st) t g Q)) := xr_invV (idx := 52) (y' := 129) (ci := 10) (tg := [2, 0, 0]) (by decide +kernel) (by decide +kernel) (by decide +kernel) (by decide +kernel) rfl rfl rfl
theorem x_184_478 : Xp 184 d 478 ls ((0, b) :: (0, a) :: st) t g Q = ((a = b → Xp 184 d 1190 ls st t g Q) ∧ (¬ (a = b) → Xp 184 d 481 ls st t g Q)) := xr_if2 (cd := .eq) (off := 712) (by decide +kernel) (by decide)
theorem x_184_481 : Xp 184 d 481 ls st t g Q = Xp 184 d 482 ls ((0, 0) :: st) t g Q := xr_const (c := 0) (by decide +kernel) (by decide)
theorem x_184_482 : Xp 184 d 482 ls [(0, x)] t g Q = ((x = 0 ∨ x = 1) ∧ Q (some (0, x)) t g) := xr_retZ (by decide +kernel) (by decide +kernel)
theorem x_184_483 : Xp 184 d 483 [v0, (2, x), v2, v3] st t g Q = Xp 184 d 484 [v0, (2, x), v2, v3] ((2, x) :: st) t g Q := Xp_go (i := .aload_n 1) (len := 1) (by decide +kernel) rfl
theorem x_184_484 : Xp 184 d 484 [(4, x), v1, v2, v3] st t g Q = Xp 184 d 485 [(4, x), v1, v2, v3] ((4, x) :: st) t g Q := Xp_go (i := .aload_n 0) (len := 1) (by decide +kernel) rfl
theorem x_184_485 : Xp 184 d 485 [v0, v1, v2, (0, x)] st t g Q = Xp 184 d 486 [v0, v1, v2, (0, x)] ((0, x) :: st) t g Q := Xp_go (i := .iload_n 3) (len := 1) (by decide +kernel) rfl
theorem x_184_486 : Xp 184 d 486 ls st t g Q = Xp 184 d 487 ls ((0, 1) :: st) t g Q := xr_const (c := 1) (by decide +kernel) (by decide)
theorem x_184_487 : Xp 184 d 487 ls ((0, b) :: (0, a) :: st) t g Q = Xp 184 d 488 ls ((0, hkW (a + b)) :: st) t g Q := Xp_go (i := .iadd) (len := 1) (by decide +kernel) rfl
theorem x_184_488 : Xp 184 d 488 ls ((0, a) :: (4, p) :: st) t g Q = ((0 ≤ a ∧ a < g (-2) 0) ∧ Xp 184 d 489 ls ((0, g (-1) a) :: st) t g Q) := Xp_chk (i := .iaload) (len := 1) (by decide +kernel) rfl
theorem x_184_489 : Xp 184 d 489 [(4, x), v1, v2, v3] st t g Q = Xp 184 d 490 [(4, x), v1, v2, v3] ((4, x) :: st) t g Q := Xp_go (i := .aload_n 0) (len := 1) (by decide +kernel) rfl
theorem x_184_490 : Xp 184 d 490 [v0, v1, v2, (0, x)] st t g Q = Xp 184 d 491 [v0, v1, v2, (0, x)] ((0, x) :: st) t g Q := Xp_go (i := .iload_n 3) (len := 1) (by decide +kernel) rfl
theorem x_184_491 : Xp 184 d 491 ls st t g Q = Xp 184 d 492 ls ((0, 2) :: st) t g Q := xr_const (c := 2) (by decide +kernel) (by decide)
theorem x_184_492 : Xp 184 d 492 ls ((0, b) :: (0, a) :: st) t g Q = Xp 184 d 493 ls ((0, hkW (a + b)) :: st) t g Q := Xp_go (i := .iadd) (len := 1) (by decide +kernel) rfl
theorem x_184_493 : Xp 184 d 493 ls ((0, a) :: (4, p) :: st) t g Q = ((0 ≤ a ∧ a < g (-2) 0) ∧ Xp 184 d 494 ls ((0, g (-1) a) :: st) t g Q) := Xp_chk (i := .iaload) (len := 1) (by decide +kernel) rfl
theorem x_184_494 : Xp 184 d 494 [(4, x), v1, v2, v3] st t g Q = Xp 184 d 495 [(4, x), v1, v2, v3] ((4, x) :: st) t g Q := Xp_go (i := .aload_n 0) (len := 1) (by decide +kernel) rfl
theorem x_184_495 : Xp 184 d 495 [v0, v1, v2, (0, x)] st t g Q = Xp 184 d 496 [v0, v1, v2, (0, x)] ((0, x) :: st) t g Q := Xp_go (i := .iload_n 3) (len := 1) (by decide +kernel) rfl
theorem x_184_496 : Xp 184 d 496 ls st t g Q = Xp 184 d 497 ls ((0, 3) :: st) t g Q := xr_const (c := 3) (by decide +kernel) (by decide)
theorem x_184_497 : Xp 184 d 497 ls ((0, b) :: (0, a) :: st) t g Q = Xp 184 d 498 ls ((0, hkW (a + b)) :: st) t g Q := Xp_go (i := .iadd) (len := 1) (by decide +kernel) rfl
theorem x_184_498 : Xp 184 d 498 ls ((0, a) :: (4, p) :: st) t g Q = ((0 ≤ a ∧ a < g (-2) 0) ∧ Xp 184 d 499 ls ((0, g (-1) a) :: st) t g Q) := Xp_chk (i := .iaload) (len := 1) (by decide +kernel) rfl
theorem x_184_499 : Xp 184 (d + 1) 499 ls ((0, a3) :: (0, a2) :: (0, a1) :: (2, a0) :: st) t g Q = (hkJK a0 = 0 ∧ hkC8 st ∧ Xp 13 d 0 [(2, a0), (0, a1), (0, a2), (0, a3)] [] t g (fun r t g => Xp 184 (d + 1) 502 ls (hkPush r st) t g Q)) := xr_invV (idx := 53) (y' := 13) (ci := 0) (tg := [2, 0, 0, 0]) (by decide +kernel) (by decide +kernel) (by decide +kernel) (by decide +kernel) rfl rfl rfl
theorem x_184_502 : Xp 184 d 502 [v0, v1, (2, x), v3] st t g Q = Xp 184 d 503 [v0, v1, (2, x), v3] ((2, x) :: st) t g Q := Xp_go (i := .aload_n 2) (len := 1) (by decide +kernel) rfl
theorem x_184_503 : Xp 184 d 503 [(4, x), v1, v2, v3] st t g Q = Xp 184 d 504 [(4, x), v1, v2, v3] ((4, x) :: st) t g Q := Xp_go (i := .aload_n 0) (len := 1) (by decide +kernel) rfl
theorem x_184_504 : Xp 184 d 504 [v0, v1, v2, (0, x)] st t g Q = Xp 184 d 505 [v0, v1, v2, (0, x)] ((0, x) :: st) t g Q := Xp_go (i := .iload_n 3) (len := 1) (by decide +kernel) rfl
theorem x_184_505 : Xp 184 d 505 ls st t g Q = Xp 184 d 506 ls ((0, 1) :: st) t g Q := xr_const (c := 1) (by decide +kernel) (by decide)
theorem x_184_506 : Xp 184 d 506 ls ((0, b) :: (0, a) :: st) t g Q = Xp 184 d 507 ls ((0, hkW (a + b)) :: st) t g Q := Xp_go (i := .iadd) (len := 1) (by decide +kernel) rfl
theorem x_184_507 : Xp 184 d 507 ls ((0, a) :: (4, p) :: st) t g Q = ((0 ≤ a ∧ a < g (-2) 0) ∧ Xp 184 d 508 ls ((0, g (-1) a) :: st) t g Q) := Xp_chk (i := .iaload) (len := 1) (by decide +kernel) rfl
theorem x_184_508 : Xp 184 d 508 [(4, x), v1, v2, v3] st t g Q = Xp 184 d 509 [(4, x), v1, v2, v3] ((4, x) :: st) t g Q := Xp_go (i := .aload_n 0) (len := 1) (by decide +kernel) rfl
theorem x_184_509 : Xp 184 d 509 [v0, v1, v2, (0, x)] st t g Q = Xp 184 d 510 [v0, v1, v2, (0, x)] ((0, x) :: st) t g Q := Xp_go (i := .iload_n 3) (len := 1) (by decide +kernel) rfl
theorem x_184_510 : Xp 184 d 510 ls st t g Q = Xp 184 d 511 ls ((0, 2) :: st) t g Q := xr_const (c := 2) (by decide +kernel) (by decide)
theorem x_184_511 : Xp 184 d 511 ls ((0, b) :: (0, a) :: st) t g Q = Xp 184 d 512 ls ((0, hkW (a + b)) :: st) t g Q := Xp_go (i := .iadd) (len := 1) (by decide +kernel) rfl
theorem x_184_512 : Xp 184 d 512 ls ((0, a) :: (4, p) :: st) t g Q = ((0 ≤ a ∧ a < g (-2) 0) ∧ Xp 184 d 513 ls ((0, g (-1) a) :: st) t g Q) := Xp_chk (i := .iaload) (len := 1) (by decide +kernel) rfl
theorem x_184_513 : Xp 184 d 513 [(4, x), v1, v2, v3] st t g Q = Xp 184 d 514 [(4, x), v1, v2, v3] ((4, x) :: st) t g Q := Xp_go (i := .aload_n 0) (len := 1) (by decide +kernel) rfl
theorem x_184_514 : Xp 184 d 514 [v0, v1, v2, (0, x)] st t g Q = Xp 184 d 515 [v0, v1, v2, (0, x)] ((0, x) :: st) t g Q := Xp_go (i := .iload_n 3) (len := 1) (by decide +kernel) rfl
theorem x_184_515 : Xp 184 d 515 ls st t g Q = Xp 184 d 516 ls ((0, 3) :: st) t g Q := xr_const (c := 3) (by decide +kernel) (by decide)
theorem x_184_516 : Xp 184 d 516 ls ((0, b) :: (0, a) :: st) t g Q = Xp 184 d 517 ls ((0, hkW (a + b)) :: st) t g Q := Xp_go (i := .iadd) (len := 1) (by decide +kernel) rfl
theorem x_184_517 : Xp 184 d 517 ls ((0, a) :: (4, p) :: st) t g Q = ((0 ≤ a ∧ a < g (-2) 0) ∧ Xp 184 d 518 ls ((0, g (-1) a) :: st) t g Q) := Xp_chk (i := .iaload) (len := 1) (by decide +kernel) rfl
theorem x_184_518 : Xp 184 (d + 1) 518 ls ((0, a3) :: (0, a2) :: (0, a1) :: (2, a0) :: st) t g Q = (hkJK a0 = 10 ∧ hkC8 st ∧ Xp 131 d 0 [(2, a0), (0, a1), (0, a2), (0, a3)] [] t g (fun r t g => Xp 184 (d + 1) 521 ls (hkPush r st) t g Q)) := xr_invV (idx := 56) (y' := 131) (ci := 10) (tg := [2, 0, 0, 0]) (by decide +kernel) (by decide +kernel) (by decide +kernel) (by decide +kernel) rfl rfl rfl
theorem x_184_521 : Xp 184 d 521 ls ((0, b) :: (0, a) :: st) t g Q = ((a = b → Xp 184 d 1190 ls st t g Q) ∧ (¬ (a = b) → Xp 184 d 524 ls st t g Q)) := xr_if2 (cd := .eq) (off := 669) (by decide +kernel) (by decide)
theorem x_184_524 : Xp 184 d 524 ls st t g Q = Xp 184 d 525 ls ((0, 0) :: st) t g Q := xr_const (c := 0) (by decide +kernel) (by decide)
theorem x_184_525 : Xp 184 d 525 ls [(0, x)] t g Q = ((x = 0 ∨ x = 1) ∧ Q (some (0, x)) t g) := xr_retZ (by decide +kernel) (by decide +kernel)
theorem x_184_526 : Xp 184 d 526 [v0, (2, x), v2, v3] st t g Q = Xp 184 d 527 [v0, (2, x), v2, v3] ((2, x) :: st) t g Q := Xp_go (i := .aload_n 1) (len := 1) (by decide +kernel) rfl
theorem x_184_527 : Xp 184 d 527 [(4, x), v1, v2, v3] st t g Q = Xp 184 d 528 [(4, x), v1, v2, v3] ((4, x) :: st) t g Q := Xp_go (i := .aload_n 0) (len := 1) (by decide +kernel) rfl
theorem x_184_528 : Xp 184 d 528 [v0, v1, v2, (0, x)] st t g Q = Xp 184 d 529 [v0, v1, v2, (0, x)] ((0, x) :: st) t g Q := Xp_go (i := .iload_n 3) (len := 1) (by decide +kernel) rfl
theorem x_184_529 : Xp 184 d 529 ls st t g Q = Xp 184 d 530 ls ((0, 1) :: st) t g Q := xr_const (c := 1) (by decide +kernel) (by decide)
theorem x_184_530 : Xp 184 d 530 ls ((0, b) :: (0, a) :: st) t g Q = Xp 184 d 531 ls ((0, hkW (a + b)) :: st) t g Q := Xp_go (i := .iadd) (len := 1) (by decide +kernel) rfl
theorem x_184_531 : Xp 184 d 531 ls ((0, a) :: (4, p) :: st) t g Q = ((0 ≤ a ∧ a < g (-2) 0) ∧ Xp 184 d 532 ls ((0, g (-1) a) :: st) t g Q) := Xp_chk (i := .iaload) (len := 1) (by decide +kernel) rfl
theorem x_184_532 : Xp 184 d 532 [(4, x), v1, v2, v3] st t g Q = Xp 184 d 533 [(4, x), v1, v2, v3] ((4, x) :: st) t g Q := Xp_go (i := .aload_n 0) (len := 1) (by decide +kernel) rfl
theorem x_184_533 : Xp 184 d 533 [v0, v1, v2, (0, x)] st t g Q = Xp 184 d 534 [v0, v1, v2, (0, x)] ((0, x) :: st) t g Q := Xp_go (i := .iload_n 3) (len := 1) (by decide +kernel) rfl
theorem x_184_534 : Xp 184 d 534 ls st t g Q = Xp 184 d 535 ls ((0, 2) :: st) t g Q := xr_const (c := 2) (by decide +kernel) (by decide)
theorem x_184_535 : Xp 184 d 535 ls ((0, b) :: (0, a) :: st) t g Q = Xp 184 d 536 ls ((0, hkW (a + b)) :: st) t g Q := Xp_go (i := .iadd) (len := 1) (by decide +kernel) rfl
theorem x_184_536 : Xp 184 d 536 ls ((0, a) :: (4, p) :: st) t g Q = ((0 ≤ a ∧ a < g (-2) 0) ∧ Xp 184 d 537 ls ((0, g (-1) a) :: st) t g Q) := Xp_chk (i := .iaload) (len := 1) (by decide +kernel) rfl
theorem x_184_537 : Xp 184 (d + 1) 537 ls ((0, a2) :: (0, a1) :: (2, a0) :: st) t g Q = (hkJK a0 = 0 ∧ hkC8 st ∧ Xp 14 d 0 [(2, a0), (0, a1), (0, a2), hkU, hkU] [] t g (fun r t g => Xp 184 (d + 1) 540 ls (hkPush r st) t g Q)) := xr_invV (idx := 57) (y' := 14) (ci := 0) (tg := [2, 0, 0]) (by decide +kernel) (by decide +kernel) (by decide +kernel) (by decide +kernel) rfl rfl rfl
theorem x_184_540 : Xp 184 d 540 [v0, v1, (2, x), v3] st t g Q = Xp 184 d 541 [v0, v1, (2, x), v3] ((2, x) :: st) t g Q := Xp_go (i := .aload_n 2) (len := 1) (by decide +kernel) rfl
theorem x_184_541 : Xp 184 d 541 [(4, x), v1, v2, v3] st t g Q = Xp 184 d 542 [(4, x), v1, v2, v3] ((4, x) :: st) t g Q := Xp_go (i := .aload_n 0) (len := 1) (by decide +kernel) rfl
theorem x_184_542 : Xp 184 d 542 [v0, v1, v2, (0, x)] st t g Q = Xp 184 d 543 [v0, v1, v2, (0, x)] ((0, x) :: st) t g Q := Xp_go (i := .iload_n 3) (len := 1) (by decide +kernel) rfl
theorem x_184_543 : Xp 184 d 543 ls st t g Q = Xp 184 d 544 ls ((0, 1) :: st) t g Q := xr_const (c := 1) (by decide +kernel) (by decide)
theorem x_184_544 : Xp 184 d 544 ls ((0, b) :: (0, a) :: st) t g Q = Xp 184 d 545 ls ((0, hkW (a + b)) :: st) t g Q := Xp_go (i := .iadd) (len := 1) (by decide +kernel) rfl
theorem x_184_545 : Xp 184 d 545 ls ((0, a) :: (4, p) :: st) t g Q = ((0 ≤ a ∧ a < g (-2) 0) ∧ Xp 184 d 546 ls ((0, g (-1) a) :: st) t g Q) := Xp_chk (i := .iaload) (len := 1) (by decide +kernel) rfl
theorem x_184_546 : Xp 184 d 546 [(4, x), v1, v2, v3] st t g Q = Xp 184 d 547 [(4, x), v1, v2, v3] ((4, x) :: st) t g Q := Xp_go (i := .aload_n 0) (len := 1) (by decide +kernel) rfl
theorem x_184_547 : Xp 184 d 547 [v0, v1, v2, (0, x)] st t g Q = Xp 184 d 548 [v0, v1, v2, (0, x)] ((0, x) :: st) t g Q := Xp_go (i := .iload_n 3) (len := 1) (by decide +kernel) rfl
theorem x_184_548 : Xp 184 d 548 ls st t g Q = Xp 184 d 549 ls ((0, 2) :: st) t g Q := xr_const (c := 2) (by decide +kernel) (by decide)
theorem x_184_549 : Xp 184 d 549 ls ((0, b) :: (0, a) :: st) t g Q = Xp 184 d 550 ls ((0, hkW (a + b)) :: st) t g Q := Xp_go (i := .iadd) (len := 1) (by decide +kernel) rfl
theorem x_184_550 : Xp 184 d 550 ls ((0, a) :: (4, p) :: st) t g Q = ((0 ≤ a ∧ a < g (-2) 0) ∧ Xp 184 d 551 ls ((0, g (-1) a) :: st) t g Q) := Xp_chk (i := .iaload) (len := 1) (by decide +kernel) rfl
theorem x_184_551 : Xp 184 (d + 1) 551 ls ((0, a2) :: (0, a1) :: (2, a0) :: st) t g Q = (hkJK a0 = 10 ∧ hkC8 st ∧ Xp 138 d 0 [(2, a0), (0, a1), (0, a2), hkU] [] t g (fun r t g => Xp 184 (d + 1) 554 ls (hkPush r st) t g Q)) := xr_invV (idx := 60) (y' := 138) (ci := 10) (tg := [2, 0, 0]) (by decide +kernel) (by decide +kernel) (by decide +kernel) (by decide +kernel) rfl rfl rfl
theorem x_184_554 : Xp 184 d 554 ls ((0, b) :: (0, a) :: st) t g Q = ((a = b → Xp 184 d 1190 ls st t g Q) ∧ (¬ (a = b) → Xp 184 d 557 ls st t g Q)) := xr_if2 (cd := .eq) (off := 636) (by decide +kernel) (by decide)
theorem x_184_557 : Xp 184 d 557 ls st t g Q = Xp 184 d 558 ls ((0, 0) :: st) t g Q := xr_const (c := 0) (by decide +kernel) (by decide)
theorem x_184_558 : Xp 184 d 558 ls [(0, x)] t g Q = ((x = 0 ∨ x = 1) ∧ Q (some (0, x)) t g) := xr_retZ (by decide +kernel) (by decide +kernel)
theorem x_184_559 : Xp 184 d 559 [v0, (2, x), v2, v3] st t g Q = Xp 184 d 560 [v0, (2, x), v2, v3] ((2, x) :: st) t g Q := Xp_go (i := .aload_n 1) (len := 1) (by decide +kernel) rfl
theorem x_184_560 : Xp 184 d 560 [(4, x), v1, v2, v3] st t g Q = Xp 184 d 561 [(4, x), v1, v2, v3] ((4, x) :: st) t g Q := Xp_go (i := .aload_n 0) (len := 1) (by decide +kernel) rfl
theorem x_184_561 : Xp 184 d 561 [v0, v1, v2, (0, x)] st t g Q = Xp 184 d 562 [v0, v1, v2, (0, x)] ((0, x) :: st) t g Q := Xp_go (i := .iload_n 3) (len := 1) (by decide +kernel) rfl
theorem x_184_562 : Xp 184 d 562 ls st t g Q = Xp 184 d 563 ls ((0, 1) :: st) t g Q := xr_const (c := 1) (by decide +kernel) (by decide)
theorem x_184_563 : Xp 184 d 563 ls ((0, b) :: (0, a) :: st) t g Q = Xp 184 d 564 ls ((0, hkW (a + b)) :: st) t g Q := Xp_go (i := .iadd) (len := 1) (by decide +kernel) rfl
theorem x_184_564 : Xp 184 d 564 ls ((0, a) :: (4, p) :: st) t g Q = ((0 ≤ a ∧ a < g (-2) 0) ∧ Xp 184 d 565 ls ((0, g (-1) a) :: st) t g Q) := Xp_chk (i := .iaload) (len := 1) (by decide +kernel) rfl
theorem x_184_565 : Xp 184 d 565 [(4, x), v1, v2, v3] st t g Q = Xp 184 d 566 [(4, x), v1, v2, v3] ((4, x) :: st) t g Q := Xp_go (i := .aload_n 0) (len := 1) (by decide +kernel) rfl
theorem x_184_566 : Xp 184 d 566 [v0, v1, v2, (0, x)] st t g Q = Xp 184 d 567 [v0, v1, v2, (0, x)] ((0, x) :: st) t g Q := Xp_go (i := .iload_n 3) (len := 1) (by decide +kernel) rfl
theorem x_184_567 : Xp 184 d 567 ls st t g Q = Xp 184 d 568 ls ((0, 2) :: st) t g Q := xr_const (c := 2) (by decide +kernel) (by decide)
theorem x_184_568 : Xp 184 d 568 ls ((0, b) :: (0, a) :: st) t g Q = Xp 184 d 569 ls ((0, hkW (a + b)) :: st) t g Q := Xp_go (i := .iadd) (len := 1) (by decide +kernel) rfl
theorem x_184_569 : Xp 184 d 569 ls ((0, a) :: (4, p) :: st) t g Q = ((0 ≤ a ∧ a < g (-2) 0) ∧ Xp 184 d 570 ls ((0, g (-1) a) :: st) t g Q) := Xp_chk (i := .iaload) (len := 1) (by decide +kernel) rfl
theorem x_184_570 : Xp 184 (d + 1) 570 ls ((0, a2) :: (0, a1) :: (2, a0) :: st) t g Q = (hkJK a0 = 0 ∧ hkC8 st ∧ Xp 15 d 0 [(2, a0), (0, a1), (0, a2)] [] t g (fun r t g => Xp 184 (d + 1) 573 ls (hkPush r st) t g Q)) := xr_invV (idx := 61) (y' := 15) (ci := 0) (tg := [2, 0, 0]) (by decide +kernel) (by decide +kernel) (by decide +kernel) (by decide +kernel) rfl rfl rfl
theorem x_184_573 : Xp 184 d 573 [v0, v1, (2, x), v3] st t g Q = Xp 184 d 574 [v0, v1, (2, x), v3] ((2, x) :: st) t g Q := Xp_go (i := .aload_n 2) (len := 1) (by decide +kernel) rfl
theorem x_184_574 : Xp 184 d 574 [(4, x), v1, v2, v3] st t g Q = Xp 184 d 575 [(4, x), v1, v2, v3] ((4, x) :: st) t g Q := Xp_go (i := .aload_n 0) (len := 1) (by decide +kernel) rfl
theorem x_184_575 : Xp 184 d 575 [v0, v1, v2, (0, x)] st t g Q = Xp 184 d 576 [v0, v1, v2, (0, x)] ((0, x) :: st) t g Q := Xp_go (i := .iload_n 3) (len := 1) (by decide +kernel) rfl
theorem x_184_576 : Xp 184 d 576 ls st t g Q = Xp 184 d 577 ls ((0, 1) :: st) t g Q := xr_const (c := 1) (by decide +kernel) (by decide)
theorem x_184_577 : Xp 184 d 577 ls ((0, b) :: (0, a) :: st) t g Q = Xp 184 d 578 ls ((0, hkW (a + b)) :: st) t g Q := Xp_go (i := .iadd) (len := 1) (by decide +kernel) rfl
theorem x_184_578 : Xp 184 d 578 ls ((0, a) :: (4, p) :: st) t g Q = ((0 ≤ a ∧ a < g (-2) 0) ∧ Xp 184 d 579 ls ((0, g (-1) a) :: st) t g Q) := Xp_chk (i := .iaload) (len := 1) (by decide +kernel) rfl
theorem x_184_579 : Xp 184 d 579 [(4, x), v1, v2, v3] st t g Q = Xp 184 d 580 [(4, x), v1, v2, v3] ((4, x) :: st) t g Q := Xp_go (i := .aload_n 0) (len := 1) (by decide +kernel) rfl
theorem x_184_580 : Xp 184 d 580 [v0, v1, v2, (0, x)] st t g Q = Xp 184 d 581 [v0, v1, v2, (0, x)] ((0, x) :: st) t g Q := Xp_go (i := .iload_n 3) (len := 1) (by decide +kernel) rfl
theorem x_184_581 : Xp 184 d 581 ls st t g Q = Xp 184 d 582 ls ((0, 2) :: st) t g Q := xr_const (c := 2) (by decide +kernel) (by decide)
theorem x_184_582 : Xp 184 d 582 ls ((0, b) :: (0, a) :: st) t g Q = Xp 184 d 583 ls ((0, hkW (a + b)) :: st) t g Q := Xp_go (i := .iadd) (len := 1) (by decide +kernel) rfl
theorem x_184_583 : Xp 184 d 583 ls ((0, a) :: (4, p) :: st) t g Q = ((0 ≤ a ∧ a < g (-2) 0) ∧ Xp 184 d 584 ls ((0, g (-1) a) :: st) t g Q) := Xp_chk (i := .iaload) (len := 1) (by decide +kernel) rfl
theorem x_184_584 : Xp 184 (d + 1) 584 ls ((0, a2) :: (0, a1) :: (2, a0) :: st) t g Q = (hkJK a0 = 10 ∧ hkC8 st ∧ Xp 139 d 0 [(2, a0), (0, a1), (0, a2)] [] t g (fun r t g => Xp 184 (d + 1) 587 ls (hkPush r st) t g Q)) := xr_invV (idx := 64) (y' := 139) (ci := 10) (tg := [2, 0, 0]) (by decide +kernel) (by decide +kernel) (by decide +kernel) (by decide +kernel) rfl rfl rfl
theorem x_184_587 : Xp 184 d 587 ls ((0, b) :: (0, a) :: st) t g Q = ((a = b → Xp 184 d 1190 ls st t g Q) ∧ (¬ (a = b) → Xp 184 d 590 ls st t g Q)) := xr_if2 (cd := .eq) (off := 603) (by decide +kernel) (by decide)
theorem x_184_590 : Xp 184 d 590 ls st t g Q = Xp 184 d 591 ls ((0, 0) :: st) t g Q := xr_const (c := 0) (by decide +kernel) (by decide)
theorem x_184_591 : Xp 184 d 591 ls [(0, x)] t g Q = ((x = 0 ∨ x = 1) ∧ Q (some (0, x)) t g) := xr_retZ (by decide +kernel) (by decide +kernel)
theorem x_184_592 : Xp 184 d 592 [v0, (2, x), v2, v3] st t g Q = Xp 184 d 593 [v0, (2, x), v2, v3] ((2, x) :: st) t g Q := Xp_go (i := .aload_n 1) (len := 1) (by decide +kernel) rfl
theorem x_184_593 : Xp 184 d 593 [(4, x), v1, v2, v3] st t g Q = Xp 184 d 594 [(4, x), v1, v2, v3] ((4, x) :: st) t g Q := Xp_go (i := .aload_n 0) (len := 1) (by decide +kernel) rfl
theorem x_184_594 : Xp 184 d 594 [v0, v1, v2, (0, x)] st t g Q = Xp 184 d 595 [v0, v1, v2, (0, x)] ((0, x) :: st) t g Q := Xp_go (i := .iload_n 3) (len := 1) (by decide +kernel) rfl
theorem x_184_595 : Xp 184 d 595 ls st t g Q = Xp 184 d 596 ls ((0, 1) :: st) t g Q := xr_const (c := 1) (by decide +kernel) (by decide)
theorem x_184_596 : Xp 184 d 596 ls ((0, b) :: (0, a) :: st) t g Q = Xp 184 d 597 ls ((0, hkW (a + b)) :: st) t g Q := Xp_go (i := .iadd) (len := 1) (by decide +kernel) rfl
theorem x_184_597 : Xp 184 d 597 ls ((0, a) :: (4, p) :: st) t g Q = ((0 ≤ a ∧ a < g (-2) 0) ∧ Xp 184 d 598 ls ((0, g (-1) a) :: st) t g Q) := Xp_chk (i := .iaload) (len := 1) (by decide +kernel) rfl
theorem x_184_598 : Xp 184 d 598 [(4, x), v1, v2, v3] st t g Q = Xp 184 d 599 [(4, x), v1, v2, v3] ((4, x) :: st) t g Q := Xp_go (i := .aload_n 0) (len := 1) (by decide +kernel) rfl
theorem x_184_599 : Xp 184 d 599 [v0, v1, v2, (0, x)] st t g Q = Xp 184 d 600 [v0, v1, v2, (0, x)] ((0, x) :: st) t g Q := Xp_go (i := .iload_n 3) (len := 1) (by decide +kernel) rfl
theorem x_184_600 : Xp 184 d 600 ls st t g Q = Xp 184 d 601 ls ((0, 2) :: st) t g Q := xr_const (c := 2) (by decide +kernel) (by decide)
theorem x_184_601 : Xp 184 d 601 ls ((0, b) :: (0, a) :: st) t g Q = Xp 184 d 602 ls ((0, hkW (a + b)) :: st) t g Q := Xp_go (i := .iadd) (len := 1) (by decide +kernel) rfl
theorem x_184_602 : Xp 184 d 602 ls ((0, a) :: (4, p) :: st) t g Q = ((0 ≤ a ∧ a < g (-2) 0) ∧ Xp 184 d 603 ls ((0, g (-1) a) :: st) t g Q) := Xp_chk (i := .iaload) (len := 1) (by decide +kernel) rfl
theorem x_184_603 : Xp 184 d 603 [(4, x), v1, v2, v3] st t g Q = Xp 184 d 604 [(4, x), v1, v2, v3] ((4, x) :: st) t g Q := Xp_go (i := .aload_n 0) (len := 1) (by decide +kernel) rfl
theorem x_184_604 : Xp 184 d 604 [v0, v1, v2, (0, x)] st t g Q = Xp 184 d 605 [v0, v1, v2, (0, x)] ((0, x) :: st) t g Q := Xp_go (i := .iload_n 3) (len := 1) (by decide +kernel) rfl
theorem x_184_605 : Xp 184 d 605 ls st t g Q = Xp 184 d 606 ls ((0, 3) :: st) t g Q := xr_const (c := 3) (by decide +kernel) (by decide)
theorem x_184_606 : Xp 184 d 606 ls ((0, b) :: (0, a) :: st) t g Q = Xp 184 d 607 ls ((0, hkW (a + b)) :: st) t g Q := Xp_go (i := .iadd) (len := 1) (by decide +kernel) rfl
theorem x_184_607 : Xp 184 d 607 ls ((0, a) :: (4, p) :: st) t g Q = ((0 ≤ a ∧ a < g (-2) 0) ∧ Xp 184 d 608 ls ((0, g (-1) a) :: st) t g Q) := Xp_chk (i := .iaload) (len := 1) (by decide +kernel) rfl
theorem x_184_608 : Xp 184 (d + 1) 608 ls ((0, a3) :: (0, a2) :: (0, a1) :: (2, a0) :: st) t g Q = (hkJK a0 = 0 ∧ hkC8 st ∧ Xp 16 d 0 [(2, a0), (0, a1), (0, a2), (0, a3), hkU, hkU] [] t g (fun r t g => Xp 184 (d + 1) 611 ls (hkPush r st) t g Q)) := xr_invV (idx := 65) (y' := 16) (ci := 0) (tg := [2, 0, 0, 0]) (by decide +kernel) (by decide +kernel) (by decide +kernel) (by decide +kernel) rfl rfl rfl
theorem x_184_611 : Xp 184 d 611 [v0, v1, (2, x), v3] st t g Q = Xp 184 d 612 [v0, v1, (2, x), v3] ((2, x) :: st) t g Q := Xp_go (i := .aload_n 2) (len := 1) (by decide +kernel) rfl
theorem x_184_612 : Xp 184 d 612 [(4, x), v1, v2, v3] st t g Q = Xp 184 d 613 [(4, x), v1, v2, v3] ((4, x) :: st) t g Q := Xp_go (i := .aload_n 0) (len := 1) (by decide +kernel) rfl
theorem x_184_613 : Xp 184 d 613 [v0, v1, v2, (0, x)] st t g Q = Xp 184 d 614 [v0, v1, v2, (0, x)] ((0, x) :: st) t g Q := Xp_go (i := .iload_n 3) (len := 1) (by decide +kernel) rfl
theorem x_184_614 : Xp 184 d 614 ls st t g Q = Xp 184 d 615 ls ((0, 1) :: st) t g Q := xr_const (c := 1) (by decide +kernel) (by decide)
theorem x_184_615 : Xp 184 d 615 ls ((0, b) :: (0, a) :: st) t g Q = Xp 184 d 616 ls ((0, hkW (a + b)) :: st) t g Q := Xp_go (i := .iadd) (len := 1) (by decide +kernel) rfl
theorem x_184_616 : Xp 184 d 616 ls ((0, a) :: (4, p) :: st) t g Q = ((0 ≤ a ∧ a < g (-2) 0) ∧ Xp 184 d 617 ls ((0, g (-1) a) :: st) t g Q) := Xp_chk (i := .iaload) (len := 1) (by decide +kernel) rfl
theorem x_184_617 : Xp 184 d 617 [(4, x), v1, v2, v3] st t g Q = Xp 184 d 618 [(4, x), v1, v2, v3] ((4, x) :: st) t g Q := Xp_go (i := .aload_n 0) (len := 1) (by decide +kernel) rfl
theorem x_184_618 : Xp 184 d 618 [v0, v1, v2, (0, x)] st t g Q = Xp 184 d 619 [v0, v1, v2, (0, x)] ((0, x) :: st) t g Q := Xp_go (i := .iload_n 3) (len := 1) (by decide +kernel) rfl
theorem x_184_619 : Xp 184 d 619 ls st t g Q = Xp 184 d 620 ls ((0, 2) :: st) t g Q := xr_const (c := 2) (by decide +kernel) (by decide)
theorem x_184_620 : Xp 184 d 620 ls ((0, b) :: (0, a) :: st) t g Q = Xp 184 d 621 ls ((0, hkW (a + b)) :: st) t g Q := Xp_go (i := .iadd) (len := 1) (by decide +kernel) rfl
theorem x_184_621 : Xp 184 d 621 ls ((0, a) :: (4, p) :: st) t g Q = ((0 ≤ a ∧ a < g (-2) 0) ∧ Xp 184 d 622 ls ((0, g (-1) a) :: st) t g Q) := Xp_chk (i := .iaload) (len := 1) (by decide +kernel) rfl
theorem x_184_622 : Xp 184 d 622 [(4, x), v1, v2, v3] st t g Q = Xp 184 d 623 [(4, x), v1, v2, v3] ((4, x) :: st) t g Q := Xp_go (i := .aload_n 0) (len := 1) (by decide +kernel) rfl
theorem x_184_623 : Xp 184 d 623 [v0, v1, v2, (0, x)] st t g Q = Xp 184 d 624 [v0, v1, v2, (0, x)] ((0, x) :: st) t g Q := Xp_go (i := .iload_n 3) (len := 1) (by decide +kernel) rfl
theorem x_184_624 : Xp 184 d 624 ls st t g Q = Xp 184 d 625 ls ((0, 3) :: st) t g Q := xr_const (c := 3) (by decide +kernel) (by decide)
theorem x_184_625 : Xp 184 d 625 ls ((0, b) :: (0, a) :: st) t g Q = Xp 184 d 626 ls ((0, hkW (a + b)) :: st) t g Q := Xp_go (i := .iadd) (len := 1) (by decide +kernel) rfl
theorem x_184_626 : Xp 184 d 626 ls ((0, a) :: (4, p) :: st) t g Q = ((0 ≤ a ∧ a < g (-2) 0) ∧ Xp 184 d 627 ls ((0, g (-1) a) :: st) t g Q) := Xp_chk (i := .iaload) (len := 1) (by decide +kernel) rfl
theorem x_184_627 : Xp 184 (d + 1) 627 ls ((0, a3) :: (0, a2) :: (0, a1) :: (2, a0) :: st) t g Q = (hkJK a0 = 10 ∧ hkC8 st ∧ Xp 141 d 0 [(2, a0), (0, a1), (0, a2), (0, a3), hkU, hkU] [] t g (fun r t g => Xp 184 (d + 1) 630 ls (hkPush r st) t g Q)) := xr_invV (idx := 69) (y' := 141) (ci := 10) (tg := [2, 0, 0, 0]) (by decide +kernel) (by decide +kernel) (by decide +kernel) (by decide +kernel) rfl rfl rfl
theorem x_184_630 : Xp 184 d 630 ls ((1, b) :: (1, a) :: st) t g Q = Xp 184 d 631 ls ((0, hkCmp a b) :: st) t g Q := Xp_go (i := .lcmp) (len := 1) (by decide +kernel) rfl
theorem x_184_631 : Xp 184 d 631 ls ((0, a) :: st) t g Q = ((a = 0 → Xp 184 d 1190 ls st t g Q) ∧ (¬ (a = 0) → Xp 184 d 634 ls st t g Q)) := xr_if1 (cd := .eq) (off := 559) (by decide +kernel) (by decide)
theorem x_184_634 : Xp 184 d 634 ls st t g Q = Xp 184 d 635 ls ((0, 0) :: st) t g Q := xr_const (c := 0) (by decide +kernel) (by decide)
theorem x_184_635 : Xp 184 d 635 ls [(0, x)] t g Q = ((x = 0 ∨ x = 1) ∧ Q (some (0, x)) t g) := xr_retZ (by decide +kernel) (by decide +kernel)
theorem x_184_636 : Xp 184 d 636 [v0, (2, x), v2, v3] st t g Q = Xp 184 d 637 [v0, (2, x), v2, v3] ((2, x) :: st) t g Q := Xp_go (i := .aload_n 1) (len := 1) (by decide +kernel) rfl
theorem x_184_637 : Xp 184 d 637 [(4, x), v1, v2, v3] st t g Q = Xp 184 d 638 [(4, x), v1, v2, v3] ((4, x) :: st) t g Q := Xp_go (i := .aload_n 0) (len := 1) (by decide +kernel) rfl
theorem x_184_638 : Xp 184 d 638 [v0, v1, v2, (0, x)] st t g Q = Xp 184 d 639 [v0, v1, v2, (0, x)] ((0, x) :: st) t g Q := Xp_go (i := .iload_n 3) (len := 1) (by decide +kernel) rfl
theorem x_184_639 : Xp 184 d 639 ls st t g Q = Xp 184 d 640 ls ((0, 1) :: st) t g Q := xr_const (c := 1) (by decide +kernel) (by decide)
theorem x_184_640 : Xp 184 d 640 ls ((0, b) :: (0, a) :: st) t g Q = Xp 184 d 641 ls ((0, hkW (a + b)) :: st) t g Q := Xp_go (i := .iadd) (len := 1) (by decide +kernel) rfl
theorem x_184_641 : Xp 184 d 641 ls ((0, a) :: (4, p) :: st) t g Q = ((0 ≤ a ∧ a < g (-2) 0) ∧ Xp 184 d 642 ls ((0, g (-1) a) :: st) t g Q) := Xp_chk (i := .iaload) (len := 1) (by decide +kernel) rfl
theorem x_184_642 : Xp 184 (d + 1) 642 ls ((0, a1) :: (2, a0) :: st) t g Q = (hkJK a0 = 0 ∧ hkC8 st ∧ Xp 17 d 0 [(2, a0), (0, a1)] [] t g (fun r t g => Xp 184 (d + 1) 645 ls (hkPush r st) t g Q)) := xr_invV (idx := 70) (y' := 17) (ci := 0) (tg := [2, 0]) (by decide +kernel) (by decide +kernel) (by decide +kernel) (by decide +kernel) rfl rfl rfl
theorem x_184_645 : Xp 184 d 645 [v0, v1, (2, x), v3] st t g Q = Xp 184 d 646 [v0, v1, (2, x), v3] ((2, x) :: st) t g Q := Xp_go (i := .aload_n 2) (len := 1) (by decide +kernel) rfl
theorem x_184_646 : Xp 184 d 646 [(4, x), v1, v2, v3] st t g Q = Xp 184 d 647 [(4, x), v1, v2, v3] ((4, x) :: st) t g Q := Xp_go (i := .aload_n 0) (len := 1) (by decide +kernel) rfl
theorem x_184_647 : Xp 184 d 647 [v0, v1, v2, (0, x)] st t g Q = Xp 184 d 648 [v0, v1, v2, (0, x)] ((0, x) :: st) t g Q := Xp_go (i := .iload_n 3) (len := 1) (by decide +kernel) rfl
theorem x_184_648 : Xp 184 d 648 ls st t g Q = Xp 184 d 649 ls ((0, 1) :: st) t g Q := xr_const (c := 1) (by decide +kernel) (by decide)
theorem x_184_649 : Xp 184 d 649 ls ((0, b) :: (0, a) :: st) t g Q = Xp 184 d 650 ls ((0, hkW (a + b)) :: st) t g Q := Xp_go (i := .iadd) (len := 1) (by decide +kernel) rfl
theorem x_184_650 : Xp 184 d 650 ls ((0, a) :: (4, p) :: st) t g Q = ((0 ≤ a ∧ a < g (-2) 0) ∧ Xp 184 d 651 ls ((0, g (-1) a) :: st) t g Q) := Xp_chk (i := .iaload) (len := 1) (by decide +kernel) rfl
theorem x_184_651 : Xp 184 (d + 1) 651 ls ((0, a1) :: (2, a0) :: st) t g Q = (hkJK a0 = 10 ∧ hkC8 st ∧ Xp 142 d 0 [(2, a0), (0, a1), hkU] [] t g (fun r t g => Xp 184 (d + 1) 654 ls (hkPush r st) t g Q)) := xr_invV (idx := 73) (y' := 142) (ci := 10) (tg := [2, 0]) (by decide +kernel) (by decide +kernel) (by decide +kernel) (by decide +kernel) rfl rfl rfl
theorem x_184_654 : Xp 184 d 654 ls ((0, b) :: (0, a) :: st) t g Q = ((a = b → Xp 184 d 1190 ls st t g Q) ∧ (¬ (a = b) → Xp 184 d 657 ls st t g Q)) := xr_if2 (cd := .eq) (off := 536) (by decide +kernel) (by decide)
theorem x_184_657 : Xp 184 d 657 ls st t g Q = Xp 184 d 658 ls ((0, 0) :: st) t g Q := xr_const (c := 0) (by decide +kernel) (by decide)
theorem x_184_658 : Xp 184 d 658 ls [(0, x)] t g Q = ((x = 0 ∨ x = 1) ∧ Q (some (0, x)) t g) := xr_retZ (by decide +kernel) (by decide +kernel)
theorem x_184_659 : Xp 184 d 659 [v0, (2, x), v2, v3] st t g Q = Xp 184 d 660 [v0, (2, x), v2, v3] ((2, x) :: st) t g Q := Xp_go (i := .aload_n 1) (len := 1) (by decide +kernel) rfl
theorem x_184_660 : Xp 184 d 660 [(4, x), v1, v2, v3] st t g Q = Xp 184 d 661 [(4, x), v1, v2, v3] ((4, x) :: st) t g Q := Xp_go (i := .aload_n 0) (len := 1) (by decide +kernel) rfl
theorem x_184_661 : Xp 184 d 661 [v0, v1, v2, (0, x)] st t g Q = Xp 184 d 662 [v0, v1, v2, (0, x)] ((0, x) :: st) t g Q := Xp_go (i := .iload_n 3) (len := 1) (by decide +kernel) rfl
theorem x_184_662 : Xp 184 d 662 ls st t g Q = Xp 184 d 663 ls ((0, 1) :: st) t g Q := xr_const (c := 1) (by decide +kernel) (by decide)
theorem x_184_663 : Xp 184 d 663 ls ((0, b) :: (0, a) :: st) t g Q = Xp 184 d 664 ls ((0, hkW (a + b)) :: st) t g Q := Xp_go (i := .iadd) (len := 1) (by decide +kernel) rfl
theorem x_184_664 : Xp 184 d 664 ls ((0, a) :: (4, p) :: st) t g Q = ((0 ≤ a ∧ a < g (-2) 0) ∧ Xp 184 d 665 ls ((0, g (-1) a) :: st) t g Q) := Xp_chk (i := .iaload) (len := 1) (by decide +kernel) rfl
theorem x_184_665 : Xp 184 d 665 [(4, x), v1, v2, v3] st t g Q = Xp 184 d 666 [(4, x), v1, v2, v3] ((4, x) :: st) t g Q := Xp_go (i := .aload_n 0) (len := 1) (by decide +kernel) rfl
theorem x_184_666 : Xp 184 d 666 [v0, v1, v2, (0, x)] st t g Q = Xp 184 d 667 [v0, v1, v2, (0, x)] ((0, x) :: st) t g Q := Xp_go (i := .iload_n 3) (len := 1) (by decide +kernel) rfl
theorem x_184_667 : Xp 184 d 667 ls st t g Q = Xp 184 d 668 ls ((0, 2) :: st) t g Q := xr_const (c := 2) (by decide +kernel) (by decide)
theorem x_184_668 : Xp 184 d 668 ls ((0, b) :: (0, a) :: st) t g Q = Xp 184 d 669 ls ((0, hkW (a + b)) :: st) t g Q := Xp_go (i := .iadd) (len := 1) (by decide +kernel) rfl
theorem x_184_669 : Xp 184 d 669 ls ((0, a) :: (4, p) :: st) t g Q = ((0 ≤ a ∧ a < g (-2) 0) ∧ Xp 184 d 670 ls ((0, g (-1) a) :: st) t g Q) := Xp_chk (i := .iaload) (len := 1) (by decide +kernel) rfl
theorem x_184_670 : Xp 184 d 670 [(4, x), v1, v2, v3] st t g Q = Xp 184 d 671 [(4, x), v1, v2, v3] ((4, x) :: st) t g Q := Xp_go (i := .aload_n 0) (len := 1) (by decide +kernel) rfl
theorem x_184_671 : Xp 184 d 671 [v0, v1, v2, (0, x)] st t g Q = Xp 184 d 672 [v0, v1, v2, (0, x)] ((0, x) :: st) t g Q := Xp_go (i := .iload_n 3) (len := 1) (by decide +kernel) rfl
theorem x_184_672 : Xp 184 d 672 ls st t g Q = Xp 184 d 673 ls ((0, 3) :: st) t g Q := xr_const (c := 3) (by decide +kernel) (by decide)
theorem x_184_673 : Xp 184 d 673 ls ((0, b) :: (0, a) :: st) t g Q = Xp 184 d 674 ls ((0, hkW (a + b)) :: st) t g Q := Xp_go (i := .iadd) (len := 1) (by decide +kernel) rfl
theorem x_184_674 : Xp 184 d 674 ls ((0, a) :: (4, p) :: st) t g Q = ((0 ≤ a ∧ a < g (-2) 0) ∧ Xp 184 d 675 ls ((0, g (-1) a) :: st) t g Q) := Xp_chk (i := .iaload) (len := 1) (by decide +kernel) rfl
theorem x_184_675 : Xp 184 d 675 [(4, x), v1, v2, v3] st t g Q = Xp 184 d 676 [(4, x), v1, v2, v3] ((4, x) :: st) t g Q := Xp_go (i := .aload_n 0) (len := 1) (by decide +kernel) rfl
theorem x_184_676 : Xp 184 d 676 [v0, v1, v2, (0, x)] st t g Q = Xp 184 d 677 [v0, v1, v2, (0, x)] ((0, x) :: st) t g Q := Xp_go (i := .iload_n 3) (len := 1) (by decide +kernel) rfl
theorem x_184_677 : Xp 184 d 677 ls st t g Q = Xp 184 d 678 ls ((0, 4) :: st) t g Q := xr_const (c := 4) (by decide +kernel) (by decide)
theorem x_184_678 : Xp 184 d 678 ls ((0, b) :: (0, a) :: st) t g Q = Xp 184 d 679 ls ((0, hkW (a + b)) :: st) t g Q := Xp_go (i := .iadd) (len := 1) (by decide +kernel) rfl
theorem x_184_679 : Xp 184 d 679 ls ((0, a) :: (4, p) :: st) t g Q = ((0 ≤ a ∧ a < g (-2) 0) ∧ Xp 184 d 680 ls ((0, g (-1) a) :: st) t g Q) := Xp_chk (i := .iaload) (len := 1) (by decide +kernel) rfl
theorem x_184_680 : Xp 184 d 680 [(4, x), v1, v2, v3] st t g Q = Xp 184 d 681 [(4, x), v1, v2, v3] ((4, x) :: st) t g Q := Xp_go (i := .aload_n 0) (len := 1) (by decide +kernel) rfl
theorem x_184_681 : Xp 184 d 681 [v0, v1, v2, (0, x)] st t g Q = Xp 184 d 682 [v0, v1, v2, (0, x)] ((0, x) :: st) t g Q := Xp_go (i := .iload_n 3) (len := 1) (by decide +kernel) rfl
theorem x_184_682 : Xp 184 d 682 ls st t g Q = Xp 184 d 683 ls ((0, 5) :: st) t g Q := xr_const (c := 5) (by decide +kernel) (by decide)
theorem x_184_683 : Xp 184 d 683 ls ((0, b) :: (0, a) :: st) t g Q = Xp 184 d 684 ls ((0, hkW (a + b)) :: st) t g Q := Xp_go (i := .iadd) (len := 1) (by decide +kernel) rfl
theorem x_184_684 : Xp 184 d 684 ls ((0, a) :: (4, p) :: st) t g Q = ((0 ≤ a ∧ a < g (-2) 0) ∧ Xp 184 d 685 ls ((0, g (-1) a) :: st) t g Q) := Xp_chk (i := .iaload) (len := 1) (by decide +kernel) rfl
theorem x_184_685 : Xp 184 d 685 [(4, x), v1, v2, v3] st t g Q = Xp 184 d 686 [(4, x), v1, v2, v3] ((4, x) :: st) t g Q := Xp_go (i := .aload_n 0) (len := 1) (by decide +kernel) rfl
theorem x_184_686 : Xp 184 d 686 [v0, v1, v2, (0, x)] st t g Q = Xp 184 d 687 [v0, v1, v2, (0, x)] ((0, x) :: st) t g Q := Xp_go (i := .iload_n 3) (len := 1) (by decide +kernel) rfl
theorem x_184_687 : Xp 184 d 687 ls st t g Q = Xp 184 d 689 ls ((0, 6) :: st) t g Q := xr_bi (c := 6) (by decide +kernel) (by decide)
theorem x_184_689 : Xp 184 d 689 ls ((0, b) :: (0, a) :: st) t g Q = Xp 184 d 690 ls ((0, hkW (a + b)) :: st) t g Q := Xp_go (i := .iadd) (len := 1) (by decide +kernel) rfl
theorem x_184_690 : Xp 184 d 690 ls ((0, a) :: (4, p) :: st) t g Q = ((0 ≤ a ∧ a < g (-2) 0) ∧ Xp 184 d 691 ls ((0, g (-1) a) :: st) t g Q) := Xp_chk (i := .iaload) (len := 1) (by decide +kernel) rfl
theorem x_184_691 : Xp 184 (d + 1) 691 ls ((0, a6) :: (0, a5) :: (0, a4) :: (0, a3) :: (0, a2) :: (0, a1) :: (2, a0) :: st) t g Q = (hkJK a0 = 0 ∧ hkC8 st ∧ Xp 18 d 0 [(2, a0), (0, a1), (0, a2), (0, a3), (0, a4), (0, a5), (0, a6), hkU] [] t g (fun r t g => Xp 184 (d + 1) 694 ls (hkPush r st) t g Q)) := xr_invV (idx := 74) (y' := 18) (ci := 0) (tg := [2, 0, 0, 0, 0, 0, 0]) (by decide +kernel) (by decide +kernel) (by decide +kernel) (by decide +kernel) rfl rfl rfl
theorem x_184_694 : Xp 184 d 694 [v0, v1, (2, x), v3] st t g Q = Xp 184 d 695 [v0, v1, (2, x), v3] ((2, x) :: st) t g Q := Xp_go (i := .aload_n 2) (len := 1) (by decide +kernel) rfl
theorem x_184_695 : Xp 184 d 695 [(4, x), v1, v2, v3] st t g Q = Xp 184 d 696 [(4, x), v1, v2, v3] ((4, x) :: st) t g Q := Xp_go (i := .aload_n 0) (len := 1) (by decide +kernel) rfl
theorem x_184_696 : Xp 184 d 696 [v0, v1, v2, (0, x)] st t g Q = Xp 184 d 697 [v0, v1, v2, (0, x)] ((0, x) :: st) t g Q := Xp_go (i := .iload_n 3) (len := 1) (by decide +kernel) rfl
theorem x_184_697 : Xp 184 d 697 ls st t g Q = Xp 184 d 698 ls ((0, 1) :: st) t g Q := xr_const (c := 1) (by decide +kernel) (by decide)
theorem x_184_698 : Xp 184 d 698 ls ((0, b) :: (0, a) :: st) t g Q = Xp 184 d 699 ls ((0, hkW (a + b)) :: st) t g Q := Xp_go (i := .iadd) (len := 1) (by decide +kernel) rfl
theorem x_184_699 : Xp 184 d 699 ls ((0, a) :: (4, p) :: st) t g Q = ((0 ≤ a ∧ a < g (-2) 0) ∧ Xp 184 d 700 ls ((0, g (-1) a) :: st) t g Q) := Xp_chk (i := .iaload) (len := 1) (by decide +kernel) rfl
theorem x_184_700 : Xp 184 d 700 [(4, x), v1, v2, v3] st t g Q = Xp 184 d 701 [(4, x), v1, v2, v3] ((4, x) :: st) t g Q := Xp_go (i := .aload_n 0) (len := 1) (by decide +kernel) rfl
theorem x_184_701 : Xp 184 d 701 [v0, v1, v2, (0, x)] st t g Q = Xp 184 d 702 [v0, v1, v2, (0, x)] ((0, x) :: st) t g Q := Xp_go (i := .iload_n 3) (len := 1) (by decide +kernel) rfl
theorem x_184_702 : Xp 184 d 702 ls st t g Q = Xp 184 d 703 ls ((0, 2) :: st) t g Q := xr_const (c := 2) (by decide +kernel) (by decide)
theorem x_184_703 : Xp 184 d 703 ls ((0, b) :: (0, a) :: st) t g Q = Xp 184 d 704 ls ((0, hkW (a + b)) :: st) t g Q := Xp_go (i := .iadd) (len := 1) (by decide +kernel) rfl
theorem x_184_704 : Xp 184 d 704 ls ((0, a) :: (4, p) :: st) t g Q = ((0 ≤ a ∧ a < g (-2) 0) ∧ Xp 184 d 705 ls ((0, g (-1) a) :: st) t g Q) := Xp_chk (i := .iaload) (len := 1) (by decide +kernel) rfl
theorem x_184_705 : Xp 184 d 705 [(4, x), v1, v2, v3] st t g Q = Xp 184 d 706 [(4, x), v1, v2, v3] ((4, x) :: st) t g Q := Xp_go (i := .aload_n 0) (len := 1) (by decide +kernel) rfl
theorem x_184_706 : Xp 184 d 706 [v0, v1, v2, (0, x)] st t g Q = Xp 184 d 707 [v0, v1, v2, (0, x)] ((0, x) :: st) t g Q := Xp_go (i := .iload_n 3) (len := 1) (by decide +kernel) rfl
theorem x_184_707 : Xp 184 d 707 ls st t g Q = Xp 184 d 708 ls ((0, 3) :: st) t g Q := xr_const (c := 3) (by decide +kernel) (by decide)
theorem x_184_708 : Xp 184 d 708 ls ((0, b) :: (0, a) :: st) t g Q = Xp 184 d 709 ls ((0, hkW (a + b)) :: st) t g Q := Xp_go (i := .iadd) (len := 1) (by decide +kernel) rfl
theorem x_184_709 : Xp 184 d 709 ls ((0, a) :: (4, p) :: st) t g Q = ((0 ≤ a ∧ a < g (-2) 0) ∧ Xp 184 d 710 ls ((0, g (-1) a) :: st) t g Q) := Xp_chk (i := .iaload) (len := 1) (by decide +kernel) rfl
theorem x_184_710 : Xp 184 d 710 [(4, x), v1, v2, v3] st t g Q = Xp 184 d 711 [(4, x), v1, v2, v3] ((4, x) :: st) t g Q := Xp_go (i := .aload_n 0) (len := 1) (by decide +kernel) rfl
theorem x_184_711 : Xp 184 d 711 [v0, v1, v2, (0, x)] st t g Q = Xp 184 d 712 [v0, v1, v2, (0, x)] ((0, x) :: st) t g Q := Xp_go (i := .iload_n 3) (len := 1) (by decide +kernel) rfl
theorem x_184_712 : Xp 184 d 712 ls st t g Q = Xp 184 d 713 ls ((0, 4) :: st) t g Q := xr_const (c := 4) (by decide +kernel) (by decide)
theorem x_184_713 : Xp 184 d 713 ls ((0, b) :: (0, a) :: st) t g Q = Xp 184 d 714 ls ((0, hkW (a + b)) :: st) t g Q := Xp_go (i := .iadd) (len := 1) (by decide +kernel) rfl
theorem x_184_714 : Xp 184 d 714 ls ((0, a) :: (4, p) :: st) t g Q = ((0 ≤ a ∧ a < g (-2) 0) ∧ Xp 184 d 715 ls ((0, g (-1) a) :: st) t g Q) := Xp_chk (i := .iaload) (len := 1) (by decide +kernel) rfl
theorem x_184_715 : Xp 184 d 715 [(4, x), v1, v2, v3] st t g Q = Xp 184 d 716 [(4, x), v1, v2, v3] ((4, x) :: st) t g Q := Xp_go (i := .aload_n 0) (len := 1) (by decide +kernel) rfl
theorem x_184_716 : Xp 184 d 716 [v0, v1, v2, (0, x)] st t g Q = Xp 184 d 717 [v0, v1, v2, (0, x)] ((0, x) :: st) t g Q := Xp_go (i := .iload_n 3) (len := 1) (by decide +kernel) rfl
theorem x_184_717 : Xp 184 d 717 ls st t g Q = Xp 184 d 718 ls ((0, 5) :: st) t g Q := xr_const (c := 5) (by decide +kernel) (by decide)
theorem x_184_718 : Xp 184 d 718 ls ((0, b) :: (0, a) :: st) t g Q = Xp 184 d 719 ls ((0, hkW (a + b)) :: st) t g Q := Xp_go (i := .iadd) (len := 1) (by decide +kernel) rfl
theorem x_184_719 : Xp 184 d 719 ls ((0, a) :: (4, p) :: st) t g Q = ((0 ≤ a ∧ a < g (-2) 0) ∧ Xp 184 d 720 ls ((0, g (-1) a) :: st) t g Q) := Xp_chk (i := .iaload) (len := 1) (by decide +kernel) rfl
theorem x_184_720 : Xp 184 d 720 [(4, x), v1, v2, v3] st t g Q = Xp 184 d 721 [(4, x), v1, v2, v3] ((4, x) :: st) t g Q := Xp_go (i := .aload_n 0) (len := 1) (by decide +kernel) rfl
theorem x_184_721 : Xp 184 d 721 [v0, v1, v2, (0, x)] st t g Q = Xp 184 d 722 [v0, v1, v2, (0, x)] ((0, x) :: st) t g Q := Xp_go (i := .iload_n 3) (len := 1) (by decide +kernel) rfl
theorem x_184_722 : Xp 184 d 722 ls st t g Q = Xp 184 d 724 ls ((0, 6) :: st) t g Q := xr_bi (c := 6) (by decide +kernel) (by decide)
theorem x_184_724 : Xp 184 d 724 ls ((0, b) :: (0, a) :: st) t g Q = Xp 184 d 725 ls ((0, hkW (a + b)) :: st) t g Q := Xp_go (i := .iadd) (len := 1) (by decide +kernel) rfl
theorem x_184_725 : Xp 184 d 725 ls ((0, a) :: (4, p) :: st) t g Q = ((0 ≤ a ∧ a < g (-2) 0) ∧ Xp 184 d 726 ls ((0, g (-1) a) :: st) t g Q) := Xp_chk (i := .iaload) (len := 1) (by decide +kernel) rfl
theorem x_184_726 : Xp 184 (d + 1) 726 ls ((0, a6) :: (0, a5) :: (0, a4) :: (0, a3) :: (0, a2) :: (0, a1) :: (2, a0) :: st) t g Q = (hkJK a0 = 10 ∧ hkC8 st ∧ Xp 148 d 0 [(2, a0), (0, a1), (0, a2), (0, a3), (0, a4), (0, a5), (0, a6), hkU, hkU] [] t g (fun r t g => Xp 184 (d + 1) 729 ls (hkPush r st) t g Q)) := xr_invV (idx := 78) (y' := 148) (ci := 10) (tg := [2, 0, 0, 0, 0, 0, 0]) (by decide +kernel) (by decide +kernel) (by decide +kernel) (by decide +kernel) rfl rfl rfl
theorem x_184_729 : Xp 184 d 729 ls ((0, b) :: (0, a) :: st) t g Q = ((a = b → Xp 184 d 1190 ls st t g Q) ∧ (¬ (a = b) → Xp 184 d 732 ls st t g Q)) := xr_if2 (cd := .eq) (off := 461) (by decide +kernel) (by decide)
theorem x_184_732 : Xp 184 d 732 ls st t g Q = Xp 184 d 733 ls ((0, 0) :: st) t g Q := xr_const (c := 0) (by decide +kernel) (by decide)
theorem x_184_733 : Xp 184 d 733 ls [(0, x)] t g Q = ((x = 0 ∨ x = 1) ∧ Q (some (0, x)) t g) := xr_retZ (by decide +kernel) (by decide +kernel)
theorem x_184_734 : Xp 184 d 734 [v0, (2, x), v2, v3] st t g Q = Xp 184 d 735 [v0, (2, x), v2, v3] ((2, x) :: st) t g Q := Xp_go (i := .aload_n 1) (len := 1) (by decide +kernel) rfl
theorem x_184_735 : Xp 184 (d + 1) 735 ls ((2, a0) :: st) t g Q = (hkJK a0 = 0 ∧ hkC8 st ∧ Xp 20 d 0 [(2, a0)] [] t g (fun r t g => Xp 184 (d + 1) 738 ls (hkPush r st) t g Q)) := xr_invV (idx := 79) (y' := 20) (ci := 0) (tg := [2]) (by decide +kernel) (by decide +kernel) (by decide +kernel) (by decide +kernel) rfl rfl rfl
theorem x_184_738 : Xp 184 d 738 [v0, v1, (2, x), v3] st t g Q = Xp 184 d 739 [v0, v1, (2, x), v3] ((2, x) :: st) t g Q := Xp_go (i := .aload_n 2) (len := 1) (by decide +kernel) rfl
theorem x_184_739 : Xp 184 (d + 1) 739 ls ((2, a0) :: st) t g Q = (hkJK a0 = 10 ∧ hkC8 st ∧ Xp 149 d 0 [(2, a0), hkU] [] t g (fun r t g => Xp 184 (d + 1) 742 ls (hkPush r st) t g Q)) := xr_invV (idx := 83) (y' := 149) (ci := 10) (tg := [2]) (by decide +kernel) (by decide +kernel) (by decide +kernel) (by decide +kernel) rfl rfl rfl
theorem x_184_742 : Xp 184 d 742 ls ((0, b) :: (0, a) :: st) t g Q = ((a = b → Xp 184 d 1190 ls st t g Q) ∧ (¬ (a = b) → Xp 184 d 745 ls st t g Q)) := xr_if2 (cd := .eq) (off := 448) (by decide +kernel) (by decide)
theorem x_184_745 : Xp 184 d 745 ls st t g Q = Xp 184 d 746 ls ((0, 0) :: st) t g Q := xr_const (c := 0) (by decide +kernel) (by decide)
theorem x_184_746 : Xp 184 d 746 ls [(0, x)] t g Q = ((x = 0 ∨ x = 1) ∧ Q (some (0, x)) t g) := xr_retZ (by decide +kernel) (by decide +kernel)
theorem x_184_747 : Xp 184 d 747 [v0, (2, x), v2, v3] st t g Q = Xp 184 d 748 [v0, (2, x), v2, v3] ((2, x) :: st) t g Q := Xp_go (i := .aload_n 1) (len := 1) (by decide +kernel) rfl
theorem x_184_748 : Xp 184 d 748 [(4, x), v1, v2, v3] st t g Q = Xp 184 d 749 [(4, x), v1, v2, v3] ((4, x) :: st) t g Q := Xp_go (i := .aload_n 0) (len := 1) (by decide +kernel) rfl
theorem x_184_749 : Xp 184 d 749 [v0, v1, v2, (0, x)] st t g Q = Xp 184 d 750 [v0, v1, v2, (0, x)] ((0, x) :: st) t g Q := Xp_go (i := .iload_n 3) (len := 1) (by decide +kernel) rfl
theorem x_184_750 : Xp 184 d 750 ls st t g Q = Xp 184 d 751 ls ((0, 1) :: st) t g Q := xr_const (c := 1) (by decide +kernel) (by decide)
theorem x_184_751 : Xp 184 d 751 ls ((0, b) :: (0, a) :: st) t g Q = Xp 184 d 752 ls ((0, hkW (a + b)) :: st) t g Q := Xp_go (i := .iadd) (len := 1) (by decide +kernel) rfl
theorem x_184_752 : Xp 184 d 752 ls ((0, a) :: (4, p) :: st) t g Q = ((0 ≤ a ∧ a < g (-2) 0) ∧ Xp 184 d 753 ls ((0, g (-1) a) :: st) t g Q) := Xp_chk (i := .iaload) (len := 1) (by decide +kernel) rfl
theorem x_184_753 : Xp 184 d 753 [(4, x), v1, v2, v3] st t g Q = Xp 184 d 754 [(4, x), v1, v2, v3] ((4, x) :: st) t g Q := Xp_go (i := .aload_n 0) (len := 1) (by decide +kernel) rfl
theorem x_184_754 : Xp 184 d 754 [v0, v1, v2, (0, x)] st t g Q = Xp 184 d 755 [v0, v1, v2, (0, x)] ((0, x) :: st) t g Q := Xp_go (i := .iload_n 3) (len := 1) (by decide +kernel) rfl
theorem x_184_755 : Xp 184 d 755 ls st t g Q = Xp 184 d 756 ls ((0, 2) :: st) t g Q := xr_const (c := 2) (by decide +kernel) (by decide)
theorem x_184_756 : Xp 184 d 756 ls ((0, b) :: (0, a) :: st) t g Q = Xp 184 d 757 ls ((0, hkW (a + b)) :: st) t g Q := Xp_go (i := .iadd) (len := 1) (by decide +kernel) rfl
theorem x_184_757 : Xp 184 d 757 ls ((0, a) :: (4, p) :: st) t g Q = ((0 ≤ a ∧ a < g (-2) 0) ∧ Xp 184 d 758 ls ((0, g (-1) a) :: st) t g Q) := Xp_chk (i := .iaload) (len := 1) (by decide +kernel) rfl
theorem x_184_758 : Xp 184 d 758 [(4, x), v1, v2, v3] st t g Q = Xp 184 d 759 [(4, x), v1, v2, v3] ((4, x) :: st) t g Q := Xp_go (i := .aload_n 0) (len := 1) (by decide +kernel) rfl
theorem x_184_759 : Xp 184 d 759 [v0, v1, v2, (0, x)] st t g Q = Xp 184 d 760 [v0, v1, v2, (0, x)] ((0, x) :: st) t g Q := Xp_go (i := .iload_n 3) (len := 1) (by decide +kernel) rfl
theorem x_184_760 : Xp 184 d 760 ls st t g Q = Xp 184 d 761 ls ((0, 3) :: st) t g Q := xr_const (c := 3) (by decide +kernel) (by decide)
theorem x_184_761 : Xp 184 d 761 ls ((0, b) :: (0, a) :: st) t g Q = Xp 184 d 762 ls ((0, hkW (a + b)) :: st) t g Q := Xp_go (i := .iadd) (len := 1) (by decide +kernel) rfl
theorem x_184_762 : Xp 184 d 762 ls ((0, a) :: (4, p) :: st) t g Q = ((0 ≤ a ∧ a < g (-2) 0) ∧ Xp 184 d 763 ls ((0, g (-1) a) :: st) t g Q) := Xp_chk (i := .iaload) (len := 1) (by decide +kernel) rfl
theorem x_184_763 : Xp 184 (d + 1) 763 ls ((0, a3) :: (0, a2) :: (0, a1) :: (2, a0) :: st) t g Q = (hkJK a0 = 0 ∧ hkC8 st ∧ Xp 21 d 0 [(2, a0), (0, a1), (0, a2), (0, a3)] [] t g (fun r t g => Xp 184 (d + 1) 766 ls (hkPush r st) t g Q)) := xr_invV (idx := 84) (y' := 21) (ci := 0) (tg := [2, 0, 0, 0]) (by decide +kernel) (by decide +kernel) (by decide +kernel) (by decide +kernel) rfl rfl rfl
theorem x_184_766 : Xp 184 d 766 [v0, v1, (2, x), v3] st t g Q = Xp 184 d 767 [v0, v1, (2, x), v3] ((2, x) :: st) t g Q := Xp_go (i := .aload_n 2) (len := 1) (by decide +kernel) rfl
theorem x_184_767 : Xp 184 d 767 [(4, x), v1, v2, v3] st t g Q = Xp 184 d 768 [(4, x), v1, v2, v3] ((4, x) :: st) t g Q := Xp_go (i := .aload_n 0) (len := 1) (by decide +kernel) rfl
theorem x_184_768 : Xp 184 d 768 [v0, v1, v2, (0, x)] st t g Q = Xp 184 d 769 [v0, v1, v2, (0, x)] ((0, x) :: st) t g Q := Xp_go (i := .iload_n 3) (len := 1) (by decide +kernel) rfl
theorem x_184_769 : Xp 184 d 769 ls st t g Q = Xp 184 d 770 ls ((0, 1) :: st) t g Q := xr_const (c := 1) (by decide +kernel) (by decide)
theorem x_184_770 : Xp 184 d 770 ls ((0, b) :: (0, a) :: st) t g Q = Xp 184 d 771 ls ((0, hkW (a + b)) :: st) t g Q := Xp_go (i := .iadd) (len := 1) (by decide +kernel) rfl
theorem x_184_771 : Xp 184 d 771 ls ((0, a) :: (4, p) :: st) t g Q = ((0 ≤ a ∧ a < g (-2) 0) ∧ Xp 184 d 772 ls ((0, g (-1) a) :: st) t g Q) := Xp_chk (i := .iaload) (len := 1) (by decide +kernel) rfl
theorem x_184_772 : Xp 184 d 772 [(4, x), v1, v2, v3] st t g Q = Xp 184 d 773 [(4, x), v1, v2, v3] ((4, x) :: st) t g Q := Xp_go (i := .aload_n 0) (len := 1) (by decide +kernel) rfl
theorem x_184_773 : Xp 184 d 773 [v0, v1, v2, (0, x)] st t g Q = Xp 184 d 774 [v0, v1, v2, (0, x)] ((0, x) :: st) t g Q := Xp_go (i := .iload_n 3) (len := 1) (by decide +kernel) rfl
theorem x_184_774 : Xp 184 d 774 ls st t g Q = Xp 184 d 775 ls ((0, 2) :: st) t g Q := xr_const (c := 2) (by decide +kernel) (by decide)
theorem x_184_775 : Xp 184 d 775 ls ((0, b) :: (0, a) :: st) t g Q = Xp 184 d 776 ls ((0, hkW (a + b)) :: st) t g Q := Xp_go (i := .iadd) (len := 1) (by decide +kernel) rfl
theorem x_184_776 : Xp 184 d 776 ls ((0, a) :: (4, p) :: st) t g Q = ((0 ≤ a ∧ a < g (-2) 0) ∧ Xp 184 d 777 ls ((0, g (-1) a) :: st) t g Q) := Xp_chk (i := .iaload) (len := 1) (by decide +kernel) rfl
theorem x_184_777 : Xp 184 d 777 [(4, x), v1, v2, v3] st t g Q = Xp 184 d 778 [(4, x), v1, v2, v3] ((4, x) :: st) t g Q := Xp_go (i := .aload_n 0) (len := 1) (by decide +kernel) rfl
theorem x_184_778 : Xp 184 d 778 [v0, v1, v2, (0, x)] st t g Q = Xp 184 d 779 [v0, v1, v2, (0, x)] ((0, x) :: st) t g Q := Xp_go (i := .iload_n 3) (len := 1) (by decide +kernel) rfl
theorem x_184_779 : Xp 184 d 779 ls st t g Q = Xp 184 d 780 ls ((0, 3) :: st) t g Q := xr_const (c := 3) (by decide +kernel) (by decide)
theorem x_184_780 : Xp 184 d 780 ls ((0, b) :: (0, a) :: st) t g Q = Xp 184 d 781 ls ((0, hkW (a + b)) :: st) t g Q := Xp_go (i := .iadd) (len := 1) (by decide +kernel) rfl
theorem x_184_781 : Xp 184 d 781 ls ((0, a) :: (4, p) :: st) t g Q = ((0 ≤ a ∧ a < g (-2) 0) ∧ Xp 184 d 782 ls ((0, g (-1) a) :: st) t g Q) := Xp_chk (i := .iaload) (len := 1) (by decide +kernel) rfl
theorem x_184_782 : Xp 184 (d + 1) 782 ls ((0, a3) :: (0, a2) :: (0, a1) :: (2, a0) :: st) t g Q = (hkJK a0 = 10 ∧ hkC8 st ∧ Xp 159 d 0 [(2, a0), (0, a1), (0, a2), (0, a3), hkU] [] t g (fun r t g => Xp 184 (d + 1) 785 ls (hkPush r st) t g Q)) := xr_invV (idx := 87) (y' := 159) (ci := 10) (tg := [2, 0, 0, 0]) (by decide +kernel) (by decide +kernel) (by decide +kernel) (by decide +kernel) rfl rfl rfl
theorem x_184_785 : Xp 184 d 785 ls ((0, b) :: (0, a) :: st) t g Q = ((a = b → Xp 184 d 1190 ls st t g Q) ∧ (¬ (a = b) → Xp 184 d 788 ls st t g Q)) := xr_if2 (cd := .eq) (off := 405) (by decide +kernel) (by decide)
theorem x_184_788 : Xp 184 d 788 ls st t g Q = Xp 184 d 789 ls ((0, 0) :: st) t g Q := xr_const (c := 0) (by decide +kernel) (by decide)
theorem x_184_789 : Xp 184 d 789 ls [(0, x)] t g Q = ((x = 0 ∨ x = 1) ∧ Q (some (0, x)) t g) := xr_retZ (by decide +kernel) (by decide +kernel)
theorem x_184_790 : Xp 184 d 790 [v0, (2, x), v2, v3] st t g Q = Xp 184 d 791 [v0, (2, x), v2, v3] ((2, x) :: st) t g Q := Xp_go (i := .aload_n 1) (len := 1) (by decide +kernel) rfl
theorem x_184_791 : Xp 184 d 791 [(4, x), v1, v2, v3] st t g Q = Xp 184 d 792 [(4, x), v1, v2, v3] ((4, x) :: st) t g Q := Xp_go (i := .aload_n 0) (len := 1) (by decide +kernel) rfl
theorem x_184_792 : Xp 184 d 792 [v0, v1, v2, (0, x)] st t g Q = Xp 184 d 793 [v0, v1, v2, (0, x)] ((0, x) :: st) t g Q := Xp_go (i := .iload_n 3) (len := 1) (by decide +kernel) rfl
theorem x_184_793 : Xp 184 d 793 ls st t g Q = Xp 184 d 794 ls ((0, 1) :: st) t g Q := xr_const (c := 1) (by decide +kernel) (by decide)
theorem x_184_794 : Xp 184 d 794 ls ((0, b) :: (0, a) :: st) t g Q = Xp 184 d 795 ls ((0, hkW (a + b)) :: st) t g Q := Xp_go (i := .iadd) (len := 1) (by decide +kernel) rfl
theorem x_184_795 : Xp 184 d 795 ls ((0, a) :: (4, p) :: st) t g Q = ((0 ≤ a ∧ a < g (-2) 0) ∧ Xp 184 d 796 ls ((0, g (-1) a) :: st) t g Q) := Xp_chk (i := .iaload) (len := 1) (by decide +kernel) rfl
theorem x_184_796 : Xp 184 d 796 [(4, x), v1, v2, v3] st t g Q = Xp 184 d 797 [(4, x), v1, v2, v3] ((4, x) :: st) t g Q := Xp_go (i := .aload_n 0) (len := 1) (by decide +kernel) rfl
theorem x_184_797 : Xp 184 d 797 [v0, v1, v2, (0, x)] st t g Q = Xp 184 d 798 [v0, v1, v2, (0, x)] ((0, x) :: st) t g Q := Xp_go (i := .iload_n 3) (len := 1) (by decide +kernel) rfl
theorem x_184_798 : Xp 184 d 798 ls st t g Q = Xp 184 d 799 ls ((0, 2) :: st) t g Q := xr_const (c := 2) (by decide +kernel) (by decide)
theorem x_184_799 : Xp 184 d 799 ls ((0, b) :: (0, a) :: st) t g Q = Xp 184 d 800 ls ((0, hkW (a + b)) :: st) t g Q := Xp_go (i := .iadd) (len := 1) (by decide +kernel) rfl
theorem x_184_800 : Xp 184 d 800 ls ((0, a) :: (4, p) :: st) t g Q = ((0 ≤ a ∧ a < g (-2) 0) ∧ Xp 184 d 801 ls ((0, g (-1) a) :: st) t g Q) := Xp_chk (i := .iaload) (len := 1) (by decide +kernel) rfl
theorem x_184_801 : Xp 184 d 801 [(4, x), v1, v2, v3] st t g Q = Xp 184 d 802 [(4, x), v1, v2, v3] ((4, x) :: st) t g Q := Xp_go (i := .aload_n 0) (len := 1) (by decide +kernel) rfl
theorem x_184_802 : Xp 184 d 802 [v0, v1, v2, (0, x)] st t g Q = Xp 184 d 803 [v0, v1, v2, (0, x)] ((0, x) :: st) t g Q := Xp_go (i := .iload_n 3) (len := 1) (by decide +kernel) rfl
theorem x_184_803 : Xp 184 d 803 ls st t g Q = Xp 184 d 804 ls ((0, 3) :: st) t g Q := xr_const (c := 3) (by decide +kernel) (by decide)
theorem x_184_804 : Xp 184 d 804 ls ((0, b) :: (0, a) :: st) t g Q = Xp 184 d 805 ls ((0, hkW (a + b)) :: st) t g Q := Xp_go (i := .iadd) (len := 1) (by decide +kernel) rfl
theorem x_184_805 : Xp 184 d 805 ls ((0, a) :: (4, p) :: st) t g Q = ((0 ≤ a ∧ a < g (-2) 0) ∧ Xp 184 d 806 ls ((0, g (-1) a) :: st) t g Q) := Xp_chk (i := .iaload) (len := 1) (by decide +kernel) rfl
theorem x_184_806 : Xp 184 d 806 [(4, x), v1, v2, v3] st t g Q = Xp 184 d 807 [(4, x), v1, v2, v3] ((4, x) :: st) t g Q := Xp_go (i := .aload_n 0) (len := 1) (by decide +kernel) rfl
theorem x_184_807 : Xp 184 d 807 [v0, v1, v2, (0, x)] st t g Q = Xp 184 d 808 [v0, v1, v2, (0, x)] ((0, x) :: st) t g Q := Xp_go (i := .iload_n 3) (len := 1) (by decide +kernel) rfl
theorem x_184_808 : Xp 184 d 808 ls st t g Q = Xp 184 d 809 ls ((0, 4) :: st) t g Q := xr_const (c := 4) (by decide +kernel) (by decide)
theorem x_184_809 : Xp 184 d 809 ls ((0, b) :: (0, a) :: st) t g Q = Xp 184 d 810 ls ((0, hkW (a + b)) :: st) t g Q := Xp_go (i := .iadd) (len := 1) (by decide +kernel) rfl
theorem x_184_810 : Xp 184 d 810 ls ((0, a) :: (4, p) :: st) t g Q = ((0 ≤ a ∧ a < g (-2) 0) ∧ Xp 184 d 811 ls ((0, g (-1) a) :: st) t g Q) := Xp_chk (i := .iaload) (len := 1) (by decide +kernel) rfl
theorem x_184_811 : Xp 184 d 811 [(4, x), v1, v2, v3] st t g Q = Xp 184 d 812 [(4, x), v1, v2, v3] ((4, x) :: st) t g Q := Xp_go (i := .aload_n 0) (len := 1) (by decide +kernel) rfl
theorem x_184_812 : Xp 184 d 812 [v0, v1, v2, (0, x)] st t g Q = Xp 184 d 813 [v0, v1, v2, (0, x)] ((0, x) :: st) t g Q := Xp_go (i := .iload_n 3) (len := 1) (by decide +kernel) rfl
theorem x_184_813 : Xp 184 d 813 ls st t g Q = Xp 184 d 814 ls ((0, 5) :: st) t g Q := xr_const (c := 5) (by decide +kernel) (by decide)
theorem x_184_814 : Xp 184 d 814 ls ((0, b) :: (0, a) :: st) t g Q = Xp 184 d 815 ls ((0, hkW (a + b)) :: st) t g Q := Xp_go (i := .iadd) (len := 1) (by decide +kernel) rfl
theorem x_184_815 : Xp 184 d 815 ls ((0, a) :: (4, p) :: st) t g Q = ((0 ≤ a ∧ a < g (-2) 0) ∧ Xp 184 d 816 ls ((0, g (-1) a) :: st) t g Q) := Xp_chk (i := .iaload) (len := 1) (by decide +kernel) rfl
theorem x_184_816 : Xp 184 (d + 1) 816 ls ((0, a5) :: (0, a4) :: (0, a3) :: (0, a2) :: (0, a1) :: (2, a0) :: st) t g Q = (hkJK a0 = 0 ∧ hkC8 st ∧ Xp 22 d 0 [(2, a0), (0, a1), (0, a2), (0, a3), (0, a4), (0, a5), hkU, hkU] [] t g (fun r t g => Xp 184 (d + 1) 819 ls (hkPush r st) t g Q)) := xr_invV (idx := 88) (y' := 22) (ci := 0) (tg := [2, 0, 0, 0, 0, 0]) (by decide +kernel) (by decide +kernel) (by decide +kernel) (by decide +kernel) rfl rfl rfl
theorem x_184_819 : Xp 184 d 819 [v0, v1, (2, x), v3] st t g Q = Xp 184 d 820 [v0, v1, (2, x), v3] ((2, x) :: st) t g Q := Xp_go (i := .aload_n 2) (len := 1) (by decide +kernel) rfl
theorem x_184_820 : Xp 184 d 820 [(4, x), v1, v2, v3] st t g Q = Xp 184 d 821 [(4, x), v1, v2, v3] ((4, x) :: st) t g Q := Xp_go (i := .aload_n 0) (len := 1) (by decide +kernel) rfl
theorem x_184_821 : Xp 184 d 821 [v0, v1, v2, (0, x)] st t g Q = Xp 184 d 822 [v0, v1, v2, (0, x)] ((0, x) :: st) t g Q := Xp_go (i := .iload_n 3) (len := 1) (by decide +kernel) rfl
theorem x_184_822 : Xp 184 d 822 ls st t g Q = Xp 184 d 823 ls ((0, 1) :: st) t g Q := xr_const (c := 1) (by decide +kernel) (by decide)
theorem x_184_823 : Xp 184 d 823 ls ((0, b) :: (0, a) :: st) t g Q = Xp 184 d 824 ls ((0, hkW (a + b)) :: st) t g Q := Xp_go (i := .iadd) (len := 1) (by decide +kernel) rfl
theorem x_184_824 : Xp 184 d 824 ls ((0, a) :: (4, p) :: st) t g Q = ((0 ≤ a ∧ a < g (-2) 0) ∧ Xp 184 d 825 ls ((0, g (-1) a) :: st) t g Q) := Xp_chk (i := .iaload) (len := 1) (by decide +kernel) rfl
theorem x_184_825 : Xp 184 d 825 [(4, x), v1, v2, v3] st t g Q = Xp 184 d 826 [(4, x), v1, v2, v3] ((4, x) :: st) t g Q := Xp_go (i := .aload_n 0) (len := 1) (by decide +kernel) rfl
theorem x_184_826 : Xp 184 d 826 [v0, v1, v2, (0, x)] st t g Q = Xp 184 d 827 [v0, v1, v2, (0, x)] ((0, x) :: st) t g Q := Xp_go (i := .iload_n 3) (len := 1) (by decide +kernel) rfl
theorem x_184_827 : Xp 184 d 827 ls st t g Q = Xp 184 d 828 ls ((0, 2) :: st) t g Q := xr_const (c := 2) (by decide +kernel) (by decide)
theorem x_184_828 : Xp 184 d 828 ls ((0, b) :: (0, a) :: st) t g Q = Xp 184 d 829 ls ((0, hkW (a + b)) :: st) t g Q := Xp_go (i := .iadd) (len := 1) (by decide +kernel) rfl
theorem x_184_829 : Xp 184 d 829 ls ((0, a) :: (4, p) :: st) t g Q = ((0 ≤ a ∧ a < g (-2) 0) ∧ Xp 184 d 830 ls ((0, g (-1) a) :: st) t g Q) := Xp_chk (i := .iaload) (len := 1) (by decide +kernel) rfl
theorem x_184_830 : Xp 184 d 830 [(4, x), v1, v2, v3] st t g Q = Xp 184 d 831 [(4, x), v1, v2, v3] ((4, x) :: st) t g Q := Xp_go (i := .aload_n 0) (len := 1) (by decide +kernel) rfl
theorem x_184_831 : Xp 184 d 831 [v0, v1, v2, (0, x)] st t g Q = Xp 184 d 832 [v0, v1, v2, (0, x)] ((0, x) :: st) t g Q := Xp_go (i := .iload_n 3) (len := 1) (by decide +kernel) rfl
theorem x_184_832 : Xp 184 d 832 ls st t g Q = Xp 184 d 833 ls ((0, 3) :: st) t g Q := xr_const (c := 3) (by decide +kernel) (by decide)
theorem x_184_833 : Xp 184 d 833 ls ((0, b) :: (0, a) :: st) t g Q = Xp 184 d 834 ls ((0, hkW (a + b)) :: st) t g Q := Xp_go (i := .iadd) (len := 1) (by decide +kernel) rfl
theorem x_184_834 : Xp 184 d 834 ls ((0, a) :: (4, p) :: st) t g Q = ((0 ≤ a ∧ a < g (-2) 0) ∧ Xp 184 d 835 ls ((0, g (-1) a) :: st) t g Q) := Xp_chk (i := .iaload) (len := 1) (by decide +kernel) rfl
theorem x_184_835 : Xp 184 d 835 [(4, x), v1, v2, v3] st t g Q = Xp 184 d 836 [(4, x), v1, v2, v3] ((4, x) :: st) t g Q := Xp_go (i := .aload_n 0) (len := 1) (by decide +kernel) rfl
theorem x_184_836 : Xp 184 d 836 [v0, v1, v2, (0, x)] st t g Q = Xp 184 d 837 [v0, v1, v2, (0, x)] ((0, x) :: st) t g Q := Xp_go (i := .iload_n 3) (len := 1) (by decide +kernel) rfl
theorem x_184_837 : Xp 184 d 837 ls st t g Q = Xp 184 d 838 ls ((0, 4) :: st) t g Q := xr_const (c := 4) (by decide +kernel) (by decide)
theorem x_184_838 : Xp 184 d 838 ls ((0, b) :: (0, a) :: st) t g Q = Xp 184 d 839 ls ((0, hkW (a + b)) :: st) t g Q := Xp_go (i := .iadd) (len := 1) (by decide +kernel) rfl
theorem x_184_839 : Xp 184 d 839 ls ((0, a) :: (4, p) :: st) t g Q = ((0 ≤ a ∧ a < g (-2) 0) ∧ Xp 184 d 840 ls ((0, g (-1) a) :: st) t g Q) := Xp_chk (i := .iaload) (len := 1) (by decide +kernel) rfl
theorem x_184_840 : Xp 184 d 840 [(4, x), v1, v2, v3] st t g Q = Xp 184 d 841 [(4, x), v1, v2, v3] ((4, x) :: st) t g Q := Xp_go (i := .aload_n 0) (len := 1) (by decide +kernel) rfl
theorem x_184_841 : Xp 184 d 841 [v0, v1, v2, (0, x)] st t g Q = Xp 184 d 842 [v0, v1, v2, (0, x)] ((0, x) :: st) t g Q := Xp_go (i := .iload_n 3) (len := 1) (by decide +kernel) rfl
theorem x_184_842 : Xp 184 d 842 ls st t g Q = Xp 184 d 843 ls ((0, 5) :: st) t g Q := xr_const (c := 5) (by decide +kernel) (by decide)
theorem x_184_843 : Xp 184 d 843 ls ((0, b) :: (0, a) :: st) t g Q = Xp 184 d 844 ls ((0, hkW (a + b)) :: st) t g Q := Xp_go (i := .iadd) (len := 1) (by decide +kernel) rfl
theorem x_184_844 : Xp 184 d 844 ls ((0, a) :: (4, p) :: st) t g Q = ((0 ≤ a ∧ a < g (-2) 0) ∧ Xp 184 d 845 ls ((0, g (-1) a) :: st) t g Q) := Xp_chk (i := .iaload) (len := 1) (by decide +kernel) rfl
theorem x_184_845 : Xp 184 (d + 1) 845 ls ((0, a5) :: (0, a4) :: (0, a3) :: (0, a2) :: (0, a1) :: (2, a0) :: st) t g Q = (hkJK a0 = 10 ∧ hkC8 st ∧ Xp 161 d 0 [(2, a0), (0, a1), (0, a2), (0, a3), (0, a4), (0, a5), hkU, hkU, hkU] [] t g (fun r t g => Xp 184 (d + 1) 848 ls (hkPush r st) t g Q)) := xr_invV (idx := 92) (y' := 161) (ci := 10) (tg := [2, 0, 0, 0, 0, 0]) (by decide +kernel) (by decide +kernel) (by decide +kernel) (by decide +kernel) rfl rfl rfl
theorem x_184_848 : Xp 184 d 848 ls ((0, b) :: (0, a) :: st) t g Q = ((a = b → Xp 184 d 1190 ls st t g Q) ∧ (¬ (a = b) → Xp 184 d 851 ls st t g Q)) := xr_if2 (cd := .eq) (off := 342) (by decide +kernel) (by decide)
theorem x_184_851 : Xp 184 d 851 ls st t g Q = Xp 184 d 852 ls ((0, 0) :: st) t g Q := xr_const (c := 0) (by decide +kernel) (by decide)
theorem x_184_852 : Xp 184 d 852 ls [(0, x)] t g Q = ((x = 0 ∨ x = 1) ∧ Q (some (0, x)) t g) := xr_retZ (by decide +kernel) (by decide +kernel)
theorem x_184_853 : Xp 184 d 853 [v0, (2, x), v2, v3] st t g Q = Xp 184 d 854 [v0, (2, x), v2, v3] ((2, x) :: st) t g Q := Xp_go (i := .aload_n 1) (len := 1) (by decide +kernel) rfl
theorem x_184_854 : Xp 184 d 854 [(4, x), v1, v2, v3] st t g Q = Xp 184 d 855 [(4, x), v1, v2, v3] ((4, x) :: st) t g Q := Xp_go (i := .aload_n 0) (len := 1) (by decide +kernel) rfl
theorem x_184_855 : Xp 184 d 855 [v0, v1, v2, (0, x)] st t g Q = Xp 184 d 856 [v0, v1, v2, (0, x)] ((0, x) :: st) t g Q := Xp_go (i := .iload_n 3) (len := 1) (by decide +kernel) rfl
theorem x_184_856 : Xp 184 d 856 ls st t g Q = Xp 184 d 857 ls ((0, 1) :: st) t g Q := xr_const (c := 1) (by decide +kernel) (by decide)
theorem x_184_857 : Xp 184 d 857 ls ((0, b) :: (0, a) :: st) t g Q = Xp 184 d 858 ls ((0, hkW (a + b)) :: st) t g Q := Xp_go (i := .iadd) (len := 1) (by decide +kernel) rfl
theorem x_184_858 : Xp 184 d 858 ls ((0, a) :: (4, p) :: st) t g Q = ((0 ≤ a ∧ a < g (-2) 0) ∧ Xp 184 d 859 ls ((0, g (-1) a) :: st) t g Q) := Xp_chk (i := .iaload) (len := 1) (by decide +kernel) rfl
theorem x_184_859 : Xp 184 d 859 [(4, x), v1, v2, v3] st t g Q = Xp 184 d 860 [(4, x), v1, v2, v3] ((4, x) :: st) t g Q := Xp_go (i := .aload_n 0) (len := 1) (by decide +kernel) rfl
theorem x_184_860 : Xp 184 d 860 [v0, v1, v2, (0, x)] st t g Q = Xp 184 d 861 [v0, v1, v2, (0, x)] ((0, x) :: st) t g Q := Xp_go (i := .iload_n 3) (len := 1) (by decide +kernel) rfl
theorem x_184_861 : Xp 184 d 861 ls st t g Q = Xp 184 d 862 ls ((0, 2) :: st) t g Q := xr_const (c := 2) (by decide +kernel) (by decide)
theorem x_184_862 : Xp 184 d 862 ls ((0, b) :: (0, a) :: st) t g Q = Xp 184 d 863 ls ((0, hkW (a + b)) :: st) t g Q := Xp_go (i := .iadd) (len := 1) (by decide +kernel) rfl
theorem x_184_863 : Xp 184 d 863 ls ((0, a) :: (4, p) :: st) t g Q = ((0 ≤ a ∧ a < g (-2) 0) ∧ Xp 184 d 864 ls ((0, g (-1) a) :: st) t g Q) := Xp_chk (i := .iaload) (len := 1) (by decide +kernel) rfl
theorem x_184_864 : Xp 184 d 864 [(4, x), v1, v2, v3] st t g Q = Xp 184 d 865 [(4, x), v1, v2, v3] ((4, x) :: st) t g Q := Xp_go (i := .aload_n 0) (len := 1) (by decide +kernel) rfl
theorem x_184_865 : Xp 184 d 865 [v0, v1, v2, (0, x)] st t g Q = Xp 184 d 866 [v0, v1, v2, (0, x)] ((0, x) :: st) t g Q := Xp_go (i := .iload_n 3) (len := 1) (by decide +kernel) rfl
theorem x_184_866 : Xp 184 d 866 ls st t g Q = Xp 184 d 867 ls ((0, 3) :: st) t g Q := xr_const (c := 3) (by decide +kernel) (by decide)
theorem x_184_867 : Xp 184 d 867 ls ((0, b) :: (0, a) :: st) t g Q = Xp 184 d 868 ls ((0, hkW (a + b)) :: st) t g Q := Xp_go (i := .iadd) (len := 1) (by decide +kernel) rfl
theorem x_184_868 : Xp 184 d 868 ls ((0, a) :: (4, p) :: st) t g Q = ((0 ≤ a ∧ a < g (-2) 0) ∧ Xp 184 d 869 ls ((0, g (-1) a) :: st) t g Q) := Xp_chk (i := .iaload) (len := 1) (by decide +kernel) rfl
theorem x_184_869 : Xp 184 (d + 1) 869 ls ((0, a3) :: (0, a2) :: (0, a1) :: (2, a0) :: st) t g Q = (hkJK a0 = 0 ∧ hkC8 st ∧ Xp 24 d 0 [(2, a0), (0, a1), (0, a2), (0, a3), hkU, hkU] [] t g (fun r t g => Xp 184 (d + 1) 872 ls (hkPush r st) t g Q)) := xr_invV (idx := 93) (y' := 24) (ci := 0) (tg := [2, 0, 0, 0]) (by decide +kernel) (by decide +kernel) (by decide +kernel) (by decide +kernel) rfl rfl rfl
theorem x_184_872 : Xp 184 d 872 [v0, v1, (2, x), v3] st t g Q = Xp 184 d 873 [v0, v1, (2, x), v3] ((2, x) :: st) t g Q := Xp_go (i := .aload_n 2) (len := 1) (by decide +kernel) rfl
theorem x_184_873 : Xp 184 d 873 [(4, x), v1, v2, v3] st t g Q = Xp 184 d 874 [(4, x), v1, v2, v3] ((4, x) :: st) t g Q := Xp_go (i := .aload_n 0) (len := 1) (by decide +kernel) rfl
theorem x_184_874 : Xp 184 d 874 [v0, v1, v2, (0, x)] st t g Q = Xp 184 d 875 [v0, v1, v2, (0, x)] ((0, x) :: st) t g Q := Xp_go (i := .iload_n 3) (len := 1) (by decide +kernel) rfl
theorem x_184_875 : Xp 184 d 875 ls st t g Q = Xp 184 d 876 ls ((0, 1) :: st) t g Q := xr_const (c := 1) (by decide +kernel) (by decide)
theorem x_184_876 : Xp 184 d 876 ls ((0, b) :: (0, a) :: st) t g Q = Xp 184 d 877 ls ((0, hkW (a + b)) :: st) t g Q := Xp_go (i := .iadd) (len := 1) (by decide +kernel) rfl
theorem x_184_877 : Xp 184 d 877 ls ((0, a) :: (4, p) :: st) t g Q = ((0 ≤ a ∧ a < g (-2) 0) ∧ Xp 184 d 878 ls ((0, g (-1) a) :: st) t g Q) := Xp_chk (i := .iaload) (len := 1) (by decide +kernel) rfl
theorem x_184_878 : Xp 184 d 878 [(4, x), v1, v2, v3] st t g Q = Xp 184 d 879 [(4, x), v1, v2, v3] ((4, x) :: st) t g Q := Xp_go (i := .aload_n 0) (len := 1) (by decide +kernel) rfl
theorem x_184_879 : Xp 184 d 879 [v0, v1, v2, (0, x)] st t g Q = Xp 184 d 880 [v0, v1, v2, (0, x)] ((0, x) :: st) t g Q := Xp_go (i := .iload_n 3) (len := 1) (by decide +kernel) rfl
theorem x_184_880 : Xp 184 d 880 ls st t g Q = Xp 184 d 881 ls ((0, 2) :: st) t g Q := xr_const (c := 2) (by decide +kernel) (by decide)
theorem x_184_881 : Xp 184 d 881 ls ((0, b) :: (0, a) :: st) t g Q = Xp 184 d 882 ls ((0, hkW (a + b)) :: st) t g Q := Xp_go (i := .iadd) (len := 1) (by decide +kernel) rfl
theorem x_184_882 : Xp 184 d 882 ls ((0, a) :: (4, p) :: st) t g Q = ((0 ≤ a ∧ a < g (-2) 0) ∧ Xp 184 d 883 ls ((0, g (-1) a) :: st) t g Q) := Xp_chk (i := .iaload) (len := 1) (by decide +kernel) rfl
theorem x_184_883 : Xp 184 d 883 [(4, x), v1, v2, v3] st t g Q = Xp 184 d 884 [(4, x), v1, v2, v3] ((4, x) :: st) t g Q := Xp_go (i := .aload_n 0) (len := 1) (by decide +kernel) rfl
theorem x_184_884 : Xp 184 d 884 [v0, v1, v2, (0, x)] st t g Q = Xp 184 d 885 [v0, v1, v2, (0, x)] ((0, x) :: st) t g Q := Xp_go (i := .iload_n 3) (len := 1) (by decide +kernel) rfl
theorem x_184_885 : Xp 184 d 885 ls st t g Q = Xp 184 d 886 ls ((0, 3) :: st) t g Q := xr_const (c := 3) (by decide +kernel) (by decide)
theorem x_184_886 : Xp 184 d 886 ls ((0, b) :: (0, a) :: st) t g Q = Xp 184 d 887 ls ((0, hkW (a + b)) :: st) t g Q := Xp_go (i := .iadd) (len := 1) (by decide +kernel) rfl
theorem x_184_887 : Xp 184 d 887 ls ((0, a) :: (4, p) :: st) t g Q = ((0 ≤ a ∧ a < g (-2) 0) ∧ Xp 184 d 888 ls ((0, g (-1) a) :: st) t g Q) := Xp_chk (i := .iaload) (len := 1) (by decide +kernel) rfl
theorem x_184_888 : Xp 184 (d + 1) 888 ls ((0, a3) :: (0, a2) :: (0, a1) :: (2, a0) :: st) t g Q = (hkJK a0 = 10 ∧ hkC8 st ∧ Xp 163 d 0 [(2, a0), (0, a1), (0, a2), (0, a3), hkU] [] t g (fun r t g => Xp 184 (d + 1) 891 ls (hkPush r st) t g Q)) := xr_invV (idx := 96) (y' := 163) (ci := 10) (tg := [2, 0, 0, 0]) (by decide +kernel) (by decide +kernel) (by decide +kernel) (by decide +kernel) rfl rfl rfl
theorem x_184_891 : Xp 184 d 891 ls ((0, b) :: (0, a) :: st) t g Q = ((a = b → Xp 184 d 1190 ls st t g Q) ∧ (¬ (a = b) → Xp 184 d 894 ls st t g Q)) := xr_if2 (cd := .eq) (off := 299) (by decide +kernel) (by decide)
theorem x_184_894 : Xp 184 d 894 ls st t g Q = Xp 184 d 895 ls ((0, 0) :: st) t g Q := xr_const (c := 0) (by decide +kernel) (by decide)
theorem x_184_895 : Xp 184 d 895 ls [(0, x)] t g Q = ((x = 0 ∨ x = 1) ∧ Q (some (0, x)) t g) := xr_retZ (by decide +kernel) (by decide +kernel)
theorem x_184_896 : Xp 184 d 896 [v0, (2, x), v2, v3] st t g Q = Xp 184 d 897 [v0, (2, x), v2, v3] ((2, x) :: st) t g Q := Xp_go (i := .aload_n 1) (len := 1) (by decide +kernel) rfl
theorem x_184_897 : Xp 184 d 897 [(4, x), v1, v2, v3] st t g Q = Xp 184 d 898 [(4, x), v1, v2, v3] ((4, x) :: st) t g Q := Xp_go (i := .aload_n 0) (len := 1) (by decide +kernel) rfl
theorem x_184_898 : Xp 184 d 898 [v0, v1, v2, (0, x)] st t g Q = Xp 184 d 899 [v0, v1, v2, (0, x)] ((0, x) :: st) t g Q := Xp_go (i := .iload_n 3) (len := 1) (by decide +kernel) rfl
theorem x_184_899 : Xp 184 d 899 ls st t g Q = Xp 184 d 900 ls ((0, 1) :: st) t g Q := xr_const (c := 1) (by decide +kernel) (by decide)
theorem x_184_900 : Xp 184 d 900 ls ((0, b) :: (0, a) :: st) t g Q = Xp 184 d 901 ls ((0, hkW (a + b)) :: st) t g Q := Xp_go (i := .iadd) (len := 1) (by decide +kernel) rfl
theorem x_184_901 : Xp 184 d 901 ls ((0, a) :: (4, p) :: st) t g Q = ((0 ≤ a ∧ a < g (-2) 0) ∧ Xp 184 d 902 ls ((0, g (-1) a) :: st) t g Q) := Xp_chk (i := .iaload) (len := 1) (by decide +kernel) rfl
theorem x_184_902 : Xp 184 d 902 [(4, x), v1, v2, v3] st t g Q = Xp 184 d 903 [(4, x), v1, v2, v3] ((4, x) :: st) t g Q := Xp_go (i := .aload_n 0) (len := 1) (by decide +kernel) rfl
theorem x_184_903 : Xp 184 d 903 [v0, v1, v2, (0, x)] st t g Q = Xp 184 d 904 [v0, v1, v2, (0, x)] ((0, x) :: st) t g Q := Xp_go (i := .iload_n 3) (len := 1) (by decide +kernel) rfl
theorem x_184_904 : Xp 184 d 904 ls st t g Q = Xp 184 d 905 ls ((0, 2) :: st) t g Q := xr_const (c := 2) (by decide +kernel) (by decide)
theorem x_184_905 : Xp 184 d 905 ls ((0, b) :: (0, a) :: st) t g Q = Xp 184 d 906 ls ((0, hkW (a + b)) :: st) t g Q := Xp_go (i := .iadd) (len := 1) (by decide +kernel) rfl
theorem x_184_906 : Xp 184 d 906 ls ((0, a) :: (4, p) :: st) t g Q = ((0 ≤ a ∧ a < g (-2) 0) ∧ Xp 184 d 907 ls ((0, g (-1) a) :: st) t g Q) := Xp_chk (i := .iaload) (len := 1) (by decide +kernel) rfl
theorem x_184_907 : Xp 184 d 907 [(4, x), v1, v2, v3] st t g Q = Xp 184 d 908 [(4, x), v1, v2, v3] ((4, x) :: st) t g Q := Xp_go (i := .aload_n 0) (len := 1) (by decide +kernel) rfl
theorem x_184_908 : Xp 184 d 908 [v0, v1, v2, (0, x)] st t g Q = Xp 184 d 909 [v0, v1, v2, (0, x)] ((0, x) :: st) t g Q := Xp_go (i := .iload_n 3) (len := 1) (by decide +kernel) rfl
theorem x_184_909 : Xp 184 d 909 ls st t g Q = Xp 184 d 910 ls ((0, 3) :: st) t g Q := xr_const (c := 3) (by decide +kernel) (by decide)
theorem x_184_910 : Xp 184 d 910 ls ((0, b) :: (0, a) :: st) t g Q = Xp 184 d 911 ls ((0, hkW (a + b)) :: st) t g Q := Xp_go (i := .iadd) (len := 1) (by decide +kernel) rfl
theorem x_184_911 : Xp 184 d 911 ls ((0, a) :: (4, p) :: st) t g Q = ((0 ≤ a ∧ a < g (-2) 0) ∧ Xp 184 d 912 ls ((0, g (-1) a) :: st) t g Q) := Xp_chk (i := .iaload) (len := 1) (by decide +kernel) rfl
theorem x_184_912 : Xp 184 (d + 1) 912 ls ((0, a3) :: (0, a2) :: (0, a1) :: (2, a0) :: st) t g Q = (hkJK a0 = 0 ∧ hkC8 st ∧ Xp 25 d 0 [(2, a0), (0, a1), (0, a2), (0, a3), hkU, hkU] [] t g (fun r t g => Xp 184 (d + 1) 915 ls (hkPush r st) t g Q)) := xr_invV (idx := 97) (y' := 25) (ci := 0) (tg := [2, 0, 0, 0]) (by decide +kernel) (by decide +kernel) (by decide +kernel) (by decide +kernel) rfl rfl rfl
theorem x_184_915 : Xp 184 d 915 [v0, v1, (2, x), v3] st t g Q = Xp 184 d 916 [v0, v1, (2, x), v3] ((2, x) :: st) t g Q := Xp_go (i := .aload_n 2) (len := 1) (by decide +kernel) rfl
theorem x_184_916 : Xp 184 d 916 [(4, x), v1, v2, v3] st t g Q = Xp 184 d 917 [(4, x), v1, v2, v3] ((4, x) :: st) t g Q := Xp_go (i := .aload_n 0) (len := 1) (by decide +kernel) rfl
theorem x_184_917 : Xp 184 d 917 [v0, v1, v2, (0, x)] st t g Q = Xp 184 d 918 [v0, v1, v2, (0, x)] ((0, x) :: st) t g Q := Xp_go (i := .iload_n 3) (len := 1) (by decide +kernel) rfl
theorem x_184_918 : Xp 184 d 918 ls st t g Q = Xp 184 d 919 ls ((0, 1) :: st) t g Q := xr_const (c := 1) (by decide +kernel) (by decide)
theorem x_184_919 : Xp 184 d 919 ls ((0, b) :: (0, a) :: st) t g Q = Xp 184 d 920 ls ((0, hkW (a + b)) :: st) t g Q := Xp_go (i := .iadd) (len := 1) (by decide +kernel) rfl
theorem x_184_920 : Xp 184 d 920 ls ((0, a) :: (4, p) :: st) t g Q = ((0 ≤ a ∧ a < g (-2) 0) ∧ Xp 184 d 921 ls ((0, g (-1) a) :: st) t g Q) := Xp_chk (i := .iaload) (len := 1) (by decide +kernel) rfl
theorem x_184_921 : Xp 184 d 921 [(4, x), v1, v2, v3] st t g Q = Xp 184 d 922 [(4, x), v1, v2, v3] ((4, x) :: st) t g Q := Xp_go (i := .aload_n 0) (len := 1) (by decide +kernel) rfl
theorem x_184_922 : Xp 184 d 922 [v0, v1, v2, (0, x)] st t g Q = Xp 184 d 923 [v0, v1, v2, (0, x)] ((0, x) :: st) t g Q := Xp_go (i := .iload_n 3) (len := 1) (by decide +kernel) rfl
theorem x_184_923 : Xp 184 d 923 ls st t g Q = Xp 184 d 924 ls ((0, 2) :: st) t g Q := xr_const (c := 2) (by decide +kernel) (by decide)
theorem x_184_924 : Xp 184 d 924 ls ((0, b) :: (0, a) :: st) t g Q = Xp 184 d 925 ls ((0, hkW (a + b)) :: st) t g Q := Xp_go (i := .iadd) (len := 1) (by decide +kernel) rfl
theorem x_184_925 : Xp 184 d 925 ls ((0, a) :: (4, p) :: st) t g Q = ((0 ≤ a ∧ a < g (-2) 0) ∧ Xp 184 d 926 ls ((0, g (-1) a) :: st) t g Q) := Xp_chk (i := .iaload) (len := 1) (by decide +kernel) rfl
theorem x_184_926 : Xp 184 d 926 [(4, x), v1, v2, v3] st t g Q = Xp 184 d 927 [(4, x), v1, v2, v3] ((4, x) :: st) t g Q := Xp_go (i := .aload_n 0) (len := 1) (by decide +kernel) rfl
theorem x_184_927 : Xp 184 d 927 [v0, v1, v2, (0, x)] st t g Q = Xp 184 d 928 [v0, v1, v2, (0, x)] ((0, x) :: st) t g Q := Xp_go (i := .iload_n 3) (len := 1) (by decide +kernel) rfl
theorem x_184_928 : Xp 184 d 928 ls st t g Q = Xp 184 d 929 ls ((0, 3) :: st) t g Q := xr_const (c := 3) (by decide +kernel) (by decide)
theorem x_184_929 : Xp 184 d 929 ls ((0, b) :: (0, a) :: st) t g Q = Xp 184 d 930 ls ((0, hkW (a + b)) :: st) t g Q := Xp_go (i := .iadd) (len := 1) (by decide +kernel) rfl
theorem x_184_930 : Xp 184 d 930 ls ((0, a) :: (4, p) :: st) t g Q = ((0 ≤ a ∧ a < g (-2) 0) ∧ Xp 184 d 931 ls ((0, g (-1) a) :: st) t g Q) := Xp_chk (i := .iaload) (len := 1) (by decide +kernel) rfl
theorem x_184_931 : Xp 184 (d + 1) 931 ls ((0, a3) :: (0, a2) :: (0, a1) :: (2, a0) :: st) t g Q = (hkJK a0 = 10 ∧ hkC8 st ∧ Xp 164 d 0 [(2, a0), (0, a1), (0, a2), (0, a3), hkU] [] t g (fun r t g => Xp 184 (d + 1) 934 ls (hkPush r st) t g Q)) := xr_invV (idx := 100) (y' := 164) (ci := 10) (tg := [2, 0, 0, 0]) (by decide +kernel) (by decide +kernel) (by decide +kernel) (by decide +kernel) rfl rfl rfl
theorem x_184_934 : Xp 184 d 934 ls ((0, b) :: (0, a) :: st) t g Q = ((a = b → Xp 184 d 1190 ls st t g Q) ∧ (¬ (a = b) → Xp 184 d 937 ls st t g Q)) := xr_if2 (cd := .eq) (off := 256) (by decide +kernel) (by decide)
theorem x_184_937 : Xp 184 d 937 ls st t g Q = Xp 184 d 938 ls ((0, 0) :: st) t g Q := xr_const (c := 0) (by decide +kernel) (by decide)
theorem x_184_938 : Xp 184 d 938 ls [(0, x)] t g Q = ((x = 0 ∨ x = 1) ∧ Q (some (0, x)) t g) := xr_retZ (by decide +kernel) (by decide +kernel)
theorem x_184_939 : Xp 184 d 939 [v0, (2, x), v2, v3] st t g Q = Xp 184 d 940 [v0, (2, x), v2, v3] ((2, x) :: st) t g Q := Xp_go (i := .aload_n 1) (len := 1) (by decide +kernel) rfl
theorem x_184_940 : Xp 184 (d + 1) 940 ls ((2, a0) :: st) t g Q = (hkJK a0 = 0 ∧ hkC8 st ∧ Xp 26 d 0 [(2, a0)] [] t g (fun r t g => Xp 184 (d + 1) 943 ls (hkPush r st) t g Q)) := xr_invV (idx := 101) (y' := 26) (ci := 0) (tg := [2]) (by decide +kernel) (by decide +kernel) (by decide +kernel) (by decide +kernel) rfl rfl rfl
theorem x_184_943 : Xp 184 d 943 [v0, v1, (2, x), v3] st t g Q = Xp 184 d 944 [v0, v1, (2, x), v3] ((2, x) :: st) t g Q := Xp_go (i := .aload_n 2) (len := 1) (by decide +kernel) rfl
theorem x_184_944 : Xp 184 (d + 1) 944 ls ((2, a0) :: st) t g Q = (hkJK a0 = 10 ∧ hkC8 st ∧ Xp 165 d 0 [(2, a0), hkU] [] t g (fun r t g => Xp 184 (d + 1) 947 ls (hkPush r st) t g Q)) := xr_invV (idx := 104) (y' := 165) (ci := 10) (tg := [2]) (by decide +kernel) (by decide +kernel) (by decide +kernel) (by decide +kernel) rfl rfl rfl
theorem x_184_947 : Xp 184 d 947 ls ((0, b) :: (0, a) :: st) t g Q = ((a = b → Xp 184 d 1190 ls st t g Q) ∧ (¬ (a = b) → Xp 184 d 950 ls st t g Q)) := xr_if2 (cd := .eq) (off := 243) (by decide +kernel) (by decide)
theorem x_184_950 : Xp 184 d 950 ls st t g Q = Xp 184 d 951 ls ((0, 0) :: st) t g Q := xr_const (c := 0) (by decide +kernel) (by decide)
theorem x_184_951 : Xp 184 d 951 ls [(0, x)] t g Q = ((x = 0 ∨ x = 1) ∧ Q (some (0, x)) t g) := xr_retZ (by decide +kernel) (by decide +kernel)
theorem x_184_952 : Xp 184 d 952 [v0, (2, x), v2, v3] st t g Q = Xp 184 d 953 [v0, (2, x), v2, v3] ((2, x) :: st) t g Q := Xp_go (i := .aload_n 1) (len := 1) (by decide +kernel) rfl
theorem x_184_953 : Xp 184 (d + 1) 953 ls ((2, a0) :: st) t g Q = (hkJK a0 = 0 ∧ hkC8 st ∧ Xp 27 d 0 [(2, a0)] [] t g (fun r t g => Xp 184 (d + 1) 956 ls (hkPush r st) t g Q)) := xr_invV (idx := 105) (y' := 27) (ci := 0) (tg := [2]) (by decide +kernel) (by decide +kernel) (by decide +kernel) (by decide +kernel) rfl rfl rfl
theorem x_184_956 : Xp 184 d 956 [v0, v1, (2, x), v3] st t g Q = Xp 184 d 957 [v0, v1, (2, x), v3] ((2, x) :: st) t g Q := Xp_go (i := .aload_n 2) (len := 1) (by decide +kernel) rfl
theorem x_184_957 : Xp 184 (d + 1) 957 ls ((2, a0) :: st) t g Q = (hkJK a0 = 10 ∧ hkC8 st ∧ Xp 166 d 0 [(2, a0), hkU] [] t g (fun r t g => Xp 184 (d + 1) 960 ls (hkPush r st) t g Q)) := xr_invV (idx := 108) (y' := 166) (ci := 10) (tg := [2]) (by decide +kernel) (by decide +kernel) (by decide +kernel) (by decide +kernel) rfl rfl rfl
theorem x_184_960 : Xp 184 d 960 ls ((0, b) :: (0, a) :: st) t g Q = ((a = b → Xp 184 d 1190 ls st t g Q) ∧ (¬ (a = b) → Xp 184 d 963 ls st t g Q)) := xr_if2 (cd := .eq) (off := 230) (by decide +kernel) (by decide)
theorem x_184_963 : Xp 184 d 963 ls st t g Q = Xp 184 d 964 ls ((0, 0) :: st) t g Q := xr_const (c := 0) (by decide +kernel) (by decide)
theorem x_184_964 : Xp 184 d 964 ls [(0, x)] t g Q = ((x = 0 ∨ x = 1) ∧ Q (some (0, x)) t g) := xr_retZ (by decide +kernel) (by decide +kernel)
theorem x_184_965 : Xp 184 d 965 [v0, (2, x), v2, v3] st t g Q = Xp 184 d 966 [v0, (2, x), v2, v3] ((2, x) :: st) t g Q := Xp_go (i := .aload_n 1) (len := 1) (by decide +kernel) rfl
theorem x_184_966 : Xp 184 d 966 [(4, x), v1, v2, v3] st t g Q = Xp 184 d 967 [(4, x), v1, v2, v3] ((4, x) :: st) t g Q := Xp_go (i := .aload_n 0) (len := 1) (by decide +kernel) rfl
theorem x_184_967 : Xp 184 d 967 [v0, v1, v2, (0, x)] st t g Q = Xp 184 d 968 [v0, v1, v2, (0, x)] ((0, x) :: st) t g Q := Xp_go (i := .iload_n 3) (len := 1) (by decide +kernel) rfl
theorem x_184_968 : Xp 184 d 968 ls st t g Q = Xp 184 d 969 ls ((0, 1) :: st) t g Q := xr_const (c := 1) (by decide +kernel) (by decide)
theorem x_184_969 : Xp 184 d 969 ls ((0, b) :: (0, a) :: st) t g Q = Xp 184 d 970 ls ((0, hkW (a + b)) :: st) t g Q := Xp_go (i := .iadd) (len := 1) (by decide +kernel) rfl
theorem x_184_970 : Xp 184 d 970 ls ((0, a) :: (4, p) :: st) t g Q = ((0 ≤ a ∧ a < g (-2) 0) ∧ Xp 184 d 971 ls ((0, g (-1) a) :: st) t g Q) := Xp_chk (i := .iaload) (len := 1) (by decide +kernel) rfl
theorem x_184_971 : Xp 184 d 971 [(4, x), v1, v2, v3] st t g Q = Xp 184 d 972 [(4, x), v1, v2, v3] ((4, x) :: st) t g Q := Xp_go (i := .aload_n 0) (len := 1) (by decide +kernel) rfl
theorem x_184_972 : Xp 184 d 972 [v0, v1, v2, (0, x)] st t g Q = Xp 184 d 973 [v0, v1, v2, (0, x)] ((0, x) :: st) t g Q := Xp_go (i := .iload_n 3) (len := 1) (by decide +kernel) rfl
theorem x_184_973 : Xp 184 d 973 ls st t g Q = Xp 184 d 974 ls ((0, 2) :: st) t g Q := xr_const (c := 2) (by decide +kernel) (by decide)
theorem x_184_974 : Xp 184 d 974 ls ((0, b) :: (0, a) :: st) t g Q = Xp 184 d 975 ls ((0, hkW (a + b)) :: st) t g Q := Xp_go (i := .iadd) (len := 1) (by decide +kernel) rfl
theorem x_184_975 : Xp 184 d 975 ls ((0, a) :: (4, p) :: st) t g Q = ((0 ≤ a ∧ a < g (-2) 0) ∧ Xp 184 d 976 ls ((0, g (-1) a) :: st) t g Q) := Xp_chk (i := .iaload) (len := 1) (by decide +kernel) rfl
theorem x_184_976 : Xp 184 d 976 [(4, x), v1, v2, v3] st t g Q = Xp 184 d 977 [(4, x), v1, v2, v3] ((4, x) :: st) t g Q := Xp_go (i := .aload_n 0) (len := 1) (by decide +kernel) rfl
theorem x_184_977 : Xp 184 d 977 [v0, v1, v2, (0, x)] st t g Q = Xp 184 d 978 [v0, v1, v2, (0, x)] ((0, x) :: st) t g Q := Xp_go (i := .iload_n 3) (len := 1) (by decide +kernel) rfl
theorem x_184_978 : Xp 184 d 978 ls st t g Q = Xp 184 d 979 ls ((0, 3) :: st) t g Q := xr_const (c := 3) (by decide +kernel) (by decide)
theorem x_184_979 : Xp 184 d 979 ls ((0, b) :: (0, a) :: st) t g Q = Xp 184 d 980 ls ((0, hkW (a + b)) :: st) t g Q := Xp_go (i := .iadd) (len := 1) (by decide +kernel) rfl
theorem x_184_980 : Xp 184 d 980 ls ((0, a) :: (4, p) :: st) t g Q = ((0 ≤ a ∧ a < g (-2) 0) ∧ Xp 184 d 981 ls ((0, g (-1) a) :: st) t g Q) := Xp_chk (i := .iaload) (len := 1) (by decide +kernel) rfl
theorem x_184_981 : Xp 184 d 981 [(4, x), v1, v2, v3] st t g Q = Xp 184 d 982 [(4, x), v1, v2, v3] ((4, x) :: st) t g Q := Xp_go (i := .aload_n 0) (len := 1) (by decide +kernel) rfl
theorem x_184_982 : Xp 184 d 982 [v0, v1, v2, (0, x)] st t g Q = Xp 184 d 983 [v0, v1, v2, (0, x)] ((0, x) :: st) t g Q := Xp_go (i := .iload_n 3) (len := 1) (by decide +kernel) rfl
theorem x_184_983 : Xp 184 d 983 ls st t g Q = Xp 184 d 984 ls ((0, 4) :: st) t g Q := xr_const (c := 4) (by decide +kernel) (by decide)
theorem x_184_984 : Xp 184 d 984 ls ((0, b) :: (0, a) :: st) t g Q = Xp 184 d 985 ls ((0, hkW (a + b)) :: st) t g Q := Xp_go (i := .iadd) (len := 1) (by decide +kernel) rfl
theorem x_184_985 : Xp 184 d 985 ls ((0, a) :: (4, p) :: st) t g Q = ((0 ≤ a ∧ a < g (-2) 0) ∧ Xp 184 d 986 ls ((0, g (-1) a) :: st) t g Q) := Xp_chk (i := .iaload) (len := 1) (by decide +kernel) rfl
theorem x_184_986 : Xp 184 (d + 1) 986 ls ((0, a4) :: (0, a3) :: (0, a2) :: (0, a1) :: (2, a0) :: st) t g Q = (hkJK a0 = 0 ∧ hkC8 st ∧ Xp 28 d 0 [(2, a0), (0, a1), (0, a2), (0, a3), (0, a4), hkU, hkU, hkU, hkU] [] t g (fun r t g => Xp 184 (d + 1) 989 ls (hkPush r st) t g Q)) := xr_invV (idx := 109) (y' := 28) (ci := 0) (tg := [2, 0, 0, 0, 0]) (by decide +kernel) (by decide +kernel) (by decide +kernel) (by decide +kernel) rfl rfl rfl
theorem x_184_989 : Xp 184 d 989 [v0, v1, (2, x), v3] st t g Q = Xp 184 d 990 [v0, v1, (2, x), v3] ((2, x) :: st) t g Q := Xp_go (i := .aload_n 2) (len := 1) (by decide +kernel) rfl
theorem x_184_990 : Xp 184 d 990 [(4, x), v1, v2, v3] st t g Q = Xp 184 d 991 [(4, x), v1, v2, v3] ((4, x) :: st) t g Q := Xp_go (i := .aload_n 0) (len := 1) (by decide +kernel) rfl
theorem x_184_991 : Xp 184 d 991 [v0, v1, v2, (0, x)] st t g Q = Xp 184 d 992 [v0, v1, v2, (0, x)] ((0, x) :: st) t g Q := Xp_go (i := .iload_n 3) (len := 1) (by decide +kernel) rfl
theorem x_184_992 : Xp 184 d 992 ls st t g Q = Xp 184 d 993 ls ((0, 1) :: st) t g Q := xr_const (c := 1) (by decide +kernel) (by decide)
theorem x_184_993 : Xp 184 d 993 ls ((0, b) :: (0, a) :: st) t g Q = Xp 184 d 994 ls ((0, hkW (a + b)) :: st) t g Q := Xp_go (i := .iadd) (len := 1) (by decide +kernel) rfl
theorem x_184_994 : Xp 184 d 994 ls ((0, a) :: (4, p) :: st) t g Q = ((0 ≤ a ∧ a < g (-2) 0) ∧ Xp 184 d 995 ls ((0, g (-1) a) :: st) t g Q) := Xp_chk (i := .iaload) (len := 1) (by decide +kernel) rfl
theorem x_184_995 : Xp 184 d 995 [(4, x), v1, v2, v3] st t g Q = Xp 184 d 996 [(4, x), v1, v2, v3] ((4, x) :: st) t g Q := Xp_go (i := .aload_n 0) (len := 1) (by decide +kernel) rfl
theorem x_184_996 : Xp 184 d 996 [v0, v1, v2, (0, x)] st t g Q = Xp 184 d 997 [v0, v1, v2, (0, x)] ((0, x) :: st) t g Q := Xp_go (i := .iload_n 3) (len := 1) (by decide +kernel) rfl
theorem x_184_997 : Xp 184 d 997 ls st t g Q = Xp 184 d 998 ls ((0, 2) :: st) t g Q := xr_const (c := 2) (by decide +kernel) (by decide)
theorem x_184_998 : Xp 184 d 998 ls ((0, b) :: (0, a) :: st) t g Q = Xp 184 d 999 ls ((0, hkW (a + b)) :: st) t g Q := Xp_go (i := .iadd) (len := 1) (by decide +kernel) rfl
theorem x_184_999 : Xp 184 d 999 ls ((0, a) :: (4, p) :: st) t g Q = ((0 ≤ a ∧ a < g (-2) 0) ∧ Xp 184 d 1000 ls ((0, g (-1) a) :: st) t g Q) := Xp_chk (i := .iaload) (len := 1) (by decide +kernel) rfl
theorem x_184_1000 : Xp 184 d 1000 [(4, x), v1, v2, v3] st t g Q = Xp 184 d 1001 [(4, x), v1, v2, v3] ((4, x) :: st) t g Q := Xp_go (i := .aload_n 0) (len := 1) (by decide +kernel) rfl
theorem x_184_1001 : Xp 184 d 1001 [v0, v1, v2, (0, x)] st t g Q = Xp 184 d 1002 [v0, v1, v2, (0, x)] ((0, x) :: st) t g Q := Xp_go (i := .iload_n 3) (len := 1) (by decide +kernel) rfl
theorem x_184_1002 : Xp 184 d 1002 ls st t g Q = Xp 184 d 1003 ls ((0, 3) :: st) t g Q := xr_const (c := 3) (by decide +kernel) (by decide)
theorem x_184_1003 : Xp 184 d 1003 ls ((0, b) :: (0, a) :: st) t g Q = Xp 184 d 1004 ls ((0, hkW (a + b)) :: st) t g Q := Xp_go (i := .iadd) (len := 1) (by decide +kernel) rfl
theorem x_184_1004 : Xp 184 d 1004 ls ((0, a) :: (4, p) :: st) t g Q = ((0 ≤ a ∧ a < g (-2) 0) ∧ Xp 184 d 1005 ls ((0, g (-1) a) :: st) t g Q) := Xp_chk (i := .iaload) (len := 1) (by decide +kernel) rfl
theorem x_184_1005 : Xp 184 d 1005 [(4, x), v1, v2, v3] st t g Q = Xp 184 d 1006 [(4, x), v1, v2, v3] ((4, x) :: st) t g Q := Xp_go (i := .aload_n 0) (len := 1) (by decide +kernel) rfl
theorem x_184_1006 : Xp 184 d 1006 [v0, v1, v2, (0, x)] st t g Q = Xp 184 d 1007 [v0, v1, v2, (0, x)] ((0, x) :: st) t g Q := Xp_go (i := .iload_n 3) (len := 1) (by decide +kernel) rfl
theorem x_184_1007 : Xp 184 d 1007 ls st t g Q = Xp 184 d 1008 ls ((0, 4) :: st) t g Q := xr_const (c := 4) (by decide +kernel) (by decide)
theorem x_184_1008 : Xp 184 d 1008 ls ((0, b) :: (0, a) :: st) t g Q = Xp 184 d 1009 ls ((0, hkW (a + b)) :: st) t g Q := Xp_go (i := .iadd) (len := 1) (by decide +kernel) rfl
theorem x_184_1009 : Xp 184 d 1009 ls ((0, a) :: (4, p) :: st) t g Q = ((0 ≤ a ∧ a < g (-2) 0) ∧ Xp 184 d 1010 ls ((0, g (-1) a) :: st) t g Q) := Xp_chk (i := .iaload) (len := 1) (by decide +kernel) rfl
theorem x_184_1010 : Xp 184 (d + 1) 1010 ls ((0, a4) :: (0, a3) :: (0, a2) :: (0, a1) :: (2, a0) :: st) t g Q = (hkJK a0 = 10 ∧ hkC8 st ∧ Xp 167 d 0 [(2, a0), (0, a1), (0, a2), (0, a3), (0, a4), hkU, hkU, hkU] [] t g (fun r t g => Xp 184 (d + 1) 1013 ls (hkPush r st) t g Q)) := xr_invV (idx := 112) (y' := 167) (ci := 10) (tg := [2, 0, 0, 0, 0]) (by decide +kernel) (by decide +kernel) (by decide +kernel) (by decide +kernel) rfl rfl rfl
theorem x_184_1013 : Xp 184 d 1013 ls ((0, b) :: (0, a) :: st) t g Q = ((a = b → Xp 184 d 1190 ls st t g Q) ∧ (¬ (a = b) → Xp 184 d 1016 ls st t g Q)) := xr_if2 (cd := .eq) (off := 177) (by decide +kernel) (by decide)
theorem x_184_1016 : Xp 184 d 1016 ls st t g Q = Xp 184 d 1017 ls ((0, 0) :: st) t g Q := xr_const (c := 0) (by decide +kernel) (by decide)
theorem x_184_1017 : Xp 184 d 1017 ls [(0, x)] t g Q = ((x = 0 ∨ x = 1) ∧ Q (some (0, x)) t g) := xr_retZ (by decide +kernel) (by decide +kernel)
theorem x_184_1018 : Xp 184 d 1018 [v0, (2, x), v2, v3] st t g Q = Xp 184 d 1019 [v0, (2, x), v2, v3] ((2, x) :: st) t g Q := Xp_go (i := .aload_n 1) (len := 1) (by decide +kernel) rfl
theorem x_184_1019 : Xp 184 d 1019 [(4, x), v1, v2, v3] st t g Q = Xp 184 d 1020 [(4, x), v1, v2, v3] ((4, x) :: st) t g Q := Xp_go (i := .aload_n 0) (len := 1) (by decide +kernel) rfl
theorem x_184_1020 : Xp 184 d 1020 [v0, v1, v2, (0, x)] st t g Q = Xp 184 d 1021 [v0, v1, v2, (0, x)] ((0, x) :: st) t g Q := Xp_go (i := .iload_n 3) (len := 1) (by decide +kernel) rfl
theorem x_184_1021 : Xp 184 d 1021 ls st t g Q = Xp 184 d 1022 ls ((0, 1) :: st) t g Q := xr_const (c := 1) (by decide +kernel) (by decide)
theorem x_184_1022 : Xp 184 d 1022 ls ((0, b) :: (0, a) :: st) t g Q = Xp 184 d 1023 ls ((0, hkW (a + b)) :: st) t g Q := Xp_go (i := .iadd) (len := 1) (by decide +kernel) rfl
theorem x_184_1023 : Xp 184 d 1023 ls ((0, a) :: (4, p) :: st) t g Q = ((0 ≤ a ∧ a < g (-2) 0) ∧ Xp 184 d 1024 ls ((0, g (-1) a) :: st) t g Q) := Xp_chk (i := .iaload) (len := 1) (by decide +kernel) rfl
theorem x_184_1024 : Xp 184 (d + 1) 1024 ls ((0, a1) :: (2, a0) :: st) t g Q = (hkJK a0 = 0 ∧ hkC8 st ∧ Xp 29 d 0 [(2, a0), (0, a1)] [] t g (fun r t g => Xp 184 (d + 1) 1027 ls (hkPush r st) t g Q)) := xr_invV (idx := 113) (y' := 29) (ci := 0) (tg := [2, 0]) (by decide +kernel) (by decide +kernel) (by decide +kernel) (by decide +kernel) rfl rfl rfl
theorem x_184_1027 : Xp 184 d 1027 [v0, v1, (2, x), v3] st t g Q = Xp 184 d 1028 [v0, v1, (2, x), v3] ((2, x) :: st) t g Q := Xp_go (i := .aload_n 2) (len := 1) (by decide +kernel) rfl
theorem x_184_1028 : Xp 184 d 1028 [(4, x), v1, v2, v3] st t g Q = Xp 184 d 1029 [(4, x), v1, v2, v3] ((4, x) :: st) t g Q := Xp_go (i := .aload_n 0) (len := 1) (by decide +kernel) rfl
theorem x_184_1029 : Xp 184 d 1029 [v0, v1, v2, (0, x)] st t g Q = Xp 184 d 1030 [v0, v1, v2, (0, x)] ((0, x) :: st) t g Q := Xp_go (i := .iload_n 3) (len := 1) (by decide +kernel) rfl
theorem x_184_1030 : Xp 184 d 1030 ls st t g Q = Xp 184 d 1031 ls ((0, 1) :: st) t g Q := xr_const (c := 1) (by decide +kernel) (by decide)
theorem x_184_1031 : Xp 184 d 1031 ls ((0, b) :: (0, a) :: st) t g Q = Xp 184 d 1032 ls ((0, hkW (a + b)) :: st) t g Q := Xp_go (i := .iadd) (len := 1) (by decide +kernel) rfl
theorem x_184_1032 : Xp 184 d 1032 ls ((0, a) :: (4, p) :: st) t g Q = ((0 ≤ a ∧ a < g (-2) 0) ∧ Xp 184 d 1033 ls ((0, g (-1) a) :: st) t g Q) := Xp_chk (i := .iaload) (len := 1) (by decide +kernel) rfl
theorem x_184_1033 : Xp 184 (d + 1) 1033 ls ((0, a1) :: (2, a0) :: st) t g Q = (hkJK a0 = 10 ∧ hkC8 st ∧ Xp 168 d 0 [(2, a0), (0, a1)] [] t g (fun r t g => Xp 184 (d + 1) 1036 ls (hkPush r st) t g Q)) := xr_invV (idx := 116) (y' := 168) (ci := 10) (tg := [2, 0]) (by decide +kernel) (by decide +kernel) (by decide +kernel) (by decide +kernel) rfl rfl rfl
theorem x_184_1036 : Xp 184 d 1036 ls ((0, b) :: (0, a) :: st) t g Q = ((a = b → Xp 184 d 1190 ls st t g Q) ∧ (¬ (a = b) → Xp 184 d 1039 ls st t g Q)) := xr_if2 (cd := .eq) (off := 154) (by decide +kernel) (by decide)
theorem x_184_1039 : Xp 184 d 1039 ls st t g Q = Xp 184 d 1040 ls ((0, 0) :: st) t g Q := xr_const (c := 0) (by decide +kernel) (by decide)
theorem x_184_1040 : Xp 184 d 1040 ls [(0, x)] t g Q = ((x = 0 ∨ x = 1) ∧ Q (some (0, x)) t g) := xr_retZ (by decide +kernel) (by decide +kernel)
theorem x_184_1041 : Xp 184 d 1041 [v0, (2, x), v2, v3] st t g Q = Xp 184 d 1042 [v0, (2, x), v2, v3] ((2, x) :: st) t g Q := Xp_go (i := .aload_n 1) (len := 1) (by decide +kernel) rfl
theorem x_184_1042 : Xp 184 d 1042 [(4, x), v1, v2, v3] st t g Q = Xp 184 d 1043 [(4, x), v1, v2, v3] ((4, x) :: st) t g Q := Xp_go (i := .aload_n 0) (len := 1) (by decide +kernel) rfl
theorem x_184_1043 : Xp 184 d 1043 [v0, v1, v2, (0, x)] st t g Q = Xp 184 d 1044 [v0, v1, v2, (0, x)] ((0, x) :: st) t g Q := Xp_go (i := .iload_n 3) (len := 1) (by decide +kernel) rfl
theorem x_184_1044 : Xp 184 d 1044 ls st t g Q = Xp 184 d 1045 ls ((0, 1) :: st) t g Q := xr_const (c := 1) (by decide +kernel) (by decide)
theorem x_184_1045 : Xp 184 d 1045 ls ((0, b) :: (0, a) :: st) t g Q = Xp 184 d 1046 ls ((0, hkW (a + b)) :: st) t g Q := Xp_go (i := .iadd) (len := 1) (by decide +kernel) rfl
theorem x_184_1046 : Xp 184 d 1046 ls ((0, a) :: (4, p) :: st) t g Q = ((0 ≤ a ∧ a < g (-2) 0) ∧ Xp 184 d 1047 ls ((0, g (-1) a) :: st) t g Q) := Xp_chk (i := .iaload) (len := 1) (by decide +kernel) rfl
theorem x_184_1047 : Xp 184 d 1047 [(4, x), v1, v2, v3] st t g Q = Xp 184 d 1048 [(4, x), v1, v2, v3] ((4, x) :: st) t g Q := Xp_go (i := .aload_n 0) (len := 1) (by decide +kernel) rfl
theorem x_184_1048 : Xp 184 d 1048 [v0, v1, v2, (0, x)] st t g Q = Xp 184 d 1049 [v0, v1, v2, (0, x)] ((0, x) :: st) t g Q := Xp_go (i := .iload_n 3) (len := 1) (by decide +kernel) rfl
theorem x_184_1049 : Xp 184 d 1049 ls st t g Q = Xp 184 d 1050 ls ((0, 2) :: st) t g Q := xr_const (c := 2) (by decide +kernel) (by decide)
theorem x_184_1050 : Xp 184 d 1050 ls ((0, b) :: (0, a) :: st) t g Q = Xp 184 d 1051 ls ((0, hkW (a + b)) :: st) t g Q := Xp_go (i := .iadd) (len := 1) (by decide +kernel) rfl
theorem x_184_1051 : Xp 184 d 1051 ls ((0, a) :: (4, p) :: st) t g Q = ((0 ≤ a ∧ a < g (-2) 0) ∧ Xp 184 d 1052 ls ((0, g (-1) a) :: st) t g Q) := Xp_chk (i := .iaload) (len := 1) (by decide +kernel) rfl
theorem x_184_1052 : Xp 184 d 1052 [(4, x), v1, v2, v3] st t g Q = Xp 184 d 1053 [(4, x), v1, v2, v3] ((4, x) :: st) t g Q := Xp_go (i := .aload_n 0) (len := 1) (by decide +kernel) rfl
theorem x_184_1053 : Xp 184 d 1053 [v0, v1, v2, (0, x)] st t g Q = Xp 184 d 1054 [v0, v1, v2, (0, x)] ((0, x) :: st) t g Q := Xp_go (i := .iload_n 3) (len := 1) (by decide +kernel) rfl
theorem x_184_1054 : Xp 184 d 1054 ls st t g Q = Xp 184 d 1055 ls ((0, 3) :: st) t g Q := xr_const (c := 3) (by decide +kernel) (by decide)
theorem x_184_1055 : Xp 184 d 1055 ls ((0, b) :: (0, a) :: st) t g Q = Xp 184 d 1056 ls ((0, hkW (a + b)) :: st) t g Q := Xp_go (i := .iadd) (len := 1) (by decide +kernel) rfl
theorem x_184_1056 : Xp 184 d 1056 ls ((0, a) :: (4, p) :: st) t g Q = ((0 ≤ a ∧ a < g (-2) 0) ∧ Xp 184 d 1057 ls ((0, g (-1) a) :: st) t g Q) := Xp_chk (i := .iaload) (len := 1) (by decide +kernel) rfl
theorem x_184_1057 : Xp 184 (d + 1) 1057 ls ((0, a3) :: (0, a2) :: (0, a1) :: (2, a0) :: st) t g Q = (hkJK a0 = 0 ∧ hkC8 st ∧ Xp 30 d 0 [(2, a0), (0, a1), (0, a2), (0, a3)] [] t g (fun r t g => Xp 184 (d + 1) 1060 ls (hkPush r st) t g Q)) := xr_invV (idx := 117) (y' := 30) (ci := 0) (tg := [2, 0, 0, 0]) (by decide +kernel) (by decide +kernel) (by decide +kernel) (by decide +kernel) rfl rfl rfl
theorem x_184_1060 : Xp 184 d 1060 [v0, v1, (2, x), v3] st t g Q = Xp 184 d 1061 [v0, v1, (2, x), v3] ((2, x) :: st) t g Q := Xp_go (i := .aload_n 2) (len := 1) (by decide +kernel) rfl
theorem x_184_1061 : Xp 184 d 1061 [(4, x), v1, v2, v3] st t g Q = Xp 184 d 1062 [(4, x), v1, v2, v3] ((4, x) :: st) t g Q := Xp_go (i := .aload_n 0) (len := 1) (by decide +kernel) rfl
theorem x_184_1062 : Xp 184 d 1062 [v0, v1, v2, (0, x)] st t g Q = Xp 184 d 1063 [v0, v1, v2, (0, x)] ((0, x) :: st) t g Q := Xp_go (i := .iload_n 3) (len := 1) (by decide +kernel) rfl
theorem x_184_1063 : Xp 184 d 1063 ls st t g Q = Xp 184 d 1064 ls ((0, 1) :: st) t g Q := xr_const (c := 1) (by decide +kernel) (by decide)
theorem x_184_1064 : Xp 184 d 1064 ls ((0, b) :: (0, a) :: st) t g Q = Xp 184 d 1065 ls ((0, hkW (a + b)) :: st) t g Q := Xp_go (i := .iadd) (len := 1) (by decide +kernel) rfl
theorem x_184_1065 : Xp 184 d 1065 ls ((0, a) :: (4, p) :: st) t g Q = ((0 ≤ a ∧ a < g (-2) 0) ∧ Xp 184 d 1066 ls ((0, g (-1) a) :: st) t g Q) := Xp_chk (i := .iaload) (len := 1) (by decide +kernel) rfl
theorem x_184_1066 : Xp 184 d 1066 [(4, x), v1, v2, v3] st t g Q = Xp 184 d 1067 [(4, x), v1, v2, v3] ((4, x) :: st) t g Q := Xp_go (i := .aload_n 0) (len := 1) (by decide +kernel) rfl
theorem x_184_1067 : Xp 184 d 1067 [v0, v1, v2, (0, x)] st t g Q = Xp 184 d 1068 [v0, v1, v2, (0, x)] ((0, x) :: st) t g Q := Xp_go (i := .iload_n 3) (len := 1) (by decide +kernel) rfl
theorem x_184_1068 : Xp 184 d 1068 ls st t g Q = Xp 184 d 1069 ls ((0, 2) :: st) t g Q := xr_const (c := 2) (by decide +kernel) (by decide)
theorem x_184_1069 : Xp 184 d 1069 ls ((0, b) :: (0, a) :: st) t g Q = Xp 184 d 1070 ls ((0, hkW (a + b)) :: st) t g Q := Xp_go (i := .iadd) (len := 1) (by decide +kernel) rfl
theorem x_184_1070 : Xp 184 d 1070 ls ((0, a) :: (4, p) :: st) t g Q = ((0 ≤ a ∧ a < g (-2) 0) ∧ Xp 184 d 1071 ls ((0, g (-1) a) :: st) t g Q) := Xp_chk (i := .iaload) (len := 1) (by decide +kernel) rfl
theorem x_184_1071 : Xp 184 d 1071 [(4, x), v1, v2, v3] st t g Q = Xp 184 d 1072 [(4, x), v1, v2, v3] ((4, x) :: st) t g Q := Xp_go (i := .aload_n 0) (len := 1) (by decide +kernel) rfl
theorem x_184_1072 : Xp 184 d 1072 [v0, v1, v2, (0, x)] st t g Q = Xp 184 d 1073 [v0, v1, v2, (0, x)] ((0, x) :: st) t g Q := Xp_go (i := .iload_n 3) (len := 1) (by decide +kernel) rfl
theorem x_184_1073 : Xp 184 d 1073 ls st t g Q = Xp 184 d 1074 ls ((0, 3) :: st) t g Q := xr_const (c := 3) (by decide +kernel) (by decide)
theorem x_184_1074 : Xp 184 d 1074 ls ((0, b) :: (0, a) :: st) t g Q = Xp 184 d 1075 ls ((0, hkW (a + b)) :: st) t g Q := Xp_go (i := .iadd) (len := 1) (by decide +kernel) rfl
theorem x_184_1075 : Xp 184 d 1075 ls ((0, a) :: (4, p) :: st) t g Q = ((0 ≤ a ∧ a < g (-2) 0) ∧ Xp 184 d 1076 ls ((0, g (-1) a) :: st) t g Q) := Xp_chk (i := .iaload) (len := 1) (by decide +kernel) rfl
theorem x_184_1076 : Xp 184 (d + 1) 1076 ls ((0, a3) :: (0, a2) :: (0, a1) :: (2, a0) :: st) t g Q = (hkJK a0 = 10 ∧ hkC8 st ∧ Xp 169 d 0 [(2, a0), (0, a1), (0, a2), (0, a3), hkU] [] t g (fun r t g => Xp 184 (d + 1) 1079 ls (hkPush r st) t g Q)) := xr_invV (idx := 120) (y' := 169) (ci := 10) (tg := [2, 0, 0, 0]) (by decide +kernel) (by decide +kernel) (by decide +kernel) (by decide +kernel) rfl rfl rfl
theorem x_184_1079 : Xp 184 d 1079 ls ((0, b) :: (0, a) :: st) t g Q = ((a = b → Xp 184 d 1190 ls st t g Q) ∧ (¬ (a = b) → Xp 184 d 1082 ls st t g Q)) := xr_if2 (cd := .eq) (off := 111) (by decide +kernel) (by decide)
theorem x_184_1082 : Xp 184 d 1082 ls st t g Q = Xp 184 d 1083 ls ((0, 0) :: st) t g Q := xr_const (c := 0) (by decide +kernel) (by decide)
theorem x_184_1083 : Xp 184 d 1083 ls [(0, x)] t g Q = ((x = 0 ∨ x = 1) ∧ Q (some (0, x)) t g) := xr_retZ (by decide +kernel) (by decide +kernel)
theorem x_184_1084 : Xp 184 d 1084 [v0, (2, x), v2, v3] st t g Q = Xp 184 d 1085 [v0, (2, x), v2, v3] ((2, x) :: st) t g Q := Xp_go (i := .aload_n 1) (len := 1) (by decide +kernel) rfl
theorem x_184_1085 : Xp 184 d 1085 [(4, x), v1, v2, v3] st t g Q = Xp 184 d 1086 [(4, x), v1, v2, v3] ((4, x) :: st) t g Q := Xp_go (i := .aload_n 0) (len := 1) (by decide +kernel) rfl
theorem x_184_1086 : Xp 184 d 1086 [v0, v1, v2, (0, x)] st t g Q = Xp 184 d 1087 [v0, v1, v2, (0, x)] ((0, x) :: st) t g Q := Xp_go (i := .iload_n 3) (len := 1) (by decide +kernel) rfl
theorem x_184_1087 : Xp 184 d 1087 ls st t g Q = Xp 184 d 1088 ls ((0, 1) :: st) t g Q := xr_const (c := 1) (by decide +kernel) (by decide)
theorem x_184_1088 : Xp 184 d 1088 ls ((0, b) :: (0, a) :: st) t g Q = Xp 184 d 1089 ls ((0, hkW (a + b)) :: st) t g Q := Xp_go (i := .iadd) (len := 1) (by decide +kernel) rfl
theorem x_184_1089 : Xp 184 d 1089 ls ((0, a) :: (4, p) :: st) t g Q = ((0 ≤ a ∧ a < g (-2) 0) ∧ Xp 184 d 1090 ls ((0, g (-1) a) :: st) t g Q) := Xp_chk (i := .iaload) (len := 1) (by decide +kernel) rfl
theorem x_184_1090 : Xp 184 d 1090 [(4, x), v1, v2, v3] st t g Q = Xp 184 d 1091 [(4, x), v1, v2, v3] ((4, x) :: st) t g Q := Xp_go (i := .aload_n 0) (len := 1) (by decide +kernel) rfl
theorem x_184_1091 : Xp 184 d 1091 [v0, v1, v2, (0, x)] st t g Q = Xp 184 d 1092 [v0, v1, v2, (0, x)] ((0, x) :: st) t g Q := Xp_go (i := .iload_n 3) (len := 1) (by decide +kernel) rfl
theorem x_184_1092 : Xp 184 d 1092 ls st t g Q = Xp 184 d 1093 ls ((0, 2) :: st) t g Q := xr_const (c := 2) (by decide +kernel) (by decide)
theorem x_184_1093 : Xp 184 d 1093 ls ((0, b) :: (0, a) :: st) t g Q = Xp 184 d 1094 ls ((0, hkW (a + b)) :: st) t g Q := Xp_go (i := .iadd) (len := 1) (by decide +kernel) rfl
theorem x_184_1094 : Xp 184 d 1094 ls ((0, a) :: (4, p) :: st) t g Q = ((0 ≤ a ∧ a < g (-2) 0) ∧ Xp 184 d 1095 ls ((0, g (-1) a) :: st) t g Q) := Xp_chk (i := .iaload) (len := 1) (by decide +kernel) rfl
theorem x_184_1095 : Xp 184 d 1095 [(4, x), v1, v2, v3] st t g Q = Xp 184 d 1096 [(4, x), v1, v2, v3] ((4, x) :: st) t g Q := Xp_go (i := .aload_n 0) (len := 1) (by decide +kernel) rfl
theorem x_184_1096 : Xp 184 d 1096 [v0, v1, v2, (0, x)] st t g Q = Xp 184 d 1097 [v0, v1, v2, (0, x)] ((0, x) :: st) t g Q := Xp_go (i := .iload_n 3) (len := 1) (by decide +kernel) rfl
theorem x_184_1097 : Xp 184 d 1097 ls st t g Q = Xp 184 d 1098 ls ((0, 3) :: st) t g Q := xr_const (c := 3) (by decide +kernel) (by decide)
theorem x_184_1098 : Xp 184 d 1098 ls ((0, b) :: (0, a) :: st) t g Q = Xp 184 d 1099 ls ((0, hkW (a + b)) :: st) t g Q := Xp_go (i := .iadd) (len := 1) (by decide +kernel) rfl
theorem x_184_1099 : Xp 184 d 1099 ls ((0, a) :: (4, p) :: st) t g Q = ((0 ≤ a ∧ a < g (-2) 0) ∧ Xp 184 d 1100 ls ((0, g (-1) a) :: st) t g Q) := Xp_chk (i := .iaload) (len := 1) (by decide +kernel) rfl
theorem x_184_1100 : Xp 184 (d + 1) 1100 ls ((0, a3) :: (0, a2) :: (0, a1) :: (2, a0) :: st) t g Q = (hkJK a0 = 0 ∧ hkC8 st ∧ Xp 31 d 0 [(2, a0), (0, a1), (0, a2), (0, a3), hkU] [] t g (fun r t g => Xp 184 (d + 1) 1103 ls (hkPush r st) t g Q)) := xr_invV (idx := 121) (y' := 31) (ci := 0) (tg := [2, 0, 0, 0]) (by decide +kernel) (by decide +kernel) (by decide +kernel) (by decide +kernel) rfl rfl rfl
theorem x_184_1103 : Xp 184 d 1103 [v0, v1, (2, x), v3] st t g Q = Xp 184 d 1104 [v0, v1, (2, x), v3] ((2, x) :: st) t g Q := Xp_go (i := .aload_n 2) (len := 1) (by decide +kernel) rfl
theorem x_184_1104 : Xp 184 d 1104 [(4, x), v1, v2, v3] st t g Q = Xp 184 d 1105 [(4, x), v1, v2, v3] ((4, x) :: st) t g Q := Xp_go (i := .aload_n 0) (len := 1) (by decide +kernel) rfl
theorem x_184_1105 : Xp 184 d 1105 [v0, v1, v2, (0, x)] st t g Q = Xp 184 d 1106 [v0, v1, v2, (0, x)] ((0, x) :: st) t g Q := Xp_go (i := .iload_n 3) (len := 1) (by decide +kernel) rfl
theorem x_184_1106 : Xp 184 d 1106 ls st t g Q = Xp 184 d 1107 ls ((0, 1) :: st) t g Q := xr_const (c := 1) (by decide +kernel) (by decide)
theorem x_184_1107 : Xp 184 d 1107 ls ((0, b) :: (0, a) :: st) t g Q = Xp 184 d 1108 ls ((0, hkW (a + b)) :: st) t g Q := Xp_go (i := .iadd) (len := 1) (by decide +kernel) rfl
theorem x_184_1108 : Xp 184 d 1108 ls ((0, a) :: (4, p) :: st) t g Q = ((0 ≤ a ∧ a < g (-2) 0) ∧ Xp 184 d 1109 ls ((0, g (-1) a) :: st) t g Q) := Xp_chk (i := .iaload) (len := 1) (by decide +kernel) rfl
theorem x_184_1109 : Xp 184 d 1109 [(4, x), v1, v2, v3] st t g Q = Xp 184 d 1110 [(4, x), v1, v2, v3] ((4, x) :: st) t g Q := Xp_go (i := .aload_n 0) (len := 1) (by decide +kernel) rfl
theorem x_184_1110 : Xp 184 d 1110 [v0, v1, v2, (0, x)] st t g Q = Xp 184 d 1111 [v0, v1, v2, (0, x)] ((0, x) :: st) t g Q := Xp_go (i := .iload_n 3) (len := 1) (by decide +kernel) rfl
theorem x_184_1111 : Xp 184 d 1111 ls st t g Q = Xp 184 d 1112 ls ((0, 2) :: st) t g Q := xr_const (c := 2) (by decide +kernel) (by decide)
theorem x_184_1112 : Xp 184 d 1112 ls ((0, b) :: (0, a) :: st) t g Q = Xp 184 d 1113 ls ((0, hkW (a + b)) :: st) t g Q := Xp_go (i := .iadd) (len := 1) (by decide +kernel) rfl
theorem x_184_1113 : Xp 184 d 1113 ls ((0, a) :: (4, p) :: st) t g Q = ((0 ≤ a ∧ a < g (-2) 0) ∧ Xp 184 d 1114 ls ((0, g (-1) a) :: st) t g Q) := Xp_chk (i := .iaload) (len := 1) (by decide +kernel) rfl
theorem x_184_1114 : Xp 184 d 1114 [(4, x), v1, v2, v3] st t g Q = Xp 184 d 1115 [(4, x), v1, v2, v3] ((4, x) :: st) t g Q := Xp_go (i := .aload_n 0) (len := 1) (by decide +kernel) rfl
theorem x_184_1115 : Xp 184 d 1115 [v0, v1, v2, (0, x)] st t g Q = Xp 184 d 1116 [v0, v1, v2, (0, x)] ((0, x) :: st) t g Q := Xp_go (i := .iload_n 3) (len := 1) (by decide +kernel) rfl
theorem x_184_1116 : Xp 184 d 1116 ls st t g Q = Xp 184 d 1117 ls ((0, 3) :: st) t g Q := xr_const (c := 3) (by decide +kernel) (by decide)
theorem x_184_1117 : Xp 184 d 1117 ls ((0, b) :: (0, a) :: st) t g Q = Xp 184 d 1118 ls ((0, hkW (a + b)) :: st) t g Q := Xp_go (i := .iadd) (len := 1) (by decide +kernel) rfl
theorem x_184_1118 : Xp 184 d 1118 ls ((0, a) :: (4, p) :: st) t g Q = ((0 ≤ a ∧ a < g (-2) 0) ∧ Xp 184 d 1119 ls ((0, g (-1) a) :: st) t g Q) := Xp_chk (i := .iaload) (len := 1) (by decide +kernel) rfl
theorem x_184_1119 : Xp 184 (d + 1) 1119 ls ((0, a3) :: (0, a2) :: (0, a1) :: (2, a0) :: st) t g Q = (hkJK a0 = 10 ∧ hkC8 st ∧ Xp 170 d 0 [(2, a0), (0, a1), (0, a2), (0, a3)] [] t g (fun r t g => Xp 184 (d + 1) 1122 ls (hkPush r st) t g Q)) := xr_invV (idx := 124) (y' := 170) (ci := 10) (tg := [2, 0, 0, 0]) (by decide +kernel) (by decide +kernel) (by decide +kernel) (by decide +kernel) rfl rfl rfl
theorem x_184_1122 : Xp 184 d 1122 ls ((0, b) :: (0, a) :: st) t g Q = ((a = b → Xp 184 d 1190 ls st t g Q) ∧ (¬ (a = b) → Xp 184 d 1125 ls st t g Q)) := xr_if2 (cd := .eq) (off := 68) (by decide +kernel) (by decide)
theorem x_184_1125 : Xp 184 d 1125 ls st t g Q = Xp 184 d 1126 ls ((0, 0) :: st) t g Q := xr_const (c := 0) (by decide +kernel) (by decide)
theorem x_184_1126 : Xp 184 d 1126 ls [(0, x)] t g Q = ((x = 0 ∨ x = 1) ∧ Q (some (0, x)) t g) := xr_retZ (by decide +kernel) (by decide +kernel)
theorem x_184_1127 : Xp 184 d 1127 [v0, (2, x), v2, v3] st t g Q = Xp 184 d 1128 [v0, (2, x), v2, v3] ((2, x) :: st) t g Q := Xp_go (i := .aload_n 1) (len := 1) (by decide +kernel) rfl
theorem x_184_1128 : Xp 184 d 1128 [(4, x), v1, v2, v3] st t g Q = Xp 184 d 1129 [(4, x), v1, v2, v3] ((4, x) :: st) t g Q := Xp_go (i := .aload_n 0) (len := 1) (by decide +kernel) rfl
theorem x_184_1129 : Xp 184 d 1129 [v0, v1, v2, (0, x)] st t g Q = Xp 184 d 1130 [v0, v1, v2, (0, x)] ((0, x) :: st) t g Q := Xp_go (i := .iload_n 3) (len := 1) (by decide +kernel) rfl
theorem x_184_1130 : Xp 184 d 1130 ls st t g Q = Xp 184 d 1131 ls ((0, 1) :: st) t g Q := xr_const (c := 1) (by decide +kernel) (by decide)
theorem x_184_1131 : Xp 184 d 1131 ls ((0, b) :: (0, a) :: st) t g Q = Xp 184 d 1132 ls ((0, hkW (a + b)) :: st) t g Q := Xp_go (i := .iadd) (len := 1) (by decide +kernel) rfl
theorem x_184_1132 : Xp 184 d 1132 ls ((0, a) :: (4, p) :: st) t g Q = ((0 ≤ a ∧ a < g (-2) 0) ∧ Xp 184 d 1133 ls ((0, g (-1) a) :: st) t g Q) := Xp_chk (i := .iaload) (len := 1) (by decide +kernel) rfl
theorem x_184_1133 : Xp 184 d 1133 [(4, x), v1, v2, v3] st t g Q = Xp 184 d 1134 [(4, x), v1, v2, v3] ((4, x) :: st) t g Q := Xp_go (i := .aload_n 0) (len := 1) (by decide +kernel) rfl
theorem x_184_1134 : Xp 184 d 1134 [v0, v1, v2, (0, x)] st t g Q = Xp 184 d 1135 [v0, v1, v2, (0, x)] ((0, x) :: st) t g Q := Xp_go (i := .iload_n 3) (len := 1) (by decide +kernel) rfl
theorem x_184_1135 : Xp 184 d 1135 ls st t g Q = Xp 184 d 1136 ls ((0, 2) :: st) t g Q := xr_const (c := 2) (by decide +kernel) (by decide)
theorem x_184_1136 : Xp 184 d 1136 ls ((0, b) :: (0, a) :: st) t g Q = Xp 184 d 1137 ls ((0, hkW (a + b)) :: st) t g Q := Xp_go (i := .iadd) (len := 1) (by decide +kernel) rfl
theorem x_184_1137 : Xp 184 d 1137 ls ((0, a) :: (4, p) :: st) t g Q = ((0 ≤ a ∧ a < g (-2) 0) ∧ Xp 184 d 1138 ls ((0, g (-1) a) :: st) t g Q) := Xp_chk (i := .iaload) (len := 1) (by decide +kernel) rfl
theorem x_184_1138 : Xp 184 d 1138 [(4, x), v1, v2, v3] st t g Q = Xp 184 d 1139 [(4, x), v1, v2, v3] ((4, x) :: st) t g Q := Xp_go (i := .aload_n 0) (len := 1) (by decide +kernel) rfl
theorem x_184_1139 : Xp 184 d 1139 [v0, v1, v2, (0, x)] st t g Q = Xp 184 d 1140 [v0, v1, v2, (0, x)] ((0, x) :: st) t g Q := Xp_go (i := .iload_n 3) (len := 1) (by decide +kernel) rfl
theorem x_184_1140 : Xp 184 d 1140 ls st t g Q = Xp 184 d 1141 ls ((0, 3) :: st) t g Q := xr_const (c := 3) (by decide +kernel) (by decide)
theorem x_184_1141 : Xp 184 d 1141 ls ((0, b) :: (0, a) :: st) t g Q = Xp 184 d 1142 ls ((0, hkW (a + b)) :: st) t g Q := Xp_go (i := .iadd) (len := 1) (by decide +kernel) rfl
theorem x_184_1142 : Xp 184 d 1142 ls ((0, a) :: (4, p) :: st) t g Q = ((0 ≤ a ∧ a < g (-2) 0) ∧ Xp 184 d 1143 ls ((0, g (-1) a) :: st) t g Q) := Xp_chk (i := .iaload) (len := 1) (by decide +kernel) rfl
theorem x_184_1143 : Xp 184 d 1143 [(4, x), v1, v2, v3] st t g Q = Xp 184 d 1144 [(4, x), v1, v2, v3] ((4, x) :: st) t g Q := Xp_go (i := .aload_n 0) (len := 1) (by decide +kernel) rfl
theorem x_184_1144 : Xp 184 d 1144 [v0, v1, v2, (0, x)] st t g Q = Xp 184 d 1145 [v0, v1, v2, (0, x)] ((0, x) :: st) t g Q := Xp_go (i := .iload_n 3) (len := 1) (by decide +kernel) rfl
theorem x_184_1145 : Xp 184 d 1145 ls st t g Q = Xp 184 d 1146 ls ((0, 4) :: st) t g Q := xr_const (c := 4) (by decide +kernel) (by decide)
theorem x_184_1146 : Xp 184 d 1146 ls ((0, b) :: (0, a) :: st) t g Q = Xp 184 d 1147 ls ((0, hkW (a + b)) :: st) t g Q := Xp_go (i := .iadd) (len := 1) (by decide +kernel) rfl
theorem x_184_1147 : Xp 184 d 1147 ls ((0, a) :: (4, p) :: st) t g Q = ((0 ≤ a ∧ a < g (-2) 0) ∧ Xp 184 d 1148 ls ((0, g (-1) a) :: st) t g Q) := Xp_chk (i := .iaload) (len := 1) (by decide +kernel) rfl
theorem x_184_1148 : Xp 184 d 1148 [(4, x), v1, v2, v3] st t g Q = Xp 184 d 1149 [(4, x), v1, v2, v3] ((4, x) :: st) t g Q := Xp_go (i := .aload_n 0) (len := 1) (by decide +kernel) rfl
theorem x_184_1149 : Xp 184 d 1149 [v0, v1, v2, (0, x)] st t g Q = Xp 184 d 1150 [v0, v1, v2, (0, x)] ((0, x) :: st) t g Q := Xp_go (i := .iload_n 3) (len := 1) (by decide +kernel) rfl
theorem x_184_1150 : Xp 184 d 1150 ls st t g Q = Xp 184 d 1151 ls ((0, 5) :: st) t g Q := xr_const (c := 5) (by decide +kernel) (by decide)
theorem x_184_1151 : Xp 184 d 1151 ls ((0, b) :: (0, a) :: st) t g Q = Xp 184 d 1152 ls ((0, hkW (a + b)) :: st) t g Q := Xp_go (i := .iadd) (len := 1) (by decide +kernel) rfl
theorem x_184_1152 : Xp 184 d 1152 ls ((0, a) :: (4, p) :: st) t g Q = ((0 ≤ a ∧ a < g (-2) 0) ∧ Xp 184 d 1153 ls ((0, g (-1) a) :: st) t g Q) := Xp_chk (i := .iaload) (len := 1) (by decide +kernel) rfl
theorem x_184_1153 : Xp 184 (d + 1) 1153 ls ((0, a5) :: (0, a4) :: (0, a3) :: (0, a2) :: (0, a1) :: (2, a0) :: st) t g Q = (hkJK a0 = 0 ∧ hkC8 st ∧ Xp 32 d 0 [(2, a0), (0, a1), (0, a2), (0, a3), (0, a4), (0, a5), hkU, hkU] [] t g (fun r t g => Xp 184 (d + 1) 1156 ls (hkPush r st) t g Q)) := xr_invV (idx := 125) (y' := 32) (ci := 0) (tg := [2, 0, 0, 0, 0, 0]) (by decide +kernel) (by decide +kernel) (by decide +kernel) (by decide +kernel) rfl rfl rfl
theorem x_184_1156 : Xp 184 d 1156 [v0, v1, (2, x), v3] st t g Q = Xp 184 d 1157 [v0, v1, (2, x), v3] ((2, x) :: st) t g Q := Xp_go (i := .aload_n 2) (len := 1) (by decide +kernel) rfl
theorem x_184_1157 : Xp 184 d 1157 [(4, x), v1, v2, v3] st t g Q = Xp 184 d 1158 [(4, x), v1, v2, v3] ((4, x) :: st) t g Q := Xp_go (i := .aload_n 0) (len := 1) (by decide +kernel) rfl
theorem x_184_1158 : Xp 184 d 1158 [v0, v1, v2, (0, x)] st t g Q = Xp 184 d 1159 [v0, v1, v2, (0, x)] ((0, x) :: st) t g Q := Xp_go (i := .iload_n 3) (len := 1) (by decide +kernel) rfl
theorem x_184_1159 : Xp 184 d 1159 ls st t g Q = Xp 184 d 1160 ls ((0, 1) :: st) t g Q := xr_const (c := 1) (by decide +kernel) (by decide)
theorem x_184_1160 : Xp 184 d 1160 ls ((0, b) :: (0, a) :: st) t g Q = Xp 184 d 1161 ls ((0, hkW (a + b)) :: st) t g Q := Xp_go (i := .iadd) (len := 1) (by decide +kernel) rfl
theorem x_184_1161 : Xp 184 d 1161 ls ((0, a) :: (4, p) :: st) t g Q = ((0 ≤ a ∧ a < g (-2) 0) ∧ Xp 184 d 1162 ls ((0, g (-1) a) :: st) t g Q) := Xp_chk (i := .iaload) (len := 1) (by decide +kernel) rfl
theorem x_184_1162 : Xp 184 d 1162 [(4, x), v1, v2, v3] st t g Q = Xp 184 d 1163 [(4, x), v1, v2, v3] ((4, x) :: st) t g Q := Xp_go (i := .aload_n 0) (len := 1) (by decide +kernel) rfl
theorem x_184_1163 : Xp 184 d 1163 [v0, v1, v2, (0, x)] st t g Q = Xp 184 d 1164 [v0, v1, v2, (0, x)] ((0, x) :: st) t g Q := Xp_go (i := .iload_n 3) (len := 1) (by decide +kernel) rfl
theorem x_184_1164 : Xp 184 d 1164 ls st t g Q = Xp 184 d 1165 ls ((0, 2) :: st) t g Q := xr_const (c := 2) (by decide +kernel) (by decide)
theorem x_184_1165 : Xp 184 d 1165 ls ((0, b) :: (0, a) :: st) t g Q = Xp 184 d 1166 ls ((0, hkW (a + b)) :: st) t g Q := Xp_go (i := .iadd) (len := 1) (by decide +kernel) rfl
theorem x_184_1166 : Xp 184 d 1166 ls ((0, a) :: (4, p) :: st) t g Q = ((0 ≤ a ∧ a < g (-2) 0) ∧ Xp 184 d 1167 ls ((0, g (-1) a) :: st) t g Q) := Xp_chk (i := .iaload) (len := 1) (by decide +kernel) rfl
theorem x_184_1167 : Xp 184 d 1167 [(4, x), v1, v2, v3] st t g Q = Xp 184 d 1168 [(4, x), v1, v2, v3] ((4, x) :: st) t g Q := Xp_go (i := .aload_n 0) (len := 1) (by decide +kernel) rfl
theorem x_184_1168 : Xp 184 d 1168 [v0, v1, v2, (0, x)] st t g Q = Xp 184 d 1169 [v0, v1, v2, (0, x)] ((0, x) :: st) t g Q := Xp_go (i := .iload_n 3) (len := 1) (by decide +kernel) rfl
theorem x_184_1169 : Xp 184 d 1169 ls st t g Q = Xp 184 d 1170 ls ((0, 3) :: st) t g Q := xr_const (c := 3) (by decide +kernel) (by decide)
theorem x_184_1170 : Xp 184 d 1170 ls ((0, b) :: (0, a) :: st) t g Q = Xp 184 d 1171 ls ((0, hkW (a + b)) :: st) t g Q := Xp_go (i := .iadd) (len := 1) (by decide +kernel) rfl
theorem x_184_1171 : Xp 184 d 1171 ls ((0, a) :: (4, p) :: st) t g Q = ((0 ≤ a ∧ a < g (-2) 0) ∧ Xp 184 d 1172 ls ((0, g (-1) a) :: st) t g Q) := Xp_chk (i := .iaload) (len := 1) (by decide +kernel) rfl
theorem x_184_1172 : Xp 184 d 1172 [(4, x), v1, v2, v3] st t g Q = Xp 184 d 1173 [(4, x), v1, v2, v3] ((4, x) :: st) t g Q := Xp_go (i := .aload_n 0) (len := 1) (by decide +kernel) rfl
theorem x_184_1173 : Xp 184 d 1173 [v0, v1, v2, (0, x)] st t g Q = Xp 184 d 1174 [v0, v1, v2, (0, x)] ((0, x) :: st) t g Q := Xp_go (i := .iload_n 3) (len := 1) (by decide +kernel) rfl
theorem x_184_1174 : Xp 184 d 1174 ls st t g Q = Xp 184 d 1175 ls ((0, 4) :: st) t g Q := xr_const (c := 4) (by decide +kernel) (by decide)
theorem x_184_1175 : Xp 184 d 1175 ls ((0, b) :: (0, a) :: st) t g Q = Xp 184 d 1176 ls ((0, hkW (a + b)) :: st) t g Q := Xp_go (i := .iadd) (len := 1) (by decide +kernel) rfl
theorem x_184_1176 : Xp 184 d 1176 ls ((0, a) :: (4, p) :: st) t g Q = ((0 ≤ a ∧ a < g (-2) 0) ∧ Xp 184 d 1177 ls ((0, g (-1) a) :: st) t g Q) := Xp_chk (i := .iaload) (len := 1) (by decide +kernel) rfl
theorem x_184_1177 : Xp 184 d 1177 [(4, x), v1, v2, v3] st t g Q = Xp 184 d 1178 [(4, x), v1, v2, v3] ((4, x) :: st) t g Q := Xp_go (i := .aload_n 0) (len := 1) (by decide +kernel) rfl
theorem x_184_1178 : Xp 184 d 1178 [v0, v1, v2, (0, x)] st t g Q = Xp 184 d 1179 [v0, v1, v2, (0, x)] ((0, x) :: st) t g Q := Xp_go (i := .iload_n 3) (len := 1) (by decide +kernel) rfl
theorem x_184_1179 : Xp 184 d 1179 ls st t g Q = Xp 184 d 1180 ls ((0, 5) :: st) t g Q := xr_const (c := 5) (by decide +kernel) (by decide)
theorem x_184_1180 : Xp 184 d 1180 ls ((0, b) :: (0, a) :: st) t g Q = Xp 184 d 1181 ls ((0, hkW (a + b)) :: st) t g Q := Xp_go (i := .iadd) (len := 1) (by decide +kernel) rfl
theorem x_184_1181 : Xp 184 d 1181 ls ((0, a) :: (4, p) :: st) t g Q = ((0 ≤ a ∧ a < g (-2) 0) ∧ Xp 184 d 1182 ls ((0, g (-1) a) :: st) t g Q) := Xp_chk (i := .iaload) (len := 1) (by decide +kernel) rfl
theorem x_184_1182 : Xp 184 (d + 1) 1182 ls ((0, a5) :: (0, a4) :: (0, a3) :: (0, a2) :: (0, a1) :: (2, a0) :: st) t g Q = (hkJK a0 = 10 ∧ hkC8 st ∧ Xp 171 d 0 [(2, a0), (0, a1), (0, a2), (0, a3), (0, a4), (0, a5), hkU] [] t g (fun r t g => Xp 184 (d + 1) 1185 ls (hkPush r st) t g Q)) := xr_invV (idx := 128) (y' := 171) (ci := 10) (tg := [2, 0, 0, 0, 0, 0]) (by decide +kernel) (by decide +kernel) (by decide +kernel) (by decide +kernel) rfl rfl rfl
theorem x_184_1185 : Xp 184 d 1185 ls ((0, b) :: (0, a) :: st) t g Q = ((a = b → Xp 184 d 1190 ls st t g Q) ∧ (¬ (a = b) → Xp 184 d 1188 ls st t g Q)) := xr_if2 (cd := .eq) (off := 5) (by decide +kernel) (by decide)
theorem x_184_1188 : Xp 184 d 1188 ls st t g Q = Xp 184 d 1189 ls ((0, 0) :: st) t g Q := xr_const (c := 0) (by decide +kernel) (by decide)
theorem x_184_1189 : Xp 184 d 1189 ls [(0, x)] t g Q = ((x = 0 ∨ x = 1) ∧ Q (some (0, x)) t g) := xr_retZ (by decide +kernel) (by decide +kernel)
theorem x_184_1190 : Xp 184 d 1190 [v0, v1, v2, (0, x)] st t g Q = (hkP1 v2 ∧ Xp 184 d 1193 [v0, v1, v2, (0, hkW (x + 7))] st t g Q) := Xp_chk (i := .iinc 3 (7)) (len := 3) (by decide +kernel) rfl
theorem x_184_1193 : Xp 184 d 1193 ls st t g Q = Xp 184 d 18 ls st t g Q := xr_goto (off := -1175) (by decide +kernel) (by decide)
theorem x_184_1196 : Xp 184 d 1196 ls st t g Q = Xp 184 d 1197 ls ((0, 1) :: st) t g Q := xr_const (c := 1) (by decide +kernel) (by decide)
theorem x_184_1197 : Xp 184 d 1197 ls [(0, x)] t g Q = ((x = 0 ∨ x = 1) ∧ Q (some (0, x)) t g) := xr_retZ (by decide +kernel) (by decide +kernel)
end XROWS
