/-! THE PURE MACHINE: whole numbers, places, one memory; made so that a run of it is a run of the machine (part 04 and on) -/
def hkW (x : Int) : Int := Int.bmod x 4294967296
def hkL (x : Int) : Int := Int.bmod x 18446744073709551616
/-- where, locals, stack, how many of the constructors' events have been, memory -/
abbrev hkC : Type := Nat × List hkV × List hkV × Nat × hkG
/-- a call: method, arguments, where it goes on, locals, the stack below -/
abbrev hkK : Type := Nat × List hkV × Nat × List hkV × List hkV
abbrev hkO : Type := Option (hkC ⊕ (hkK ⊕ Option hkV))
def hkU : hkV := (9, 0)
def hkAT (p k : Nat) : Nat := match hkEV.findIdx? (fun e => e.1 == 1 && (e.2.1 == p && e.2.2.1 == k)) with
  | some i => i + 1
  | none => 9999
def hkRF (p k : Nat) : Nat := match hkEV.find? (fun e => e.1 == 1 && (e.2.1 == p && e.2.2.1 == k)) with
  | some e => e.2.2.2
  | none => 0
def hkNX (t : Nat) : Nat := ((hkEV.take t).filter (fun e => e.1 == 0)).length
def hkKd (p : Nat) : Nat := (hkPl.getD p (999, 0)).1
def hkLn (p : Nat) : Nat := (hkPl.getD p (999, 0)).2
def hkNS (t : Nat) : Nat := ((hkPl.take (hkNX t)).map (fun q => q.2)).sum
def hkJK (p : Int) : Nat := if p < 0 then 999 else hkKd p.toNat
def hkSet (g : hkG) (p i v : Int) : hkG := fun q j => if q = p ∧ j = i then v else g q j
def hkCpy (g : hkG) (p i q j n : Int) : hkG := fun r k => if r = q ∧ j ≤ k ∧ k < j + n then g p (i + (k - j)) else g r k
def hkPush (r : Option hkV) (st : List hkV) : List hkV := match r with
  | some v => v :: st
  | none => st
def hkP1 (v : hkV) : Prop := v.1 ≠ 1
def hkPv (ls : List hkV) (i : Nat) : Prop := match i with
  | 0 => True
  | k + 1 => hkP1 (ls.getD k hkU)
def hkAnd (a b : Int) : Int := (Int32.ofInt a &&& Int32.ofInt b).toInt
def hkOr (a b : Int) : Int := (Int32.ofInt a ||| Int32.ofInt b).toInt
def hkXor (a b : Int) : Int := (Int32.ofInt a ^^^ Int32.ofInt b).toInt
def hkShl (a b : Int) : Int := (Int32.ofInt a <<< (Int32.ofInt b &&& 31)).toInt
def hkShr (a b : Int) : Int := (Int32.ofInt a >>> (Int32.ofInt b &&& 31)).toInt
def hkUsh (a b : Int) : Int := ((Int32.ofInt a).toUInt32 >>> ((Int32.ofInt b).toUInt32 &&& Int32.toUInt32 31)).toInt32.toInt
def hkCmp (a b : Int) : Int := if a < b then -1 else if a = b then 0 else 1
def hkHolds (c : ClassFile.Cond) (a b : Int) : Prop := match c with
  | .eq => a = b
  | .ne => a ≠ b
  | .lt => a < b
  | .ge => b ≤ a
  | .gt => b < a
  | .le => a ≤ b
def hkGo (pc : Nat) (ls st : List hkV) (t : Nat) (g : hkG) : hkO := some (.inl (pc, ls, st, t, g))
noncomputable def hkChk (c : Prop) (r : hkO) : hkO := @ite _ c (Classical.propDecidable c) r none
noncomputable def hkBr (c : Prop) (a b : hkO) : hkO := @ite _ c (Classical.propDecidable c) a b
def hkLen : Instr → Nat
  | .tableswitch _ _ _ _ => 0
  | .bipush _ => 2
  | .iload _ => 2
  | .lload _ => 2
  | .aload _ => 2
  | .istore _ => 2
  | .lstore _ => 2
  | .astore _ => 2
  | .ldc _ => 2
  | .newarray _ => 2
  | .sipush _ => 3
  | .iinc _ _ => 3
  | .getfield _ => 3
  | .putfield _ => 3
  | .invokevirtual _ => 3
  | .invokespecial _ => 3
  | .invokestatic _ => 3
  | .new _ => 3
  | .anewarray _ => 3
  | .ifCond _ _ => 3
  | .if_icmp _ _ => 3
  | .goto _ => 3
  | .ldc_w _ => 3
  | .ldc2_w _ => 3
  | _ => 1
def hkFetch (y pc : Nat) : Option (Instr × Nat) := match decode (hkB y) pc with
  | .ok (i, n) => if hkLen i = n ∨ hkLen i = 0 then some (i, n) else none
  | _ => none
def hkFind (l : List (Nat × Nat × Nat × List Nat)) (own idx : Nat) : Option Nat := (l.find? (fun q => q.1 == own && q.2.1 == idx)).map (fun q => q.2.2.1)
def hkFld (own idx : Nat) : Option (Nat × Nat) := (hkFL.find? (fun q => q.1 == own && q.2.1 == idx)).map (fun q => (q.2.2.1, q.2.2.2.1))
def hkCls (own idx : Nat) : Option Nat := (hkCN.find? (fun q => q.1 == own && q.2.1 == idx)).map (fun q => q.2.2.1)
def hkCst (own idx : Nat) : Option Int := (hkKI.find? (fun q => q.1 == own && q.2.1 == idx)).map (fun q => q.2.2.1)
def hkCsl (own idx : Nat) : Option Int := (hkKJ.find? (fun q => q.1 == own && q.2.1 == idx)).map (fun q => q.2.2.1)
def hkPop : List Nat → List hkV → Option (List hkV × List hkV)
  | [], st => some ([], st)
  | _ :: _, [] => none
  | tg :: r, v :: st => if v.1 = tg then (match hkPop r st with
    | some (as, st2) => some (as ++ [v], st2)
    | none => none) else none
def hkCat (v : hkV) : Nat := if v.1 = 1 then 2 else 1
def hkEnt (n : Nat) (as : List hkV) : List hkV :=
  let l := as.flatMap (fun v => if v.1 = 1 then [v, hkU] else [v])
  l ++ List.replicate (n - l.length) hkU
def hkInv (y' pc : Nat) (ls st : List hkV) : hkO := match hkPop (hkTg y').reverse st with
  | some (as, rest) => if (rest.map hkCat).sum ≤ 8 then some (.inr (.inl (y', as, pc, ls, rest))) else none
  | none => none
def hkFst (as : List hkV) : Int := match as with
  | v :: _ => v.2
  | [] => -1
noncomputable def hkInvV (y' pc : Nat) (ls st : List hkV) : hkO := match hkPop (hkTg y').reverse st with
  | some (as, rest) => hkChk (hkJK (hkFst as) = hkOwn y') (if (rest.map hkCat).sum ≤ 8 then some (.inr (.inl (y', as, pc, ls, rest))) else none)
  | none => none
def hkAtC : ArrayType → Nat
  | .int => 100
  | .long => 101
  | .boolean => 102
  | _ => 998
noncomputable def hkGetf (y idx pc : Nat) (ls st : List hkV) (t : Nat) (g : hkG) : hkO := match st, hkFld (hkOwn y) idx with
  | (2, p) :: st, some (ci, k) => hkChk (hkJK p = ci) (if hkFT ci k = 2 then hkChk (hkAT p.toNat k ≤ t) (hkGo pc ls ((2, (hkRF p.toNat k : Int)) :: st) t g) else hkGo pc ls ((0, g p k) :: st) t g)
  | _, _ => none
noncomputable def hkPutf (y idx pc : Nat) (ls st : List hkV) (t : Nat) (g : hkG) : hkO := match st, hkFld (hkOwn y) idx with
  | (0, x) :: (2, p) :: st, some (ci, k) => hkChk (hkJK p = ci) (if hkFT ci k = 0 then hkGo pc ls st t (hkSet g p k x) else if hkFT ci k = 3 then hkChk (x = 0 ∨ x = 1) (hkGo pc ls st t (hkSet g p k x)) else none)
  | (2, v) :: (2, p) :: st, some (ci, k) => if hkFT ci k = 2 then hkChk (hkJK p = ci ∧ hkOwn y = ci ∧ (hkN y).name = "<init>" ∧ hkEV[t]? = some (1, p.toNat, k, v.toNat)) (hkGo pc ls st (t + 1) g) else none
  | _, _ => none
noncomputable def hkNew (kd pc : Nat) (n : Option Int) (ls st : List hkV) (t : Nat) (g : hkG) : hkO := match hkEV[t]? with
  | some (0, p, _, _) => hkChk (hkKd p = kd ∧ (∀ x ∈ n, x = (hkLn p : Int))) (hkGo pc ls ((2, (p : Int)) :: st) (t + 1) g)
  | _ => none
noncomputable def hkSt (i k pc : Nat) (ls : List hkV) (v : hkV) (st : List hkV) (t : Nat) (g : hkG) : hkO :=
  if i + k < ls.length then hkChk (hkPv ls i) (hkGo pc (if k = 0 then ls.set i v else (ls.set i v).set (i + 1) hkU) st t g) else none
def hkLd (tg i pc : Nat) (ls st : List hkV) (t : Nat) (g : hkG) : hkO := match ls[i]? with
  | some v => if v.1 = tg then hkGo pc ls (v :: st) t g else none
  | none => none
def hkLdA (i pc : Nat) (ls st : List hkV) (t : Nat) (g : hkG) : hkO := match ls[i]? with
  | some v => if v.1 = 2 ∨ v.1 = 4 then hkGo pc ls (v :: st) t g else none
  | none => none
noncomputable def hkAld (kd tg pc : Nat) (ls st : List hkV) (t : Nat) (g : hkG) : hkO := match st with
  | (0, i) :: (2, p) :: st => hkChk (hkJK p = kd ∧ 0 ≤ i ∧ i < (hkLn p.toNat : Int)) (hkGo pc ls ((tg, g p i) :: st) t g)
  | (0, i) :: (4, _) :: st => if kd = 100 then hkChk (0 ≤ i ∧ i < g (-2) 0) (hkGo pc ls ((0, g (-1) i) :: st) t g) else none
  | _ => none
noncomputable def hkAst (kd tg pc : Nat) (ls st : List hkV) (t : Nat) (g : hkG) : hkO := match st with
  | (tg2, x) :: (0, i) :: (2, p) :: st => if tg2 = tg then hkChk (hkJK p = kd ∧ (kd = 102 → x = 0 ∨ x = 1) ∧ 0 ≤ i ∧ i < (hkLn p.toNat : Int)) (hkGo pc ls st t (hkSet g p i x)) else none
  | _ => none
noncomputable def hkTgt (pc : Nat) (off : Int) (ls st : List hkV) (t : Nat) (g : hkG) : hkO := if 0 ≤ (pc : Int) + off then hkGo ((pc : Int) + off).toNat ls st t g else none
noncomputable def hkBin (f : Int → Int → Int) (pc : Nat) (ls st : List hkV) (t : Nat) (g : hkG) : hkO := match st with
  | (0, b) :: (0, a) :: st => hkGo pc ls ((0, f a b) :: st) t g
  | _ => none
noncomputable def hkBinL (f : Int → Int → Int) (pc : Nat) (ls st : List hkV) (t : Nat) (g : hkG) : hkO := match st with
  | (1, b) :: (1, a) :: st => hkGo pc ls ((1, f a b) :: st) t g
  | _ => none
noncomputable def hkUn (tg tg2 : Nat) (f : Int → Int) (pc : Nat) (ls st : List hkV) (t : Nat) (g : hkG) : hkO := match st with
  | (tg1, a) :: st => if tg1 = tg then hkGo pc ls ((tg2, f a) :: st) t g else none
  | _ => none
noncomputable def hkSw (x : Int) (dflt lo hi : Int) (offs : Array Int) : Option Int := if x < lo ∨ hi < x then some dflt else offs[(x - lo).toNat]?
noncomputable def hkPx (y : Nat) (i : Instr) (n : Nat) (c : hkC) : hkO := match c with
  | (pc, ls, st, t, g) => match i with
    | .iconst x => hkGo (pc + n) ls ((0, hkW x) :: st) t g
    | .bipush x => hkGo (pc + n) ls ((0, Int.bmod x 256) :: st) t g
    | .sipush x => hkGo (pc + n) ls ((0, Int.bmod x 65536) :: st) t g
    | .lconst x => hkGo (pc + n) ls ((1, ((x : Nat) : Int)) :: st) t g
    | .ldc idx => (match hkCst (hkOwn y) idx with
      | some v => hkGo (pc + n) ls ((0, v) :: st) t g
      | none => none)
    | .ldc_w idx => (match hkCst (hkOwn y) idx with
      | some v => hkGo (pc + n) ls ((0, v) :: st) t g
      | none => none)
    | .ldc2_w idx => (match hkCsl (hkOwn y) idx with
      | some v => hkGo (pc + n) ls ((1, v) :: st) t g
      | none => none)
    | .iload k => hkLd 0 k (pc + n) ls st t g
    | .iload_n k => hkLd 0 (k : Nat) (pc + n) ls st t g
    | .lload k => hkLd 1 k (pc + n) ls st t g
    | .lload_n k => hkLd 1 (k : Nat) (pc + n) ls st t g
    | .aload k => hkLdA k (pc + n) ls st t g
    | .aload_n k => hkLdA (k : Nat) (pc + n) ls st t g
    | .istore k => (match st with
      | (0, x) :: st => hkSt k 0 (pc + n) ls (0, x) st t g
      | _ => none)
    | .istore_n k => (match st with
      | (0, x) :: st => hkSt (k : Nat) 0 (pc + n) ls (0, x) st t g
      | _ => none)
    | .lstore k => (match st with
      | (1, x) :: st => hkSt k 1 (pc + n) ls (1, x) st t g
      | _ => none)
    | .lstore_n k => (match st with
      | (1, x) :: st => hkSt (k : Nat) 1 (pc + n) ls (1, x) st t g
      | _ => none)
    | .astore k => (match st with
      | (2, x) :: st => hkSt k 0 (pc + n) ls (2, x) st t g
      | _ => none)
    | .astore_n k => (match st with
      | (2, x) :: st => hkSt (k : Nat) 0 (pc + n) ls (2, x) st t g
      | _ => none)
    | .iinc k x => (match ls[k]? with
      | some (0, a) => hkSt k 0 (pc + n) ls (0, hkW (a + x)) st t g
      | _ => none)
    | .iadd => hkBin (fun a b => hkW (a + b)) (pc + n) ls st t g
    | .isub => hkBin (fun a b => hkW (a - b)) (pc + n) ls st t g
    | .imul => hkBin (fun a b => hkW (a * b)) (pc + n) ls st t g
    | .iand => hkBin hkAnd (pc + n) ls st t g
    | .ior => hkBin hkOr (pc + n) ls st t g
    | .ixor => hkBin hkXor (pc + n) ls st t g
    | .ishl => hkBin hkShl (pc + n) ls st t g
    | .ishr => hkBin hkShr (pc + n) ls st t g
    | .iushr => hkBin hkUsh (pc + n) ls st t g
    | .idiv => (match st with
      | (0, b) :: (0, a) :: st => hkChk (b ≠ 0) (hkGo (pc + n) ls ((0, hkW (a.tdiv b)) :: st) t g)
      | _ => none)
    | .irem => (match st with
      | (0, b) :: (0, a) :: st => hkChk (b ≠ 0) (hkGo (pc + n) ls ((0, a.tmod b) :: st) t g)
      | _ => none)
    | .ineg => hkUn 0 0 (fun a => hkW (-a)) (pc + n) ls st t g
    | .lneg => hkUn 1 1 (fun a => hkL (-a)) (pc + n) ls st t g
    | .i2l => hkUn 0 1 (fun a => a) (pc + n) ls st t g
    | .l2i => hkUn 1 0 (fun a => hkW a) (pc + n) ls st t g
    | .i2s => hkUn 0 0 (fun a => Int.bmod a 65536) (pc + n) ls st t g
    | .ladd => hkBinL (fun a b => hkL (a + b)) (pc + n) ls st t g
    | .lmul => hkBinL (fun a b => hkL (a * b)) (pc + n) ls st t g
    | .lrem => (match st with
      | (1, b) :: (1, a) :: st => hkChk (b ≠ 0) (hkGo (pc + n) ls ((1, a.tmod b) :: st) t g)
      | _ => none)
    | .lcmp => (match st with
      | (1, b) :: (1, a) :: st => hkGo (pc + n) ls ((0, hkCmp a b) :: st) t g
      | _ => none)
    | .ifCond cd off => (match st with
      | (0, a) :: st => if 0 ≤ (pc : Int) + off then hkBr (hkHolds cd a 0) (hkGo ((pc : Int) + off).toNat ls st t g) (hkGo (pc + n) ls st t g) else none
      | _ => none)
    | .if_icmp cd off => (match st with
      | (0, b) :: (0, a) :: st => if 0 ≤ (pc : Int) + off then hkBr (hkHolds cd a b) (hkGo ((pc : Int) + off).toNat ls st t g) (hkGo (pc + n) ls st t g) else none
      | _ => none)
    | .goto off => hkTgt pc off ls st t g
    | .tableswitch dflt lo hi offs => (match st with
      | (0, a) :: st => (match hkSw a dflt lo hi offs with
        | some off => hkTgt pc off ls st t g
        | none => none)
      | _ => none)
    | .dup => (match st with
      | v :: st => hkChk (hkP1 v) (hkGo (pc + n) ls (v :: v :: st) t g)
      | _ => none)
    | .dup2 => (match st with
      | v :: w :: st => hkChk (hkP1 v ∧ hkP1 w) (hkGo (pc + n) ls (v :: w :: v :: w :: st) t g)
      | _ => none)
    | .arraylength => (match st with
      | (2, p) :: st => hkChk (100 ≤ hkJK p ∧ hkJK p ≤ 104) (hkGo (pc + n) ls ((0, (hkLn p.toNat : Int)) :: st) t g)
      | (4, _) :: st => hkGo (pc + n) ls ((0, g (-2) 0) :: st) t g
      | _ => none)
    | .iaload => hkAld 100 0 (pc + n) ls st t g
    | .laload => hkAld 101 1 (pc + n) ls st t g
    | .baload => hkAld 102 0 (pc + n) ls st t g
    | .aaload => (match st with
      | (0, i) :: (2, p) :: st => hkChk (103 ≤ hkJK p ∧ hkJK p ≤ 104 ∧ 0 ≤ i ∧ i < (hkLn p.toNat : Int) ∧ hkAT p.toNat i.toNat ≤ t) (hkGo (pc + n) ls ((2, (hkRF p.toNat i.toNat : Int)) :: st) t g)
      | _ => none)
    | .iastore => hkAst 100 0 (pc + n) ls st t g
    | .lastore => hkAst 101 1 (pc + n) ls st t g
    | .bastore => hkAst 102 0 (pc + n) ls st t g
    | .aastore => (match st with
      | (2, v) :: (0, i) :: (2, p) :: st => hkChk (((hkJK p = 103 ∧ hkJK v = 7) ∨ (hkJK p = 104 ∧ hkJK v = 9)) ∧ 0 ≤ i ∧ i < (hkLn p.toNat : Int) ∧ hkEV[t]? = some (1, p.toNat, i.toNat, v.toNat)) (hkGo (pc + n) ls st (t + 1) g)
      | _ => none)
    | .new idx => (match hkCls (hkOwn y) idx with
      | some ci => if ci < 11 then hkNew ci (pc + n) none ls st t g else none
      | none => none)
    | .newarray ty => (match st with
      | (0, x) :: st => if hkAtC ty < 200 then hkNew (hkAtC ty) (pc + n) (some x) ls st t g else none
      | _ => none)
    | .anewarray idx => (match st, hkCls (hkOwn y) idx with
      | (0, x) :: st, some 7 => hkNew 103 (pc + n) (some x) ls st t g
      | (0, x) :: st, some 9 => hkNew 104 (pc + n) (some x) ls st t g
      | _, _ => none)
    | .getfield idx => hkGetf y idx (pc + n) ls st t g
    | .putfield idx => hkPutf y idx (pc + n) ls st t g
    | .invokevirtual idx => (match hkFind hkCT0 (hkOwn y) idx with
      | some y' => hkInvV y' (pc + n) ls st
      | none => none)
    | .invokespecial idx => (match hkFind hkCT1 (hkOwn y) idx with
      | some y' => hkInv y' (pc + n) ls st
      | none => match hkFind hkCT3 (hkOwn y) idx with
        | some y' => hkInv y' (pc + n) ls st
        | none => match hkFind hkCT4 (hkOwn y) idx, st with
          | some _, (2, _) :: st => if (st.map hkCat).sum ≤ 8 then hkGo (pc + n) ls st t g else none
          | _, _ => none)
    | .invokestatic idx => (match hkFind hkCT2 (hkOwn y) idx with
      | some y' => hkInv y' (pc + n) ls st
      | none => match hkFind hkCT5 (hkOwn y) idx, st with
        | some _, (0, k) :: (0, j) :: (2, q) :: (0, i) :: (2, p) :: st => hkChk (hkJK p = 100 ∧ hkJK q = 100 ∧ 0 ≤ i ∧ 0 ≤ j ∧ 0 ≤ k ∧ i + k ≤ (hkLn p.toNat : Int) ∧ j + k ≤ (hkLn q.toNat : Int)) (if (st.map hkCat).sum ≤ 8 then hkGo (pc + n) ls st t (hkCpy g p i q j k) else none)
        | _, _ => none)
    | .ireturn => (match st with
      | [(0, x)] => if hkRt y = 0 then some (.inr (.inr (some (0, x)))) else if hkRt y = 3 then hkChk (x = 0 ∨ x = 1) (some (.inr (.inr (some (0, x))))) else none
      | _ => none)
    | .lreturn => (match st with
      | [(1, x)] => if hkRt y = 1 then some (.inr (.inr (some (1, x)))) else none
      | _ => none)
    | .return_ => (match st with
      | [] => if hkRt y = 9 then some (.inr (.inr none)) else none
      | _ => none)
    | _ => none
noncomputable def hkRun : Nat → Nat → Nat → hkC → Option (Option hkV × Nat × hkG)
  | 0, _, _, _ => none
  | n + 1, d, y, c => match hkFetch y c.1 with
    | none => none
    | some (i, len) => match hkPx y i len c with
      | none => none
      | some (.inl c') => hkRun n d y c'
      | some (.inr (.inl (y', as, pc, ls, st))) => (match d with
        | 0 => none
        | d + 1 => match hkRun n d y' (0, hkEnt (hkX y') as, [], c.2.2.2.1, c.2.2.2.2) with
          | none => none
          | some (r, t, g) => hkRun n (d + 1) y (pc, ls, hkPush r st, t, g))
      | some (.inr (.inr r)) => some (r, c.2.2.2.1, c.2.2.2.2)
