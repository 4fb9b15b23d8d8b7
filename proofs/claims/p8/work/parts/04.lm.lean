/-! LM, part 4: a light machine over the same code. A value: an int, a long, or a cell's number (0 null, -1 the text, -2 the script). The heap: what was written, the last first; what was never written is 0. -/
abbrev LL : Type := List (Option LV)
abbrev LH : Type := List (Int × Int × Int)
def rd : LH → Int → Int → Int
  | [], _, _ => 0
  | (b, j, v) :: t, a, i => if b = a ∧ j = i then v else rd t a i
def wr (h : LH) (a i v : Int) : LH := (a, i, v) :: h
theorem rd_wr (h : LH) (a i v b j : Int) : rd (wr h a i v) b j = if a = b ∧ i = j then v else rd h b j := rfl
def isL (v : LV) : Bool := match v with
  | .inr (.inl _) => true
  | _ => false
def vcat (v : LV) : Nat := if isL v then 2 else 1
def lcat (st : List LV) : Nat := (st.map vcat).sum
-- locals
def lget (ls : LL) (i : Nat) : Option LV := (ls[i]?).join
def lkill (ls : LL) (i : Nat) : LL := match i with
  | 0 => ls
  | j + 1 => match lget ls j with
    | some v => if isL v then ls.set j none else ls
    | none => ls
def lst (ls : LL) (i : Nat) (v : LV) : LL := if isL v then ((lkill ls i).set i (some v)).set (i + 1) none else (lkill ls i).set i (some v)
def lent : List LV → LL
  | [] => []
  | v :: r => if isL v then some v :: none :: lent r else some v :: lent r
def lpad (n : Nat) (ls : LL) : LL := ls ++ List.replicate (n - ls.length) none
-- what reads and makes values alone
def lmA (i : Instr) (st : List LV) : Option (List LV) := match i with
  | .iconst v => if -1 ≤ v ∧ v ≤ 5 then some (.inl v :: st) else none
  | .bipush v => if -128 ≤ v ∧ v ≤ 127 then some (.inl v :: st) else none
  | .sipush v => if -32768 ≤ v ∧ v ≤ 32767 then some (.inl v :: st) else none
  | .lconst v => some (.inr (.inl (v.val : Int)) :: st)
  | .iadd => match st with | .inl b :: .inl a :: r => some (.inl (w32 (a + b)) :: r) | _ => none
  | .isub => match st with | .inl b :: .inl a :: r => some (.inl (w32 (a - b)) :: r) | _ => none
  | .imul => match st with | .inl b :: .inl a :: r => some (.inl (w32 (a * b)) :: r) | _ => none
  | .idiv => match st with | .inl b :: .inl a :: r => if b = 0 then none else some (.inl (w32 (a.tdiv b)) :: r) | _ => none
  | .irem => match st with | .inl b :: .inl a :: r => if b = 0 then none else some (.inl (w32 (a - w32 (w32 (a.tdiv b) * b))) :: r) | _ => none
  | .ineg => match st with | .inl a :: r => some (.inl (w32 (-a)) :: r) | _ => none
  | .iand => match st with | .inl b :: .inl a :: r => some (.inl (zand a b) :: r) | _ => none
  | .ior => match st with | .inl b :: .inl a :: r => some (.inl (zor a b) :: r) | _ => none
  | .ixor => match st with | .inl b :: .inl a :: r => some (.inl (zxor a b) :: r) | _ => none
  | .ishl => match st with | .inl b :: .inl a :: r => some (.inl (zshl a b) :: r) | _ => none
  | .ishr => match st with | .inl b :: .inl a :: r => some (.inl (zshr a b) :: r) | _ => none
  | .iushr => match st with | .inl b :: .inl a :: r => some (.inl (zushr a b) :: r) | _ => none
  | .ladd => match st with | .inr (.inl b) :: .inr (.inl a) :: r => some (.inr (.inl (w64 (a + b))) :: r) | _ => none
  | .lsub => match st with | .inr (.inl b) :: .inr (.inl a) :: r => some (.inr (.inl (w64 (a - b))) :: r) | _ => none
  | .lmul => match st with | .inr (.inl b) :: .inr (.inl a) :: r => some (.inr (.inl (w64 (a * b))) :: r) | _ => none
  | .ldiv => match st with | .inr (.inl b) :: .inr (.inl a) :: r => if b = 0 then none else some (.inr (.inl (w64 (a.tdiv b))) :: r) | _ => none
  | .lrem => match st with | .inr (.inl b) :: .inr (.inl a) :: r => if b = 0 then none else some (.inr (.inl (w64 (a - w64 (w64 (a.tdiv b) * b)))) :: r) | _ => none
  | .land => match st with | .inr (.inl b) :: .inr (.inl a) :: r => some (.inr (.inl (land_ a b)) :: r) | _ => none
  | .lor => match st with | .inr (.inl b) :: .inr (.inl a) :: r => some (.inr (.inl (lor_ a b)) :: r) | _ => none
  | .lshl => match st with | .inl b :: .inr (.inl a) :: r => some (.inr (.inl (lshl_ a b)) :: r) | _ => none
  | .lshr => match st with | .inl b :: .inr (.inl a) :: r => some (.inr (.inl (lshr_ a b)) :: r) | _ => none
  | .lushr => match st with | .inl b :: .inr (.inl a) :: r => some (.inr (.inl (lushr_ a b)) :: r) | _ => none
  | .lcmp => match st with | .inr (.inl b) :: .inr (.inl a) :: r => some (.inl (lcmp_ a b) :: r) | _ => none
  | .i2l => match st with | .inl a :: r => some (.inr (.inl a) :: r) | _ => none
  | .l2i => match st with | .inr (.inl a) :: r => some (.inl (w32 a) :: r) | _ => none
  | .i2b => match st with | .inl a :: r => some (.inl ((Int32.ofInt a).toInt8.toInt32.toInt) :: r) | _ => none
  | .i2c => match st with | .inl a :: r => some (.inl (((Int32.ofInt a).toUInt32 % 65536).toInt32.toInt) :: r) | _ => none
  | .dup => match st with | a :: r => if isL a then none else some (a :: a :: r) | _ => none
  | .pop => match st with | a :: r => if isL a then none else some r | _ => none
  | .dup2 => match st with | b :: a :: r => if isL a || isL b then none else some (b :: a :: b :: a :: r) | _ => none
  | _ => none
-- constants of the pool
def STRL : List Int := [114, 111, 111, 109, 115, 32, 100, 111, 111, 114, 32, 116, 111, 32, 111, 112, 101, 110, 32, 102, 111, 114, 32, 104, 111, 108, 100, 115, 32, 112, 114, 105, 99, 101, 32, 112, 101, 114, 115, 111, 110, 32, 97, 116, 32, 101, 114, 114, 97, 110, 100, 32, 98, 121, 32, 108, 101, 116, 32, 103, 111, 32, 104, 111, 117, 114, 32, 112, 108, 97, 105, 110, 32, 116, 117, 114, 110, 105, 110, 103, 32, 104, 105, 110, 103, 101, 32, 98, 108, 97, 110, 107, 32, 116, 101, 110, 97, 110, 116, 32, 115, 111, 108, 100, 105, 101, 114, 32, 99, 104, 105, 108, 100, 32, 99, 97, 116, 32, 110, 111, 116, 32, 97, 110, 100, 32, 111, 114, 32, 116, 105, 109, 101, 32, 115, 111, 114, 116, 32, 99, 111, 115, 116, 32, 114, 111, 111, 109, 32]
def lmC (o : Nat) (i : Instr) : Option LV := match i with
  | .ldc x => if o = 7 ∧ x = 19 then some (.inr (.inr (-1))) else ((CT o).find? (fun q => q.1 == x)).map (fun q => .inl q.2.1)
  | .ldc_w x => ((CT o).find? (fun q => q.1 == x)).map (fun q => .inl q.2.1)
  | .ldc2_w x => ((CLT o).find? (fun q => q.1 == x)).map (fun q => .inr (.inl q.2.1))
  | _ => none
-- locals
def isI (v : LV) : Bool := match v with
  | .inl _ => true
  | _ => false
def isR (v : LV) : Bool := match v with
  | .inr (.inr _) => true
  | _ => false
def lmLd (i : Instr) (ls : LL) : Option LV := match i with
  | .iload k => (lget ls k).filter isI
  | .iload_n k => (lget ls k.val).filter isI
  | .lload k => (lget ls k).filter isL
  | .lload_n k => (lget ls k.val).filter isL
  | .aload k => (lget ls k).filter isR
  | .aload_n k => (lget ls k.val).filter isR
  | _ => none
def lmSt (i : Instr) (v : LV) : Option Nat := match i with
  | .istore k => if isI v then some k else none
  | .istore_n k => if isI v then some k.val else none
  | .lstore k => if isL v then some k else none
  | .lstore_n k => if isL v then some k.val else none
  | .astore k => if isR v then some k else none
  | .astore_n k => if isR v then some k.val else none
  | _ => none
def lmInc (i : Instr) (ls : LL) : Option LL := match i with
  | .iinc k n => match lget ls k with
    | some (.inl x) => if -32768 ≤ n ∧ n ≤ 32767 then some (lst ls k (.inl (w32 (x + n)))) else none
    | _ => none
  | _ => none
-- jumps: the new place and stack
def cnd (c : ClassFile.Cond) (a b : Int) : Bool := match c with
  | .eq => decide (a = b)
  | .ne => decide (a ≠ b)
  | .lt => decide (a < b)
  | .ge => decide (b ≤ a)
  | .gt => decide (b < a)
  | .le => decide (a ≤ b)
def lmJ (i : Instr) (pc len : Nat) (st : List LV) : Option (Int × List LV) := match i with
  | .goto off => some (pc + off, st)
  | .ifCond c off => match st with | .inl a :: r => if 0 ≤ (pc : Int) + off then some (if cnd c a 0 then ((pc : Int) + off, r) else ((pc : Int) + len, r)) else none | _ => none
  | .if_icmp c off => match st with | .inl b :: .inl a :: r => if 0 ≤ (pc : Int) + off then some (if cnd c a b then ((pc : Int) + off, r) else ((pc : Int) + len, r)) else none | _ => none
  | .tableswitch d lo hi offs => match st with
    | .inl x :: r => if x < lo ∨ hi < x then some (pc + d, r) else match offs[(x - lo).toNat]? with
      | some f => some (pc + f, r)
      | none => none
    | _ => none
  | .lookupswitch d ps => match st with
    | .inl x :: r => if (ps.toList.zip (ps.toList.drop 1)).all (fun (a, b) => a.1 < b.1) then some (pc + Op.lookupswitch.offset ps.toList d x, r) else none
    | _ => none
  | _ => none
-- cells
def mkv (k : Nat) (x : Int) : LV := match k with
  | 1 => .inr (.inl x)
  | 2 => .inr (.inr x)
  | _ => .inl x
def fld (o x : Nat) : Option (Nat × Nat) := ((FT o).find? (fun q => q.1 == x)).map (fun q => (q.2.1, q.2.2.1))
def isO (n : Nat) (a : Int) (c : Nat) : Bool := decide (1 ≤ a) && decide (a ≤ n) && (lay a.toNat).1 == 0 && (lay a.toNat).2.1 == c
def isA (n : Nat) (a : Int) (k : Nat) : Bool := decide (1 ≤ a) && decide (a ≤ n) && (lay a.toNat).1 == k
def inA (a i : Int) : Bool := decide (0 ≤ i) && decide (i < ((lay a.toNat).2.2 : Int))
def fin (c k : Nat) : Bool := match zcl[c]? with
  | some q => (q.2.1 k).2.2.2
  | none => true
/-- what may be kept in a place of that kind -/
def okk (k : Nat) (v : LV) : Option Int := match k, v with
  | 0, .inl x => some x
  | 1, .inr (.inl x) => some x
  | 2, .inr (.inr x) => if 0 ≤ x then some x else none
  | 3, .inl x => if x = 0 ∨ x = 1 then some x else none
  | _, _ => none
/-- gets: the new stack -/
def lmG (o n : Nat) (xs : Nat → Int) (xl : Nat) (i : Instr) (st : List LV) (h : LH) : Option (List LV) := match i with
  | .getfield x => match st with
    | .inr (.inr a) :: r => match fld o x with
      | some (c, k) => if isO n a c then some (mkv (fkd c k) (rd h a k) :: r) else none
      | none => none
    | _ => none
  | .iaload => match st with
    | .inl i :: .inr (.inr a) :: r => if a = -2 then (if 0 ≤ i ∧ i < xl then some (.inl (xs i.toNat) :: r) else none) else if isA n a 1 && inA a i then some (.inl (rd h a i) :: r) else none
    | _ => none
  | .laload => match st with
    | .inl i :: .inr (.inr a) :: r => if isA n a 2 && inA a i then some (.inr (.inl (rd h a i)) :: r) else none
    | _ => none
  | .baload => match st with
    | .inl i :: .inr (.inr a) :: r => if (isA n a 3 || isA n a 4) && inA a i then some (.inl (rd h a i) :: r) else none
    | _ => none
  | .aaload => match st with
    | .inl i :: .inr (.inr a) :: r => if isA n a 5 && inA a i then some (.inr (.inr (rd h a i)) :: r) else none
    | _ => none
  | .arraylength => match st with
    | .inr (.inr a) :: r => if a = -2 then some (.inl xl :: r) else if isA n a 1 then some (.inl ((lay a.toNat).2.2 : Int) :: r) else none
    | _ => none
  | _ => none
/-- the text's length and signs; Math's min, max, floorMod -/
def zfm (a b : Int) : Int := if 0 ≤ zxor a b then w32 (a - w32 (w32 (a.tdiv b) * b)) else if w32 (a - w32 (w32 (a.tdiv b) * b)) = 0 then 0 else w32 (w32 (a - w32 (w32 (a.tdiv b) * b)) + b)
def lmX (o : Nat) (i : Instr) (st : List LV) : Option (List LV) := match i with
  | .invokevirtual x => match (PTC o).find? (fun q => q.1 == x) with
    | some q => if q.2.1 = 2 then (match st with
        | .inr (.inr a) :: r => if a = -1 ∧ lcat r ≤ 8 then some (.inl (STRL.length : Int) :: r) else none
        | _ => none)
      else if q.2.1 = 3 then (match st with
        | .inl i :: .inr (.inr a) :: r => if a = -1 ∧ lcat r ≤ 8 ∧ 0 ≤ i ∧ i < (STRL.length : Int) then some (.inl (STRL.getD i.toNat 0) :: r) else none
        | _ => none)
      else none
    | none => none
  | .invokestatic x => match (PTC o).find? (fun q => q.1 == x) with
    | some q => match st with
      | .inl b :: .inl a :: r => if lcat r ≤ 8 then (if q.2.1 = 4 then some (.inl (if b < a then b else a) :: r) else if q.2.1 = 5 then some (.inl (if a < b then b else a) :: r) else if q.2.1 = 6 ∧ b ≠ 0 then some (.inl (zfm a b) :: r) else none) else none
      | _ => none
    | none => none
  | _ => none
/-- puts: the new stack and heap; ini: in a constructor -/
def lmP (o n : Nat) (ini : Bool) (i : Instr) (st : List LV) (h : LH) : Option (List LV × LH) := match i with
  | .putfield x => match st with
    | v :: .inr (.inr a) :: r => match fld o x with
      | some (c, k) => if isO n a c && (!(fin c k) || (ini && o == c)) then (okk (fkd c k) v).map (fun z => (r, wr h a k z)) else none
      | none => none
    | _ => none
  | .iastore => match st with
    | .inl x :: .inl i :: .inr (.inr a) :: r => if isA n a 1 && inA a i then some (r, wr h a i x) else none
    | _ => none
  | .lastore => match st with
    | .inr (.inl x) :: .inl i :: .inr (.inr a) :: r => if isA n a 2 && inA a i then some (r, wr h a i x) else none
    | _ => none
  | .bastore => match st with
    | .inl x :: .inl i :: .inr (.inr a) :: r => if inA a i && ((isA n a 3 && decide (-128 ≤ x ∧ x ≤ 127)) || (isA n a 4 && decide (x = 0 ∨ x = 1))) then some (r, wr h a i x) else none
    | _ => none
  | .aastore => match st with
    | .inr (.inr x) :: .inl i :: .inr (.inr a) :: r => if isA n a 5 && inA a i && isO n x (lay a.toNat).2.1 then some (r, wr h a i x) else none
    | _ => none
  | _ => none
def akd (ty : ArrayType) : Nat := match ty with
  | .int => 1
  | .long => 2
  | .byte => 3
  | .boolean => 4
  | _ => 9
/-- makes: the new stack; a cell more -/
def lmN (o n : Nat) (i : Instr) (st : List LV) : Option (List LV) := match i with
  | .new x => match (KT o).find? (fun q => q.1 == x) with
    | some q => if (lay (n + 1)).1 == 0 && (lay (n + 1)).2.1 == q.2.1 then some (.inr (.inr ((n : Int) + 1)) :: st) else none
    | none => none
  | .newarray ty => match st with
    | .inl m :: r => if decide (m = ((lay (n + 1)).2.2 : Int)) && ((lay (n + 1)).1 == akd ty) then some (.inr (.inr ((n : Int) + 1)) :: r) else none
    | _ => none
  | .anewarray x => match st with
    | .inl m :: r => match (KT o).find? (fun q => q.1 == x) with
      | some q => if decide (m = ((lay (n + 1)).2.2 : Int)) && (lay (n + 1)).1 == 5 && (lay (n + 1)).2.1 == q.2.1 then some (.inr (.inr ((n : Int) + 1)) :: r) else none
      | none => none
    | _ => none
  | _ => none
-- returns
def lmR (ret : Option FieldType) (i : Instr) (st : List LV) : Option (Option LV) := match i with
  | .return_ => match st with | [] => if ret = none then some none else none | _ => none
  | .ireturn => match st with
    | [.inl x] => if ret = some .int then some (some (.inl x)) else if ret = some .boolean ∧ (x = 0 ∨ x = 1) then some (some (.inl x)) else none
    | _ => none
  | .lreturn => match st with | [.inr (.inl x)] => if ret = some .long then some (some (.inr (.inl x))) else none | _ => none
  | _ => none
-- calls: the method, its arguments (the first first), the rest of the stack
def lmK (o n : Nat) (i : Instr) (st : List LV) : Option (Nat × List LV × List LV) :=
  let go (x kind : Nat) : Option (Nat × List LV × List LV) := match (MTC o).find? (fun q => q.1 == x) with
    | some q => match MTB q.2.1 with
      | some M =>
        let np := M.2.2.2.2.2.1
        let st1 := M.2.2.2.2.2.2.1
        if np ≤ st.length ∧ lcat (st.drop np) ≤ 8 ∧ (lent ((st.take np).reverse)).length ≤ M.2.2.1 ∧ st1 = (if kind = 1 then 1 else 0) then
          let as := (st.take np).reverse
          if kind = 1 then (if q.2.2.1 = 0 then some (q.2.1, as, st.drop np) else none)
          else match as with
            | .inr (.inr a) :: _ => if isO n a M.2.2.2.2.1 && (if kind = 2 then M.1.name == "<init>" else !(M.1.name == "<init>") && q.2.2.1 == 0) then some (q.2.1, as, st.drop np) else none
            | _ => none
        else none
      | none => none
    | none => none
  match i with
  | .invokevirtual x => go x 0
  | .invokestatic x => go x 1
  | .invokespecial x => go x 2
  | _ => none
/-- arraycopy within int rows -/
def cpyL (h : LH) (a sp b dp : Int) : Nat → LH
  | 0 => []
  | k + 1 => (b, dp + k, rd h a (sp + k)) :: cpyL h a sp b dp k
/-- calls of what is no row here: Object.<init>, arraycopy -/
def lmQ (o n : Nat) (i : Instr) (st : List LV) (h : LH) : Option (List LV × LH) := match i with
  | .invokespecial x => match (PTC o).find? (fun q => q.1 == x) with
    | some q => if q.2.1 = 0 then (match st with | .inr (.inr a) :: r => if 1 ≤ a ∧ lcat r ≤ 8 then some (r, h) else none | _ => none) else none
    | none => none
  | .invokestatic x => match (PTC o).find? (fun q => q.1 == x) with
    | some q => if q.2.1 = 1 then (match st with
      | .inl m :: .inl dp :: .inr (.inr b) :: .inl sp :: .inr (.inr a) :: r =>
        if isA n a 1 && isA n b 1 && decide (0 ≤ sp ∧ 0 ≤ dp ∧ 0 ≤ m ∧ sp + m ≤ ((lay a.toNat).2.2 : Int) ∧ dp + m ≤ ((lay b.toNat).2.2 : Int)) && decide (lcat r ≤ 8) then some (r, cpyL h a sp b dp m.toNat ++ h) else none
      | _ => none) else none
    | none => none
  | _ => none
/-- how long an instruction is -/
def ilen (i : Instr) (n : Nat) : Bool := match i with
  | .bipush _ => n == 2
  | .sipush _ => n == 3
  | .ldc _ => n == 2
  | .ldc_w _ => n == 3
  | .ldc2_w _ => n == 3
  | .iload _ => n == 2
  | .lload _ => n == 2
  | .aload _ => n == 2
  | .istore _ => n == 2
  | .lstore _ => n == 2
  | .astore _ => n == 2
  | .iinc _ _ => n == 3
  | .goto _ => n == 3
  | .ifCond _ _ => n == 3
  | .if_icmp _ _ => n == 3
  | .tableswitch _ _ _ _ => true
  | .lookupswitch _ _ => true
  | .getfield _ => n == 3
  | .putfield _ => n == 3
  | .invokevirtual _ => n == 3
  | .invokestatic _ => n == 3
  | .invokespecial _ => n == 3
  | .new _ => n == 3
  | .newarray _ => n == 2
  | .anewarray _ => n == 3
  | _ => n == 1
/-- one instruction that is no call of a method with rows, and no return -/
def lmI (o n : Nat) (ini : Bool) (xs : Nat → Int) (xl : Nat) (i : Instr) (pc len : Nat) (ls : LL) (st : List LV) (h : LH) : Option (Nat × LL × List LV × Nat × LH) :=
  match lmA i st with
  | some st' => some (pc + len, ls, st', n, h)
  | none => match lmLd i ls with
  | some v => some (pc + len, ls, v :: st, n, h)
  | none => match lmG o n xs xl i st h with
  | some st' => some (pc + len, ls, st', n, h)
  | none => match lmJ i pc len st with
  | some (t, st') => if 0 ≤ t then some (t.toNat, ls, st', n, h) else none
  | none => match lmInc i ls with
  | some ls' => some (pc + len, ls', st, n, h)
  | none => match lmP o n ini i st h with
  | some (st', h') => some (pc + len, ls, st', n, h')
  | none => match lmC o i with
  | some v => some (pc + len, ls, v :: st, n, h)
  | none => match lmQ o n i st h with
  | some (st', h') => some (pc + len, ls, st', n, h')
  | none => match lmN o n i st with
  | some st' => some (pc + len, ls, st', n + 1, h)
  | none => match lmX o i st with
  | some st' => some (pc + len, ls, st', n, h)
  | none => match st with
  | v :: r => match lmSt i v with
    | some k => if k + (if isL v then 1 else 0) < ls.length then some (pc + len, lst ls k v, r, n, h) else none
    | none => none
  | [] => none
/-- a run: fuel, depth, method, place, locals, stack, cells made, heap -/
def lmRun (xs : Nat → Int) (xl : Nat) : Nat → Nat → LM_M → Nat → LL → List LV → Nat → LH → Option (Option LV × Nat × LH)
  | 0, _, _, _, _, _, _, _ => none
  | f + 1, d, M, pc, ls, st, n, h =>
    match decode M.2.1 pc with
    | .error _ => none
    | .ok (i, len) => if ilen i len = false then none else match lmR M.2.2.2.1 i st with
      | some r => some (r, n, h)
      | none => match lmK M.2.2.2.2.1 n i st with
        | some (k, as, rest) => match d with
          | 0 => none
          | d' + 1 => match MTB k with
            | none => none
            | some M' => match lmRun xs xl f d' M' 0 (lpad M'.2.2.1 (lent as)) [] n h with
              | none => none
              | some (r, n', h') => lmRun xs xl f d M (pc + 3) ls (r.toList ++ rest) n' h'
        | none => match lmI M.2.2.2.2.1 n (M.1.name == "<init>") xs xl i pc len ls st h with
          | none => none
          | some (pc', ls', st', n', h') => lmRun xs xl f d M pc' ls' st' n' h'
