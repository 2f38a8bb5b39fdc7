/-! The small machine: values as the model's, references are numbers of a small heap; one call a level; a room of frames and locals, a room of cells and slots. -/
abbrev mj_C : Type := (Nat × vp_A) ⊕ (Nat × List Value)
abbrev mj_H : Type := List mj_C
abbrev mj_L : Type := List (Nat × Value)
abbrev mj_F : Type := Nat × mj_L × List Value
/-- it returned, or it threw the object of that number -/
abbrev mj_O : Type := Option Value ⊕ Nat
/-- an instruction, its length, what the tables say of it -/
abbrev mj_I : Type := Instr × Nat × List Nat
/-- a method: name, bytes, locals, return type, handlers (from, to, handler, pool entry, class number), number of arguments without the receiver -/
abbrev mj_M : Type := MethodName × ByteArray × Nat × Option FieldType × List (Nat × Nat × Nat × Nat × Nat) × Nat
/-- methods, their rows, a class's fields at birth, its slots -/
abbrev mj_P : Type := (Nat → mj_M) × (Nat → Nat → Option mj_I) × (Nat → List Value) × (Nat → Nat)
abbrev mj_nm (P : mj_P) (k : Nat) : MethodName := (P.1 k).1
abbrev mj_by (P : mj_P) (k : Nat) : ByteArray := (P.1 k).2.1
abbrev mj_ml (P : mj_P) (k : Nat) : Nat := (P.1 k).2.2.1
abbrev mj_rt (P : mj_P) (k : Nat) : Option FieldType := (P.1 k).2.2.2.1
abbrev mj_hd (P : mj_P) (k : Nat) : List (Nat × Nat × Nat × Nat × Nat) := (P.1 k).2.2.2.2.1
abbrev mj_na (P : mj_P) (k : Nat) : Nat := (P.1 k).2.2.2.2.2
def mj_ld (i : Nat) : mj_L → Option Value
  | [] => none
  | q :: r => match Nat.beq q.1 i with
    | true => some q.2
    | false => mj_ld i r
def mj_ins (i : Nat) (v : Value) : mj_L → mj_L
  | [] => [(i, v)]
  | q :: r => match Nat.blt i q.1 with
    | true => (i, v) :: q :: r
    | false => q :: mj_ins i v r
def mj_st1 (i : Nat) (v : Value) (l : mj_L) : mj_L := mj_ins i v (l.filter (fun q => !(q.1 == i) && !(q.1 + 1 == i && q.2.category == 2)))
def mj_st2 (i : Nat) (v : Value) (l : mj_L) : mj_L := mj_ins i v (l.filter (fun q => !(q.1 == i) && (!(q.1 == i + 1) && !(q.1 + 1 == i && q.2.category == 2))))
/-- what stands on the operand stack, in words -/
def mj_w : List Value → Nat
  | [] => 0
  | v :: r => v.category + mj_w r
/-- slots of a cell -/
def mj_cs (P : mj_P) : mj_C → Nat
  | .inl (_, x) => x.1
  | .inr (c, _) => P.2.2.2 c
def mj_sl (P : mj_P) : mj_H → Nat
  | [] => 0
  | c :: r => mj_cs P c + mj_sl P r
/-- array kinds: 0 byte, 1 boolean, 2 char, 3 int, 4 long -/
def mj_ty : Nat → FieldType
  | 0 => .byte
  | 1 => .boolean
  | 2 => .char
  | 3 => .int
  | _ => .long
def mj_ka : ArrayType → Option Nat
  | .byte => some 0
  | .boolean => some 1
  | .char => some 2
  | .int => some 3
  | .long => some 4
  | _ => none
def mj_new (k n : Nat) : vp_A := match k with
  | 4 => (n, .inr (.inl fun _ => 0))
  | _ => (n, .inl fun _ => 0)
def mj_bin : Instr → Int32 → Int32 → Option Int32
  | .iadd, x, y => some (x + y)
  | .isub, x, y => some (x - y)
  | .imul, x, y => some (x * y)
  | .iand, x, y => some (x &&& y)
  | .ior, x, y => some (x ||| y)
  | .ixor, x, y => some (x ^^^ y)
  | .ishl, x, y => some (x <<< (y &&& 31))
  | .ishr, x, y => some (x >>> (y &&& 31))
  | .idiv, x, y => if y = 0 then none else some (x / y)
  | .irem, x, y => if y = 0 then none else some (x % y)
  | _, _, _ => none
def mj_lbin : Instr → Int64 → Int64 → Option Int64
  | .ladd, x, y => some (x + y)
  | .lsub, x, y => some (x - y)
  | .lmul, x, y => some (x * y)
  | .land, x, y => some (x &&& y)
  | .lor, x, y => some (x ||| y)
  | .lxor, x, y => some (x ^^^ y)
  | _, _, _ => none
def mj_lsh : Instr → Int64 → Int32 → Option Int64
  | .lshl, x, y => some (x <<< (y.toInt64 &&& 63))
  | .lshr, x, y => some (x >>> (y.toInt64 &&& 63))
  | .lushr, x, y => some ((x.toUInt64 >>> (y.toInt64.toUInt64 &&& Int64.toUInt64 63)).toInt64)
  | _, _, _ => none
def mj_cmp : ClassFile.Cond → Int32 → Int32 → Bool
  | .eq, x, y => decide (x = y)
  | .ne, x, y => decide (¬ x = y)
  | .lt, x, y => decide (x < y)
  | .ge, x, y => decide (y ≤ x)
  | .gt, x, y => decide (y < x)
  | .le, x, y => decide (x ≤ y)
/-- an index within -/
def mj_ix (i : Int32) (n : Nat) : Option Nat := if i < 0 then none else (if i.toNatClampNeg < n then some i.toNatClampNeg else none)
/-- the array at a reference, of one of two kinds -/
def mj_ar (h : mj_H) (a k1 k2 : Nat) : Option (Nat × vp_A) := match h[a]? with
  | some (.inl (k, x)) => (match Nat.beq k k1 || Nat.beq k k2 with
    | true => some (k, x)
    | false => none)
  | _ => none
def mj_gi (x : vp_A) (j : Nat) : Option Int32 := match x.2 with
  | .inl f => some (f j)
  | _ => none
def mj_gl (x : vp_A) (j : Nat) : Option Int64 := match x.2 with
  | .inr (.inl f) => some (f j)
  | _ => none
/-- what an array of a kind keeps of an int -/
def mj_nw : Nat → Int32 → Int32
  | 0, x => x.toInt8.toInt32
  | 1, x => vp_nar .boolean x
  | 2, x => vp_nar .char x
  | _, x => x
def mj_pi (k : Nat) (x : vp_A) (j : Nat) (v : Int32) : Option vp_A := match x.2 with
  | .inl f => some (x.1, .inl (upd f j (mj_nw k v)))
  | _ => none
def mj_pl (x : vp_A) (j : Nat) (v : Int64) : Option vp_A := match x.2 with
  | .inr (.inl f) => some (x.1, .inr (.inl (vp_updL f j v)))
  | _ => none
/-- a simple step: no call, no return, no throw -/
def mj_sim (P : mj_P) (fr lo cm sm : Nat) (row : mj_I) (pc : Nat) (lv : mj_L) (st : List Value) (h : mj_H) : Option (mj_F × mj_H) :=
  match row.1 with
  | .iconst n => some ((pc + 1, lv, .int (Int32.ofInt n) :: st), h)
  | .bipush n => some ((pc + 2, lv, .int (Int8.ofInt n).toInt32 :: st), h)
  | .sipush n => some ((pc + 3, lv, .int (Int16.ofInt n).toInt32 :: st), h)
  | .lconst n => some ((pc + 1, lv, .long (Int64.ofNat n.val) :: st), h)
  | .ldc _ => (match row.2.2 with
    | [0, n] => some ((pc + 2, lv, .int (Int32.ofNat n) :: st), h)
    | [1, n] => some ((pc + 2, lv, .ref (100000 + n) :: st), h)
    | _ => none)
  | .ldc_w _ => (match row.2.2 with
    | [1, n] => some ((pc + 3, lv, .ref (100000 + n) :: st), h)
    | _ => none)
  | .ldc2_w _ => (match row.2.2 with
    | [n] => some ((pc + 3, lv, .long (Int64.ofNat n) :: st), h)
    | _ => none)
  | .iload_n i => (match mj_ld i.val lv with
    | some (.int x) => some ((pc + 1, lv, .int x :: st), h)
    | _ => none)
  | .iload i => (match mj_ld i lv with
    | some (.int x) => some ((pc + 2, lv, .int x :: st), h)
    | _ => none)
  | .lload_n i => (match mj_ld i.val lv with
    | some (.long x) => some ((pc + 1, lv, .long x :: st), h)
    | _ => none)
  | .lload i => (match mj_ld i lv with
    | some (.long x) => some ((pc + 2, lv, .long x :: st), h)
    | _ => none)
  | .aload_n i => (match mj_ld i.val lv with
    | some (.ref x) => some ((pc + 1, lv, .ref x :: st), h)
    | _ => none)
  | .aload i => (match mj_ld i lv with
    | some (.ref x) => some ((pc + 2, lv, .ref x :: st), h)
    | _ => none)
  | .istore_n i => (match st with
    | .int x :: r => some ((pc + 1, mj_st1 i.val (.int x) lv, r), h)
    | _ => none)
  | .istore i => (match st with
    | .int x :: r => some ((pc + 2, mj_st1 i (.int x) lv, r), h)
    | _ => none)
  | .lstore_n i => (match st with
    | .long x :: r => some ((pc + 1, mj_st2 i.val (.long x) lv, r), h)
    | _ => none)
  | .lstore i => (match st with
    | .long x :: r => some ((pc + 2, mj_st2 i (.long x) lv, r), h)
    | _ => none)
  | .astore_n i => (match st with
    | .ref x :: r => some ((pc + 1, mj_st1 i.val (.ref x) lv, r), h)
    | _ => none)
  | .astore i => (match st with
    | .ref x :: r => some ((pc + 2, mj_st1 i (.ref x) lv, r), h)
    | _ => none)
  | .iinc i n => (match mj_ld i lv with
    | some (.int x) => some ((pc + 3, mj_st1 i (.int (x + Int32.ofInt n)) lv, st), h)
    | _ => none)
  | .lcmp => (match st with
    | .long y :: .long x :: r => some ((pc + 1, lv, .int (lg_cmp x y) :: r), h)
    | _ => none)
  | .i2l => (match st with
    | .int x :: r => some ((pc + 1, lv, .long x.toInt64 :: r), h)
    | _ => none)
  | .l2i => (match st with
    | .long x :: r => some ((pc + 1, lv, .int x.toInt32 :: r), h)
    | _ => none)
  | .i2b => (match st with
    | .int x :: r => some ((pc + 1, lv, .int x.toInt8.toInt32 :: r), h)
    | _ => none)
  | .i2c => (match st with
    | .int x :: r => some ((pc + 1, lv, .int (x.toUInt32 % 65536).toInt32 :: r), h)
    | _ => none)
  | .ineg => (match st with
    | .int x :: r => some ((pc + 1, lv, .int (-x) :: r), h)
    | _ => none)
  | .dup => (match st with
    | .int x :: r => some ((pc + 1, lv, .int x :: .int x :: r), h)
    | .ref x :: r => some ((pc + 1, lv, .ref x :: .ref x :: r), h)
    | _ => none)
  | .pop => (match st with
    | .int _ :: r => some ((pc + 1, lv, r), h)
    | .ref _ :: r => some ((pc + 1, lv, r), h)
    | _ => none)
  | .dup_x1 => (match st with
    | .int x :: .ref y :: r => some ((pc + 1, lv, .int x :: .ref y :: .int x :: r), h)
    | _ => none)
  | .dup2 => (match st with
    | .int x :: .ref y :: r => some ((pc + 1, lv, .int x :: .ref y :: .int x :: .ref y :: r), h)
    | _ => none)
  | .goto _ => (match row.2.2 with
    | [t] => some ((t, lv, st), h)
    | _ => none)
  | .ifCond c _ => (match row.2.2, st with
    | [t], .int x :: r => (match mj_cmp c x 0 with
      | true => some ((t, lv, r), h)
      | false => some ((pc + 3, lv, r), h))
    | _, _ => none)
  | .if_icmp c _ => (match row.2.2, st with
    | [t], .int y :: .int x :: r => (match mj_cmp c x y with
      | true => some ((t, lv, r), h)
      | false => some ((pc + 3, lv, r), h))
    | _, _ => none)
  | .tableswitch _ lo hi _ => (match row.2.2, st with
    | t :: ts, .int x :: r => if x.toInt < lo ∨ hi < x.toInt then some ((t, lv, r), h) else (match ts[(x.toInt - lo).toNat]? with
      | some t' => some ((t', lv, r), h)
      | none => none)
    | _, _ => none)
  | .getfield _ => (match row.2.2, st with
    | [ci, j], .ref a :: r => (match h[a]? with
      | some (.inr (c, fs)) => (match Nat.beq c ci, fs[j]? with
        | true, some v => some ((pc + 3, lv, v :: r), h)
        | _, _ => none)
      | _ => none)
    | _, _ => none)
  | .putfield _ => (match row.2.2, st with
    | [ci, j, t], v :: .ref a :: r => (match h[a]? with
      | some (.inr (c, fs)) => (match Nat.beq c ci && Nat.ble 3 a && Nat.blt j fs.length, t, v with
        | true, 0, .int x => some ((pc + 3, lv, r), h.set a (.inr (c, fs.set j (.int x))))
        | true, 1, .ref x => some ((pc + 3, lv, r), h.set a (.inr (c, fs.set j (.ref x))))
        | _, _, _ => none)
      | _ => none)
    | _, _ => none)
  | .getstatic _ => (match row.2.2 with
    | [q] => some ((pc + 3, lv, .ref q :: st), h)
    | _ => none)
  | .arraylength => (match st with
    | .ref a :: r => (match h[a]? with
      | some (.inl (_, x)) => some ((pc + 1, lv, .int (Int32.ofNat x.1) :: r), h)
      | _ => none)
    | _ => none)
  | .iaload => (match st with
    | .int i :: .ref a :: r => (mj_ar h a 3 3).bind fun q => (mj_ix i q.2.1).bind fun j => (mj_gi q.2 j).map fun v => ((pc + 1, lv, .int v :: r), h)
    | _ => none)
  | .baload => (match st with
    | .int i :: .ref a :: r => (mj_ar h a 0 1).bind fun q => (mj_ix i q.2.1).bind fun j => (mj_gi q.2 j).map fun v => ((pc + 1, lv, .int v :: r), h)
    | _ => none)
  | .caload => (match st with
    | .int i :: .ref a :: r => (mj_ar h a 2 2).bind fun q => (mj_ix i q.2.1).bind fun j => (mj_gi q.2 j).map fun v => ((pc + 1, lv, .int v :: r), h)
    | _ => none)
  | .laload => (match st with
    | .int i :: .ref a :: r => (mj_ar h a 4 4).bind fun q => (mj_ix i q.2.1).bind fun j => (mj_gl q.2 j).map fun v => ((pc + 1, lv, .long v :: r), h)
    | _ => none)
  | .iastore => (match st with
    | .int x :: .int i :: .ref a :: r => (match Nat.ble 3 a with
      | true => (mj_ar h a 3 3).bind fun q => (mj_ix i q.2.1).bind fun j => (mj_pi q.1 q.2 j x).map fun y => ((pc + 1, lv, r), h.set a (.inl (q.1, y)))
      | false => none)
    | _ => none)
  | .bastore => (match st with
    | .int x :: .int i :: .ref a :: r => (match Nat.ble 3 a with
      | true => (mj_ar h a 0 1).bind fun q => (mj_ix i q.2.1).bind fun j => (mj_pi q.1 q.2 j x).map fun y => ((pc + 1, lv, r), h.set a (.inl (q.1, y)))
      | false => none)
    | _ => none)
  | .castore => (match st with
    | .int x :: .int i :: .ref a :: r => (match Nat.ble 3 a with
      | true => (mj_ar h a 2 2).bind fun q => (mj_ix i q.2.1).bind fun j => (mj_pi q.1 q.2 j x).map fun y => ((pc + 1, lv, r), h.set a (.inl (q.1, y)))
      | false => none)
    | _ => none)
  | .lastore => (match st with
    | .long x :: .int i :: .ref a :: r => (match Nat.ble 3 a with
      | true => (mj_ar h a 4 4).bind fun q => (mj_ix i q.2.1).bind fun j => (mj_pl q.2 j x).map fun y => ((pc + 1, lv, r), h.set a (.inl (q.1, y)))
      | false => none)
    | _ => none)
  | .new _ => (match row.2.2 with
    | [ci] => (match Nat.ble (h.length + 1) cm && Nat.ble (mj_sl P h + P.2.2.2 ci) sm with
      | true => some ((pc + 3, lv, .ref h.length :: st), h ++ [.inr (ci, P.2.2.1 ci)])
      | false => none)
    | _ => none)
  | .newarray t => (match st, mj_ka t with
    | .int n :: r, some k => if n < 0 then none else (match Nat.ble n.toNatClampNeg 65536 && Nat.ble (h.length + 1) cm && Nat.ble (mj_sl P h + n.toNatClampNeg) sm with
      | true => some ((pc + 2, lv, .ref h.length :: r), h ++ [.inl (k, mj_new k n.toNatClampNeg)])
      | false => none)
    | _, _ => none)
  | .invokespecial _ => (match row.2.2, st with
    | [0], .ref _ :: r => (match Nat.ble 1 fr && Nat.ble (mj_w r + 12) lo with
      | true => some ((pc + 3, lv, r), h)
      | false => none)
    | [2, cx], .ref _ :: .ref a :: r => (match Nat.ble 6 fr && Nat.ble (mj_w r + 100) lo && Nat.ble 3 a, h[a]? with
      | true, some (.inr (c, _)) => (match Nat.beq c (cx + 50) with
        | true => some ((pc + 3, lv, r), h.set a (.inr (cx, [])))
        | false => none)
      | _, _ => none)
    | _, _ => none)
  | i => (match st with
    | .int y :: .int x :: r => (mj_bin i x y).map fun v => ((pc + 1, lv, .int v :: r), h)
    | .long y :: .long x :: r => (mj_lbin i x y).map fun v => ((pc + 1, lv, .long v :: r), h)
    | .int y :: .long x :: r => (mj_lsh i x y).map fun v => ((pc + 1, lv, .long v :: r), h)
    | _ => none)
/-- a return -/
def mj_ret (P : mj_P) (k : Nat) (i : Instr) (st : List Value) : Option (Option Value) := match i, mj_rt P k, st with
  | .ireturn, some .int, [.int v] => some (some (.int v))
  | .ireturn, some .boolean, [.int v] => if v = 0 ∨ v = 1 then some (some (.int v)) else none
  | .lreturn, some .long, [.long v] => some (some (.long v))
  | .return_, none, [] => some none
  | _, _, _ => none
/-- a call: the method, its arguments, what stays on the stack -/
def mj_inv (row : mj_I) (st : List Value) (h : mj_H) : Option (Nat × List Value × List Value) := match row.1, row.2.2 with
  | .invokevirtual _, [k, n, ci] => (match st.drop n with
    | .ref a :: r => (match h[a]? with
      | some (.inr (c, _)) => (match Nat.beq c ci with
        | true => some (k, .ref a :: (st.take n).reverse, r)
        | false => none)
      | _ => none)
    | _ => none)
  | .invokestatic _, [k, n] => (match Nat.ble n st.length with
    | true => some (k, (st.take n).reverse, st.drop n)
    | false => none)
  | .invokespecial _, [1, k, n] => (match st.drop n with
    | .ref a :: r => some (k, .ref a :: (st.take n).reverse, r)
    | _ => none)
  | _, _ => none
/-- the handler of an object of a class thrown at a place: none: it can't be told; some none: no entry covers the place -/
def mj_find : List (Nat × Nat × Nat × Nat × Nat) → Nat → Nat → Option (Option Nat)
  | [], _, _ => some none
  | (s, t, hp, _, cc) :: r, pc, cx => match Nat.ble s pc && Nat.blt pc t with
    | true => (match Nat.beq cx cc with
      | true => some (some hp)
      | false => (match mj_find r pc cx with
        | some (some q) => some (some q)
        | _ => none))
    | false => mj_find r pc cx
def mj_run (P : mj_P) (cm sm : Nat) (call : Nat → Nat → List Value → mj_H → Option (mj_O × mj_H)) (k fr lo : Nat) : Nat → mj_F → mj_H → Option (mj_O × mj_H)
  | 0, _, _ => none
  | n + 1, (pc, lv, st), h => match P.2.1 k pc with
    | none => none
    | some row => match mj_sim P fr lo cm sm row pc lv st h with
      | some (F, h') => mj_run P cm sm call k fr lo n F h'
      | none => match mj_ret P k row.1 st with
        | some v => some (.inl v, h)
        | none => match mj_inv row st h with
          | some (k', as, r) => (match Nat.ble 1 fr && Nat.ble (mj_w r) 8 && Nat.ble (8 + (mj_ml P k' + 11)) lo && Nat.ble (mj_w as) (mj_ml P k') with
            | true => (match call (lo - (8 + (mj_ml P k' + 11))) k' as h with
              | none => none
              | some (.inl v, h') => mj_run P cm sm call k fr lo n (pc + 3, lv, v.toList ++ r) h'
              | some (.inr x, h') => (match h'[x]? with
                | some (.inr (cx, _)) => (match Nat.blt cx 4, mj_find (mj_hd P k) pc cx with
                  | true, some none => some (.inr x, h')
                  | true, some (some hp) => mj_run P cm sm call k fr lo n (hp, lv, [.ref x]) h'
                  | _, _ => none)
                | _ => none))
            | false => none)
          | none => match row.1, mj_hd P k, st with
            | .athrow, [], .ref x :: _ => some (.inr x, h)
            | _, _, _ => none
/-- a method with its arguments, at a depth -/
def mj_ev (P : mj_P) (cm sm n : Nat) : Nat → Nat → Nat → List Value → mj_H → Option (mj_O × mj_H)
  | 0, lo, k, as, h => mj_run P cm sm (fun _ _ _ _ => none) k 0 lo n (0, lv_args 0 as, []) h
  | fr + 1, lo, k, as, h => mj_run P cm sm (mj_ev P cm sm n fr) k (fr + 1) lo n (0, lv_args 0 as, []) h
