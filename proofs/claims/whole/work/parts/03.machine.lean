/-! A small machine over numbered cells: what the class, the reference and the law do behind their constructors. -/
/-- a row of a method: pc, instruction, place of its word, a, b, d, an int, a long, jump targets -/
abbrev xm_I : Type := Nat × Instr × Nat × Nat × Nat × Nat × Int32 × Int64 × List Nat
abbrev xm_pc (e : xm_I) : Nat := e.1
abbrev xm_in (e : xm_I) : Instr := e.2.1
abbrev xm_w (e : xm_I) : Nat := e.2.2.1
abbrev xm_a (e : xm_I) : Nat := e.2.2.2.1
abbrev xm_b (e : xm_I) : Nat := e.2.2.2.2.1
abbrev xm_d (e : xm_I) : Nat := e.2.2.2.2.2.1
abbrev xm_v (e : xm_I) : Int32 := e.2.2.2.2.2.2.1
abbrev xm_u (e : xm_I) : Int64 := e.2.2.2.2.2.2.2.1
abbrev xm_js (e : xm_I) : List Nat := e.2.2.2.2.2.2.2.2
/-- a cell: an array (its type, its length), or an object (its class) -/
abbrev xm_K : Type := (Nat × Nat) ⊕ Nat
/-- what the cells hold: ints, longs, references -/
abbrev xm_H : Type := (Nat → Nat → Int32) × (Nat → Nat → Int64) × (Nat → Nat → Option Nat)
abbrev xm_L : Type := List (Option Value)
/-- the cells; arrays that stand outside; fields of Strings; statics -/
abbrev xm_X : Type := List xm_K × (Nat → Option (Nat × Nat × (Nat → Int32))) × (Nat → Nat → Option Value) × (Nat → Option Value)
/-- a method: name, bytes, maxLocals, what it returns, its rows, (kind, class, number of arguments), places of its words -/
abbrev xm_M : Type := MethodName × ByteArray × Nat × Option FieldType × List xm_I × (Nat × Nat × Nat) × (Nat × Nat × Nat × Nat)
abbrev xm_y (M : xm_M) : MethodName := M.1
abbrev xm_cc (M : xm_M) : ByteArray := M.2.1
abbrev xm_ml (M : xm_M) : Nat := M.2.2.1
abbrev xm_rt (M : xm_M) : Option FieldType := M.2.2.2.1
abbrev xm_co (M : xm_M) : List xm_I := M.2.2.2.2.1
abbrev xm_kd (M : xm_M) : Nat := M.2.2.2.2.2.1.1
abbrev xm_ci (M : xm_M) : Nat := M.2.2.2.2.2.1.2.1
abbrev xm_na (M : xm_M) : Nat := M.2.2.2.2.2.1.2.2
abbrev xm_wc (M : xm_M) : Nat := M.2.2.2.2.2.2.1
abbrev xm_ws1 (M : xm_M) : Nat := M.2.2.2.2.2.2.2.1
abbrev xm_ws2 (M : xm_M) : Nat := M.2.2.2.2.2.2.2.2.1
abbrev xm_wi (M : xm_M) : Nat := M.2.2.2.2.2.2.2.2.2

def xm_si (h : xm_H) (p k : Nat) (x : Int32) : xm_H := (fun q => if q = p then upd (h.1 p) k x else h.1 q, h.2.1, h.2.2)
def xm_sl (h : xm_H) (p k : Nat) (x : Int64) : xm_H := (h.1, fun q => if q = p then vp_updL (h.2.1 p) k x else h.2.1 q, h.2.2)
def xm_sr (h : xm_H) (p k : Nat) (x : Nat) : xm_H := (h.1, h.2.1, fun q => if q = p then va_up (h.2.2 p) k (some x) else h.2.2 q)
def xm_ci_cpy (h : xm_H) (p q sp dp n : Nat) : xm_H := (fun r => if r = q then va_cpy (h.1 p) (h.1 q) sp dp n else h.1 r, h.2.1, h.2.2)
def xm_cl_cpy (h : xm_H) (p q sp dp n : Nat) : xm_H := (h.1, fun r => if r = q then va_cpy (h.2.1 p) (h.2.1 q) sp dp n else h.2.1 r, h.2.2)
/-- locals: a long's second half is none -/
def xm_clr (ls : xm_L) (k : Nat) : xm_L := match k with
  | 0 => ls
  | j + 1 => match ls[j]? with
    | some (some v) => if v.category = 2 then ls.set j none else ls
    | _ => ls
def xm_s1 (ls : xm_L) (k : Nat) (v : Value) : xm_L := (xm_clr ls k).set k (some v)
def xm_s2 (ls : xm_L) (k : Nat) (v : Value) : xm_L := ((xm_clr ls k).set k (some v)).set (k + 1) none
abbrev xm_N : Type := Nat × xm_L × List Value × xm_H
def xm_ldi (e : xm_I) (i k : Nat) (ls : xm_L) (st : List Value) (h : xm_H) : Option xm_N := match ls[k]? with
  | some (some (.int x)) => some (i + 1, ls, .int x :: st, h)
  | _ => none
def xm_ldl (e : xm_I) (i k : Nat) (ls : xm_L) (st : List Value) (h : xm_H) : Option xm_N := match ls[k]? with
  | some (some (.long x)) => some (i + 1, ls, .long x :: st, h)
  | _ => none
def xm_lda (e : xm_I) (i k : Nat) (ls : xm_L) (st : List Value) (h : xm_H) : Option xm_N := match ls[k]? with
  | some (some (.ref x)) => some (i + 1, ls, .ref x :: st, h)
  | _ => none
def xm_sti (i k : Nat) (ls : xm_L) (st : List Value) (h : xm_H) : Option xm_N := match st with
  | .int x :: r => if k < ls.length then some (i + 1, xm_s1 ls k (.int x), r, h) else none
  | _ => none
def xm_stl (i k : Nat) (ls : xm_L) (st : List Value) (h : xm_H) : Option xm_N := match st with
  | .long x :: r => if k + 1 < ls.length then some (i + 1, xm_s2 ls k (.long x), r, h) else none
  | _ => none
def xm_sta (i k : Nat) (ls : xm_L) (st : List Value) (h : xm_H) : Option xm_N := match st with
  | .ref x :: r => if k < ls.length then some (i + 1, xm_s1 ls k (.ref x), r, h) else none
  | _ => none
def xm_ib (i : Nat) (f : Int32 → Int32 → Int32) (ls : xm_L) (st : List Value) (h : xm_H) : Option xm_N := match st with
  | .int y :: .int x :: r => some (i + 1, ls, .int (f x y) :: r, h)
  | _ => none
def xm_id (i : Nat) (f : Int32 → Int32 → Int32) (ls : xm_L) (st : List Value) (h : xm_H) : Option xm_N := match st with
  | .int y :: .int x :: r => if y = 0 then none else some (i + 1, ls, .int (f x y) :: r, h)
  | _ => none
def xm_iu (i : Nat) (f : Int32 → Int32) (ls : xm_L) (st : List Value) (h : xm_H) : Option xm_N := match st with
  | .int x :: r => some (i + 1, ls, .int (f x) :: r, h)
  | _ => none
def xm_lb (i : Nat) (f : Int64 → Int64 → Int64) (ls : xm_L) (st : List Value) (h : xm_H) : Option xm_N := match st with
  | .long y :: .long x :: r => some (i + 1, ls, .long (f x y) :: r, h)
  | _ => none
def xm_ld (i : Nat) (f : Int64 → Int64 → Int64) (ls : xm_L) (st : List Value) (h : xm_H) : Option xm_N := match st with
  | .long y :: .long x :: r => if y = 0 then none else some (i + 1, ls, .long (f x y) :: r, h)
  | _ => none
def xm_lsh (i : Nat) (f : Int64 → Int32 → Int64) (ls : xm_L) (st : List Value) (h : xm_H) : Option xm_N := match st with
  | .int y :: .long x :: r => some (i + 1, ls, .long (f x y) :: r, h)
  | _ => none
/-- the six conditions -/
def xm_c1 (i j : Nat) (c : Jvm.ClassFile.Cond) (x : Int32) : Nat := match c with
  | .eq => if x = 0 then j else i + 1
  | .ne => if x = 0 then i + 1 else j
  | .lt => if x < 0 then j else i + 1
  | .ge => if 0 ≤ x then j else i + 1
  | .gt => if 0 < x then j else i + 1
  | .le => if x ≤ 0 then j else i + 1
def xm_c2 (i j : Nat) (c : Jvm.ClassFile.Cond) (x y : Int32) : Nat := match c with
  | .eq => if x = y then j else i + 1
  | .ne => if x = y then i + 1 else j
  | .lt => if x < y then j else i + 1
  | .ge => if y ≤ x then j else i + 1
  | .gt => if y < x then j else i + 1
  | .le => if x ≤ y then j else i + 1
def xm_lk : List (Int × Int) → List Nat → Nat → Int → Nat
  | (a, _) :: r, j :: js, d, k => if a = k then j else xm_lk r js d k
  | _, _, d, _ => d
def xm_getf (X : xm_X) (e : xm_I) (i : Nat) (ls : xm_L) (st : List Value) (h : xm_H) : Option xm_N := match st with
  | .ref p :: r => if xm_d e = 9 then (match X.2.2.1 p (xm_b e) with
      | some v => some (i + 1, ls, v :: r, h)
      | none => none)
    else (match X.1[p]? with
      | some (.inr c) => if c = xm_a e then some (i + 1, ls, (if xm_d e = 1 then .long (h.2.1 p (xm_b e)) else if xm_d e = 2 then va_rf (h.2.2 p (xm_b e)) else .int (h.1 p (xm_b e))) :: r, h) else none
      | _ => none)
  | _ => none
def xm_putf (X : xm_X) (e : xm_I) (i : Nat) (ls : xm_L) (st : List Value) (h : xm_H) : Option xm_N := match st with
  | .int x :: .ref p :: r => (match X.1[p]? with
      | some (.inr c) => if c = xm_a e then (if xm_d e = 0 then some (i + 1, ls, r, xm_si h p (xm_b e) x) else if xm_d e = 3 then (if x = 0 then some (i + 1, ls, r, xm_si h p (xm_b e) 0) else if x = 1 then some (i + 1, ls, r, xm_si h p (xm_b e) 1) else none) else none) else none
      | _ => none)
  | .long x :: .ref p :: r => (match X.1[p]? with
      | some (.inr c) => if c = xm_a e ∧ xm_d e = 1 then some (i + 1, ls, r, xm_sl h p (xm_b e) x) else none
      | _ => none)
  | .ref x :: .ref p :: r => (match X.1[p]? with
      | some (.inr c) => if c = xm_a e ∧ xm_d e = 2 then some (i + 1, ls, r, xm_sr h p (xm_b e) x) else none
      | _ => none)
  | _ => none
/-- an array of ints, bytes or booleans is read: tl, th: its types -/
def xm_ald (X : xm_X) (tl th i : Nat) (ls : xm_L) (st : List Value) (h : xm_H) : Option xm_N := match st with
  | .int j :: .ref p :: r => (match X.1[p]? with
      | some (.inl (t, n)) => if tl ≤ t ∧ t ≤ th then (if j < 0 ∨ n ≤ j.toNatClampNeg then none else some (i + 1, ls, .int (h.1 p j.toNatClampNeg) :: r, h)) else none
      | some (.inr _) => none
      | none => (match X.2.1 p with
        | some (t, n, f) => if tl ≤ t ∧ t ≤ th then (if j < 0 ∨ n ≤ j.toNatClampNeg then none else some (i + 1, ls, .int (f j.toNatClampNeg) :: r, h)) else none
        | none => none))
  | _ => none
def xm_ast (X : xm_X) (tl th i : Nat) (ls : xm_L) (st : List Value) (h : xm_H) : Option xm_N := match st with
  | .int x :: .int j :: .ref p :: r => (match X.1[p]? with
      | some (.inl (t, n)) => if tl ≤ t ∧ t ≤ th then (if j < 0 ∨ n ≤ j.toNatClampNeg then none else some (i + 1, ls, r, xm_si h p j.toNatClampNeg (if t = 1 then vp_nar .byte x else if t = 2 then vp_nar .boolean x else x))) else none
      | _ => none)
  | _ => none
def xm_lald (X : xm_X) (i : Nat) (ls : xm_L) (st : List Value) (h : xm_H) : Option xm_N := match st with
  | .int j :: .ref p :: r => (match X.1[p]? with
      | some (.inl (t, n)) => if t = 3 then (if j < 0 ∨ n ≤ j.toNatClampNeg then none else some (i + 1, ls, .long (h.2.1 p j.toNatClampNeg) :: r, h)) else none
      | _ => none)
  | _ => none
def xm_last (X : xm_X) (i : Nat) (ls : xm_L) (st : List Value) (h : xm_H) : Option xm_N := match st with
  | .long x :: .int j :: .ref p :: r => (match X.1[p]? with
      | some (.inl (t, n)) => if t = 3 then (if j < 0 ∨ n ≤ j.toNatClampNeg then none else some (i + 1, ls, r, xm_sl h p j.toNatClampNeg x)) else none
      | _ => none)
  | _ => none
def xm_aald (X : xm_X) (i : Nat) (ls : xm_L) (st : List Value) (h : xm_H) : Option xm_N := match st with
  | .int j :: .ref p :: r => (match X.1[p]? with
      | some (.inl (t, n)) => if t = 4 ∨ t = 5 then (if j < 0 ∨ n ≤ j.toNatClampNeg then none else some (i + 1, ls, va_rf (h.2.2 p j.toNatClampNeg) :: r, h)) else none
      | _ => none)
  | _ => none
def xm_alen (X : xm_X) (i : Nat) (ls : xm_L) (st : List Value) (h : xm_H) : Option xm_N := match st with
  | .ref p :: r => (match X.1[p]? with
      | some (.inl (t, n)) => if t < 6 then some (i + 1, ls, .int (Int32.ofNat n) :: r, h) else none
      | some (.inr _) => none
      | none => (match X.2.1 p with
        | some (_, n, _) => some (i + 1, ls, .int (Int32.ofNat n) :: r, h)
        | none => none))
  | _ => none
/-- System.arraycopy, of ints (type 0) or longs (type 3) -/
def xm_cpy (X : xm_X) (i : Nat) (ls : xm_L) (st : List Value) (h : xm_H) : Option xm_N := match st with
  | .int n :: .int dp :: .ref q :: .int sp :: .ref p :: r => (match X.1[p]?, X.1[q]? with
      | some (.inl (t0, n0)), some (.inl (t1, n1)) =>
        if sp < 0 ∨ dp < 0 ∨ n < 0 ∨ n0 < sp.toNatClampNeg + n.toNatClampNeg ∨ n1 < dp.toNatClampNeg + n.toNatClampNeg ∨ 8 < (r.map fun v => v.category).sum then none else
        if t0 = 0 ∧ t1 = 0 then some (i + 1, ls, r, xm_ci_cpy h p q sp.toNatClampNeg dp.toNatClampNeg n.toNatClampNeg) else
        if t0 = 3 ∧ t1 = 3 then some (i + 1, ls, r, xm_cl_cpy h p q sp.toNatClampNeg dp.toNatClampNeg n.toNatClampNeg) else none
      | _, _ => none)
  | _ => none
/-- Math.max, min, abs; min of longs -/
def xm_mth (d i : Nat) (ls : xm_L) (st : List Value) (h : xm_H) : Option xm_N := match st with
  | .int y :: .int x :: r => if 8 < (r.map fun v => v.category).sum then none else if d = 2 then some (i + 1, ls, .int (if x < y then y else x) :: r, h) else if d = 3 then some (i + 1, ls, .int (if y < x then y else x) :: r, h) else none
  | [.int y] => if d = 4 then some (i + 1, ls, [.int (if 0 ≤ y then y else 0 - y)], h) else none
  | .long y :: .long x :: r => if 8 < (r.map fun v => v.category).sum then none else if d = 5 then some (i + 1, ls, .long (if y < x then y else x) :: r, h) else none
  | _ => none
def xm_step (X : xm_X) (e : xm_I) (i : Nat) (ls : xm_L) (st : List Value) (h : xm_H) : Option xm_N := match xm_in e with
  | .iconst _ => some (i + 1, ls, .int (xm_v e) :: st, h)
  | .bipush _ => some (i + 1, ls, .int (xm_v e) :: st, h)
  | .sipush _ => some (i + 1, ls, .int (xm_v e) :: st, h)
  | .ldc _ => if xm_d e = 1 then some (i + 1, ls, .ref (xm_b e) :: st, h) else some (i + 1, ls, .int (xm_v e) :: st, h)
  | .ldc_w _ => some (i + 1, ls, .int (xm_v e) :: st, h)
  | .ldc2_w _ => some (i + 1, ls, .long (xm_u e) :: st, h)
  | .lconst _ => some (i + 1, ls, .long (xm_u e) :: st, h)
  | .iload k => xm_ldi e i k ls st h
  | .iload_n k => xm_ldi e i k.val ls st h
  | .lload k => xm_ldl e i k ls st h
  | .lload_n k => xm_ldl e i k.val ls st h
  | .aload k => xm_lda e i k ls st h
  | .aload_n k => xm_lda e i k.val ls st h
  | .istore k => xm_sti i k ls st h
  | .istore_n k => xm_sti i k.val ls st h
  | .lstore k => xm_stl i k ls st h
  | .lstore_n k => xm_stl i k.val ls st h
  | .astore k => xm_sta i k ls st h
  | .astore_n k => xm_sta i k.val ls st h
  | .iinc k _ => match ls[k]? with
    | some (some (.int x)) => some (i + 1, xm_s1 ls k (.int (x + xm_v e)), st, h)
    | _ => none
  | .iadd => xm_ib i (fun x y => x + y) ls st h
  | .isub => xm_ib i (fun x y => x - y) ls st h
  | .imul => xm_ib i (fun x y => x * y) ls st h
  | .iand => xm_ib i (fun x y => x &&& y) ls st h
  | .ior => xm_ib i (fun x y => x ||| y) ls st h
  | .ixor => xm_ib i (fun x y => x ^^^ y) ls st h
  | .ishl => xm_ib i (fun x y => x <<< (y &&& 31)) ls st h
  | .ishr => xm_ib i (fun x y => x >>> (y &&& 31)) ls st h
  | .iushr => xm_ib i (fun x y => (x.toUInt32 >>> (y.toUInt32 &&& Int32.toUInt32 31)).toInt32) ls st h
  | .idiv => xm_id i (fun x y => x / y) ls st h
  | .irem => xm_id i (fun x y => x - x / y * y) ls st h
  | .ineg => xm_iu i (fun x => -x) ls st h
  | .i2b => xm_iu i (fun x => x.toInt8.toInt32) ls st h
  | .i2s => xm_iu i (fun x => x.toInt16.toInt32) ls st h
  | .i2c => xm_iu i (fun x => (x.toUInt32 % 65536).toInt32) ls st h
  | .ladd => xm_lb i (fun x y => x + y) ls st h
  | .lsub => xm_lb i (fun x y => x - y) ls st h
  | .lmul => xm_lb i (fun x y => x * y) ls st h
  | .land => xm_lb i (fun x y => x &&& y) ls st h
  | .lor => xm_lb i (fun x y => x ||| y) ls st h
  | .ldiv => xm_ld i (fun x y => x / y) ls st h
  | .lrem => xm_ld i (fun x y => x - x / y * y) ls st h
  | .lshl => xm_lsh i (fun x y => x <<< (y.toInt64 &&& 63)) ls st h
  | .lshr => xm_lsh i (fun x y => x >>> (y.toInt64 &&& 63)) ls st h
  | .lcmp => match st with
    | .long y :: .long x :: r => some (i + 1, ls, .int (lg_cmp x y) :: r, h)
    | _ => none
  | .i2l => match st with
    | .int x :: r => some (i + 1, ls, .long x.toInt64 :: r, h)
    | _ => none
  | .l2i => match st with
    | .long x :: r => some (i + 1, ls, .int x.toInt32 :: r, h)
    | _ => none
  | .dup => match st with
    | .int x :: r => some (i + 1, ls, .int x :: .int x :: r, h)
    | .ref x :: r => some (i + 1, ls, .ref x :: .ref x :: r, h)
    | _ => none
  | .dup2 => match st with
    | .int x :: .ref y :: r => some (i + 1, ls, .int x :: .ref y :: .int x :: .ref y :: r, h)
    | _ => none
  | .pop => match st with
    | .int _ :: r => some (i + 1, ls, r, h)
    | _ => none
  | .goto _ => some (xm_b e, ls, st, h)
  | .ifCond c _ => match st with
    | .int x :: r => some (xm_c1 i (xm_b e) c x, ls, r, h)
    | _ => none
  | .if_icmp c _ => match st with
    | .int y :: .int x :: r => some (xm_c2 i (xm_b e) c x y, ls, r, h)
    | _ => none
  | .tableswitch _ lo hi _ => match st with
    | .int x :: r => if x.toInt < lo ∨ hi < x.toInt then some (xm_b e, ls, r, h) else (match (xm_js e)[(x.toInt - lo).toNat]? with
      | some j => some (j, ls, r, h)
      | none => none)
    | _ => none
  | .lookupswitch _ ps => match st with
    | .int x :: r => some (xm_lk ps.toList (xm_js e) (xm_b e) x.toInt, ls, r, h)
    | _ => none
  | .getfield _ => xm_getf X e i ls st h
  | .putfield _ => xm_putf X e i ls st h
  | .getstatic _ => match X.2.2.2 (xm_b e) with
    | some v => some (i + 1, ls, v :: st, h)
    | none => none
  | .iaload => xm_ald X 0 0 i ls st h
  | .baload => xm_ald X 1 2 i ls st h
  | .laload => xm_lald X i ls st h
  | .aaload => xm_aald X i ls st h
  | .iastore => xm_ast X 0 0 i ls st h
  | .bastore => xm_ast X 1 2 i ls st h
  | .lastore => xm_last X i ls st h
  | .arraylength => xm_alen X i ls st h
  | .invokestatic _ => if xm_d e = 1 then xm_cpy X i ls st h else xm_mth (xm_d e) i ls st h
  | _ => none
def xm_okr (d : Nat) (v : Int32) : Bool := if d = 0 then true else if d = 3 then v == 0 || v == 1 else if d = 4 then decide (0 ≤ v) && decide (v ≤ 65535) else if d = 5 then decide (-128 ≤ v) && decide (v ≤ 127) else false
def xm_cats (st : List Value) : Nat := (st.map fun v => v.category).sum
/-- the receiver: an object of class d, or (99) a String that stands outside -/
def xm_rcv (X : xm_X) (d : Nat) (as : List Value) : Bool := match as with
  | .ref p :: _ => if d = 99 then (X.2.2.1 p 0).isSome else (match X.1[p]? with
    | some (.inr c) => c == d
    | _ => false)
  | _ => false
def xm_args : List Value → xm_L
  | [] => []
  | v :: vs => if v.category = 2 then some v :: none :: xm_args vs else some v :: xm_args vs
def xm_pad (as : xm_L) (n : Nat) : xm_L := as ++ List.replicate (n - as.length) none
def xm_go (X : xm_X) (f : Nat → List Value → xm_H → Option (Option Value × xm_H)) (co : List xm_I) : Nat → Nat → xm_L → List Value → xm_H → Option (Option Value × xm_H)
  | 0, _, _, _, _ => none
  | n + 1, i, ls, st, h => match co[i]? with
    | none => none
    | some e => match xm_in e with
      | .return_ => match st with
        | [] => some (none, h)
        | _ => none
      | .ireturn => match st with
        | [.int v] => if xm_okr (xm_d e) v = true then some (some (.int v), h) else none
        | _ => none
      | .lreturn => match st with
        | [.long v] => some (some (.long v), h)
        | _ => none
      | .invokevirtual _ => if xm_b e ≤ st.length ∧ xm_cats (st.drop (xm_b e)) ≤ 8 ∧ xm_rcv X (xm_d e) (st.take (xm_b e)).reverse = true then (match f (xm_a e) (st.take (xm_b e)).reverse h with
        | some (r, h') => xm_go X f co n (i + 1) ls (r.toList ++ st.drop (xm_b e)) h'
        | none => none) else none
      | .invokestatic _ => if xm_d e = 0 then (if xm_b e ≤ st.length ∧ xm_cats (st.drop (xm_b e)) ≤ 8 then (match f (xm_a e) (st.take (xm_b e)).reverse h with
        | some (r, h') => xm_go X f co n (i + 1) ls (r.toList ++ st.drop (xm_b e)) h'
        | none => none) else none) else (match xm_step X e i ls st h with
        | some (i', ls', st', h') => xm_go X f co n i' ls' st' h'
        | none => none)
      | _ => match xm_step X e i ls st h with
        | some (i', ls', st', h') => xm_go X f co n i' ls' st' h'
        | none => none
def xm_run (X : xm_X) (P : List xm_M) : Nat → Nat → Nat → List Value → xm_H → Option (Option Value × xm_H)
  | 0, _, _, _, _ => none
  | d + 1, n, mi, as, h => match P[mi]? with
    | none => none
    | some M => if (xm_args as).length ≤ xm_ml M then xm_go X (xm_run X P d n) (xm_co M) n 0 (xm_pad (xm_args as) (xm_ml M)) [] h else none
