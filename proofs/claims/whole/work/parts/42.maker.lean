/-! The maker: the constructors' rows run over made cells. -/
def ym_f0 (cl : List vw_C) (ci : Nat) : List Value := (List.range (xm_nf cl ci)).map (fun k => if xm_ft cl ci k = 1 then .long 0 else if xm_ft cl ci k = 2 then .null else .int 0)
abbrev ym_N : Type := Nat × xm_L × List Value × List ym_E
def ym_step (e : xm_I) (i : Nat) (ls : xm_L) (st : List Value) (cs : List ym_E) : Option ym_N := match xm_in e with
  | .iconst _ => some (i + 1, ls, .int (xm_v e) :: st, cs)
  | .bipush _ => some (i + 1, ls, .int (xm_v e) :: st, cs)
  | .sipush _ => some (i + 1, ls, .int (xm_v e) :: st, cs)
  | .ldc _ => some (i + 1, ls, .int (xm_v e) :: st, cs)
  | .aload_n k => match ls[k.val]? with
    | some (some (.ref x)) => some (i + 1, ls, .ref x :: st, cs)
    | _ => none
  | .iload_n k => match ls[k.val]? with
    | some (some (.int x)) => some (i + 1, ls, .int x :: st, cs)
    | _ => none
  | .istore_n k => match st with
    | .int x :: r => if k.val < ls.length then some (i + 1, xm_s1 ls k.val (.int x), r, cs) else none
    | _ => none
  | .iinc k _ => match ls[k]? with
    | some (some (.int x)) => some (i + 1, xm_s1 ls k (.int (x + xm_v e)), st, cs)
    | _ => none
  | .dup => match st with
    | .ref x :: r => some (i + 1, ls, .ref x :: .ref x :: r, cs)
    | _ => none
  | .goto _ => some (xm_b e, ls, st, cs)
  | .if_icmp .ge _ => match st with
    | .int y :: .int x :: r => some (xm_c2 i (xm_b e) .ge x y, ls, r, cs)
    | _ => none
  | .getfield _ => match st with
    | .ref p :: r => (match cs[p]? with
      | some (.inr (ci, fs)) => if ci = xm_a e then (match fs[xm_b e]? with
        | some v => some (i + 1, ls, v :: r, cs)
        | none => none) else none
      | _ => none)
    | _ => none
  | .putfield _ => match st with
    | .int x :: .ref p :: r => (match cs[p]? with
      | some (.inr (ci, fs)) => if ci = xm_a e ∧ xm_d e = 0 ∧ xm_b e < fs.length then some (i + 1, ls, r, cs.set p (.inr (ci, fs.set (xm_b e) (.int x)))) else none
      | _ => none)
    | .ref x :: .ref p :: r => (match cs[p]? with
      | some (.inr (ci, fs)) => if ci = xm_a e ∧ xm_d e = 2 ∧ xm_b e < fs.length then some (i + 1, ls, r, cs.set p (.inr (ci, fs.set (xm_b e) (.ref x)))) else none
      | _ => none)
    | _ => none
  | .iastore => match st with
    | .int x :: .int j :: .ref p :: r => (match cs[p]? with
      | some (.inl (t, n, ov)) => if t = 0 then (if j < 0 ∨ n ≤ j.toNatClampNeg then none else some (i + 1, ls, r, cs.set p (.inl (0, n, (j.toNatClampNeg, .int x) :: ov)))) else none
      | _ => none)
    | _ => none
  | .aastore => match st with
    | .ref x :: .int j :: .ref p :: r => (match cs[p]?, cs[x]? with
      | some (.inl (t, n, ov)), some (.inr (ci, fs)) => if (t = 4 ∧ ci = 8) ∨ (t = 5 ∧ ci = 2) then (if j < 0 ∨ n ≤ j.toNatClampNeg then none else some (i + 1, ls, r, cs.set p (.inl (t, n, (j.toNatClampNeg, .ref x) :: ov)))) else none
      | _, _ => none)
    | _ => none
  | .invokespecial _ => match st with
    | .ref _ :: r => if xm_d e = 1 ∧ xm_cats r ≤ 8 then some (i + 1, ls, r, cs) else none
    | _ => none
  | _ => none
/-- what is made: the cell, its slots, what is left of the stack -/
def ym_al (cl : List vw_C) (e : xm_I) (st : List Value) : Option (ym_E × Nat × List Value) := match xm_in e with
  | .new _ => some (.inr (xm_a e, ym_f0 cl (xm_a e)), xm_nf cl (xm_a e), st)
  | .newarray _ => match st with
    | .int n :: r => if n < 0 ∨ 10000000 < n.toNatClampNeg ∨ 4 ≤ xm_d e then none else some (.inl (xm_d e, n.toNatClampNeg, []), n.toNatClampNeg, r)
    | _ => none
  | .anewarray _ => match st with
    | .int n :: r => if n < 0 ∨ 10000000 < n.toNatClampNeg ∨ ¬ (xm_d e = 4 ∨ xm_d e = 5) then none else some (.inl (xm_d e, n.toNatClampNeg, []), n.toNatClampNeg, r)
    | _ => none
  | _ => none
def ym_isal (e : xm_I) : Bool := match xm_in e with
  | .new _ => true
  | .newarray _ => true
  | .anewarray _ => true
  | _ => false
def ym_isc (e : xm_I) : Bool := match xm_in e with
  | .invokespecial _ => decide (xm_d e = 5)
  | _ => false
def ym_go (cl : List vw_C) (f : Nat → Nat → List ym_E → Option (List ym_E × Nat × Nat)) (co : List xm_I) : Nat → Nat → xm_L → List Value → List ym_E → Option (List ym_E × Nat × Nat)
  | 0, _, _, _, _ => none
  | n + 1, i, ls, st, cs => match co[i]? with
    | none => none
    | some e =>
      if xm_in e = .return_ then (match st with
        | [] => some (cs, 0, 0)
        | _ => none)
      else if ym_isal e = true then (match ym_al cl e st with
        | some (c, k, r) => if ym_ok cs ls r = true then (match ym_go cl f co n (i + 1) ls (.ref cs.length :: r) (cs ++ [c]) with
          | some (cs2, c2, s2) => some (cs2, 1 + c2, k + s2)
          | none => none) else none
        | none => none)
      else if ym_isc e = true then (match st with
        | .ref p :: r => if xm_cats r ≤ 8 ∧ ym_ok cs ls st = true then (match f (xm_a e) p cs with
          | some (cs1, c1, s1) => if cs.length ≤ cs1.length then (match ym_go cl f co n (i + 1) ls r cs1 with
            | some (cs2, c2, s2) => some (cs2, c1 + c2, s1 + s2)
            | none => none) else none
          | none => none) else none
        | _ => none)
      else (match ym_step e i ls st cs with
        | some (i', ls', st', cs') => ym_go cl f co n i' ls' st' cs'
        | none => none)
def ym_run (cl : List vw_C) (P : List xm_M) : Nat → Nat → Nat → Nat → List ym_E → Option (List ym_E × Nat × Nat)
  | 0, _, _, _, _ => none
  | d + 1, n, mi, p, cs => match P[mi]? with
    | none => none
    | some M => if 1 ≤ xm_ml M then ym_go cl (ym_run cl P d n) (xm_co M) n 0 (xm_pad [some (.ref p)] (xm_ml M)) [] cs else none
def ym_len : Instr → Nat
  | .bipush _ => 2
  | .ldc _ => 2
  | .newarray _ => 2
  | .sipush _ => 3
  | .iinc _ _ => 3
  | .if_icmp _ _ => 3
  | .getfield _ => 3
  | .putfield _ => 3
  | .new _ => 3
  | .anewarray _ => 3
  | .invokespecial _ => 3
  | _ => 1
def ym_ty (t : ArrayType) : Nat := match t with
  | .int => 0
  | .byte => 1
  | .boolean => 2
  | .long => 3
  | _ => 9
def ym_okJ (T : List Cond) (cl : List vw_C) (NW : List (String × Nat × MethodName × String)) (P : List xm_M) (own : String) (co : List xm_I) (e : xm_I) : Bool := match xm_in e with
  | .iconst n => decide (Int32.ofInt n = xm_v e)
  | .bipush n => decide ((Int8.ofInt n).toInt32 = xm_v e)
  | .sipush n => decide ((Int16.ofInt n).toInt32 = xm_v e)
  | .ldc x => decide (T[xm_w e]? = some (.constant own x (xm_v e)))
  | .iinc _ n => decide (Int32.ofInt n = xm_v e)
  | .if_icmp _ off => xm_to co (xm_pc e) off (xm_b e)
  | .getfield x => (match cl[xm_a e]? with
      | some q => decide (xm_b e < q.2.2) && decide (T[xm_w e]? = some (.fieldLink own x (q.2.1 (xm_b e)).1 (q.2.1 (xm_b e)).2.1 (q.2.1 (xm_b e)).2.2.1))
      | none => false)
  | .putfield x => (match cl[xm_a e]? with
      | some q => decide (xm_b e < q.2.2) && decide (xm_d e = xm_ds (q.2.1 (xm_b e)).2.2.1) && decide ((q.2.1 (xm_b e)).1 = own) && decide (T[xm_w e]? = some (.fieldLink own x (q.2.1 (xm_b e)).1 (q.2.1 (xm_b e)).2.1 (q.2.1 (xm_b e)).2.2.1))
      | none => false)
  | .new x => (match cl[xm_a e]? with
      | some q => decide (T[xm_w e]? = some (.classLink own x q.1)) && decide (T[xm_b e]? = some (.instantiable q.1 q.2.2)) && decide (T[xm_d e]? = some (.initialized q.1))
      | none => false)
  | .newarray t => decide (ym_ty t = xm_d e) && decide (T[xm_b e]? = some (.arrayClass (xm_ty (xm_d e))))
  | .anewarray x => decide (T[xm_w e]? = some (.classLink own x (if xm_d e = 4 then "SheetByTwo$Work" else "SheetByTwo$Row")))
  | .invokespecial x => if xm_d e = 1 then decide (T[xm_w e]? = some (.methodLink own x Lib.objectInit)) else decide (xm_d e = 5) && (match P[xm_a e]? with
      | some M => decide ((xm_y M).name = "<init>") && (match NW[xm_w e]? with
        | some q => decide (q.1 = own) && decide (q.2.1 = x) && decide (q.2.2.1 = xm_y M)
        | none => false)
      | none => false)
  | _ => true
def ym_okI (T : List Cond) (cl : List vw_C) (NW : List (String × Nat × MethodName × String)) (P : List xm_M) (own : String) (cc : ByteArray) (co : List xm_I) (e : xm_I) (i : Nat) : Bool := match decode cc (xm_pc e) with
  | .ok q => decide (q.1 = xm_in e) && (match xm_in e with
    | .goto off => decide (q.2 = 3) && xm_to co (xm_pc e) off (xm_b e)
    | .return_ => decide (q.2 = 1)
    | ins => decide (q.2 = ym_len ins) && decide (xm_np co (i + 1) = xm_pc e + ym_len ins) && ym_okJ T cl NW P own co e)
  | .error _ => false
