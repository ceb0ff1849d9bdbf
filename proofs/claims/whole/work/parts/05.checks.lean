/-! What is checked of a method's rows, by evaluation. -/
def xm_np (co : List xm_I) (i : Nat) : Nat := match co[i]? with
  | some e => xm_pc e
  | none => 0
def xm_len : Instr → Nat
  | .bipush _ => 2
  | .ldc _ => 2
  | .iload _ => 2
  | .lload _ => 2
  | .aload _ => 2
  | .istore _ => 2
  | .lstore _ => 2
  | .astore _ => 2
  | .sipush _ => 3
  | .ldc_w _ => 3
  | .ldc2_w _ => 3
  | .iinc _ _ => 3
  | .ifCond _ _ => 3
  | .if_icmp _ _ => 3
  | .getfield _ => 3
  | .putfield _ => 3
  | .getstatic _ => 3
  | .invokestatic _ => 3
  | .invokevirtual _ => 3
  | _ => 1
def xm_rd (rt : Option FieldType) : Nat := match rt with
  | some .int => 0
  | some .boolean => 3
  | some .char => 4
  | some .byte => 5
  | _ => 8
def xm_to (co : List xm_I) (pc : Nat) (off : Int) (j : Nat) : Bool := decide ((pc : Int) + off = (xm_np co j : Int))
def xm_okJ (T : List Cond) (cl : List vw_C) (TX : List (String × Nat × String × Nat)) (P : List xm_M) (own : String) (co : List xm_I) (e : xm_I) : Bool := match xm_in e with
  | .iconst n => decide (Int32.ofInt n = xm_v e)
  | .bipush n => decide ((Int8.ofInt n).toInt32 = xm_v e)
  | .sipush n => decide ((Int16.ofInt n).toInt32 = xm_v e)
  | .ldc x => if xm_d e = 1 then (match TX[xm_w e]? with
      | some q => decide (q.1 = own) && decide (q.2.1 = x) && decide (q.2.2.2 = xm_b e)
      | none => false) else decide (T[xm_w e]? = some (.constant own x (xm_v e)))
  | .ldc_w x => decide (T[xm_w e]? = some (.constant own x (xm_v e)))
  | .ldc2_w x => decide (T[xm_w e]? = some (.constantLong own x (xm_u e)))
  | .lconst n => decide (Int64.ofNat (n : Nat) = xm_u e)
  | .iinc _ n => decide (Int32.ofInt n = xm_v e)
  | .ifCond _ off => xm_to co (xm_pc e) off (xm_b e)
  | .if_icmp _ off => xm_to co (xm_pc e) off (xm_b e)
  | .getfield x => if xm_d e = 9 then decide (T[xm_w e]? = some (.fieldLink own x "java/lang/String" (xm_sn (xm_b e)) (xm_sd (xm_b e)))) else (match cl[xm_a e]? with
      | some q => decide (xm_b e < q.2.2) && decide (xm_d e = xm_ds (q.2.1 (xm_b e)).2.2.1) && decide (T[xm_w e]? = some (.fieldLink own x (q.2.1 (xm_b e)).1 (q.2.1 (xm_b e)).2.1 (q.2.1 (xm_b e)).2.2.1))
      | none => false)
  | .putfield x => (match cl[xm_a e]? with
      | some q => decide (xm_b e < q.2.2) && decide (xm_d e = xm_ds (q.2.1 (xm_b e)).2.2.1) && decide ((q.2.1 (xm_b e)).2.2.2 = false) && decide (T[xm_w e]? = some (.fieldLink own x (q.2.1 (xm_b e)).1 (q.2.1 (xm_b e)).2.1 (q.2.1 (xm_b e)).2.2.1))
      | none => false)
  | .getstatic x => decide (T[xm_w e]? = some (.fieldLink own x (xm_zs (xm_b e)).1 (xm_zs (xm_b e)).2.1 (xm_zs (xm_b e)).2.2))
  | .invokestatic x => if xm_d e = 0 then (match P[xm_a e]? with
      | some M => decide (xm_kd M = 0) && decide (xm_b e = xm_na M) && decide (T[xm_w e]? = some (.methodLink own x (xm_y M)))
      | none => false) else if xm_d e = 1 then decide (T[xm_w e]? = some (.methodLink own x arraycopyName)) else if xm_d e = 2 then decide (T[xm_w e]? = some (.methodLink own x Lib.Math.max.name)) else if xm_d e = 3 then decide (T[xm_w e]? = some (.methodLink own x Lib.Math.min.name)) else if xm_d e = 4 then decide (T[xm_w e]? = some (.methodLink own x Lib.Math.abs.name)) else if xm_d e = 5 then decide (T[xm_w e]? = some (.methodLink own x Lib.MathLoose.min_long.x)) else true
  | .invokevirtual x => (match P[xm_a e]? with
      | some M => decide (xm_kd M = 1) && decide (xm_b e = xm_na M + 1) && decide (xm_d e = xm_ci M) && decide (T[xm_w e]? = some (.methodLink own x (xm_y M)))
      | none => false)
  | _ => true
def xm_okK (T : List Cond) (cl : List vw_C) (TX : List (String × Nat × String × Nat)) (P : List xm_M) (own : String) (rt : Option FieldType) (co : List xm_I) (e : xm_I) (i len : Nat) : Bool := match xm_in e with
  | .tableswitch df lo hi offs => xm_to co (xm_pc e) df (xm_b e) && decide (offs.toList.length = (xm_js e).length) && (offs.toList.zip (xm_js e)).all (fun q => xm_to co (xm_pc e) q.1 q.2)
  | .lookupswitch df ps => (ps.toList.zip (ps.toList.drop 1)).all (fun (a, next) => a.1 < next.1) && xm_to co (xm_pc e) df (xm_b e) && decide (ps.toList.length = (xm_js e).length) && (ps.toList.zip (xm_js e)).all (fun q => xm_to co (xm_pc e) q.1.2 q.2)
  | .new _ => true
  | .athrow => true
  | .invokespecial _ => true
  | .goto off => decide (len = 3) && xm_to co (xm_pc e) off (xm_b e)
  | .ireturn => decide (len = 1) && decide (xm_rd rt = xm_d e)
  | .lreturn => decide (len = 1) && decide (rt = some .long)
  | .return_ => decide (len = 1) && decide (rt = none)
  | ins => decide (len = xm_len ins) && decide (xm_np co (i + 1) = xm_pc e + xm_len ins) && xm_okJ T cl TX P own co e
def xm_okI (T : List Cond) (cl : List vw_C) (TX : List (String × Nat × String × Nat)) (P : List xm_M) (own : String) (cc : ByteArray) (rt : Option FieldType) (co : List xm_I) (e : xm_I) (i : Nat) : Bool := match decode cc (xm_pc e) with
  | .ok q => decide (q.1 = xm_in e) && xm_okK T cl TX P own rt co e i q.2
  | .error _ => false
def xm_okM (T : List Cond) (cl : List vw_C) (TX : List (String × Nat × String × Nat)) (P : List xm_M) (M : xm_M) : Bool :=
  decide (T[xm_wi M]? = some (.initialized (xm_y M).cls)) &&
  (if xm_kd M = 0 then decide (T[xm_ws1 M]? = some (.static (xm_y M))) else decide (T[xm_ws1 M]? = some (.instanceMethod (xm_y M))) && decide (T[xm_ws2 M]? = some (.selects (xm_y M).cls (xm_y M) (xm_y M))) &&
    (if xm_ci M = 99 then decide ((xm_y M).cls = "java/lang/String") else (match cl[xm_ci M]? with
      | some q => decide (q.1 = (xm_y M).cls)
      | none => false))) &&
  plainName (xm_y M).cls && decide ((xm_y M).cls ≠ "java/lang/invoke/MethodHandle") && decide ((xm_y M).cls ≠ "java/lang/invoke/VarHandle") && decide ((parseMethodDescriptor (xm_y M).desc).map (fun d => d.parameters.length) = some (xm_na M)) && decide (xm_ml M ≤ 40) && decide (xm_np (xm_co M) 0 = 0) &&
  (xm_co M).zipIdx.all (fun q => xm_okI T cl TX P (xm_y M).cls (xm_cc M) (xm_rt M) (xm_co M) q.1 q.2)
theorem xm_okI_inv {T : List Cond} {cl : List vw_C} {TX : List (String × Nat × String × Nat)} {P : List xm_M} {own : String} {cc : ByteArray} {rt : Option FieldType} {co : List xm_I} {e : xm_I} {i : Nat} (h : xm_okI T cl TX P own cc rt co e i = true) : ∃ len, decode cc (xm_pc e) = .ok (xm_in e, len) ∧ xm_okK T cl TX P own rt co e i len = true := by
  unfold xm_okI at h
  split at h
  · rename_i q hq
    simp only [Bool.and_eq_true, decide_eq_true_eq] at h
    exact ⟨q.2, by rw [hq, ← h.1], h.2⟩
  · cases h
