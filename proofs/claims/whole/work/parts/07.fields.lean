/-! Constants, jumps, fields, arrays. -/
section XMS2
variable {p : Program} {l : Launch} {e : Env} {R : Room} {s : State} {m : MethodId} {args : Array Value} {below : List Frame} {meth : Method} {c : Code} {H : Heap} {locs : List Loc} {cells slots : Nat} {Q : State → Prop}
variable {T0 T : List Cond} {cl : List vw_C} {TX : List (String × Nat × String × Nat)} {X : xm_X} {D : va_G} {cA : Nat → ClassId} {ad : Nat → Nat} {A : Nat → Prop} {own : String} {cc : ByteArray} {nL : Nat} {co : List xm_I}
variable {pc i : Nat} {ls : xm_L} {st : List Value} {h : xm_H} {LS : Array Slot} {z : xm_N}
theorem xm_o_iconst (E : xm_Env p s m args c T0 T cl TX X D cA ad A own cc nL) {n : Int} {v : Int32} (hd : decode cc pc = .ok (.iconst n, 1)) (hn : xm_np co (i + 1) = pc + 1) (hv : Int32.ofInt n = v) (hl : xm_lh LS nL ad ls) (hW : xm_Wd cl D cA ad A X.1 H h) (hS : va_S A s.heap H locs) (kk : xm_C p l e R s m args below meth c cells slots Q cl X D cA ad A nL co (i + 1, ls, .int v :: st, h)) : W p l e R s m args below meth c H locs cells slots Q (F0 m pc LS ((st : List Value).map (xm_cv ad))) := by
  obtain ⟨hx, hb, hml, hown, hts, hK, hX, hCK, hAC, HT⟩ := E
  have k2 := kk LS H locs hl hW hS
  rw [show xm_np co (i + 1) = pc + 1 from hn] at k2
  exact lv_iconst hx hb hd hv k2
theorem xm_o_bipush (E : xm_Env p s m args c T0 T cl TX X D cA ad A own cc nL) {n : Int} {v : Int32} (hd : decode cc pc = .ok (.bipush n, 2)) (hn : xm_np co (i + 1) = pc + 2) (hv : (Int8.ofInt n).toInt32 = v) (hl : xm_lh LS nL ad ls) (hW : xm_Wd cl D cA ad A X.1 H h) (hS : va_S A s.heap H locs) (kk : xm_C p l e R s m args below meth c cells slots Q cl X D cA ad A nL co (i + 1, ls, .int v :: st, h)) : W p l e R s m args below meth c H locs cells slots Q (F0 m pc LS ((st : List Value).map (xm_cv ad))) := by
  obtain ⟨hx, hb, hml, hown, hts, hK, hX, hCK, hAC, HT⟩ := E
  have k2 := kk LS H locs hl hW hS
  rw [show xm_np co (i + 1) = pc + 2 from hn] at k2
  exact lv_bipush hx hb hd hv k2
theorem xm_o_sipush (E : xm_Env p s m args c T0 T cl TX X D cA ad A own cc nL) {n : Int} {v : Int32} (hd : decode cc pc = .ok (.sipush n, 3)) (hn : xm_np co (i + 1) = pc + 3) (hv : (Int16.ofInt n).toInt32 = v) (hl : xm_lh LS nL ad ls) (hW : xm_Wd cl D cA ad A X.1 H h) (hS : va_S A s.heap H locs) (kk : xm_C p l e R s m args below meth c cells slots Q cl X D cA ad A nL co (i + 1, ls, .int v :: st, h)) : W p l e R s m args below meth c H locs cells slots Q (F0 m pc LS ((st : List Value).map (xm_cv ad))) := by
  obtain ⟨hx, hb, hml, hown, hts, hK, hX, hCK, hAC, HT⟩ := E
  have k2 := kk LS H locs hl hW hS
  rw [show xm_np co (i + 1) = pc + 3 from hn] at k2
  exact lv_sipush hx hb hd hv k2
theorem xm_o_lconst (E : xm_Env p s m args c T0 T cl TX X D cA ad A own cc nL) {n : Fin 2} {v : Int64} (hd : decode cc pc = .ok (.lconst n, 1)) (hn : xm_np co (i + 1) = pc + 1) (hv : Int64.ofNat (n : Nat) = v) (hl : xm_lh LS nL ad ls) (hW : xm_Wd cl D cA ad A X.1 H h) (hS : va_S A s.heap H locs) (kk : xm_C p l e R s m args below meth c cells slots Q cl X D cA ad A nL co (i + 1, ls, .long v :: st, h)) : W p l e R s m args below meth c H locs cells slots Q (F0 m pc LS ((st : List Value).map (xm_cv ad))) := by
  obtain ⟨hx, hb, hml, hown, hts, hK, hX, hCK, hAC, HT⟩ := E
  have k2 := kk LS H locs hl hW hS
  rw [show xm_np co (i + 1) = pc + 1 from hn] at k2
  exact lv_lconst hx hb hd hv k2
theorem xm_o_ldc (E : xm_Env p s m args c T0 T cl TX X D cA ad A own cc nL) {n w : Nat} {v : Int32} (hd : decode cc pc = .ok (.ldc n, 2)) (hn : xm_np co (i + 1) = pc + 2) (hv : T0[w]? = some (.constant own n v)) (hl : xm_lh LS nL ad ls) (hW : xm_Wd cl D cA ad A X.1 H h) (hS : va_S A s.heap H locs) (kk : xm_C p l e R s m args below meth c cells slots Q cl X D cA ad A nL co (i + 1, ls, .int v :: st, h)) : W p l e R s m args below meth c H locs cells slots Q (F0 m pc LS ((st : List Value).map (xm_cv ad))) := by
  obtain ⟨hx, hb, hml, hown, hts, hK, hX, hCK, hAC, HT⟩ := E
  have k2 := kk LS H locs hl hW hS
  rw [show xm_np co (i + 1) = pc + 2 from hn] at k2
  exact lv_ldc hx hb hown (xm_at hts HT hv rfl) hd k2
theorem xm_o_ldc_w (E : xm_Env p s m args c T0 T cl TX X D cA ad A own cc nL) {n w : Nat} {v : Int32} (hd : decode cc pc = .ok (.ldc_w n, 3)) (hn : xm_np co (i + 1) = pc + 3) (hv : T0[w]? = some (.constant own n v)) (hl : xm_lh LS nL ad ls) (hW : xm_Wd cl D cA ad A X.1 H h) (hS : va_S A s.heap H locs) (kk : xm_C p l e R s m args below meth c cells slots Q cl X D cA ad A nL co (i + 1, ls, .int v :: st, h)) : W p l e R s m args below meth c H locs cells slots Q (F0 m pc LS ((st : List Value).map (xm_cv ad))) := by
  obtain ⟨hx, hb, hml, hown, hts, hK, hX, hCK, hAC, HT⟩ := E
  have k2 := kk LS H locs hl hW hS
  rw [show xm_np co (i + 1) = pc + 3 from hn] at k2
  exact lv_ldcw hx hb hown (xm_at hts HT hv rfl) hd k2
theorem xm_o_ldc2 (E : xm_Env p s m args c T0 T cl TX X D cA ad A own cc nL) {n w : Nat} {v : Int64} (hd : decode cc pc = .ok (.ldc2_w n, 3)) (hn : xm_np co (i + 1) = pc + 3) (hv : T0[w]? = some (.constantLong own n v)) (hl : xm_lh LS nL ad ls) (hW : xm_Wd cl D cA ad A X.1 H h) (hS : va_S A s.heap H locs) (kk : xm_C p l e R s m args below meth c cells slots Q cl X D cA ad A nL co (i + 1, ls, .long v :: st, h)) : W p l e R s m args below meth c H locs cells slots Q (F0 m pc LS ((st : List Value).map (xm_cv ad))) := by
  obtain ⟨hx, hb, hml, hown, hts, hK, hX, hCK, hAC, HT⟩ := E
  have k2 := kk LS H locs hl hW hS
  rw [show xm_np co (i + 1) = pc + 3 from hn] at k2
  exact lv_ldc2 hx hb hown (xm_at hts HT hv rfl) hd k2
theorem xm_o_ldcs (E : xm_Env p s m args c T0 T cl TX X D cA ad A own cc nL) {n w b : Nat} {q : String × Nat × String × Nat} (hd : decode cc pc = .ok (.ldc n, 2)) (hn : xm_np co (i + 1) = pc + 2) (hv : TX[w]? = some q) (h1 : q.1 = own) (h2 : q.2.1 = n) (h3 : q.2.2.2 = b) (hl : xm_lh LS nL ad ls) (hW : xm_Wd cl D cA ad A X.1 H h) (hS : va_S A s.heap H locs) (kk : xm_C p l e R s m args below meth c cells slots Q cl X D cA ad A nL co (i + 1, ls, .ref b :: st, h)) : W p l e R s m args below meth c H locs cells slots Q (F0 m pc LS ((st : List Value).map (xm_cv ad))) := by
  obtain ⟨hx, hb, hml, hown, hts, hK, hX, hCK, hAC, HT⟩ := E
  have k2 := kk LS H locs hl hW hS
  rw [show xm_np co (i + 1) = pc + 2 from hn] at k2
  subst h1; subst h2; subst h3
  exact va_ldcS hx hb hown (hX.2.2.2 q (List.mem_of_getElem? hv)) hd k2
theorem xm_o_lcmp (E : xm_Env p s m args c T0 T cl TX X D cA ad A own cc nL) {x y : Int64} {r : List Value} (hd : decode cc pc = .ok (.lcmp, 1)) (hn : xm_np co (i + 1) = pc + 1) (hl : xm_lh LS nL ad ls) (hW : xm_Wd cl D cA ad A X.1 H h) (hS : va_S A s.heap H locs) (kk : xm_C p l e R s m args below meth c cells slots Q cl X D cA ad A nL co (i + 1, ls, .int (lg_cmp x y) :: r, h)) : W p l e R s m args below meth c H locs cells slots Q (F0 m pc LS ((.long y :: .long x :: r : List Value).map (xm_cv ad))) := by
  obtain ⟨hx, hb, hml, hown, hts, hK, hX, hCK, hAC, HT⟩ := E
  have k2 := kk LS H locs hl hW hS
  rw [show xm_np co (i + 1) = pc + 1 from hn] at k2
  exact W.lcmp hx hb hd k2
theorem xm_o_i2l (E : xm_Env p s m args c T0 T cl TX X D cA ad A own cc nL) {x : Int32} {r : List Value} (hd : decode cc pc = .ok (.i2l, 1)) (hn : xm_np co (i + 1) = pc + 1) (hl : xm_lh LS nL ad ls) (hW : xm_Wd cl D cA ad A X.1 H h) (hS : va_S A s.heap H locs) (kk : xm_C p l e R s m args below meth c cells slots Q cl X D cA ad A nL co (i + 1, ls, .long x.toInt64 :: r, h)) : W p l e R s m args below meth c H locs cells slots Q (F0 m pc LS ((.int x :: r : List Value).map (xm_cv ad))) := by
  obtain ⟨hx, hb, hml, hown, hts, hK, hX, hCK, hAC, HT⟩ := E
  have k2 := kk LS H locs hl hW hS
  rw [show xm_np co (i + 1) = pc + 1 from hn] at k2
  exact lv_i2l hx hb hd rfl k2
theorem xm_o_l2i (E : xm_Env p s m args c T0 T cl TX X D cA ad A own cc nL) {x : Int64} {r : List Value} (hd : decode cc pc = .ok (.l2i, 1)) (hn : xm_np co (i + 1) = pc + 1) (hl : xm_lh LS nL ad ls) (hW : xm_Wd cl D cA ad A X.1 H h) (hS : va_S A s.heap H locs) (kk : xm_C p l e R s m args below meth c cells slots Q cl X D cA ad A nL co (i + 1, ls, .int x.toInt32 :: r, h)) : W p l e R s m args below meth c H locs cells slots Q (F0 m pc LS ((.long x :: r : List Value).map (xm_cv ad))) := by
  obtain ⟨hx, hb, hml, hown, hts, hK, hX, hCK, hAC, HT⟩ := E
  have k2 := kk LS H locs hl hW hS
  rw [show xm_np co (i + 1) = pc + 1 from hn] at k2
  exact lv_l2i hx hb hd rfl k2
theorem xm_o_dupi (E : xm_Env p s m args c T0 T cl TX X D cA ad A own cc nL) {x : Int32} {r : List Value} (hd : decode cc pc = .ok (.dup, 1)) (hn : xm_np co (i + 1) = pc + 1) (hl : xm_lh LS nL ad ls) (hW : xm_Wd cl D cA ad A X.1 H h) (hS : va_S A s.heap H locs) (kk : xm_C p l e R s m args below meth c cells slots Q cl X D cA ad A nL co (i + 1, ls, .int x :: .int x :: r, h)) : W p l e R s m args below meth c H locs cells slots Q (F0 m pc LS ((.int x :: r : List Value).map (xm_cv ad))) := by
  obtain ⟨hx, hb, hml, hown, hts, hK, hX, hCK, hAC, HT⟩ := E
  have k2 := kk LS H locs hl hW hS
  rw [show xm_np co (i + 1) = pc + 1 from hn] at k2
  exact lv_dup hx hb hd rfl k2
theorem xm_o_dupa (E : xm_Env p s m args c T0 T cl TX X D cA ad A own cc nL) {x : Nat} {r : List Value} (hd : decode cc pc = .ok (.dup, 1)) (hn : xm_np co (i + 1) = pc + 1) (hl : xm_lh LS nL ad ls) (hW : xm_Wd cl D cA ad A X.1 H h) (hS : va_S A s.heap H locs) (kk : xm_C p l e R s m args below meth c cells slots Q cl X D cA ad A nL co (i + 1, ls, .ref x :: .ref x :: r, h)) : W p l e R s m args below meth c H locs cells slots Q (F0 m pc LS ((.ref x :: r : List Value).map (xm_cv ad))) := by
  obtain ⟨hx, hb, hml, hown, hts, hK, hX, hCK, hAC, HT⟩ := E
  have k2 := kk LS H locs hl hW hS
  rw [show xm_np co (i + 1) = pc + 1 from hn] at k2
  exact lv_dup hx hb hd rfl k2
theorem xm_o_dup2 (E : xm_Env p s m args c T0 T cl TX X D cA ad A own cc nL) {x : Int32} {y : Nat} {r : List Value} (hd : decode cc pc = .ok (.dup2, 1)) (hn : xm_np co (i + 1) = pc + 1) (hl : xm_lh LS nL ad ls) (hW : xm_Wd cl D cA ad A X.1 H h) (hS : va_S A s.heap H locs) (kk : xm_C p l e R s m args below meth c cells slots Q cl X D cA ad A nL co (i + 1, ls, .int x :: .ref y :: .int x :: .ref y :: r, h)) : W p l e R s m args below meth c H locs cells slots Q (F0 m pc LS ((.int x :: .ref y :: r : List Value).map (xm_cv ad))) := by
  obtain ⟨hx, hb, hml, hown, hts, hK, hX, hCK, hAC, HT⟩ := E
  have k2 := kk LS H locs hl hW hS
  rw [show xm_np co (i + 1) = pc + 1 from hn] at k2
  exact lv_dup2_11 hx hb hd rfl rfl k2
theorem xm_o_pop (E : xm_Env p s m args c T0 T cl TX X D cA ad A own cc nL) {x : Int32} {r : List Value} (hd : decode cc pc = .ok (.pop, 1)) (hn : xm_np co (i + 1) = pc + 1) (hl : xm_lh LS nL ad ls) (hW : xm_Wd cl D cA ad A X.1 H h) (hS : va_S A s.heap H locs) (kk : xm_C p l e R s m args below meth c cells slots Q cl X D cA ad A nL co (i + 1, ls, r, h)) : W p l e R s m args below meth c H locs cells slots Q (F0 m pc LS ((.int x :: r : List Value).map (xm_cv ad))) := by
  obtain ⟨hx, hb, hml, hown, hts, hK, hX, hCK, hAC, HT⟩ := E
  have k2 := kk LS H locs hl hW hS
  rw [show xm_np co (i + 1) = pc + 1 from hn] at k2
  exact lv_pop hx hb hd rfl k2
theorem xm_o_goto (E : xm_Env p s m args c T0 T cl TX X D cA ad A own cc nL) {off : Int} {j : Nat} (hd : decode cc pc = .ok (.goto off, 3)) (hj : (pc : Int) + off = (xm_np co j : Int)) (hl : xm_lh LS nL ad ls) (hW : xm_Wd cl D cA ad A X.1 H h) (hS : va_S A s.heap H locs) (kk : xm_C p l e R s m args below meth c cells slots Q cl X D cA ad A nL co (j, ls, st, h)) : W p l e R s m args below meth c H locs cells slots Q (F0 m pc LS ((st : List Value).map (xm_cv ad))) := by
  obtain ⟨hx, hb, hml, hown, hts, hK, hX, hCK, hAC, HT⟩ := E
  exact lv_goto hx hb hd hj (kk LS H locs hl hW hS)
theorem xm_zip_at {α : Type} {f : α → Nat → Bool} : ∀ {as : List α} {js : List Nat}, as.length = js.length → (as.zip js).all (fun q => f q.1 q.2) = true → ∀ {k j : Nat}, js[k]? = some j → ∃ a, as[k]? = some a ∧ f a j = true
  | [], [], _, _, k, j, hk => by simp at hk
  | a :: as, b :: js, hl, ha, 0, j, hk => by
    simp only [List.getElem?_cons_zero, Option.some.injEq] at hk
    subst hk
    simp only [List.zip_cons_cons, List.all_cons, Bool.and_eq_true] at ha
    exact ⟨a, rfl, ha.1⟩
  | a :: as, b :: js, hl, ha, k + 1, j, hk => by
    simp only [List.getElem?_cons_succ] at hk ⊢
    simp only [List.zip_cons_cons, List.all_cons, Bool.and_eq_true] at ha
    exact xm_zip_at (by simpa using hl) ha.2 hk
theorem xm_o_table (E : xm_Env p s m args c T0 T cl TX X D cA ad A own cc nL) {df lo hi : Int} {offs : Array Int} {len b : Nat} {js : List Nat} {x : Int32} {r : List Value} (hd : decode cc pc = .ok (.tableswitch df lo hi offs, len)) (h1 : xm_to co pc df b = true) (h2 : offs.toList.length = js.length) (h3 : (offs.toList.zip js).all (fun q => xm_to co pc q.1 q.2) = true) (hl : xm_lh LS nL ad ls) (hW : xm_Wd cl D cA ad A X.1 H h) (hS : va_S A s.heap H locs) (hz : (if x.toInt < lo ∨ hi < x.toInt then some (b, ls, r, h) else (match js[(x.toInt - lo).toNat]? with
      | some j => some (j, ls, r, h)
      | none => none)) = some z) (kk : xm_C p l e R s m args below meth c cells slots Q cl X D cA ad A nL co z) : W p l e R s m args below meth c H locs cells slots Q (F0 m pc LS ((.int x :: r : List Value).map (xm_cv ad))) := by
  obtain ⟨hx, hb, hml, hown, hts, hK, hX, hCK, hAC, HT⟩ := E
  split at hz
  · rename_i hq
    cases hz
    exact lv_tableOut hx hb hd hq (of_decide_eq_true h1) (kk LS H locs hl hW hS)
  · rename_i hq
    split at hz
    · rename_i j hj
      cases hz
      obtain ⟨off, ho, ht⟩ := xm_zip_at (f := fun a j => xm_to co pc a j) h2 h3 hj
      exact lv_tableIn hx hb hd (fun q => hq (Or.inl q)) (fun q => hq (Or.inr q)) (by rw [← Array.getElem?_toList]; exact ho) (of_decide_eq_true ht) (kk LS H locs hl hW hS)
    · cases hz
theorem xm_lk_ok {df : Int} {b : Nat} (h1 : xm_to co pc df b = true) : ∀ (ps : List (Int × Int)) (js : List Nat) (k : Int), ps.length = js.length → (ps.zip js).all (fun q => xm_to co pc q.1.2 q.2) = true → (pc : Int) + Op.lookupswitch.offset ps df k = (xm_np co (xm_lk ps js b k) : Int)
  | [], [], k, _, _ => by
    rw [Op.lookupswitch.offset_nil]
    exact of_decide_eq_true h1
  | (a, o) :: ps, j :: js, k, hl, ha => by
    simp only [List.zip_cons_cons, List.all_cons, Bool.and_eq_true] at ha
    rw [Op.lookupswitch.offset_cons]
    unfold xm_lk
    split
    · exact of_decide_eq_true ha.1
    · exact xm_lk_ok h1 ps js k (by simpa using hl) ha.2
theorem xm_o_lookup (E : xm_Env p s m args c T0 T cl TX X D cA ad A own cc nL) {df : Int} {ps : Array (Int × Int)} {len b : Nat} {js : List Nat} {x : Int32} {r : List Value} (hd : decode cc pc = .ok (.lookupswitch df ps, len)) (h0 : (ps.toList.zip (ps.toList.drop 1)).all (fun (a, next) => a.1 < next.1) = true) (h1 : xm_to co pc df b = true) (h2 : ps.toList.length = js.length) (h3 : (ps.toList.zip js).all (fun q => xm_to co pc q.1.2 q.2) = true) (hl : xm_lh LS nL ad ls) (hW : xm_Wd cl D cA ad A X.1 H h) (hS : va_S A s.heap H locs) (kk : xm_C p l e R s m args below meth c cells slots Q cl X D cA ad A nL co (xm_lk ps.toList js b x.toInt, ls, r, h)) : W p l e R s m args below meth c H locs cells slots Q (F0 m pc LS ((.int x :: r : List Value).map (xm_cv ad))) := by
  obtain ⟨hx, hb, hml, hown, hts, hK, hX, hCK, hAC, HT⟩ := E
  exact lv_lookup hx hb hd h0 rfl (xm_lk_ok h1 _ _ _ h2 h3) (kk LS H locs hl hW hS)
theorem xm_o_getstatic (E : xm_Env p s m args c T0 T cl TX X D cA ad A own cc nL) {n w b : Nat} {v : Value} (hd : decode cc pc = .ok (.getstatic n, 3)) (hn : xm_np co (i + 1) = pc + 3) (hw : T0[w]? = some (.fieldLink own n (xm_zs b).1 (xm_zs b).2.1 (xm_zs b).2.2)) (hv : X.2.2.2 b = some v) (hl : xm_lh LS nL ad ls) (hW : xm_Wd cl D cA ad A X.1 H h) (hS : va_S A s.heap H locs) (kk : xm_C p l e R s m args below meth c cells slots Q cl X D cA ad A nL co (i + 1, ls, v :: st, h)) : W p l e R s m args below meth c H locs cells slots Q (F0 m pc LS ((st : List Value).map (xm_cv ad))) := by
  obtain ⟨hx, hb, hml, hown, hts, hK, hX, hCK, hAC, HT⟩ := E
  have k2 := kk LS H locs hl hW hS
  rw [show xm_np co (i + 1) = pc + 3 from hn] at k2
  exact va_gets hx hb (hX.2.2.1 b v hv) hS hown (xm_at hts HT hw rfl) (fun _ q => q) hd k2
theorem xm_nf_at {a : Nat} {C : String} {TT : u_T} {n : Nat} (hc : cl[a]? = some (C, TT, n)) : xm_nf cl a = n := by
  unfold xm_nf; rw [hc]
theorem xm_ft_at {a k : Nat} {C : String} {TT : u_T} {n : Nat} (hc : cl[a]? = some (C, TT, n)) : xm_ft cl a k = xm_ds (TT k).2.2.1 := by
  unfold xm_ft; rw [hc]
theorem xm_o_getfs (E : xm_Env p s m args c T0 T cl TX X D cA ad A own cc nL) {n w b p0 : Nat} {v : Value} {r : List Value} (hd : decode cc pc = .ok (.getfield n, 3)) (hn : xm_np co (i + 1) = pc + 3) (hw : T0[w]? = some (.fieldLink own n "java/lang/String" (xm_sn b) (xm_sd b))) (hv : X.2.2.1 p0 b = some v) (hl : xm_lh LS nL ad ls) (hW : xm_Wd cl D cA ad A X.1 H h) (hS : va_S A s.heap H locs) (kk : xm_C p l e R s m args below meth c cells slots Q cl X D cA ad A nL co (i + 1, ls, v :: r, h)) : W p l e R s m args below meth c H locs cells slots Q (F0 m pc LS ((.ref p0 :: r : List Value).map (xm_cv ad))) := by
  obtain ⟨hx, hb, hml, hown, hts, hK, hX, hCK, hAC, HT⟩ := E
  have k2 := kk LS H locs hl hW hS
  rw [show xm_np co (i + 1) = pc + 3 from hn] at k2
  exact vk_getf hx hb (hX.2.1 p0 b v hv).2 hS hown (xm_at hts HT hw rfl) (fun _ q => q) hd k2
theorem xm_o_getf (E : xm_Env p s m args c T0 T cl TX X D cA ad A own cc nL) {n w a b d p0 N0 : Nat} {C : String} {TT : u_T} {r : List Value} (hd : decode cc pc = .ok (.getfield n, 3)) (hn : xm_np co (i + 1) = pc + 3) (hc : cl[a]? = some (C, TT, N0)) (hb0 : b < N0) (hd0 : d = xm_ds (TT b).2.2.1) (hw : T0[w]? = some (.fieldLink own n (TT b).1 (TT b).2.1 (TT b).2.2.1)) (hp0 : X.1[p0]? = some (.inr a)) (hl : xm_lh LS nL ad ls) (hW : xm_Wd cl D cA ad A X.1 H h) (hS : va_S A s.heap H locs) (kk : xm_C p l e R s m args below meth c cells slots Q cl X D cA ad A nL co (i + 1, ls, (if d = 1 then .long (h.2.1 p0 b) else if d = 2 then va_rf (h.2.2 p0 b) else .int (h.1 p0 b)) :: r, h)) : W p l e R s m args below meth c H locs cells slots Q (F0 m pc LS ((.ref p0 :: r : List Value).map (xm_cv ad))) := by
  obtain ⟨hx, hb, hml, hown, hts, hK, hX, hCK, hAC, HT⟩ := E
  have k2 := kk LS H locs hl hW hS
  rw [show xm_np co (i + 1) = pc + 3 from hn] at k2
  refine va_get (v := xm_fv cl ad h p0 a b) hx hb hts (hCK a C TT N0 hc).1 hown hK hW.1 p0 (xm_wd_at hp0) hc b hb0 (xm_at hts HT hw rfl) (fun _ q => q) (xm_fs_get (by rw [xm_nf_at hc]; exact hb0)) hd ?_
  have e1 : xm_cv ad (if d = 1 then .long (h.2.1 p0 b) else if d = 2 then va_rf (h.2.2 p0 b) else .int (h.1 p0 b)) = xm_fv cl ad h p0 a b := by
    unfold xm_fv
    rw [xm_ft_at hc, ← hd0]
    split
    · rfl
    · split
      · exact xm_cv_rf ad _
      · rfl
  rw [← e1]
  exact k2
theorem xm_o_puti (E : xm_Env p s m args c T0 T cl TX X D cA ad A own cc nL) {n w a b p0 N0 : Nat} {C : String} {TT : u_T} {x : Int32} {r : List Value} (hd : decode cc pc = .ok (.putfield n, 3)) (hn : xm_np co (i + 1) = pc + 3) (hc : cl[a]? = some (C, TT, N0)) (hb0 : b < N0) (hd0 : 0 = xm_ds (TT b).2.2.1) (hf0 : (TT b).2.2.2 = false) (hw : T0[w]? = some (.fieldLink own n (TT b).1 (TT b).2.1 (TT b).2.2.1)) (hp0 : X.1[p0]? = some (.inr a)) (hl : xm_lh LS nL ad ls) (hW : xm_Wd cl D cA ad A X.1 H h) (hS : va_S A s.heap H locs) (kk : xm_C p l e R s m args below meth c cells slots Q cl X D cA ad A nL co (i + 1, ls, r, xm_si h p0 b x)) : W p l e R s m args below meth c H locs cells slots Q (F0 m pc LS ((.int x :: .ref p0 :: r : List Value).map (xm_cv ad))) := by
  obtain ⟨hx, hb, hml, hown, hts, hK, hX, hCK, hAC, HT⟩ := E
  obtain ⟨hin, ⟨ty0, hty, hts1⟩, hnm⟩ := hCK a C TT N0 hc
  have hts0 := hts1 b hb0
  rw [← hd0] at hts0
  have hnf : narrow (ty0 b) (.int x) = .int x ∧ fits (ty0 b) (.int x) = true := by
    cases hq : ty0 b <;> rw [hq] at hts0 <;> simp [xm_ts] at hts0 <;> exact ⟨rfl, rfl⟩
  refine va_put (v := .int x) hx hb hts hin ty0 hty hnm hown hK hW.1 hW.2 hS p0 (xm_wd_at hp0) hc b hb0 (xm_at hts HT hw rfl) (fun _ q => q) hf0 (hty b hb0) hnf.1 hnf.2 (by rw [xm_fs_len, xm_nf_at hc]; exact hb0) hd (fun H1 locs1 hP1 hD1 hS1 => ?_)
  have e0 : (xm_fs cl ad h p0 a).set b (.int x) = xm_fs cl ad (xm_si h p0 b x) p0 a := by
    refine xm_fs_set (by rw [xm_nf_at hc]; exact hb0) ?_ (fun j hj => ?_)
    · unfold xm_fv
      rw [xm_ft_at hc, ← hd0]
      simp [xm_si, upd, vp_updL, va_up, va_rf]
    · simp [xm_si, upd, vp_updL, va_up, hj]
  rw [e0] at hP1 hD1
  have e1 := xm_wd_set (cl := cl) (cA := cA) (ad := ad) (h := h) (h' := xm_si h p0 b x) hp0 (fun k hk => by simp [xm_si, hk])
  have e2 : xm_cell cl cA ad (xm_si h p0 b x) p0 (.inr a) = .inr (a, xm_fs cl ad (xm_si h p0 b x) p0 a) := rfl
  rw [e2] at e1
  rw [e1] at hP1 hD1
  have k2 := kk LS H1 locs1 hl ⟨hP1, hD1⟩ hS1
  rw [show xm_np co (i + 1) = pc + 3 from hn] at k2
  exact k2
theorem xm_o_putz (E : xm_Env p s m args c T0 T cl TX X D cA ad A own cc nL) {n w a b p0 N0 : Nat} {C : String} {TT : u_T} {x : Int32} {r : List Value} (hd : decode cc pc = .ok (.putfield n, 3)) (hn : xm_np co (i + 1) = pc + 3) (hc : cl[a]? = some (C, TT, N0)) (hb0 : b < N0) (hd0 : 3 = xm_ds (TT b).2.2.1) (hf0 : (TT b).2.2.2 = false) (hw : T0[w]? = some (.fieldLink own n (TT b).1 (TT b).2.1 (TT b).2.2.1)) (hp0 : X.1[p0]? = some (.inr a)) (hz : x = 0 ∨ x = 1) (hl : xm_lh LS nL ad ls) (hW : xm_Wd cl D cA ad A X.1 H h) (hS : va_S A s.heap H locs) (kk : xm_C p l e R s m args below meth c cells slots Q cl X D cA ad A nL co (i + 1, ls, r, xm_si h p0 b x)) : W p l e R s m args below meth c H locs cells slots Q (F0 m pc LS ((.int x :: .ref p0 :: r : List Value).map (xm_cv ad))) := by
  obtain ⟨hx, hb, hml, hown, hts, hK, hX, hCK, hAC, HT⟩ := E
  obtain ⟨hin, ⟨ty0, hty, hts1⟩, hnm⟩ := hCK a C TT N0 hc
  have hts0 := hts1 b hb0
  rw [← hd0] at hts0
  have hnf : narrow (ty0 b) (.int x) = .int x ∧ fits (ty0 b) (.int x) = true := by
    cases hq : ty0 b <;> rw [hq] at hts0 <;> simp [xm_ts] at hts0
    rcases hz with rfl | rfl <;> exact ⟨rfl, rfl⟩
  refine va_put (v := .int x) hx hb hts hin ty0 hty hnm hown hK hW.1 hW.2 hS p0 (xm_wd_at hp0) hc b hb0 (xm_at hts HT hw rfl) (fun _ q => q) hf0 (hty b hb0) hnf.1 hnf.2 (by rw [xm_fs_len, xm_nf_at hc]; exact hb0) hd (fun H1 locs1 hP1 hD1 hS1 => ?_)
  have e0 : (xm_fs cl ad h p0 a).set b (.int x) = xm_fs cl ad (xm_si h p0 b x) p0 a := by
    refine xm_fs_set (by rw [xm_nf_at hc]; exact hb0) ?_ (fun j hj => ?_)
    · unfold xm_fv
      rw [xm_ft_at hc, ← hd0]
      simp [xm_si, upd, vp_updL, va_up, va_rf]
    · simp [xm_si, upd, vp_updL, va_up, hj]
  rw [e0] at hP1 hD1
  have e1 := xm_wd_set (cl := cl) (cA := cA) (ad := ad) (h := h) (h' := xm_si h p0 b x) hp0 (fun k hk => by simp [xm_si, hk])
  have e2 : xm_cell cl cA ad (xm_si h p0 b x) p0 (.inr a) = .inr (a, xm_fs cl ad (xm_si h p0 b x) p0 a) := rfl
  rw [e2] at e1
  rw [e1] at hP1 hD1
  have k2 := kk LS H1 locs1 hl ⟨hP1, hD1⟩ hS1
  rw [show xm_np co (i + 1) = pc + 3 from hn] at k2
  exact k2
theorem xm_o_putl (E : xm_Env p s m args c T0 T cl TX X D cA ad A own cc nL) {n w a b p0 N0 : Nat} {C : String} {TT : u_T} {x : Int64} {r : List Value} (hd : decode cc pc = .ok (.putfield n, 3)) (hn : xm_np co (i + 1) = pc + 3) (hc : cl[a]? = some (C, TT, N0)) (hb0 : b < N0) (hd0 : 1 = xm_ds (TT b).2.2.1) (hf0 : (TT b).2.2.2 = false) (hw : T0[w]? = some (.fieldLink own n (TT b).1 (TT b).2.1 (TT b).2.2.1)) (hp0 : X.1[p0]? = some (.inr a)) (hl : xm_lh LS nL ad ls) (hW : xm_Wd cl D cA ad A X.1 H h) (hS : va_S A s.heap H locs) (kk : xm_C p l e R s m args below meth c cells slots Q cl X D cA ad A nL co (i + 1, ls, r, xm_sl h p0 b x)) : W p l e R s m args below meth c H locs cells slots Q (F0 m pc LS ((.long x :: .ref p0 :: r : List Value).map (xm_cv ad))) := by
  obtain ⟨hx, hb, hml, hown, hts, hK, hX, hCK, hAC, HT⟩ := E
  obtain ⟨hin, ⟨ty0, hty, hts1⟩, hnm⟩ := hCK a C TT N0 hc
  have hts0 := hts1 b hb0
  rw [← hd0] at hts0
  have hnf : narrow (ty0 b) (.long x) = .long x ∧ fits (ty0 b) (.long x) = true := by
    cases hq : ty0 b <;> rw [hq] at hts0 <;> simp [xm_ts] at hts0 <;> exact ⟨rfl, rfl⟩
  refine va_put (v := .long x) hx hb hts hin ty0 hty hnm hown hK hW.1 hW.2 hS p0 (xm_wd_at hp0) hc b hb0 (xm_at hts HT hw rfl) (fun _ q => q) hf0 (hty b hb0) hnf.1 hnf.2 (by rw [xm_fs_len, xm_nf_at hc]; exact hb0) hd (fun H1 locs1 hP1 hD1 hS1 => ?_)
  have e0 : (xm_fs cl ad h p0 a).set b (.long x) = xm_fs cl ad (xm_sl h p0 b x) p0 a := by
    refine xm_fs_set (by rw [xm_nf_at hc]; exact hb0) ?_ (fun j hj => ?_)
    · unfold xm_fv
      rw [xm_ft_at hc, ← hd0]
      simp [xm_sl, upd, vp_updL, va_up, va_rf]
    · simp [xm_sl, upd, vp_updL, va_up, hj]
  rw [e0] at hP1 hD1
  have e1 := xm_wd_set (cl := cl) (cA := cA) (ad := ad) (h := h) (h' := xm_sl h p0 b x) hp0 (fun k hk => by simp [xm_sl, hk])
  have e2 : xm_cell cl cA ad (xm_sl h p0 b x) p0 (.inr a) = .inr (a, xm_fs cl ad (xm_sl h p0 b x) p0 a) := rfl
  rw [e2] at e1
  rw [e1] at hP1 hD1
  have k2 := kk LS H1 locs1 hl ⟨hP1, hD1⟩ hS1
  rw [show xm_np co (i + 1) = pc + 3 from hn] at k2
  exact k2
theorem xm_o_puta (E : xm_Env p s m args c T0 T cl TX X D cA ad A own cc nL) {n w a b p0 N0 : Nat} {C : String} {TT : u_T} {x : Nat} {r : List Value} (hd : decode cc pc = .ok (.putfield n, 3)) (hn : xm_np co (i + 1) = pc + 3) (hc : cl[a]? = some (C, TT, N0)) (hb0 : b < N0) (hd0 : 2 = xm_ds (TT b).2.2.1) (hf0 : (TT b).2.2.2 = false) (hw : T0[w]? = some (.fieldLink own n (TT b).1 (TT b).2.1 (TT b).2.2.1)) (hp0 : X.1[p0]? = some (.inr a)) (hl : xm_lh LS nL ad ls) (hW : xm_Wd cl D cA ad A X.1 H h) (hS : va_S A s.heap H locs) (kk : xm_C p l e R s m args below meth c cells slots Q cl X D cA ad A nL co (i + 1, ls, r, xm_sr h p0 b x)) : W p l e R s m args below meth c H locs cells slots Q (F0 m pc LS ((.ref x :: .ref p0 :: r : List Value).map (xm_cv ad))) := by
  obtain ⟨hx, hb, hml, hown, hts, hK, hX, hCK, hAC, HT⟩ := E
  obtain ⟨hin, ⟨ty0, hty, hts1⟩, hnm⟩ := hCK a C TT N0 hc
  have hts0 := hts1 b hb0
  rw [← hd0] at hts0
  have hnf : narrow (ty0 b) (.ref (ad x)) = .ref (ad x) ∧ fits (ty0 b) (.ref (ad x)) = true := by
    cases hq : ty0 b <;> rw [hq] at hts0 <;> simp [xm_ts] at hts0 <;> exact ⟨rfl, rfl⟩
  refine va_put (v := .ref (ad x)) hx hb hts hin ty0 hty hnm hown hK hW.1 hW.2 hS p0 (xm_wd_at hp0) hc b hb0 (xm_at hts HT hw rfl) (fun _ q => q) hf0 (hty b hb0) hnf.1 hnf.2 (by rw [xm_fs_len, xm_nf_at hc]; exact hb0) hd (fun H1 locs1 hP1 hD1 hS1 => ?_)
  have e0 : (xm_fs cl ad h p0 a).set b (.ref (ad x)) = xm_fs cl ad (xm_sr h p0 b x) p0 a := by
    refine xm_fs_set (by rw [xm_nf_at hc]; exact hb0) ?_ (fun j hj => ?_)
    · unfold xm_fv
      rw [xm_ft_at hc, ← hd0]
      simp [xm_sr, upd, vp_updL, va_up, va_rf]
    · simp [xm_sr, upd, vp_updL, va_up, hj]
  rw [e0] at hP1 hD1
  have e1 := xm_wd_set (cl := cl) (cA := cA) (ad := ad) (h := h) (h' := xm_sr h p0 b x) hp0 (fun k hk => by simp [xm_sr, hk])
  have e2 : xm_cell cl cA ad (xm_sr h p0 b x) p0 (.inr a) = .inr (a, xm_fs cl ad (xm_sr h p0 b x) p0 a) := rfl
  rw [e2] at e1
  rw [e1] at hP1 hD1
  have k2 := kk LS H1 locs1 hl ⟨hP1, hD1⟩ hS1
  rw [show xm_np co (i + 1) = pc + 3 from hn] at k2
  exact k2
end XMS2
