/-! The maker's steps are the bytecode's. -/
def ym_Wd (cl : List vw_C) (D : va_G) (cA : Nat → ClassId) (ad : Nat → Nat) (A : Nat → Prop) (H : Heap) (cs : List ym_E) : Prop := va_P D cl (ym_wd cA ad cs) H ∧ va_D A (ym_wd cA ad cs)
def ym_Env (p : Program) (s : State) (m : MethodId) (args : Array Value) (meth : Method) (c : Code) (T0 T : List Cond) (cl : List vw_C) (NW : List (String × Nat × MethodName × String)) (D : va_G) (cA : Nat → ClassId) (A : Nat → Prop) (own : String) (cc : ByteArray) (nL : Nat) : Prop :=
  (p.tables.exec = Jvm.exec ∧ c.code = cc ∧ c.maxLocals = nL ∧ s.vm.findClass own = some m.cls ∧ ∀ w ∈ T, w.before args s = true) ∧ va_K D cl (xm_tys cA) s ∧ (va_AO "SheetByTwo$Work" s ∧ va_AO "SheetByTwo$Row" s) ∧ (∀ q ∈ NW, va_Nw (.methodLinkNest q.1 q.2.1 q.2.2.1 q.2.2.2) s) ∧ xm_CK T cl ∧ (Cond.instanceMethod Lib.objectInit ∈ T ∧ Cond.code Lib.objectInit ⟨#[0xb1]⟩ 1 none ∈ T) ∧ (∀ w ∈ T0, goodWord w = true → w ∈ T) ∧ (∀ q, s.heap.size ≤ q → A q) ∧ meth.name = "<init>"
section YMS
variable {p : Program} {l : Launch} {e : Env} {R : Room} {s : State} {m : MethodId} {args : Array Value} {below : List Frame} {meth : Method} {c : Code} {H : Heap} {locs : List Loc} {cells slots : Nat} {Q : State → Prop}
variable {T0 T : List Cond} {cl : List vw_C} {NW : List (String × Nat × MethodName × String)} {D : va_G} {cA : Nat → ClassId} {ad : Nat → Nat} {A : Nat → Prop} {own : String} {cc : ByteArray} {nL : Nat} {co : List xm_I}
variable {pc i : Nat} {ls : xm_L} {st : List Value} {cs : List ym_E} {LS : Array Slot}
/-- how it goes on -/
abbrev ym_C (p : Program) (l : Launch) (e : Env) (R : Room) (s : State) (m : MethodId) (args : Array Value) (below : List Frame) (meth : Method) (c : Code) (cells slots : Nat) (Q : State → Prop) (cl : List vw_C) (D : va_G) (cA : Nat → ClassId) (ad : Nat → Nat) (A : Nat → Prop) (nL : Nat) (co : List xm_I) (z : ym_N) : Prop :=
  ∀ (LS' : Array Slot) (H' : Heap) (locs' : List Loc), xm_lh LS' nL ad z.2.1 → ym_Wd cl D cA ad A H' z.2.2.2 → va_S A s.heap H' locs' → W p l e R s m args below meth c H' locs' cells slots Q (F0 m (xm_np co z.1) LS' (z.2.2.1.map (xm_cv ad)))
theorem ym_fsv {fs : List Value} {k : Nat} {v : Value} (h : fs[k]? = some v) : (fs.map (xm_cv ad))[k]? = some (xm_cv ad v) := by rw [List.getElem?_map, h]; rfl
theorem ym_o_getf (E : ym_Env p s m args meth c T0 T cl NW D cA A own cc nL) {n w a b p0 N0 : Nat} {C : String} {TT : u_T} {fs r : List Value} {v : Value} (hd : decode cc pc = .ok (.getfield n, 3)) (hn : xm_np co (i + 1) = pc + 3) (hc : cl[a]? = some (C, TT, N0)) (hb0 : b < N0) (hw : T0[w]? = some (.fieldLink own n (TT b).1 (TT b).2.1 (TT b).2.2.1)) (hp0 : cs[p0]? = some (.inr (a, fs))) (hv : fs[b]? = some v) (hl : xm_lh LS nL ad ls) (hW : ym_Wd cl D cA ad A H cs) (hS : va_S A s.heap H locs) (kk : ym_C p l e R s m args below meth c cells slots Q cl D cA ad A nL co (i + 1, ls, v :: r, cs)) : W p l e R s m args below meth c H locs cells slots Q (F0 m pc LS (((.ref p0 :: r) : List Value).map (xm_cv ad))) := by
  obtain ⟨⟨hx, hb, hml, hown, hts⟩, hK, hAO, hNW, hCK, hOI, HT, hA, hin⟩ := E
  have k2 := kk LS H locs hl hW hS
  rw [show xm_np co (i + 1) = pc + 3 from hn] at k2
  exact va_get (v := xm_cv ad v) hx hb hts (hCK a C TT N0 hc).1 hown hK hW.1 p0 (ym_wd_at hp0) hc b hb0 (xm_at hts HT hw rfl) (fun _ q => q) (ym_fsv hv) hd k2
theorem ym_o_put (E : ym_Env p s m args meth c T0 T cl NW D cA A own cc nL) {n w a b p0 N0 d : Nat} {C : String} {TT : u_T} {fs r : List Value} {v : Value} (hd : decode cc pc = .ok (.putfield n, 3)) (hn : xm_np co (i + 1) = pc + 3) (hc : cl[a]? = some (C, TT, N0)) (hb0 : b < N0) (hd0 : d = xm_ds (TT b).2.2.1) (hv : (d = 0 ∧ ∃ x, v = .int x) ∨ (d = 2 ∧ ∃ x, v = .ref x)) (hdecl : (TT b).1 = own) (hw : T0[w]? = some (.fieldLink own n (TT b).1 (TT b).2.1 (TT b).2.2.1)) (hp0 : cs[p0]? = some (.inr (a, fs))) (hfl : b < fs.length) (hl : xm_lh LS nL ad ls) (hW : ym_Wd cl D cA ad A H cs) (hS : va_S A s.heap H locs) (kk : ym_C p l e R s m args below meth c cells slots Q cl D cA ad A nL co (i + 1, ls, r, cs.set p0 (.inr (a, fs.set b v)))) : W p l e R s m args below meth c H locs cells slots Q (F0 m pc LS (((v :: .ref p0 :: r) : List Value).map (xm_cv ad))) := by
  obtain ⟨⟨hx, hb, hml, hown, hts⟩, hK, hAO, hNW, hCK, hOI, HT, hA, hin⟩ := E
  obtain ⟨hinw, ⟨ty0, hty, hts1⟩, hnm⟩ := hCK a C TT N0 hc
  have hts0 := hts1 b hb0
  rw [← hd0] at hts0
  have hnf : narrow (ty0 b) (xm_cv ad v) = xm_cv ad v ∧ fits (ty0 b) (xm_cv ad v) = true := by
    rcases hv with ⟨rfl, x, rfl⟩ | ⟨rfl, x, rfl⟩
    · cases hq : ty0 b <;> rw [hq] at hts0 <;> simp [xm_ts] at hts0 <;> exact ⟨rfl, rfl⟩
    · cases hq : ty0 b <;> rw [hq] at hts0 <;> simp [xm_ts] at hts0 <;> exact ⟨rfl, rfl⟩
  have go : ∀ (H1 : Heap) (locs1 : List Loc), va_P D cl ((ym_wd cA ad cs).set p0 (ad p0, .inr (a, (fs.map (xm_cv ad)).set b (xm_cv ad v)))) H1 → va_D A ((ym_wd cA ad cs).set p0 (ad p0, .inr (a, (fs.map (xm_cv ad)).set b (xm_cv ad v)))) → va_S A s.heap H1 locs1 → W p l e R s m args below meth c H1 locs1 cells slots Q (F0 m (pc + 3) LS (r.map (xm_cv ad))) := by
    intro H1 locs1 hP1 hD1 hS1
    have e1 : (ym_wd cA ad cs).set p0 (ad p0, .inr (a, (fs.map (xm_cv ad)).set b (xm_cv ad v))) = ym_wd cA ad (cs.set p0 (.inr (a, fs.set b v))) := by
      rw [← List.map_set]
      exact ym_wd_set (cA := cA) (ad := ad) (e' := .inr (a, fs.set b v)) hp0
    rw [e1] at hP1 hD1
    have k2 := kk LS H1 locs1 hl ⟨hP1, hD1⟩ hS1
    rw [show xm_np co (i + 1) = pc + 3 from hn] at k2
    exact k2
  by_cases hf : (TT b).2.2.2 = true
  · exact va_putF (v := xm_cv ad v) hx hb hts hinw ty0 hty hnm hown hK hW.1 hW.2 hS p0 (ym_wd_at hp0) hc b hb0 (xm_at hts HT hw rfl) (fun _ q => q) hf hin hdecl (hty b hb0) hnf.1 hnf.2 (by rw [List.length_map]; exact hfl) hd go
  · exact va_put (v := xm_cv ad v) hx hb hts hinw ty0 hty hnm hown hK hW.1 hW.2 hS p0 (ym_wd_at hp0) hc b hb0 (xm_at hts HT hw rfl) (fun _ q => q) (by simpa using hf) (hty b hb0) hnf.1 hnf.2 (by rw [List.length_map]; exact hfl) hd go
theorem ym_o_iast (E : ym_Env p s m args meth c T0 T cl NW D cA A own cc nL) {p0 n : Nat} {ov : List (Nat × Value)} {j x : Int32} {r : List Value} (hd : decode cc pc = .ok (.iastore, 1)) (hn : xm_np co (i + 1) = pc + 1) (hp0 : cs[p0]? = some (.inl (0, n, ov))) (hj : ¬ (j < 0 ∨ n ≤ j.toNatClampNeg)) (hl : xm_lh LS nL ad ls) (hW : ym_Wd cl D cA ad A H cs) (hS : va_S A s.heap H locs) (kk : ym_C p l e R s m args below meth c cells slots Q cl D cA ad A nL co (i + 1, ls, r, cs.set p0 (.inl (0, n, (j.toNatClampNeg, .int x) :: ov)))) : W p l e R s m args below meth c H locs cells slots Q (F0 m pc LS (((.int x :: .int j :: .ref p0 :: r) : List Value).map (xm_cv ad))) := by
  obtain ⟨⟨hx, hb, hml, hown, hts⟩, hK, hAO, hNW, hCK, hOI, HT, hA, hin⟩ := E
  refine va_iast (n := n) (f := ym_oi ov) hx hb hK hW.1 hW.2 hS p0 0 (ym_wd_at hp0) (xm_tys_at cA (by decide)) hj hd (fun H1 locs1 hP1 hD1 hS1 => ?_)
  have e1 : (ym_wd cA ad cs).set p0 (ad p0, .inl (cA 0, n, .inl (upd (ym_oi ov) j.toNatClampNeg x))) = ym_wd cA ad (cs.set p0 (.inl (0, n, (j.toNatClampNeg, .int x) :: ov))) := by
    rw [← ym_oi_up]
    exact ym_wd_set (cA := cA) (ad := ad) (e' := .inl (0, n, (j.toNatClampNeg, .int x) :: ov)) hp0
  rw [e1] at hP1 hD1
  have k2 := kk LS H1 locs1 hl ⟨hP1, hD1⟩ hS1
  rw [show xm_np co (i + 1) = pc + 1 from hn] at k2
  exact k2
theorem ym_o_aast (E : ym_Env p s m args meth c T0 T cl NW D cA A own cc nL) {q8 q2 : vw_C} (hcw : cl[8]? = some q8) (hcr : cl[2]? = some q2) (h8 : q8.1 = "SheetByTwo$Work") (h2 : q2.1 = "SheetByTwo$Row") {p0 x t n ci : Nat} {ov : List (Nat × Value)} {fs : List Value} {j : Int32} {r : List Value} (hd : decode cc pc = .ok (.aastore, 1)) (hn : xm_np co (i + 1) = pc + 1) (hp0 : cs[p0]? = some (.inl (t, n, ov))) (hx0 : cs[x]? = some (.inr (ci, fs))) (ht : (t = 4 ∧ ci = 8) ∨ (t = 5 ∧ ci = 2)) (hj : ¬ (j < 0 ∨ n ≤ j.toNatClampNeg)) (hl : xm_lh LS nL ad ls) (hW : ym_Wd cl D cA ad A H cs) (hS : va_S A s.heap H locs) (kk : ym_C p l e R s m args below meth c cells slots Q cl D cA ad A nL co (i + 1, ls, r, cs.set p0 (.inl (t, n, (j.toNatClampNeg, .ref x) :: ov)))) : W p l e R s m args below meth c H locs cells slots Q (F0 m pc LS (((.ref x :: .int j :: .ref p0 :: r) : List Value).map (xm_cv ad))) := by
  obtain ⟨⟨hx, hb, hml, hown, hts⟩, hK, hAO, hNW, hCK, hOI, HT, hA, hin⟩ := E
  have go : ∀ (H1 : Heap) (locs1 : List Loc), va_P D cl ((ym_wd cA ad cs).set p0 (ad p0, .inl (cA t, n, .inr (.inr (.inr (.inr (va_up (ym_or ad ov) j.toNatClampNeg (some (ad x))))))))) H1 → va_D A ((ym_wd cA ad cs).set p0 (ad p0, .inl (cA t, n, .inr (.inr (.inr (.inr (va_up (ym_or ad ov) j.toNatClampNeg (some (ad x))))))))) → va_S A s.heap H1 locs1 → W p l e R s m args below meth c H1 locs1 cells slots Q (F0 m (pc + 1) LS (r.map (xm_cv ad))) := by
    intro H1 locs1 hP1 hD1 hS1
    have e1 : (ym_wd cA ad cs).set p0 (ad p0, .inl (cA t, n, .inr (.inr (.inr (.inr (va_up (ym_or ad ov) j.toNatClampNeg (some (ad x)))))))) = ym_wd cA ad (cs.set p0 (.inl (t, n, (j.toNatClampNeg, .ref x) :: ov))) := by
      rw [← ym_or_up]
      rw [← ym_wd_set (e' := .inl (t, n, (j.toNatClampNeg, .ref x) :: ov)) hp0]
      rcases ht with ⟨rfl, -⟩ | ⟨rfl, -⟩ <;> rfl
    rw [e1] at hP1 hD1
    have k2 := kk LS H1 locs1 hl ⟨hP1, hD1⟩ hS1
    rw [show xm_np co (i + 1) = pc + 1 from hn] at k2
    exact k2
  rcases ht with ⟨rfl, rfl⟩ | ⟨rfl, rfl⟩
  · exact va_astq (r := q8) (n := n) (f := ym_or ad ov) hx hb hK hW.1 hW.2 hS p0 4 x 8 (ym_wd_at hp0) (by rw [h8]; exact xm_tys_at cA (t := 4) (by decide)) (ym_wd_at hx0) hcw hj hd go
  · exact va_astq (r := q2) (n := n) (f := ym_or ad ov) hx hb hK hW.1 hW.2 hS p0 5 x 2 (ym_wd_at hp0) (by rw [h2]; exact xm_tys_at cA (t := 5) (by decide)) (ym_wd_at hx0) hcr hj hd go
theorem ym_o_obj (E : ym_Env p s m args meth c T0 T cl NW D cA A own cc nL) {n w p0 : Nat} {r : List Value} (hd : decode cc pc = .ok (.invokespecial n, 3)) (hn : xm_np co (i + 1) = pc + 3) (hw : T0[w]? = some (.methodLink own n Lib.objectInit)) (hF : 1 ≤ R.frames) (hL : 64 ≤ R.locals) (h8 : xm_cats r ≤ 8) (hl : xm_lh LS nL ad ls) (hW : ym_Wd cl D cA ad A H cs) (hS : va_S A s.heap H locs) (kk : ym_C p l e R s m args below meth c cells slots Q cl D cA ad A nL co (i + 1, ls, r, cs)) : W p l e R s m args below meth c H locs cells slots Q (F0 m pc LS (((.ref p0 :: r) : List Value).map (xm_cv ad))) := by
  obtain ⟨⟨hx, hb, hml, hown, hts⟩, hK, hAO, hNW, hCK, hOI, HT, hA, hin⟩ := E
  have k2 := kk LS H locs hl hW hS
  rw [show xm_np co (i + 1) = pc + 3 from hn] at k2
  refine W.objInit hx hb hown (xm_at hts HT hw rfl) (hts _ hOI.1) (hts _ hOI.2) (g := F0 m pc LS (.ref (ad p0) :: r.map (xm_cv ad))) rfl (by rw [hml]; exact hl.2.1) rfl hd hF ?_ k2
  have := lv_room (m := m) (pc := pc) (ls := LS) (rest := .ref (ad p0) :: r.map (xm_cv ad)) (st := r.map (xm_cv ad)) (by rw [xm_cats_cv]; exact h8)
  omega
end YMS
