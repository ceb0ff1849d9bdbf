/-! A whole run of a method: its contract. -/
def xm_rm (d : Nat) : Room := { frames := d, cells := 0, slots := 0, locals := 64 * d }
def xm_Pc (cl : List vw_C) (TX : List (String × Nat × String × Nat)) (X : xm_X) (D : va_G) (cA : Nat → ClassId) (ad : Nat → Nat) (A : Nat → Prop) (as : List Value) (h : xm_H) : Array Value → State → Prop := va_Pc (as.map (xm_cv ad)) (fun U => xm_Wd cl D cA ad A X.1 U.heap h ∧ va_K D cl (xm_tys cA) U ∧ xm_Ext X TX ad A U U.heap)
def xm_Qc (cl : List vw_C) (X : xm_X) (D : va_G) (cA : Nat → ClassId) (ad : Nat → Nat) (A : Nat → Prop) (r : Option Value) (h' : xm_H) : Array Value → State → Outcome → State → Prop := fun _ st oc t => (oc = .returned (r.map (xm_cv ad)) ∧ xm_Wd cl D cA ad A X.1 t.heap h') ∧ va_F A st t
abbrev xm_Met (l : Launch) (T : List Cond) (cl : List vw_C) (TX : List (String × Nat × String × Nat)) (X : xm_X) (D : va_G) (cA : Nat → ClassId) (ad : Nat → Nat) (A : Nat → Prop) (d : Nat) (M : xm_M) (as : List Value) (h : xm_H) (r : Option Value) (h' : xm_H) : Prop :=
  Met l (xm_y M) (Cond.code (xm_y M) (xm_cc M) (xm_ml M) (xm_rt M) :: T) (xm_rm d) (xm_Pc cl TX X D cA ad A as h) (xm_Qc cl X D cA ad A r h') 0 0 A
/-- what holds of the program -/
def xm_PK (T0 T : List Cond) (cl : List vw_C) (TX : List (String × Nat × String × Nat)) (P : List xm_M) : Prop :=
  (∀ w ∈ T, (w.onTables && w.keeps) = true ∨ ∃ ty, w = .arrayClass ty) ∧ ∀ (mi : Nat) (M : xm_M), P[mi]? = some M → xm_okM T0 cl TX P M = true ∧ Cond.code (xm_y M) (xm_cc M) (xm_ml M) (xm_rt M) ∈ T
def xm_rets (cc : ByteArray) (pc : Nat) (rt : Option FieldType) (r : Option Value) : Prop := match r with
  | none => decode cc pc = .ok (.return_, 1) ∧ rt = none
  | some (.int v) => decode cc pc = .ok (.ireturn, 1) ∧ xm_okr (xm_rd rt) v = true
  | some (.long _) => decode cc pc = .ok (.lreturn, 1) ∧ rt = some .long
  | _ => False
section XMR
variable {p : Program} {l : Launch} {e : Env} {R : Room} {s : State} {m : MethodId} {args : Array Value} {below : List Frame} {meth : Method} {c : Code} {H : Heap} {locs : List Loc} {cells slots : Nat} {Q : State → Prop}
variable {T0 T : List Cond} {cl : List vw_C} {TX : List (String × Nat × String × Nat)} {X : xm_X} {D : va_G} {cA : Nat → ClassId} {ad : Nat → Nat} {A : Nat → Prop} {own : String} {cc : ByteArray} {nL : Nat} {co : List xm_I}
theorem xm_callr {pc : Nat} {LS : Array Slot} {st0 rest : List Value} {a : Array Value} {r : Option Value} {h' : xm_H} (hr : va_Run p l e R s m args below meth c H locs cells slots 0 0 (F0 m pc LS st0) rest (xm_Qc cl X D cA ad A r h' a) A) (hS : va_S A s.heap H locs)
    (kk : ∀ (H1 : Heap) (locs1 : List Loc), xm_Wd cl D cA ad A X.1 H1 h' → va_S A s.heap H1 locs1 → W p l e R s m args below meth c H1 locs1 cells slots Q (F0 m (pc + 3) LS ((r.map (xm_cv ad)).toList ++ rest))) : W p l e R s m args below meth c H locs cells slots Q (F0 m pc LS st0) := by
  intro T0 hT X0
  obtain ⟨v, st₀, t, T', L, h0, X', hL, e1, e2, ⟨⟨hv, hw⟩, hz, hk⟩, st⟩ := hr T0 hT X0
  cases hv
  rw [h0] at hz hk
  obtain ⟨t2, a1, b1⟩ := kk T'.heap (locs ++ L) (by rw [e1]; exact hw)
    ⟨Nat.le_trans hS.1 (by rw [e1]; exact hz), fun q h1 h2 => by rw [e1, hk q (Nat.lt_of_lt_of_le h1 hS.1) h2]; exact hS.2.1 q h1 h2, fun q hq => by
      rcases List.mem_append.mp hq with h | h
      · exact hS.2.2 q h
      · exact hL q h⟩ T' rfl X'
  exact ⟨t2, st t2 a1, b1⟩
theorem xm_pre (hX : xm_Ext X TX ad A s s.heap) (hK : va_K D cl (xm_tys cA) s) {h : xm_H} (hW : xm_Wd cl D cA ad A X.1 H h) (hS : va_S A s.heap H locs) (as : List Value) : PreS s H (xm_Pc cl TX X D cA ad A as h) (as.map (xm_cv ad)) :=
  ⟨fun _ _ _ _ q => q, fun U hU hWm => ⟨rfl, by rw [hU]; exact hW, va_K.moved hWm.alike hK, by rw [hU]; exact hX.call hWm hS.2.1⟩⟩
theorem xm_good (hg : ∀ w ∈ T, (w.onTables && w.keeps) = true ∨ ∃ ty, w = .arrayClass ty) {w0 : Cond} (h0 : w0 ∈ T) : GoodIn T (w0 :: T) := by
  intro w hw
  rcases List.mem_cons.mp hw with rfl | hw
  · exact ⟨h0, hg _ h0⟩
  · exact ⟨hw, hg _ hw⟩
/-- what a method's check says -/
theorem xm_okM_inv {P : List xm_M} {M : xm_M} (h : xm_okM T0 cl TX P M = true) : T0[xm_wi M]? = some (.initialized (xm_y M).cls) ∧
    (if xm_kd M = 0 then decide (T0[xm_ws1 M]? = some (.static (xm_y M))) else decide (T0[xm_ws1 M]? = some (.instanceMethod (xm_y M))) && decide (T0[xm_ws2 M]? = some (.selects (xm_y M).cls (xm_y M) (xm_y M))) &&
    (if xm_ci M = 99 then decide ((xm_y M).cls = "java/lang/String") else (match cl[xm_ci M]? with
      | some q => decide (q.1 = (xm_y M).cls)
      | none => false))) = true ∧ plainName (xm_y M).cls = true ∧ (xm_y M).cls ≠ "java/lang/invoke/MethodHandle" ∧ (xm_y M).cls ≠ "java/lang/invoke/VarHandle" ∧ (parseMethodDescriptor (xm_y M).desc).map (fun d => d.parameters.length) = some (xm_na M) ∧ xm_ml M ≤ 40 ∧ xm_np (xm_co M) 0 = 0 ∧ ∀ (i : Nat) (e : xm_I), (xm_co M)[i]? = some e → xm_okI T0 cl TX P (xm_y M).cls (xm_cc M) (xm_rt M) (xm_co M) e i = true := by
  unfold xm_okM at h
  simp only [Bool.and_eq_true, decide_eq_true_eq] at h
  obtain ⟨⟨⟨⟨⟨⟨⟨⟨h1, h2⟩, h3⟩, h4⟩, h5⟩, h6⟩, h7⟩, h8⟩, h9⟩ := h
  refine ⟨h1, ?_, h3, h4, h5, h6, h7, h8, fun i e hi => ?_⟩
  · split at h2
    · rename_i q
      simp only [q, if_true]
      exact h2
    · rename_i q
      simp only [q, if_false]
      exact h2
  · exact List.all_eq_true.mp h9 (e, i) (List.mem_zipIdx_iff_getElem?.mpr hi)
theorem xm_callS (E : xm_Env p s m args c T0 T cl TX X D cA ad A own cc nL) {P : List xm_M} (PK : xm_PK T0 T cl TX P) {d : Nat} (hF : d + 1 ≤ R.frames) (hL : 64 * (d + 1) ≤ R.locals) (hcs : cells ≤ R.cells ∧ slots ≤ R.slots) {mi ix w : Nat} {M : xm_M} (hM : P[mi]? = some M) (hk : xm_kd M = 0) (hw : T0[w]? = some (.methodLink own ix (xm_y M)))
    {as rest : List Value} {h h' : xm_H} {r : Option Value} (hm : xm_Met l T cl TX X D cA ad A d M as h r h') (hn : as.length = xm_na M) (hc8 : xm_cats rest ≤ 8)
    {pc i : Nat} {LS : Array Slot} {ls : xm_L} (hd : decode cc pc = .ok (.invokestatic ix, 3)) (hl : xm_lh LS nL ad ls) (hW : xm_Wd cl D cA ad A X.1 H h) (hS : va_S A s.heap H locs)
    (kk : ∀ (H1 : Heap) (locs1 : List Loc), xm_Wd cl D cA ad A X.1 H1 h' → va_S A s.heap H1 locs1 → W p l e R s m args below meth c H1 locs1 cells slots Q (F0 m (pc + 3) LS ((r.map (xm_cv ad)).toList ++ rest.map (xm_cv ad)))) :
    W p l e R s m args below meth c H locs cells slots Q (F0 m pc LS ((as.map (xm_cv ad)).reverse ++ rest.map (xm_cv ad))) := by
  obtain ⟨hx, hb, hml, hown, hts, hK, hX, hCK, hAC, HT⟩ := E
  obtain ⟨ok, hcode⟩ := PK.2 mi M hM
  obtain ⟨o1, o2, o3, o4, o5, o6, o7, o8, o9⟩ := xm_okM_inv ok
  simp only [hk, if_true, decide_eq_true_eq] at o2
  refine xm_callr (va_runS (n := xm_na M) (bytes := xm_cc M) (maxL := xm_ml M) (ret := xm_rt M) (nL := nL) ⟨hx, hb, hml, hown, hts⟩ hm ⟨callB_of (xm_na M) hts (xm_good PK.1 hcode) rfl rfl rfl (xm_at hts HT o1 rfl) (xm_at hts HT hw rfl) ⟨o4, o5, o6⟩ ⟨hF, ?_⟩, xm_at hts HT o2 rfl⟩ (xm_pre hX hK hW hS as) rfl (by rw [List.length_map]; exact hn) hl.2.1 rfl (lv_room (by rw [xm_cats_cv]; exact hc8)) hd ⟨hcs.1, hcs.2⟩) hS kk
  show 8 + (xm_ml M + 11) + 64 * d ≤ R.locals
  omega
theorem xm_callV (E : xm_Env p s m args c T0 T cl TX X D cA ad A own cc nL) {P : List xm_M} (PK : xm_PK T0 T cl TX P) {d : Nat} (hF : d + 1 ≤ R.frames) (hL : 64 * (d + 1) ≤ R.locals) (hcs : cells ≤ R.cells ∧ slots ≤ R.slots) {mi ix w : Nat} {M : xm_M} (hM : P[mi]? = some M) (hk : xm_kd M = 1) (hw : T0[w]? = some (.methodLink own ix (xm_y M)))
    {b : Nat} {as rest : List Value} {h h' : xm_H} {r : Option Value} (hm : xm_Met l T cl TX X D cA ad A d M (.ref b :: as) h r h') (hn : as.length = xm_na M) (hc8 : xm_cats rest ≤ 8) (hrc : xm_rcv X (xm_ci M) (.ref b :: as) = true)
    {pc i : Nat} {LS : Array Slot} {ls : xm_L} (hd : decode cc pc = .ok (.invokevirtual ix, 3)) (hl : xm_lh LS nL ad ls) (hW : xm_Wd cl D cA ad A X.1 H h) (hS : va_S A s.heap H locs)
    (kk : ∀ (H1 : Heap) (locs1 : List Loc), xm_Wd cl D cA ad A X.1 H1 h' → va_S A s.heap H1 locs1 → W p l e R s m args below meth c H1 locs1 cells slots Q (F0 m (pc + 3) LS ((r.map (xm_cv ad)).toList ++ rest.map (xm_cv ad)))) :
    W p l e R s m args below meth c H locs cells slots Q (F0 m pc LS ((as.map (xm_cv ad)).reverse ++ .ref (ad b) :: rest.map (xm_cv ad))) := by
  obtain ⟨hx, hb, hml, hown, hts, hK, hX, hCK, hAC, HT⟩ := E
  obtain ⟨ok, hcode⟩ := PK.2 mi M hM
  obtain ⟨o1, o2, o3, o4, o5, o6, o7, o8, o9⟩ := xm_okM_inv ok
  have hk0 : ¬ xm_kd M = 0 := by rw [hk]; decide
  rw [if_neg hk0] at o2
  simp only [Bool.and_eq_true, decide_eq_true_eq] at o2
  obtain ⟨⟨o21, o22⟩, o23⟩ := o2
  have hrv : ∃ cellB : Cell, H[ad b]? = some cellB ∧ cellB.vm.isStatics = false ∧ s.vm.findClass (xm_y M).cls = some cellB.cls := by
    simp only [xm_rcv] at hrc
    by_cases h99 : xm_ci M = 99
    · rw [if_pos h99] at o23 hrc
      have o23 := of_decide_eq_true o23
      cases hq : X.2.2.1 b 0 with
      | none => rw [hq] at hrc; cases hrc
      | some v =>
        obtain ⟨cell, c1, c2, c3, -⟩ := (hX.2.1 b 0 v hq).1.kept hS.2.1
        exact ⟨cell, c1, c2, by rw [o23]; exact c3⟩
    · rw [if_neg h99] at o23 hrc
      split at hrc
      · rename_i c0 hp0
        have hc0 := eq_of_beq hrc
        subst hc0
        split at o23
        · rename_i q hq
          have o23 := of_decide_eq_true o23
          rw [← o23]
          exact va_recv hK hW.1 hq (xm_wd_at hp0)
        · cases o23
      · cases hrc
  refine xm_callr (va_runV (C := (xm_y M).cls) (b := ad b) (n := xm_na M) (bytes := xm_cc M) (maxL := xm_ml M) (ret := xm_rt M) (nL := nL) ⟨hx, hb, hml, hown, hts⟩ hm ⟨callB_of (xm_na M) hts (xm_good PK.1 hcode) rfl rfl rfl (xm_at hts HT o1 rfl) (xm_at hts HT hw rfl) ⟨o4, o5, o6⟩ ⟨hF, ?_⟩, xm_at hts HT o21 rfl, xm_at hts HT o22 rfl⟩ ⟨(xm_pre hX hK hW hS (.ref b :: as)).1, hrv, (xm_pre hX hK hW hS (.ref b :: as)).2⟩ rfl (by rw [List.length_map]; exact hn) hl.2.1 rfl (lv_room (by rw [xm_cats_cv]; exact hc8)) hd ⟨hcs.1, hcs.2⟩) hS kk
  show 8 + (xm_ml M + 11) + 64 * d ≤ R.locals
  omega
end XMR
