/-! The maker makes what the bytecode makes: cells, calls, runs. -/
theorem ym_lh_x {ad ad' : Nat → Nat} {n nL : Nat} {LS : Array Slot} (hx : ym_x n ad ad') {ls : xm_L} (h : ls.all (fun o => match o with
  | some v => ym_v n v
  | none => true) = true) (hl : xm_lh LS nL ad ls) : xm_lh LS nL ad' ls := by
  obtain ⟨h1, h2⟩ := hl
  refine ⟨h1, h2.1, h2.2.1, fun q hq => h2.2.2 q ?_⟩
  obtain ⟨v, hv, he⟩ := xm_cl_mem.mp hq
  have ha := List.all_eq_true.mp h (some v) (List.mem_of_getElem? hv)
  exact xm_cl_mem.mpr ⟨v, hv, he.trans (ym_cv_x hx ha)⟩
theorem ym_st_x {ad ad' : Nat → Nat} {n : Nat} (hx : ym_x n ad ad') {st : List Value} (h : st.all (ym_v n) = true) : st.map (xm_cv ad') = st.map (xm_cv ad) := List.map_congr_left (fun v hv => ym_cv_x hx (List.all_eq_true.mp h v hv))
theorem ym_x.up {ad : Nat → Nat} {n q : Nat} : ym_x n ad (ym_up ad n q) := fun p hp => by
  unfold ym_up
  rw [if_neg (by omega)]
theorem ym_x.tr {ad ad' ad'' : Nat → Nat} {n k : Nat} (h1 : ym_x n ad ad') (h2 : ym_x k ad' ad'') (hn : n ≤ k) : ym_x n ad ad'' := fun p hp => (h2 p (by omega)).trans (h1 p hp)
theorem ym_x.rf {ad : Nat → Nat} {n : Nat} : ym_x n ad ad := fun _ _ => rfl
theorem ym_ok_inv {cs : List ym_E} {ls : xm_L} {st : List Value} (h : ym_ok cs ls st = true) : cs.all (ym_e cs.length) = true ∧ ls.all (fun o => match o with
  | some v => ym_v cs.length v
  | none => true) = true ∧ st.all (ym_v cs.length) = true := by
  unfold ym_ok at h
  simp only [Bool.and_eq_true] at h
  exact ⟨h.1.1, h.1.2, h.2⟩
theorem ym_f0_e {cl : List vw_C} {ci n : Nat} : ym_e n (.inr (ci, ym_f0 cl ci)) = true := by
  show (ym_f0 cl ci).all (ym_v n) = true
  refine List.all_eq_true.mpr (fun v hv => ?_)
  unfold ym_f0 at hv
  obtain ⟨k, -, rfl⟩ := List.mem_map.mp hv
  split
  · rfl
  · split <;> rfl
theorem ym_f0_cv {cl : List vw_C} {ci : Nat} {ad : Nat → Nat} : (ym_f0 cl ci).map (xm_cv ad) = ym_f0 cl ci := by
  unfold ym_f0
  rw [List.map_map]
  refine List.map_congr_left (fun k _ => ?_)
  show xm_cv ad (if xm_ft cl ci k = 1 then Value.long 0 else if xm_ft cl ci k = 2 then Value.null else Value.int 0) = (if xm_ft cl ci k = 1 then Value.long 0 else if xm_ft cl ci k = 2 then Value.null else Value.int 0)
  split
  · rfl
  · split <;> rfl
theorem xm_ds3 (s : String) : xm_ds s ≤ 3 := by
  unfold xm_ds
  split
  · omega
  · split
    · omega
    · split <;> omega
section YMA
variable {p : Program} {l : Launch} {e : Env} {R : Room} {s : State} {m : MethodId} {args : Array Value} {below : List Frame} {meth : Method} {c : Code} {H : Heap} {locs : List Loc} {cells slots : Nat} {Q : State → Prop}
variable {T0 T : List Cond} {cl : List vw_C} {NW : List (String × Nat × MethodName × String)} {D : va_G} {cA : Nat → ClassId} {ad : Nat → Nat} {A : Nat → Prop} {own : String} {cc : ByteArray} {nL : Nat} {co : List xm_I}
variable {pc i : Nat} {ls : xm_L} {st : List Value} {cs : List ym_E} {LS : Array Slot}
theorem ym_o_new (E : ym_Env p s m args meth c T0 T cl NW D cA A own cc nL) {n w b d a N0 : Nat} {C : String} {TT : u_T} {r : List Value} (hd : decode cc pc = .ok (.new n, 3)) (hn : xm_np co (i + 1) = pc + 3) (hc : cl[a]? = some (C, TT, N0)) (hw : T0[w]? = some (.classLink own n C)) (hwb : T0[b]? = some (.instantiable C N0)) (hwd : T0[d]? = some (.initialized C)) (hok : ym_ok cs ls r = true) (hcells : cells + 1 ≤ R.cells) (hslots : slots + N0 ≤ R.slots) (hl : xm_lh LS nL ad ls) (hW : ym_Wd cl D cA ad A H cs) (hS : va_S A s.heap H locs)
    (kk : ∀ (ad' : Nat → Nat) (H' : Heap), ym_x cs.length ad ad' → xm_lh LS nL ad' ls → ym_Wd cl D cA ad' A H' (cs ++ [.inr (a, ym_f0 cl a)]) → va_S A s.heap H' locs → W p l e R s m args below meth c H' locs (cells + 1) (slots + N0) Q (F0 m (xm_np co (i + 1)) LS ((.ref cs.length :: r : List Value).map (xm_cv ad')))) : W p l e R s m args below meth c H locs cells slots Q (F0 m pc LS (r.map (xm_cv ad))) := by
  obtain ⟨⟨hx, hb, hml, hown, hts⟩, hK, hAO, hNW, hCK, hOI, HT, hA, hin⟩ := E
  obtain ⟨o1, o2, o3⟩ := ym_ok_inv hok
  obtain ⟨hinw, ⟨ty0, hty, hts1⟩, hnm⟩ := hCK a C TT N0 hc
  refine va_new (ci := a) (fs := ym_f0 cl a) hx hb hts hinw ty0 hty hown (xm_at hts HT hw rfl) (xm_at hts HT hwb rfl) (xm_at hts HT hwd rfl) hK hW.1 hW.2 hS hA hc (fun j hj => ?_) hcells hslots hd (fun q H1 hP1 hD1 hS1 => ?_)
  · have hts0 := hts1 j hj
    have en : xm_nf cl a = N0 := by unfold xm_nf; rw [hc]
    have ef : xm_ft cl a j = xm_ds (TT j).2.2.1 := by unfold xm_ft; rw [hc]
    have ev : vp_V (ym_f0 cl a) j = if xm_ft cl a j = 1 then .long 0 else if xm_ft cl a j = 2 then .null else .int 0 := by
      unfold vp_V ym_f0
      rw [en, List.getD_eq_getElem?_getD, List.getElem?_map, List.getElem?_range hj]
      rfl
    rw [ev, ef, ← hts0]
    cases hq : ty0 j <;> first | rfl | (exfalso; rw [hq] at hts0; have h3 := xm_ds3 (TT j).2.2.1; rw [← hts0] at h3; exact absurd h3 (by decide))
  · have ew : ym_wd cA (ym_up ad cs.length q) (cs ++ [.inr (a, ym_f0 cl a)]) = ym_wd cA ad cs ++ [(q, .inr (a, ym_f0 cl a))] := by
      rw [ym_wd_push q _ o1 ym_f0_e]
      show ym_wd cA ad cs ++ [(q, .inr (a, (ym_f0 cl a).map (xm_cv ad)))] = _
      rw [ym_f0_cv]
    have k2 := kk (ym_up ad cs.length q) H1 ym_x.up (ym_lh_x ym_x.up o2 hl) ⟨by rw [ew]; exact hP1, by rw [ew]; exact hD1⟩ hS1
    rw [hn] at k2
    have e1 : ((.ref cs.length :: r : List Value).map (xm_cv (ym_up ad cs.length q))) = .ref q :: r.map (xm_cv ad) := by
      rw [List.map_cons, ym_st_x ym_x.up o3]
      simp only [xm_cv, ym_up, if_true]
    rw [e1] at k2
    exact k2
theorem ym_ra {U : State} {a b : ClassId} {ty : FieldType} (h1 : va_RA U a ty) (h2 : va_RA U b ty) : a = b := by
  cases ty <;> first | (unfold va_RA at h1 h2; simp only at h1 h2; rw [h1] at h2; exact Option.some.inj h2) | (obtain ⟨k, q, x1, x2, x3, x4⟩ := h1; obtain ⟨k', q', y1, y2, y3, y4⟩ := h2; rw [x4] at y4; exact Option.some.inj y4)
theorem ym_o_newa (E : ym_Env p s m args meth c T0 T cl NW D cA A own cc nL) {t : ArrayType} {b d : Nat} {n : Int32} {r : List Value} (hd : decode cc pc = .ok (.newarray t, 2)) (hn : xm_np co (i + 1) = pc + 2) (ht : ym_ty t = d) (hd4 : d < 4) (hwb : T0[b]? = some (.arrayClass (xm_ty d))) (hng : ¬ n < 0) (hbig : n.toNatClampNeg ≤ 10000000) (hok : ym_ok cs ls r = true) (hcells : cells + 1 ≤ R.cells) (hslots : slots + n.toNatClampNeg ≤ R.slots) (hl : xm_lh LS nL ad ls) (hW : ym_Wd cl D cA ad A H cs) (hS : va_S A s.heap H locs)
    (kk : ∀ (ad' : Nat → Nat) (H' : Heap), ym_x cs.length ad ad' → xm_lh LS nL ad' ls → ym_Wd cl D cA ad' A H' (cs ++ [.inl (d, n.toNatClampNeg, [])]) → va_S A s.heap H' locs → W p l e R s m args below meth c H' locs (cells + 1) (slots + n.toNatClampNeg) Q (F0 m (xm_np co (i + 1)) LS ((.ref cs.length :: r : List Value).map (xm_cv ad')))) : W p l e R s m args below meth c H locs cells slots Q (F0 m pc LS ((.int n :: r : List Value).map (xm_cv ad))) := by
  obtain ⟨⟨hx, hb, hml, hown, hts⟩, hK, hAO, hNW, hCK, hOI, HT, hA, hin⟩ := E
  obtain ⟨o1, o2, o3⟩ := ym_ok_inv hok
  have hty : newarray.typeOf t = xm_ty d := by
    subst ht
    cases t <;> first | rfl | (unfold ym_ty at hd4; simp only at hd4; omega)
  have hcell : ∀ cA' : ClassId, vp_cell cA' (n.toNatClampNeg, if d = 3 then .inr (.inl (fun _ => 0)) else if d < 3 then .inl (ym_oi []) else .inr (.inr (.inr (.inr (ym_or ad []))))) = arrV cA' n.toNatClampNeg (fun _ => defaultValue (xm_ty d)) := by
    intro cA'
    have : d = 0 ∨ d = 1 ∨ d = 2 ∨ d = 3 := by omega
    rcases this with rfl | rfl | rfl | rfl <;> rfl
  refine va_newa (a0 := (n.toNatClampNeg, if d = 3 then .inr (.inl (fun _ => 0)) else if d < 3 then .inl (ym_oi []) else .inr (.inr (.inr (.inr (ym_or ad [])))))) hx hb (by rw [hty]; exact xm_at hts HT hwb rfl) hty hK hW.1 hW.2 hS hA hcell hng rfl ?_ hcells hslots hd (fun q cA' H1 hK1 hP1 hD1 hS1 => ?_)
  · have : componentBytes (xm_ty d) ≤ 8 := by
      have : d = 0 ∨ d = 1 ∨ d = 2 ∨ d = 3 := by omega
      rcases this with rfl | rfl | rfl | rfl <;> decide
    have := Nat.mul_le_mul hbig this
    omega
  · have ec : cA' = cA d := by
      have r1 := (hK1.2 6 (cA', xm_ty d) (by
        rw [List.getElem?_append_right (by simp [xm_tys])]
        simp [xm_tys])).2
      have r2 := (hK.2 d _ (xm_tys_at cA (by omega))).2
      exact ym_ra r1 r2
    subst ec
    have ew : ym_wd cA (ym_up ad cs.length q) (cs ++ [.inl (d, n.toNatClampNeg, [])]) = ym_wd cA ad cs ++ [(q, .inl (cA d, n.toNatClampNeg, if d = 3 then .inr (.inl (fun _ => 0)) else if d < 3 then .inl (ym_oi []) else .inr (.inr (.inr (.inr (ym_or ad [])))))) ] := by
      rw [ym_wd_push q _ o1 rfl]
      rfl
    have k2 := kk (ym_up ad cs.length q) H1 ym_x.up (ym_lh_x ym_x.up o2 hl) ⟨by rw [ew]; exact hP1, by rw [ew]; exact hD1⟩ hS1
    rw [hn] at k2
    have e1 : ((.ref cs.length :: r : List Value).map (xm_cv (ym_up ad cs.length q))) = .ref q :: r.map (xm_cv ad) := by
      rw [List.map_cons, ym_st_x ym_x.up o3]
      simp only [xm_cv, ym_up, if_true]
    rw [e1] at k2
    exact k2
theorem ym_o_anew (E : ym_Env p s m args meth c T0 T cl NW D cA A own cc nL) {x w d : Nat} {n : Int32} {r : List Value} (hd : decode cc pc = .ok (.anewarray x, 3)) (hn : xm_np co (i + 1) = pc + 3) (hd45 : d = 4 ∨ d = 5) (hw : T0[w]? = some (.classLink own x (if d = 4 then "SheetByTwo$Work" else "SheetByTwo$Row"))) (hng : ¬ n < 0) (hbig : n.toNatClampNeg ≤ 10000000) (hok : ym_ok cs ls r = true) (hcells : cells + 1 ≤ R.cells) (hslots : slots + n.toNatClampNeg ≤ R.slots) (hl : xm_lh LS nL ad ls) (hW : ym_Wd cl D cA ad A H cs) (hS : va_S A s.heap H locs)
    (kk : ∀ (ad' : Nat → Nat) (H' : Heap), ym_x cs.length ad ad' → xm_lh LS nL ad' ls → ym_Wd cl D cA ad' A H' (cs ++ [.inl (d, n.toNatClampNeg, [])]) → va_S A s.heap H' locs → W p l e R s m args below meth c H' locs (cells + 1) (slots + n.toNatClampNeg) Q (F0 m (xm_np co (i + 1)) LS ((.ref cs.length :: r : List Value).map (xm_cv ad')))) : W p l e R s m args below meth c H locs cells slots Q (F0 m pc LS ((.int n :: r : List Value).map (xm_cv ad))) := by
  obtain ⟨⟨hx, hb, hml, hown, hts⟩, hK, hAO, hNW, hCK, hOI, HT, hA, hin⟩ := E
  obtain ⟨o1, o2, o3⟩ := ym_ok_inv hok
  have key : ∀ C, (if d = 4 then "SheetByTwo$Work" else "SheetByTwo$Row") = C → xm_ty d = .object C → va_AO C s → W p l e R s m args below meth c H locs cells slots Q (F0 m pc LS ((.int n :: r : List Value).map (xm_cv ad))) := by
    intro C eC eT hC
    rw [eC] at hw
    refine va_newq (C := C) hx hb hown (xm_at hts HT hw rfl) hC hK hW.1 hW.2 hS hA hng rfl (by omega) hcells hslots hd (fun q cA' H1 hK1 hP1 hD1 hS1 => ?_)
    have ec : cA' = cA d := by
      have r1 := (hK1.2 6 (cA', .object C) (by
        rw [List.getElem?_append_right (by simp [xm_tys])]
        simp [xm_tys])).2
      have r2 := (hK.2 d _ (xm_tys_at cA (by omega))).2
      rw [eT] at r2
      exact ym_ra r1 r2
    subst ec
    have ew : ym_wd cA (ym_up ad cs.length q) (cs ++ [.inl (d, n.toNatClampNeg, [])]) = ym_wd cA ad cs ++ [(q, .inl (cA d, n.toNatClampNeg, .inr (.inr (.inr (.inr (fun _ => none))))))] := by
      rw [ym_wd_push q _ o1 rfl]
      rcases hd45 with rfl | rfl <;> rfl
    have k2 := kk (ym_up ad cs.length q) H1 ym_x.up (ym_lh_x ym_x.up o2 hl) ⟨by rw [ew]; exact hP1, by rw [ew]; exact hD1⟩ hS1
    rw [hn] at k2
    have e1 : ((.ref cs.length :: r : List Value).map (xm_cv (ym_up ad cs.length q))) = .ref q :: r.map (xm_cv ad) := by
      rw [List.map_cons, ym_st_x ym_x.up o3]
      simp only [xm_cv, ym_up, if_true]
    rw [e1] at k2
    exact k2
  rcases hd45 with rfl | rfl
  · exact key _ rfl rfl hAO.1
  · exact key _ rfl rfl hAO.2
end YMA
