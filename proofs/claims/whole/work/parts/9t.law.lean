/-! The law's rows; what is new at the law's level. -/
theorem law_at {l : List (xm_I × Nat)} {f : xm_I × Nat → Bool} {a i : Nat} {x : xm_I × Nat} (h : ((l.drop a).take 50).all f = true) (ha : a ≤ i) (hi : i < a + 50) (hx : l[i]? = some x) : f x = true := by
  refine List.all_eq_true.mp h x (List.mem_of_getElem? (i := i - a) ?_)
  rw [List.getElem?_take_of_lt (by omega), List.getElem?_drop, show a + (i - a) = i by omega]
  exact hx
theorem law_as {a i : Nat} {e : xm_I} (h : ((co_law.zipIdx.drop a).take 50).all (fun q => xm_okI lw_tbl vwCl xm_TX xm_P "SheetByTwoLaw" code (some .boolean) co_law q.1 q.2) = true) (ha : a ≤ i) (hi : i < a + 50) (hx : co_law.zipIdx[i]? = some (e, i)) : xm_okI lw_tbl vwCl xm_TX xm_P "SheetByTwoLaw" code (some .boolean) co_law e i = true := by
  have q := law_at (f := fun q : xm_I × Nat => xm_okI lw_tbl vwCl xm_TX xm_P "SheetByTwoLaw" code (some .boolean) co_law q.1 q.2) (x := (e, i)) h ha hi hx
  exact q
theorem law_len : co_law.length ≤ 1150 := by decide +kernel
theorem law_rows : ∀ (i : Nat) (e : xm_I), co_law[i]? = some e → xm_okI lw_tbl vwCl xm_TX xm_P "SheetByTwoLaw" code (some .boolean) co_law e i = true := by
  intro i e hi
  have hl := (List.getElem?_eq_some_iff.mp hi).1
  have h1150 := law_len
  have hx : co_law.zipIdx[i]? = some (e, i) := by
    rw [List.getElem?_zipIdx, hi]
    simp
  by_cases h0 : i < 50
  · exact law_as (a := 0) law_ok0 (by omega) (by omega) hx
  by_cases h1 : i < 100
  · exact law_as (a := 50) law_ok1 (by omega) (by omega) hx
  by_cases h2 : i < 150
  · exact law_as (a := 100) law_ok2 (by omega) (by omega) hx
  by_cases h3 : i < 200
  · exact law_as (a := 150) law_ok3 (by omega) (by omega) hx
  by_cases h4 : i < 250
  · exact law_as (a := 200) law_ok4 (by omega) (by omega) hx
  by_cases h5 : i < 300
  · exact law_as (a := 250) law_ok5 (by omega) (by omega) hx
  by_cases h6 : i < 350
  · exact law_as (a := 300) law_ok6 (by omega) (by omega) hx
  by_cases h7 : i < 400
  · exact law_as (a := 350) law_ok7 (by omega) (by omega) hx
  by_cases h8 : i < 450
  · exact law_as (a := 400) law_ok8 (by omega) (by omega) hx
  by_cases h9 : i < 500
  · exact law_as (a := 450) law_ok9 (by omega) (by omega) hx
  by_cases h10 : i < 550
  · exact law_as (a := 500) law_ok10 (by omega) (by omega) hx
  by_cases h11 : i < 600
  · exact law_as (a := 550) law_ok11 (by omega) (by omega) hx
  by_cases h12 : i < 650
  · exact law_as (a := 600) law_ok12 (by omega) (by omega) hx
  by_cases h13 : i < 700
  · exact law_as (a := 650) law_ok13 (by omega) (by omega) hx
  by_cases h14 : i < 750
  · exact law_as (a := 700) law_ok14 (by omega) (by omega) hx
  by_cases h15 : i < 800
  · exact law_as (a := 750) law_ok15 (by omega) (by omega) hx
  by_cases h16 : i < 850
  · exact law_as (a := 800) law_ok16 (by omega) (by omega) hx
  by_cases h17 : i < 900
  · exact law_as (a := 850) law_ok17 (by omega) (by omega) hx
  by_cases h18 : i < 950
  · exact law_as (a := 900) law_ok18 (by omega) (by omega) hx
  by_cases h19 : i < 1000
  · exact law_as (a := 950) law_ok19 (by omega) (by omega) hx
  by_cases h20 : i < 1050
  · exact law_as (a := 1000) law_ok20 (by omega) (by omega) hx
  by_cases h21 : i < 1100
  · exact law_as (a := 1050) law_ok21 (by omega) (by omega) hx
  by_cases h22 : i < 1150
  · exact law_as (a := 1100) law_ok22 (by omega) (by omega) hx
  omega
section YL
variable {p : Program} {l : Launch} {e : Env} {R : Room} {s : State} {m : MethodId} {args : Array Value} {below : List Frame} {meth : Method} {c : Code} {H : Heap} {locs : List Loc} {cells slots : Nat} {Q : State → Prop}
variable {T : List Cond} {cl : List vw_C} {NW : List (String × Nat × MethodName × String)} {D : va_G} {cA : Nat → ClassId} {ad : Nat → Nat} {A : Nat → Prop} {own : String} {cc : ByteArray} {nL : Nat}
variable {pc : Nat} {cs : List ym_E} {LS : Array Slot} {rest : List Value}
theorem yl_new (hx : p.tables.exec = Jvm.exec) (hb : c.code = cc) (hown : s.vm.findClass own = some m.cls) (hts : ∀ w ∈ T, w.before args s = true) (hK : va_K D cl (xm_tys cA) s) (hCK : xm_CK T cl) (hA : ∀ q, s.heap.size ≤ q → A q) {n a N0 : Nat} {C : String} {TT : u_T} (hd : decode cc pc = .ok (.new n, 3)) (hc : cl[a]? = some (C, TT, N0)) (w1 : (Cond.classLink own n C).before args s = true) (w2 : (Cond.instantiable C N0).before args s = true) (w3 : (Cond.initialized C).before args s = true) (o1 : cs.all (ym_e cs.length) = true) (hcells : cells + 1 ≤ R.cells) (hslots : slots + N0 ≤ R.slots) (hW : ym_Wd cl D cA ad A H cs) (hS : va_S A s.heap H locs)
    (kk : ∀ (q : Nat) (H' : Heap), ym_Wd cl D cA (ym_up ad cs.length q) A H' (cs ++ [.inr (a, ym_f0 cl a)]) → va_S A s.heap H' locs → W p l e R s m args below meth c H' locs (cells + 1) (slots + N0) Q (F0 m (pc + 3) LS (.ref q :: rest))) : W p l e R s m args below meth c H locs cells slots Q (F0 m pc LS rest) := by
  obtain ⟨hinw, ⟨ty0, hty, hts1⟩, hnm⟩ := hCK a C TT N0 hc
  refine va_new (ci := a) (fs := ym_f0 cl a) hx hb hts hinw ty0 hty hown w1 w2 w3 hK hW.1 hW.2 hS hA hc (fun j hj => ?_) hcells hslots hd (fun q H1 hP1 hD1 hS1 => ?_)
  · have hts0 := hts1 j hj
    have en : xm_nf cl a = N0 := by unfold xm_nf; rw [hc]
    have ef : xm_ft cl a j = xm_ds (TT j).2.2.1 := by unfold xm_ft; rw [hc]
    have ev : vp_V (ym_f0 cl a) j = if xm_ft cl a j = 1 then .long 0 else if xm_ft cl a j = 2 then .null else .int 0 := by
      unfold vp_V ym_f0
      rw [en, List.getD_eq_getElem?_getD, List.getElem?_map, List.getElem?_range hj]
      rfl
    rw [ev, ef, ← hts0]
    cases hq : ty0 j <;> first | rfl | (exfalso; rw [hq] at hts0; have h3 := xm_ds3 (TT j).2.2.1; rw [← hts0] at h3; exact absurd h3 (by decide))
  · have ew : ym_wd cA (ym_up ad cs.length q) (cs ++ [.inr (a, ym_f0 cl a)]) = ym_wd cA ad cs ++ [(q, .inr (a, ym_f0 cl a))] := by
      rw [ym_wd_push q _ o1 ym_f0_e]
      show ym_wd cA ad cs ++ [(q, .inr (a, (ym_f0 cl a).map (xm_cv ad)))] = _
      rw [ym_f0_cv]
    exact kk q H1 ⟨by rw [ew]; exact hP1, by rw [ew]; exact hD1⟩ hS1
/-- a public constructor is called -/
theorem yl_call {T0 : List Cond} {P : List xm_M} (PK : ym_PK T0 T cl NW P) (HT : ∀ w ∈ T0, goodWord w = true → w ∈ T) (hx : p.tables.exec = Jvm.exec) (hb : c.code = cc) (hml : c.maxLocals = nL) (hown : s.vm.findClass own = some m.cls) (hts : ∀ w ∈ T, w.before args s = true) (hK : va_K D cl (xm_tys cA) s) (hAO : va_AO "SheetByTwo$Work" s ∧ va_AO "SheetByTwo$Row" s) (hNW : ∀ q ∈ NW, va_Nw (.methodLinkNest q.1 q.2.1 q.2.2.1 q.2.2.2) s) (hA : ∀ q, s.heap.size ≤ q → A q) {d mi p0 x c1 s1 : Nat} {M : xm_M} {cs1 : List ym_E} (hM : P[mi]? = some M) (hMet : ym_Met l T cl NW D cA A d M p0 ad cs cs1 c1 s1) (hlink : (Cond.methodLink own x (xm_y M)).before args s = true) (hF : d + 1 ≤ R.frames) (hL : 64 * (d + 1) ≤ R.locals) (hd : decode cc pc = .ok (.invokespecial x, 3)) (hls : LS.size = nL) (hcat : (rest.map fun v => v.category).sum ≤ 8) (hcells : cells + c1 ≤ R.cells) (hslots : slots + s1 ≤ R.slots) (hW : ym_Wd cl D cA ad A H cs) (hS : va_S A s.heap H locs)
    (kk : ∀ (ad' : Nat → Nat) (H' : Heap) (locs' : List Loc), ym_x cs.length ad ad' → ym_Wd cl D cA ad' A H' cs1 → va_S A s.heap H' locs' → W p l e R s m args below meth c H' locs' (cells + c1) (slots + s1) Q (F0 m (pc + 3) LS rest)) : W p l e R s m args below meth c H locs cells slots Q (F0 m pc LS (.ref (ad p0) :: rest)) := by
  obtain ⟨okM, hcode⟩ := PK.2 mi M hM
  obtain ⟨m1, m2, m3, m4, m5, m6, m7, m8, m9, m10, m11, m12⟩ := ym_okM_inv okM
  refine va_callv (va_runI (As := []) (b := ad p0) (rest := rest) (n := 0) (bytes := xm_cc M) (maxL := xm_ml M) (nL := nL) ⟨hx, hb, hml, hown, hts⟩ hMet ⟨callB_of 0 hts (xm_good PK.1 hcode) rfl rfl rfl (xm_at hts HT m1 rfl) hlink ⟨m4, m5, m6⟩ ⟨hF, ?_⟩, m10, xm_at hts HT m2 rfl⟩ (ym_pre hK hAO hNW hA hW hS) rfl rfl hls rfl (lv_room hcat) hd ⟨hcells, hslots⟩) hS (fun _ _ h => h) (fun _ h => h) (fun ad' t H1 locs1 ht hvm hpo hB hz1 hk1 hS1 => ?_)
  · show 8 + (xm_ml M + 11) + 64 * d ≤ R.locals
    omega
  · exact kk ad' H1 locs1 hpo (by rw [← ht]; exact hB) hS1
end YL
