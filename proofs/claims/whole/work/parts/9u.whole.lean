/-! THE CLAIM OUT OF ONE WALK OF THE LAW'S BODY. Your part is whole_start (and what it stands on); all else here is the same for every law, but numbers. -/
def R_law : String := "SheetByTwoLaw"
def lw_P (b : Addr) (xs : List Int32) (args : Array Value) (s : State) : Prop := args = #[.ref b] ∧ s.IntsAt b xs ∧ xs.length ≤ 3072 ∧ (Jvm.Cond.and given_1 narrow_1).before args s = true
def lw_Q (_ : Array Value) (s : State) (o : Outcome) (t : State) : Prop := o = .returned (some (.int 1)) ∧ Framed s o t [] 600000 7302250
def lw_Z (below : List Frame) (a : Array Value) (s : State) : State → Prop := fun t => ∃ o, t.status = .running ∧ Ended t below o ∧ lw_Q a s o t
/-- the law's own end, with 1 on the stack, nothing written that was there before, its room as the claim has it -/
theorem lw_ret {p : Program} {l : Launch} {e : Env} {s : State} {m : MethodId} {below : List Frame} {meth : Method} {c : Code} {b : Nat} (hx : p.tables.exec = Jvm.exec) (hb : c.code = code) (hr : meth.sig.returnType = ret) (hlocks : meth.locks = false) {pc : Nat} {H : Heap} {ls : Array Slot} (hdg : decode code pc = .ok (.ireturn, 1)) : W p l e room_1 s m #[Value.ref b] below meth c H [] 600000 7302250 (lw_Z below #[Value.ref b] s) (F0 m pc ls [.int 1]) := by
  intro T hT X
  obtain ⟨fs, hret, hrun, hended, hW, hframe⟩ := X.leave (v := some (.int 1)) (hlocks := hlocks) (fun h => by rw [hr] at h; cases h)
  have hmeth' : T.vm.method? m = some meth := X.method'
  refine ⟨T.setFrames fs, ?_, .returned (some (.int 1)), hrun, hended, rfl, ⟨_, rfl⟩, hW, hframe⟩
  jvm_step X.here [X.here.top, hx, hb, hdg, hmeth', hr, ret, narrow_b1]
  (try refine ⟨rfl, ?_⟩); (try refine ⟨rfl, ?_⟩)
  first | (intro acts; rw [hret _ acts rfl rfl rfl]) | rw [hret _ _ rfl rfl rfl]
  exact Steps.refl _
/-- what holds at the law's entry: the machine, the code, the tables' words (any of lw_tbl by 'hts w (by decide +kernel)'), the script of L ints xs at the cell b, what the Statement gives of the start (any of its parts by flat_of_before) -/
def lw_At (p : Program) (s : State) (m : MethodId) (meth : Method) (c : Code) (b L : Nat) (xs : Nat → Int32) : Prop :=
  p.tables.exec = Jvm.exec ∧ c.code = code ∧ meth.sig.returnType = ret ∧ c.maxLocals = 4 ∧ s.vm.findClass R_law = some m.cls ∧ (∀ w ∈ lw_tbl, w.before #[Value.ref b] s = true) ∧ va_X b L xs s s.heap ∧ b < s.heap.size ∧ meth.locks = false ∧ (Jvm.Cond.and given_1 narrow_1).before #[Value.ref b] s = true
set_option maxHeartbeats 4000000 in
set_option maxRecDepth 100000 in
theorem whole_start {p : Program} {e : Env} {s : State} {m : MethodId} {below : List Frame} {meth : Method} {c : Code} (l : Launch) {b L : Nat} {xs : Nat → Int32} (hL : L ≤ 3072) (C0 : lw_At p s m meth c b L xs) : W p l e room_1 s m #[Value.ref b] below meth c s.heap [] 0 0 (lw_Z below #[Value.ref b] s) (entryFrame m ([Value.ref b] : List Value).toArray 4) := by
  obtain ⟨hx, hb, hr, hml, hown, hts, hX, hbl, hlocks, hgv⟩ := id C0
  obtain ⟨xs', hxs, hz4⟩ : ∃ xs' : Nat → Int32, (∀ j, j < L → xs' j = xs j) ∧ ((xs' 5000 = 0 ∧ (Term.static "jdk/internal/util/Preconditions" "SIOOBE_FORMATTER" "Ljava/util/function/BiFunction;").eval #[Value.ref b] s none [] s = some .null) ∨ (¬ xs' 5000 = 0 ∧ ∃ q : Nat, (Term.static "jdk/internal/util/Preconditions" "SIOOBE_FORMATTER" "Ljava/util/function/BiFunction;").eval #[Value.ref b] s none [] s = some (.ref q))) := by
    rcases y_z4 hgv with h | h
    · exact ⟨fun j => if j < L then xs j else 0, fun j hj => if_pos hj, Or.inl ⟨if_neg (by omega), h⟩⟩
    · refine ⟨fun j => if j < L then xs j else 1, fun j hj => if_pos hj, Or.inr ⟨?_, h⟩⟩
      show ¬ (if 5000 < L then xs 5000 else 1) = 0
      rw [if_neg (by omega)]
      exact one_ne0
  have hX' : va_X b L xs' s s.heap := by
    obtain ⟨scr, h1, h2, h3, h4, h5⟩ := hX
    exact ⟨scr, h1, h2, h3, h4, fun j hj => by rw [hxs j hj]; exact h5 j hj⟩
  obtain ⟨adO, hb950, hE⟩ := y_ext hts hX' hbl hL hgv hz4
  obtain ⟨D, cA, hK⟩ := y_K hts
  have hT : ∀ w ∈ xm_T, w.before #[Value.ref b] s = true := fun w hw => hts w (List.mem_filter.mp hw).1
  have HT : ∀ w ∈ lw_tbl, goodWord w = true → w ∈ xm_T := fun w h hg => xm_T_in h hg
  have hAO : va_AO "SheetByTwo$Work" s ∧ va_AO "SheetByTwo$Row" s := ⟨va_AO.of (hts _ ya_Work), va_AO.of (hts _ ya_Row)⟩
  have hNW : ∀ q ∈ ym_NW, va_Nw (.methodLinkNest q.1 q.2.1 q.2.2.1 q.2.2.2) s := fun q hq => va_Nw.of rfl (hts _ (ym_NW_in q hq))
  have hA : ∀ q : Nat, s.heap.size ≤ q → (fun q : Nat => s.heap.size ≤ q) q := fun _ h => h
  obtain ⟨ca, cb, c1, s1, c2, s2, eA, eB, la, lea, lb, hch, hcells, hslots⟩ := y_run
  have hW0 : ym_Wd vwCl D cA adO (fun q : Nat => s.heap.size ≤ q) s.heap [] := ⟨fun k q h => by simp [ym_wd] at h, fun i j p q h => by simp [ym_wd] at h, fun k q h => by simp [ym_wd] at h⟩
  have hS0 : va_S (fun q : Nat => s.heap.size ≤ q) s.heap s.heap [] := va_S.rf
  have hl := lv_entry ([.ref b]) (n := 4) (Nat.le_of_ble_eq_true rfl)
  rw [lg_entry_eq]
  generalize (lg_sl ([.ref b]) ++ List.replicate (4 - (lg_sl ([.ref b])).length) Slot.unset).toArray = ls at hl ⊢
  have hl : lv_has ls 4 [(0, .ref b)] := hl
  refine yl_new (a := 9) (C := RX10) (TT := TX10) (N0 := 9) (cs := []) hx hb hown hT hK xm_CK_ok hA (by decide +kernel : decode code 0 = .ok (.new 7, 3)) rfl (hts (.classLink R_law 7 RX10) (List.mem_of_getElem? (i := 130) rfl)) (hts _ yi_9) (hts (.initialized RX10) (List.mem_of_getElem? (i := 110) rfl)) rfl (by show 0 + 1 ≤ 600000; omega) (by show 0 + 9 ≤ 7302250; omega) hW0 hS0 (fun q0 H1 hW1 hS1 => ?_)
  refine lv_dup hx hb (by decide +kernel : decode code 3 = .ok (.dup, 1)) rfl ?_
  have Met1 := ym_run_ok (D := D) (cA := cA) (A := fun q : Nat => s.heap.size ≤ q) ym_PK_ok xm_CK_ok ym_OI HT (q8 := (RX9, TX9, 6)) (q2 := (RX2, TX2, 4)) rfl rfl rfl rfl l 5 400 9 0 y1 ca c1 s1 eA yo_X10_init rfl (ym_up adO 0 q0)
  have eq0 : ym_up adO 0 q0 0 = q0 := if_pos rfl
  rw [show (Value.ref q0 :: Value.ref q0 :: ([] : List Value)) = Value.ref (ym_up adO 0 q0 0) :: [Value.ref q0] by rw [eq0]]
  refine yl_call (p0 := 0) (d := 5) (mi := 9) ym_PK_ok HT hx hb hml hown hT hK hAO hNW hA rfl Met1 (hts (.methodLink R_law 9 yX10_init) (List.mem_of_getElem? (i := 132) rfl)) (by show 5 + 1 ≤ 2048; omega) (by show 64 * (5 + 1) ≤ 84000; omega) (by decide +kernel : decode code 4 = .ok (.invokespecial 9, 3)) hl.1 (Nat.le_of_ble_eq_true rfl) (by show 0 + 1 + c1 ≤ 600000; omega) (by show 0 + 9 + s1 ≤ 7302250; omega) hW1 hS1 (fun ad1 H2 locs2 hx1 hW2 hS2 => ?_)
  refine lv_astore_n (lv' := [(1, .ref q0), (0, .ref b)]) hx hb (by decide +kernel : decode code 7 = .ok (.astore_n 1, 1)) rfl hl (by decide) rfl (fun ls hl => ?_)
  refine yl_new (a := 10) (C := RX11) (TT := TX11) (N0 := 39) (cs := ca) hx hb hown hT hK xm_CK_ok hA (by decide +kernel : decode code 8 = .ok (.new 10, 3)) rfl (hts (.classLink R_law 10 RX11) (List.mem_of_getElem? (i := 1373) rfl)) (hts _ yi_10) (hts (.initialized RX11) (List.mem_of_getElem? (i := 120) rfl)) (by rw [la]; exact lea) (by show 0 + 1 + c1 + 1 ≤ 600000; omega) (by show 0 + 9 + s1 + 39 ≤ 7302250; omega) hW2 hS2 (fun q82 H3 hW3 hS3 => ?_)
  refine lv_dup hx hb (by decide +kernel : decode code 11 = .ok (.dup, 1)) rfl ?_
  rw [la] at hW3
  have Met2 := ym_run_ok (D := D) (cA := cA) (A := fun q : Nat => s.heap.size ≤ q) ym_PK_ok xm_CK_ok ym_OI HT (q8 := (RX9, TX9, 6)) (q2 := (RX2, TX2, 4)) rfl rfl rfl rfl l 5 400 10 82 (ca ++ [(Sum.inr (10, ym_f0 vwCl 10) : ym_E)]) cb c2 s2 eB yo_X11_init rfl (ym_up ad1 82 q82)
  have eq82 : ym_up ad1 82 q82 82 = q82 := if_pos rfl
  rw [show (Value.ref q82 :: Value.ref q82 :: ([] : List Value)) = Value.ref (ym_up ad1 82 q82 82) :: [Value.ref q82] by rw [eq82]]
  refine yl_call (p0 := 82) (d := 5) (mi := 10) ym_PK_ok HT hx hb hml hown hT hK hAO hNW hA rfl Met2 (hts (.methodLink R_law 12 yX11_init) (List.mem_of_getElem? (i := 1375) rfl)) (by show 5 + 1 ≤ 2048; omega) (by show 64 * (5 + 1) ≤ 84000; omega) (by decide +kernel : decode code 12 = .ok (.invokespecial 12, 3)) hl.1 (Nat.le_of_ble_eq_true rfl) (by show 0 + 1 + c1 + 1 + c2 ≤ 600000; omega) (by show 0 + 9 + s1 + 39 + s2 ≤ 7302250; omega) hW3 hS3 (fun ad3 H4 locs4 hx3 hW4 hS4 => ?_)
  refine lv_astore_n (lv' := [(2, .ref q82), (1, .ref q0), (0, .ref b)]) hx hb (by decide +kernel : decode code 15 = .ok (.astore_n 2, 1)) rfl hl (by decide) rfl (fun ls hl => ?_)
  have l83 : (ca ++ [(.inr (10, ym_f0 vwCl 10) : ym_E)]).length = 83 := by simp [la]
  rw [l83] at hx3
  have a0 : ad3 0 = q0 := by
    rw [hx3 0 (by omega)]
    unfold ym_up
    rw [if_neg (by omega), hx1 0 (by decide)]
    exact eq0
  have a82 : ad3 82 = q82 := (hx3 82 (by omega)).trans eq82
  have hWx := y_world (ad2 := fun p => if p < 103 then ad3 (sgm p) else adO p) (fun q hq => if_pos hq) hch lb hW4
  have hEx := hE (fun p => if p < 103 then ad3 (sgm p) else adO p) (fun p hp => if_neg (by omega))
  obtain ⟨hend, hEl, -⟩ := law_all (L := L) (xs := xs') (d := 0) hL 600 0 h00 (by omega) (by omega) y_rel
  obtain ⟨n0, hn0⟩ := p_law_0_0 hEl
  have hgo := hn0 n0 n0 (Nat.le_refl _) (Nat.le_refl _)
  have E : xm_Env p s m #[Value.ref b] c lw_tbl xm_T vwCl xm_TX (xm_X0 L xs') D cA (fun p => if p < 103 then ad3 (sgm p) else adO p) (fun q : Nat => s.heap.size ≤ q) "SheetByTwoLaw" code 4 := ⟨hx, hb, hml, hown, hT, hK, hEx, xm_CK_ok, xm_AC_ok, HT⟩
  have hlh : xm_lh ls 4 (fun p => if p < 103 then ad3 (sgm p) else adO p) [some (.ref 950), some (.ref 0), some (.ref 82), none] := by
    refine ⟨rfl, hl.1, hl.2.1, fun q hq => ?_⟩
    obtain ⟨v, hv, he⟩ := xm_cl_mem.mp hq
    obtain ⟨k, w⟩ := q
    simp only at hv he
    have e950 : xm_cv (fun p => if p < 103 then ad3 (sgm p) else adO p) (.ref 950) = .ref b := by
      show Value.ref (adO 950) = _
      rw [hb950]
    have e0 : xm_cv (fun p => if p < 103 then ad3 (sgm p) else adO p) (.ref 0) = .ref q0 := by
      show Value.ref (ad3 0) = _
      rw [a0]
    have e82 : xm_cv (fun p => if p < 103 then ad3 (sgm p) else adO p) (.ref 82) = .ref q82 := by
      show Value.ref (ad3 82) = _
      rw [a82]
    match k, hv with
    | 0, hv => cases hv; rw [he, e950]; exact hl.2.2 (0, .ref b) (by simp)
    | 1, hv => cases hv; rw [he, e0]; exact hl.2.2 (1, .ref q0) (by simp)
    | 2, hv => cases hv; rw [he, e82]; exact hl.2.2 (2, .ref q82) (by simp)
    | 3, hv => cases hv
    | k + 4, hv => simp at hv
  exact xm_go_ok (R := room_1) (rt := some .boolean) (r := some (.int 1)) (h' := hend) E xm_PK_ok (fun mi as h r h' q M hM => xm_run_met l q hM) (by show 21 + 1 ≤ 2048; omega) (by show 64 * (21 + 1) ≤ 84000; omega) ⟨by show 0 + 1 + c1 + 1 + c2 ≤ 600000; omega, by show 0 + 9 + s1 + 39 + s2 ≤ 7302250; omega⟩ law_rows (fun pc' LS' H' locs' hW' hS' hr' => va_forget (fun q hq => hS'.2.2 q hq) (W.widen (by omega) (by omega) (lw_ret hx hb hr hlocks hr'.1))) n0 0 _ [] h00 hgo ls H4 locs4 hlh hWx hS4
set_option maxHeartbeats 4000000 in
theorem lw_walk (l : Launch) (b : Addr) (xs : List Int32) : MetFree l x (headSpec (Jvm.Cond.code x code maxLocals ret :: tables_1) room_1) (lw_P b xs) (fun _ _ _ _ _ => True) lw_Q := by
  refine MetFree.of_bodyS (code := code) (maxLocals := maxLocals) (ret := ret) (by decide) ?_ ?_
  · intro args s m h hn
    obtain ⟨meth, c, h1, h2, h3, h4, h5, h6, -, -⟩ := Cond.code_spec hn (atoms_spec (ws := Jvm.Cond.code x code maxLocals ret :: tables_1) h _ List.mem_cons_self)
    exact ⟨meth, c, h1, h2, h3, h4, h5, h6⟩
  · intro p e s m args below meth c s₁ B hml0 hP _
    obtain ⟨rfl, hx, hbd, hgv⟩ := hP
    obtain ⟨scr, harrAt, hlist, hof, hsmall⟩ := hx
    obtain ⟨hcb, hkn, -, -⟩ := State.arrayAt?_spec harrAt
    have hown : s.vm.findClass R_law = some m.cls := findClass_of_methodNamed B.named
    have hts0 : ∀ c ∈ (Jvm.Cond.code x code maxLocals ret :: tables_1), c.before #[Value.ref b] s = true := atoms_spec (ws := Jvm.Cond.code x code maxLocals ret :: tables_1) B.pre
    have hts : ∀ w ∈ lw_tbl, w.before #[Value.ref b] s = true := k2_hts_sels lw_privs (fun w hw => hts0 w (List.mem_cons_of_mem _ hw)) lw_privs_ok
    have hml : c.maxLocals = 4 := B.maxLocals_eq (hts0 _ List.mem_cons_self)
    have X₀ : Stand p l e room_1 s m #[Value.ref b] below meth c s₁ [] 0 0 := Stand.of_body B
    have hh0 : s₁.heap = s.heap := by rw [B.state]; rfl
    have hsz : scr.slots.size = xs.length := by rw [← Array.length_toList, hlist, List.length_map]
    have hval : ∀ j : Nat, j < xs.length → scr.slots[j]? = some (.int (xs.getD j 0)) := fun j hj => by
      rw [← Array.getElem?_toList, hlist]
      simp [hj]
    have hbl : b < s.heap.size := (Array.getElem?_eq_some_iff.mp hcb).1
    have hX : va_X b xs.length (fun j => xs.getD j 0) s s.heap := ⟨scr, hcb, hof, hkn, hsz, hval⟩
    have K : W p l e room_1 s m #[Value.ref b] below meth c s₁.heap [] 0 0 (lw_Z below #[Value.ref b] s) (entryFrame m ([Value.ref b] : List Value).toArray 4) := by
      rw [hh0]
      exact whole_start l hbd ⟨B.exec, B.bytes, B.returns, hml, hown, hts, hX, hbl, B.notSynchronized, hgv⟩
    obtain ⟨t, a1, o, b1, b2, b3⟩ := K s₁ rfl X₀
    exact ⟨t, o, a1, b1, b2, b3⟩
theorem lw_pre_spec {args : Array Value} {s : State} (h : (Jvm.Cond.and given_1 narrow_1).before args s = true) (hr : rest_1_c.before args s = true) : ∃ (b : Addr) (xs : List Int32), lw_P b xs args s := by
  have hs := flat_of_before _ h
  have hq := flat_of_before _ hr
  have hc : (Cond.count 1).before args s = true := hs _ (by decide +kernel)
  have harr : (Cond.arrayOf (.arg 0) .int).before args s = true := hs _ (by decide +kernel)
  have hle : (Cond.le (.length (.arg 0)) (.int 3072)).before args s = true := hs _ (by decide +kernel)
  have hlen : (Cond.isInt (.length (.arg 0))).before args s = true := hq _ (by decide +kernel)
  have hall : (Cond.all (.arg 0) (.isInt (.elem (.arg 0) (.index 0)))).before args s = true := hq _ (by decide +kernel)
  obtain ⟨b, xs, hb, hx⟩ := State.ints_of_pre rfl harr hlen hall
  have hsm : xs.length < 2 ^ 31 := hx.choose_spec.2.2.2
  have hev : (Term.length (.arg 0)).eval args s none [] s = some (.int xs.length.toInt32) := hx.length_eval hb
  have hv := Cond.le_ints hev (show (Term.int 3072).eval args s none [] s = some (.int 3072) from rfl)
  have hd : xs.length.toInt32 ≤ 3072 := by
    simpa [Cond.before, Cond.holds, hv] using hle
  have hN : xs.length ≤ 3072 := (Int32.ofNat_le_ofNat hsm (by decide)).mp (show Int32.ofNat xs.length ≤ Int32.ofNat 3072 from hd)
  exact ⟨b, xs, Cond.one_arg hc (show args[0]? = some (.ref b) from hb), hx, hN, h⟩
theorem lw_comes (l : Launch) : Comes l x (Jvm.Cond.code x code maxLocals ret :: tables_1) room_1 (fun tb e args s => Calls_1 tb e args s ∧ rest_1 tb e args s ∧ Pre_1 tb e args s)
    (fun _ _ args s o t => lw_Q args s o t) := by
  intro p e ha hc hk s m args below hf hfit hheap happ hpre
  obtain ⟨b, xs, hP⟩ := lw_pre_spec hpre.2.2 hpre.2.1
  obtain ⟨k, o, h1, h2, h3, hQ⟩ := lw_walk l b xs p e ha hc hk s m args below hf ((Spec.applies_iff_loose hf).mp happ).1 hP trivial
  exact ⟨k, o, h1, h2, h3, hQ⟩
theorem lw_frame {s t : State} {o : Outcome} {args : Array Value} (h : Framed s o t [] 600000 7302250) :
    Framed s o t (fieldLocs frame_1_writes args s ++ arrayLocs frame_1_arrays args s ++ staticLocs frame_1_statics s) 600000 7302250 := h
theorem lw_limb (L : Cond) (hL : ∀ (args : Array Value) (s t : State), L.after args s (.returned (some (.int 1))) t = true) :
    ArmFor flags0 classFile x code maxLocals ret World_1 tables_1 room_1 Calls_1 rest_1 Pre_1
      (fun tb e a s o t => postC L tb e a s o t ∧ Framed s o t (fieldLocs frame_1_writes a s ++ arrayLocs frame_1_arrays a s ++ staticLocs frame_1_statics s) 600000 7302250) := by
  intro l _ _ _ p e ha hc hk s m args below hf hfit hheap happ hpre
  obtain ⟨k, o, h1, h2, h3, rfl, hF⟩ := lw_comes l p e ha hc hk s m args below hf hfit hheap happ hpre
  exact ⟨k, _, h1, h2, h3, hL args s _, lw_frame hF⟩
theorem i_vc : Claimed_1_1 ∧ Claimed_1_2 := ⟨lw_limb limb_1_1 (fun args s t => by simp [limb_1_1, Cond.after, Cond.holds, Cond.value]), lw_limb limb_1_2 (fun args s t => Cond.after_iff.mpr (by
  first | (rw [show limb_1_2 = Cond.eq .result (.int 1) from rfl, Cond.eq_ints (x := 1) (y := 1) rfl rfl]; simp; done) | (simp [limb_1_2, Cond.value, Term.eval]; done)))⟩
