/-! The maker's runs: a constructor's contract. -/
def ym_rm (d mc ms : Nat) : Room := { frames := d, cells := mc, slots := ms, locals := 64 * d }
def ym_B (cl : List vw_C) (NW : List (String × Nat × MethodName × String)) (D : va_G) (cA : Nat → ClassId) (ad : Nat → Nat) (A : Nat → Prop) (cs : List ym_E) (U : State) : Prop := ym_Wd cl D cA ad A U.heap cs ∧ va_K D cl (xm_tys cA) U ∧ (va_AO "SheetByTwo$Work" U ∧ va_AO "SheetByTwo$Row" U) ∧ (∀ q ∈ NW, va_Nw (.methodLinkNest q.1 q.2.1 q.2.2.1 q.2.2.2) U) ∧ ∀ q, U.heap.size ≤ q → A q
def ym_Qc (cl : List vw_C) (D : va_G) (cA : Nat → ClassId) (ad : Nat → Nat) (A : Nat → Prop) (cs cs' : List ym_E) : Array Value → State → Outcome → State → Prop := va_Qv (fun ad' : Nat → Nat => ym_x cs.length ad ad') (fun ad' t => ym_Wd cl D cA ad' A t.heap cs') A
abbrev ym_Met (l : Launch) (T : List Cond) (cl : List vw_C) (NW : List (String × Nat × MethodName × String)) (D : va_G) (cA : Nat → ClassId) (A : Nat → Prop) (d : Nat) (M : xm_M) (p : Nat) (ad : Nat → Nat) (cs cs' : List ym_E) (mc ms : Nat) : Prop :=
  Met l (xm_y M) (Cond.code (xm_y M) (xm_cc M) (xm_ml M) none :: T) (ym_rm d mc ms) (va_Pc [.ref (ad p)] (ym_B cl NW D cA ad A cs)) (ym_Qc cl D cA ad A cs cs') mc ms A
/-- what holds of a constructor -/
def ym_okM (T0 : List Cond) (cl : List vw_C) (NW : List (String × Nat × MethodName × String)) (P : List xm_M) (M : xm_M) : Bool :=
  decide (T0[xm_wi M]? = some (.initialized (xm_y M).cls)) && decide (T0[xm_ws1 M]? = some (.instanceMethod (xm_y M))) && plainName (xm_y M).cls && decide ((xm_y M).cls ≠ "java/lang/invoke/MethodHandle") && decide ((xm_y M).cls ≠ "java/lang/invoke/VarHandle") && decide ((parseMethodDescriptor (xm_y M).desc).map (fun d => d.parameters.length) = some 0) && decide (xm_ml M ≤ 40) && decide (1 ≤ xm_ml M) && decide (xm_np (xm_co M) 0 = 0) && decide ((xm_y M).name = "<init>") && decide (xm_rt M = none) && (xm_co M).zipIdx.all (fun q => ym_okI T0 cl NW P (xm_y M).cls (xm_cc M) (xm_co M) q.1 q.2)
def ym_PK (T0 T : List Cond) (cl : List vw_C) (NW : List (String × Nat × MethodName × String)) (P : List xm_M) : Prop :=
  (∀ w ∈ T, (w.onTables && w.keeps) = true ∨ ∃ ty, w = .arrayClass ty) ∧ ∀ (mi : Nat) (M : xm_M), P[mi]? = some M → ym_okM T0 cl NW P M = true ∧ Cond.code (xm_y M) (xm_cc M) (xm_ml M) none ∈ T
theorem ym_okM_inv {T0 : List Cond} {cl : List vw_C} {NW : List (String × Nat × MethodName × String)} {P : List xm_M} {M : xm_M} (h : ym_okM T0 cl NW P M = true) : T0[xm_wi M]? = some (.initialized (xm_y M).cls) ∧ T0[xm_ws1 M]? = some (.instanceMethod (xm_y M)) ∧ plainName (xm_y M).cls = true ∧ (xm_y M).cls ≠ "java/lang/invoke/MethodHandle" ∧ (xm_y M).cls ≠ "java/lang/invoke/VarHandle" ∧ (parseMethodDescriptor (xm_y M).desc).map (fun d => d.parameters.length) = some 0 ∧ xm_ml M ≤ 40 ∧ 1 ≤ xm_ml M ∧ xm_np (xm_co M) 0 = 0 ∧ (xm_y M).name = "<init>" ∧ xm_rt M = none ∧ ∀ (i : Nat) (e : xm_I), (xm_co M)[i]? = some e → ym_okI T0 cl NW P (xm_y M).cls (xm_cc M) (xm_co M) e i = true := by
  unfold ym_okM at h
  simp only [Bool.and_eq_true, decide_eq_true_eq] at h
  obtain ⟨⟨⟨⟨⟨⟨⟨⟨⟨⟨⟨h1, h2⟩, h3⟩, h4⟩, h5⟩, h6⟩, h7⟩, h8⟩, h9⟩, h10⟩, h11⟩, h12⟩ := h
  exact ⟨h1, h2, h3, h4, h5, h6, h7, h8, h9, h10, h11, fun i e hi => List.all_eq_true.mp h12 (e, i) (List.mem_zipIdx_iff_getElem?.mpr hi)⟩
section YMR
variable {p : Program} {l : Launch} {e : Env} {R : Room} {s : State} {m : MethodId} {args : Array Value} {below : List Frame} {meth : Method} {c : Code} {Q : State → Prop}
variable {T0 T : List Cond} {cl : List vw_C} {NW : List (String × Nat × MethodName × String)} {D : va_G} {cA : Nat → ClassId} {A : Nat → Prop} {own : String} {cc : ByteArray} {nL : Nat} {co : List xm_I}
theorem ym_pre {H : Heap} {locs : List Loc} {ad : Nat → Nat} {cs : List ym_E} {p0 : Nat} (hK : va_K D cl (xm_tys cA) s) (hAO : va_AO "SheetByTwo$Work" s ∧ va_AO "SheetByTwo$Row" s) (hNW : ∀ q ∈ NW, va_Nw (.methodLinkNest q.1 q.2.1 q.2.2.1 q.2.2.2) s) (hA : ∀ q, s.heap.size ≤ q → A q) (hW : ym_Wd cl D cA ad A H cs) (hS : va_S A s.heap H locs) : PreS s H (va_Pc [.ref (ad p0)] (ym_B cl NW D cA ad A cs)) [.ref (ad p0)] :=
  ⟨fun _ U g mk q => ⟨q.1, q.2.1, va_K.moved (u := U) (U := U.calling g mk _) (Vm.Alike.refl U.vm) q.2.2.1, ⟨va_AO.moved (u := U) (U := U.calling g mk _) (Vm.Alike.refl U.vm) q.2.2.2.1.1, va_AO.moved (u := U) (U := U.calling g mk _) (Vm.Alike.refl U.vm) q.2.2.2.1.2⟩, fun z hz => va_Nw.same rfl (u := U) (U := U.calling g mk _) rfl (q.2.2.2.2.1 z hz), q.2.2.2.2.2⟩, fun U hU hWm => ⟨rfl, by rw [hU]; exact hW, va_K.moved hWm.alike hK, ⟨va_AO.moved hWm.alike hAO.1, va_AO.moved hWm.alike hAO.2⟩, fun z hz => (hNW z hz).warmM hWm, fun q hq => hA q (by rw [hU] at hq; exact Nat.le_trans hS.1 hq)⟩⟩
set_option maxHeartbeats 4000000 in
theorem ym_go_ok (E : ym_Env p s m args meth c T0 T cl NW D cA A own cc nL) {P : List xm_M} (PK : ym_PK T0 T cl NW P) {q8 q2 : vw_C} (hcw : cl[8]? = some q8) (hcr : cl[2]? = some q2) (h8 : q8.1 = "SheetByTwo$Work") (h2 : q2.1 = "SheetByTwo$Row") {f : Nat → Nat → List ym_E → Option (List ym_E × Nat × Nat)} {d : Nat}
    (hf : ∀ (mi p0 : Nat) (cs cs' : List ym_E) (mc ms : Nat), f mi p0 cs = some (cs', mc, ms) → ∀ M, P[mi]? = some M → ∀ ad, ym_Met l T cl NW D cA A d M p0 ad cs cs' mc ms)
    (hF : d + 1 ≤ R.frames) (hL : 64 * (d + 1) ≤ R.locals) (hco : ∀ (i : Nat) (e : xm_I), co[i]? = some e → ym_okI T0 cl NW P own cc co e i = true) :
    ∀ (n i : Nat) (ls : xm_L) (st : List Value) (cs cs2 : List ym_E) (mc ms : Nat), ym_go cl f co n i ls st cs = some (cs2, mc, ms) → ∀ (ad : Nat → Nat) (LS : Array Slot) (H : Heap) (locs : List Loc) (cells slots : Nat), cells + mc ≤ R.cells → slots + ms ≤ R.slots → xm_lh LS nL ad ls → ym_Wd cl D cA ad A H cs → va_S A s.heap H locs →
      (∀ (pc' : Nat) (ad' : Nat → Nat) (LS' : Array Slot) (H' : Heap) (locs' : List Loc), ym_x cs.length ad ad' → ym_Wd cl D cA ad' A H' cs2 → va_S A s.heap H' locs' → decode cc pc' = .ok (.return_, 1) → W p l e R s m args below meth c H' locs' (cells + mc) (slots + ms) Q (F0 m pc' LS' [])) → W p l e R s m args below meth c H locs cells slots Q (F0 m (xm_np co i) LS (st.map (xm_cv ad))) := by
  intro n
  induction n with
  | zero => intro i ls st cs cs2 mc ms hz; cases hz
  | succ n ih =>
    intro i ls st cs cs2 mc ms hz ad LS H locs cells slots hcl hsl hl hW hS hq
    unfold ym_go at hz
    split at hz
    · cases hz
    · rename_i e0 he0
      have hok := hco i e0 he0
      have hpc : xm_np co i = xm_pc e0 := by unfold xm_np; rw [he0]
      rw [hpc]
      obtain ⟨len, hd, hk⟩ := ym_okI_inv hok
      split at hz
      · -- return
        rename_i hin
        split at hz
        · cases hz
          rw [hin] at hd
          simp only [ym_okN, hin] at hk
          have hlen := of_decide_eq_true hk
          subst hlen
          exact hq _ ad LS H locs ym_x.rf hW hS hd
        · cases hz
      · split at hz
        · -- made
          rename_i hnr hal
          split at hz
          · rename_i ce k r hal2
            split at hz
            · rename_i hok2
              split at hz
              · rename_i cs3 c3 s3 hgo
                simp only [Option.some.injEq, Prod.mk.injEq] at hz
                obtain ⟨rfl, rfl, rfl⟩ := hz
                have key : ∀ (ad' : Nat → Nat) (H' : Heap), ym_x cs.length ad ad' → xm_lh LS nL ad' ls → ym_Wd cl D cA ad' A H' (cs ++ [ce]) → va_S A s.heap H' locs → W p l e R s m args below meth c H' locs (cells + 1) (slots + k) Q (F0 m (xm_np co (i + 1)) LS ((.ref cs.length :: r : List Value).map (xm_cv ad'))) := by
                  intro ad' H' hx' hl' hW' hS'
                  refine ih (i + 1) ls (.ref cs.length :: r) (cs ++ [ce]) cs3 c3 s3 hgo ad' LS H' locs (cells + 1) (slots + k) (by omega) (by omega) hl' hW' hS' (fun pc2 ad2 LS2 H2 locs2 x2 w2 s2 d2 => ?_)
                  rw [show cells + 1 + c3 = cells + (1 + c3) by omega, show slots + k + s3 = slots + (k + s3) by omega]
                  exact hq pc2 ad2 LS2 H2 locs2 (hx'.tr x2 (by simp)) w2 s2 d2
                unfold ym_al at hal2
                split at hal2
                · rename_i x hin
                  simp only [Option.some.injEq, Prod.mk.injEq] at hal2
                  obtain ⟨rfl, rfl, rfl⟩ := hal2
                  rw [hin] at hd
                  simp only [ym_okN, hin, ym_okJ, ym_len] at hk
                  simp only [Bool.and_eq_true, decide_eq_true_eq] at hk
                  obtain ⟨⟨hlen, hn⟩, hj⟩ := hk
                  replace hlen := of_decide_eq_true hlen
                  replace hn := of_decide_eq_true hn
                  subst hlen
                  split at hj
                  · rename_i q hq0
                    simp only [Bool.and_eq_true, decide_eq_true_eq] at hj
                    have en : xm_nf cl (xm_a e0) = q.2.2 := by unfold xm_nf; rw [hq0]
                    have hsl2 : slots + (q.2.2 + s3) ≤ R.slots := by rw [← en]; exact hsl
                    rw [en] at key
                    exact ym_o_new E hd hn hq0 hj.1.1 hj.1.2 hj.2 hok2 (by omega) (Nat.le_trans (Nat.add_le_add_left (Nat.le_add_right _ _) _) hsl2) hl hW hS key
                  · cases hj
                · rename_i x hin
                  split at hal2
                  · rename_i nn r2
                    split at hal2
                    · cases hal2
                    · rename_i hbd
                      simp only [Option.some.injEq, Prod.mk.injEq] at hal2
                      obtain ⟨rfl, rfl, rfl⟩ := hal2
                      rw [hin] at hd
                      simp only [ym_okN, hin, ym_okJ, ym_len] at hk
                      simp only [Bool.and_eq_true, decide_eq_true_eq] at hk
                      obtain ⟨⟨hlen, hn⟩, hj⟩ := hk
                      replace hlen := of_decide_eq_true hlen
                      replace hn := of_decide_eq_true hn
                      subst hlen
                      exact ym_o_newa E hd hn hj.1 (by omega) hj.2 (fun q => hbd (Or.inl q)) (by omega) hok2 (by omega) (by omega) hl hW hS key
                  · cases hal2
                · rename_i x hin
                  split at hal2
                  · rename_i nn r2
                    split at hal2
                    · cases hal2
                    · rename_i hbd
                      simp only [Option.some.injEq, Prod.mk.injEq] at hal2
                      obtain ⟨rfl, rfl, rfl⟩ := hal2
                      rw [hin] at hd
                      simp only [ym_okN, hin, ym_okJ, ym_len] at hk
                      simp only [Bool.and_eq_true, decide_eq_true_eq] at hk
                      obtain ⟨⟨hlen, hn⟩, hj⟩ := hk
                      replace hlen := of_decide_eq_true hlen
                      replace hn := of_decide_eq_true hn
                      subst hlen
                      exact ym_o_anew E hd hn (by omega) hj (fun q => hbd (Or.inl q)) (by omega) hok2 (by omega) (by omega) hl hW hS key
                  · cases hal2
                · cases hal2
              · cases hz
            · cases hz
          · cases hz
        · split at hz
          · -- a constructor is called
            rename_i hnr hnal hisc
            split at hz
            · rename_i p0 r
              split at hz
              · rename_i hcat
                split at hz
                · rename_i cs1 c1 s1 hf1
                  split at hz
                  · rename_i hle
                    split at hz
                    · rename_i cs3 c3 s3 hgo
                      simp only [Option.some.injEq, Prod.mk.injEq] at hz
                      obtain ⟨rfl, rfl, rfl⟩ := hz
                      have E0 := E
                      obtain ⟨⟨hx, hb, hml, hown, hts⟩, hK, hAO, hNW, hCK, hOI, HT, hA, hin0⟩ := E0
                      obtain ⟨o1, o2, o3⟩ := ym_ok_inv hcat.2
                      unfold ym_isc at hisc
                      split at hisc
                      · rename_i x hin
                        have hd5 := of_decide_eq_true hisc
                        rw [hin] at hd
                        simp only [ym_okN, hin, ym_okJ, ym_len] at hk
                        rw [if_neg (show ¬ xm_d e0 = 1 by omega)] at hk
                        simp only [Bool.and_eq_true, decide_eq_true_eq] at hk
                        obtain ⟨⟨hlen, hn⟩, -, hj⟩ := hk
                        replace hlen := of_decide_eq_true hlen
                        replace hn := of_decide_eq_true hn
                        subst hlen
                        split at hj
                        · rename_i M hM
                          simp only [Bool.and_eq_true, decide_eq_true_eq] at hj
                          obtain ⟨hj1, hj2⟩ := hj
                          split at hj2
                          · rename_i q hq0
                            simp only [Bool.and_eq_true, decide_eq_true_eq] at hj2
                            obtain ⟨⟨k1, k2⟩, k3⟩ := hj2
                            obtain ⟨okM, hcode⟩ := PK.2 (xm_a e0) M hM
                            obtain ⟨m1, m2, m3, m4, m5, m6, m7, m8, m9, m10, m11, m12⟩ := ym_okM_inv okM
                            have hMet := hf (xm_a e0) p0 cs cs1 c1 s1 hf1 M hM ad
                            have hnw := hNW q (List.mem_of_getElem? hq0)
                            rw [k1, k2, k3] at hnw
                            refine va_callv (va_runIN (As := []) (b := ad p0) (rest := r.map (xm_cv ad)) (host := q.2.2.2) (n := 0) (bytes := xm_cc M) (maxL := xm_ml M) (nL := nL) ⟨hx, hb, hml, hown, hts⟩ hMet ⟨va_cnB 0 hts (xm_good PK.1 hcode) rfl rfl rfl hnw (xm_at hts HT m1 rfl) ⟨m4, m5, m6⟩ ⟨hF, ?_⟩, m10, xm_at hts HT m2 rfl⟩ (ym_pre hK hAO hNW hA hW hS) rfl rfl hl.2.1 rfl (lv_room (by rw [xm_cats_cv]; exact hcat.1)) hd ⟨by omega, by omega⟩) hS (fun _ _ h => h) (fun _ h => h) (fun ad' t H1 locs1 ht hvm hpo hB hz1 hk1 hS1 => ?_)
                            · show 8 + (xm_ml M + 11) + 64 * d ≤ R.locals
                              omega
                            · have hW1 : ym_Wd cl D cA ad' A H1 cs1 := by rw [← ht]; exact hB
                              have k4 := ih (i + 1) ls r cs1 cs3 c3 s3 hgo ad' LS H1 locs1 (cells + c1) (slots + s1) (by omega) (by omega) (ym_lh_x hpo o2 hl) hW1 hS1 (fun pc2 ad2 LS2 H2 locs2 x2 w2 s2 d2 => by
                                rw [show cells + c1 + c3 = cells + (c1 + c3) by omega, show slots + s1 + s3 = slots + (s1 + s3) by omega]
                                exact hq pc2 ad2 LS2 H2 locs2 (hpo.tr x2 hle) w2 s2 d2)
                              have o4 : r.all (ym_v cs.length) = true := by
                                simp only [List.all_cons, Bool.and_eq_true] at o3
                                exact o3.2
                              rw [hn, ym_st_x hpo o4] at k4
                              exact k4
                          · cases hj2
                        · cases hj
                      · cases hisc
                    · cases hz
                  · cases hz
                · cases hz
              · cases hz
            · cases hz
          · -- a step
            split at hz
            · rename_i i' ls' st' cs' hst
              refine ym_step_ok E hcw hcr h8 h2 (by omega) (by omega) hok hst hl hW hS (fun LS' H' locs' hl' hW' hS' => ?_)
              have hlen := ym_step_len hst
              simp only at hlen
              refine ih i' ls' st' cs' cs2 mc ms hz ad LS' H' locs' cells slots hcl hsl hl' hW' hS' (fun pc2 ad2 LS2 H2 locs2 x2 w2 s2 d2 => hq pc2 ad2 LS2 H2 locs2 (by rw [hlen] at x2; exact x2) w2 s2 d2)
            · cases hz
theorem ym_run_ok {P : List xm_M} (PK : ym_PK T0 T cl NW P) (CK : xm_CK T cl) (OI : Cond.instanceMethod Lib.objectInit ∈ T ∧ Cond.code Lib.objectInit ⟨#[0xb1]⟩ 1 none ∈ T) (HT : ∀ w ∈ T0, goodWord w = true → w ∈ T) {q8 q2 : vw_C} (hcw : cl[8]? = some q8) (hcr : cl[2]? = some q2) (h8 : q8.1 = "SheetByTwo$Work") (h2 : q2.1 = "SheetByTwo$Row") (l : Launch) :
    ∀ (d n mi p0 : Nat) (cs cs' : List ym_E) (mc ms : Nat), ym_run cl P d n mi p0 cs = some (cs', mc, ms) → ∀ M, P[mi]? = some M → ∀ ad, ym_Met l T cl NW D cA A d M p0 ad cs cs' mc ms := by
  intro d
  induction d with
  | zero => intro n mi p0 cs cs' mc ms hz; cases hz
  | succ d ih =>
    intro n mi p0 cs cs' mc ms hz M hM ad
    unfold ym_run at hz
    rw [hM] at hz
    simp only at hz
    split at hz
    · rename_i hml1
      obtain ⟨ok, hcode⟩ := PK.2 mi M hM
      obtain ⟨m1, m2, m3, m4, m5, m6, m7, m8, m9, m10, m11, m12⟩ := ym_okM_inv ok
      refine Met.ofW (cc := xm_cc M) (maxL := xm_ml M) (ret := none) m3 rfl ?_
      intro p e s m args below meth c s₁ B hml hv
      obtain ⟨rfl, hW, hK, hAO, hNW, hA⟩ := hv
      have hts := atoms_spec (ws := Cond.code (xm_y M) (xm_cc M) (xm_ml M) none :: T) B.pre
      have hin : meth.name = "<init>" := (name_of_methodNamed B.named B.method).1.trans m10
      have E : ym_Env p s m ([Value.ref (ad p0)].toArray) meth c T0 T cl NW D cA A (xm_y M).cls (xm_cc M) (xm_ml M) := ⟨⟨B.exec, B.bytes, hml, findClass_of_methodNamed B.named, fun w hw => hts w (List.mem_cons_of_mem _ hw)⟩, hK, hAO, hNW, CK, OI, HT, hA, hin⟩
      have hlocks := B.notSynchronized
      rw [lg_entry_eq]
      have key := ym_go_ok (R := ym_rm (d + 1) mc ms) (below := below) (e := e) (l := l) (Q := MQ below (ym_Qc cl D cA ad A cs cs') ([Value.ref (ad p0)].toArray) s mc ms A) E PK hcw hcr h8 h2 (fun mi' p' c1 c2 x y q M' hM' ad' => ih n mi' p' c1 c2 x y q M' hM' ad') (Nat.le_refl _) (Nat.le_refl _) m12 n 0 _ [] cs cs' mc ms hz ad _ s.heap [] 0 0 (by show 0 + mc ≤ mc; omega) (by show 0 + ms ≤ ms; omega) (xm_entry (ad := ad) (as := [.ref p0]) hml1) hW va_S.rf ?_
      · rw [m9] at key
        exact key
      · intro pc' ad' LS' H' locs' hx' hW' hS' hd'
        rw [Nat.zero_add, Nat.zero_add]
        exact W.vret B.exec B.bytes B.returns (fun t ht hWm => ⟨⟨ad', rfl, hx', by show ym_Wd cl D cA ad' A t.heap cs'; rw [ht]; exact hW'⟩, hS'.F ht⟩) hS'.2.2 hd' hlocks
    · cases hz
end YMR
