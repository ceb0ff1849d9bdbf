/-! The machine's run is the bytecode's. -/
section XMG
variable {p : Program} {l : Launch} {e : Env} {R : Room} {s : State} {m : MethodId} {args : Array Value} {below : List Frame} {meth : Method} {c : Code} {cells slots : Nat} {Q : State → Prop}
variable {T0 T : List Cond} {cl : List vw_C} {TX : List (String × Nat × String × Nat)} {X : xm_X} {D : va_G} {cA : Nat → ClassId} {ad : Nat → Nat} {A : Nat → Prop} {own : String} {cc : ByteArray} {nL : Nat} {co : List xm_I}
theorem xm_r_cv {ad : Nat → Nat} {r : Option Value} : (r.map (xm_cv ad)).toList = r.toList.map (xm_cv ad) := by cases r <;> rfl
set_option maxHeartbeats 4000000 in
theorem xm_go_ok (E : xm_Env p s m args c T0 T cl TX X D cA ad A own cc nL) {P : List xm_M} (PK : xm_PK T0 T cl TX P) {rt : Option FieldType} {f : Nat → List Value → xm_H → Option (Option Value × xm_H)} {d : Nat}
    (hf : ∀ (mi : Nat) (as : List Value) (h : xm_H) (r : Option Value) (h' : xm_H), f mi as h = some (r, h') → ∀ M, P[mi]? = some M → xm_Met l T cl TX X D cA ad A d M as h r h')
    (hF : d + 1 ≤ R.frames) (hL : 64 * (d + 1) ≤ R.locals) (hcs : cells ≤ R.cells ∧ slots ≤ R.slots)
    (hco : ∀ (i : Nat) (e : xm_I), co[i]? = some e → xm_okI T0 cl TX P own cc rt co e i = true) {r : Option Value} {h' : xm_H}
    (hq : ∀ (pc' : Nat) (LS' : Array Slot) (H' : Heap) (locs' : List Loc), xm_Wd cl D cA ad A X.1 H' h' → va_S A s.heap H' locs' → xm_rets cc pc' rt r → W p l e R s m args below meth c H' locs' cells slots Q (F0 m pc' LS' (r.toList.map (xm_cv ad)))) :
    ∀ (n i : Nat) (ls : xm_L) (st : List Value) (h : xm_H), xm_go X f co n i ls st h = some (r, h') → ∀ (LS : Array Slot) (H : Heap) (locs : List Loc), xm_lh LS nL ad ls → xm_Wd cl D cA ad A X.1 H h → va_S A s.heap H locs → W p l e R s m args below meth c H locs cells slots Q (F0 m (xm_np co i) LS (st.map (xm_cv ad))) := by
  intro n
  induction n with
  | zero => intro i ls st h hz; cases hz
  | succ n ih =>
    intro i ls st h hz LS H locs hl hW hS
    unfold xm_go at hz
    split at hz
    · cases hz
    · rename_i e0 he0
      have hok := hco i e0 he0
      have hpc : xm_np co i = xm_pc e0 := by unfold xm_np; rw [he0]
      rw [hpc]
      obtain ⟨len, hd, hk⟩ := xm_okI_inv hok
      split at hz
      · -- return
        rename_i hin
        split at hz
        · cases hz
          rw [hin] at hd
          simp only [xm_okK, hin] at hk
          simp only [Bool.and_eq_true, decide_eq_true_eq] at hk
          obtain ⟨rfl, hrt⟩ := hk
          exact hq _ LS H locs hW hS ⟨hd, hrt⟩
        · cases hz
      · -- ireturn
        rename_i hin
        split at hz
        · split at hz
          · rename_i hokr
            cases hz
            rw [hin] at hd
            simp only [xm_okK, hin] at hk
            simp only [Bool.and_eq_true, decide_eq_true_eq] at hk
            obtain ⟨rfl, hrt⟩ := hk
            exact hq _ LS H locs hW hS ⟨hd, by rw [hrt]; exact hokr⟩
          · cases hz
        · cases hz
      · -- lreturn
        rename_i hin
        split at hz
        · cases hz
          rw [hin] at hd
          simp only [xm_okK, hin] at hk
          simp only [Bool.and_eq_true, decide_eq_true_eq] at hk
          obtain ⟨rfl, hrt⟩ := hk
          exact hq _ LS H locs hW hS ⟨hd, hrt⟩
        · cases hz
      · -- invokevirtual
        rename_i ix hin
        split at hz
        · rename_i hcnd
          obtain ⟨c1, c2, c3⟩ := hcnd
          split at hz
          · rename_i r1 h1 hf1
            rw [hin] at hd
            simp only [xm_okK, hin] at hk
            obtain ⟨hlen, hn, hJ⟩ := xm_sp hk
            have hlen : len = 3 := hlen
            subst hlen
            have hn : xm_np co (i + 1) = xm_pc e0 + 3 := hn
            simp only [xm_okJ, hin] at hJ
            split at hJ
            · rename_i M hM
              simp only [Bool.and_eq_true, decide_eq_true_eq] at hJ
              obtain ⟨⟨⟨j1, j2⟩, j3⟩, j4⟩ := hJ
              have hlenT : (st.take (xm_b e0)).reverse.length = xm_na M + 1 := by rw [List.length_reverse, List.length_take, Nat.min_eq_left c1]; exact j2
              generalize hAs : (st.take (xm_b e0)).reverse = As at *
              cases As with
              | nil => simp at hlenT
              | cons a0 as =>
                cases a0 with
                | ref b =>
                  have hst : st = as.reverse ++ .ref b :: st.drop (xm_b e0) := by
                    have h2 : st.take (xm_b e0) = as.reverse ++ [.ref b] := by
                      have := congrArg List.reverse hAs
                      rw [List.reverse_reverse, List.reverse_cons] at this
                      exact this
                    calc st = st.take (xm_b e0) ++ st.drop (xm_b e0) := (List.take_append_drop _ _).symm
                      _ = as.reverse ++ .ref b :: st.drop (xm_b e0) := by rw [h2]; simp
                  have hmap : st.map (xm_cv ad) = (as.map (xm_cv ad)).reverse ++ .ref (ad b) :: (st.drop (xm_b e0)).map (xm_cv ad) := by
                    conv => lhs; rw [hst]
                    rw [List.map_append, List.map_cons, List.map_reverse]
                    rfl
                  rw [hmap]
                  refine xm_callV (i := i) (ls := ls) E PK hF hL hcs hM j1 j4 (hf _ _ _ _ _ hf1 M hM) (by simpa using hlenT) c2 (by rw [← j3]; exact c3) hd hl hW hS (fun H1 locs1 hW1 hS1 => ?_)
                  have k2 := ih (i + 1) ls _ h1 hz LS H1 locs1 hl hW1 hS1
                  rw [hn, List.map_append, ← xm_r_cv] at k2
                  exact k2
                | _ => simp [xm_rcv] at c3
            · cases hJ
          · cases hz
        · cases hz
      · -- invokestatic
        rename_i ix hin
        split at hz
        · rename_i hd0
          split at hz
          · rename_i hcnd
            obtain ⟨c1, c2⟩ := hcnd
            split at hz
            · rename_i r1 h1 hf1
              rw [hin] at hd
              simp only [xm_okK, hin] at hk
              obtain ⟨hlen, hn, hJ⟩ := xm_sp hk
              have hlen : len = 3 := hlen
              subst hlen
              have hn : xm_np co (i + 1) = xm_pc e0 + 3 := hn
              simp only [xm_okJ, hin, hd0, if_true] at hJ
              split at hJ
              · rename_i M hM
                simp only [Bool.and_eq_true, decide_eq_true_eq] at hJ
                obtain ⟨⟨j1, j2⟩, j4⟩ := hJ
                have hlenT : (st.take (xm_b e0)).reverse.length = xm_na M := by rw [List.length_reverse, List.length_take, Nat.min_eq_left c1]; exact j2
                have hmap : st.map (xm_cv ad) = ((st.take (xm_b e0)).reverse.map (xm_cv ad)).reverse ++ (st.drop (xm_b e0)).map (xm_cv ad) := by
                  rw [← List.map_reverse, List.reverse_reverse, ← List.map_append, List.take_append_drop]
                rw [hmap]
                refine xm_callS (i := i) (ls := ls) E PK hF hL hcs hM j1 j4 (hf _ _ _ _ _ hf1 M hM) hlenT c2 hd hl hW hS (fun H1 locs1 hW1 hS1 => ?_)
                have k2 := ih (i + 1) ls _ h1 hz LS H1 locs1 hl hW1 hS1
                rw [hn, List.map_append, ← xm_r_cv] at k2
                exact k2
              · cases hJ
            · cases hz
          · cases hz
        · rename_i hd0
          split at hz
          · rename_i i1 ls1 st1 h1 hs1
            refine xm_step_ok E hok (by omega) (by omega) hcs (fun _ _ => hd0) hl hW hS (z := (i1, ls1, st1, h1)) hs1 (fun LS' H' locs' a1 a2 a3 => ih i1 ls1 st1 h1 hz LS' H' locs' a1 a2 a3)
          · cases hz
      · rename_i n1 n2 n3 n4 n5
        split at hz
        · rename_i i1 ls1 st1 h1 hs1
          exact xm_step_ok E hok (by omega) (by omega) hcs (fun x q => absurd q (n5 x)) hl hW hS (z := (i1, ls1, st1, h1)) hs1 (fun LS' H' locs' a1 a2 a3 => ih i1 ls1 st1 h1 hz LS' H' locs' a1 a2 a3)
        · cases hz
theorem xm_args_mem {ad : Nat → Nat} : ∀ (as : List Value) (j off : Nat) (v : Value), (xm_args as)[j]? = some (some v) → (off + j, xm_cv ad v) ∈ lv_args off (as.map (xm_cv ad))
  | [], j, off, v, h => by simp [xm_args] at h
  | a :: as, j, off, v, h => by
    unfold xm_args at h
    rw [List.map_cons]
    unfold lv_args
    rw [xm_cv_cat]
    split at h
    · rename_i hc
      rw [if_pos hc]
      cases j with
      | zero =>
        simp only [List.getElem?_cons_zero, Option.some.injEq] at h
        subst h
        exact List.mem_cons_self
      | succ j =>
        cases j with
        | zero => simp at h
        | succ j =>
          simp only [List.getElem?_cons_succ] at h
          have := xm_args_mem (ad := ad) as j (off + 2) v h
          exact List.mem_cons_of_mem _ (by rw [show off + (j + 1 + 1) = off + 2 + j by omega]; exact this)
    · rename_i hc
      rw [if_neg hc]
      cases j with
      | zero =>
        simp only [List.getElem?_cons_zero, Option.some.injEq] at h
        subst h
        exact List.mem_cons_self
      | succ j =>
        simp only [List.getElem?_cons_succ] at h
        have := xm_args_mem (ad := ad) as j (off + 1) v h
        exact List.mem_cons_of_mem _ (by rw [show off + (j + 1) = off + 1 + j by omega]; exact this)
theorem xm_args_len {ad : Nat → Nat} : ∀ (as : List Value), (lg_sl (as.map (xm_cv ad))).length = (xm_args as).length
  | [] => rfl
  | a :: as => by
    have ih := xm_args_len (ad := ad) as
    rw [List.map_cons]
    unfold xm_args lg_sl
    rw [List.flatMap_cons, List.length_append, xm_cv_cat]
    unfold lg_sl at ih
    split
    · rw [ih]; simp; omega
    · rw [ih]; simp; omega
theorem xm_entry {ad : Nat → Nat} {as : List Value} {n : Nat} (h : (xm_args as).length ≤ n) : xm_lh ((lg_sl (as.map (xm_cv ad)) ++ List.replicate (n - (lg_sl (as.map (xm_cv ad))).length) Slot.unset).toArray) n ad (xm_pad (xm_args as) n) := by
  have hl := lv_entry (as.map (xm_cv ad)) (n := n) (by rw [xm_args_len]; exact h)
  refine ⟨by unfold xm_pad; simp; omega, hl.1, hl.2.1, fun q hq => hl.2.2 q ?_⟩
  obtain ⟨v, h1, h2⟩ := xm_cl_mem.mp hq
  unfold xm_pad at h1
  by_cases hj : q.1 < (xm_args as).length
  · rw [List.getElem?_append_left hj] at h1
    have := xm_args_mem (ad := ad) as q.1 0 v h1
    rw [Nat.zero_add, ← h2] at this
    exact this
  · rw [List.getElem?_append_right (by omega), List.getElem?_replicate] at h1
    split at h1 <;> simp at h1
theorem xm_okr_ok {rt : Option FieldType} {v : Int32} (h : xm_okr (xm_rd rt) v = true) : ∃ ty, rt = some ty ∧ narrow ty (.int v) = .int v := by
  have hb : ∀ (w : Int32), -128 ≤ w → w ≤ 127 → w.toInt8.toInt32 = w := by
    intro w h1 h2
    rw [Int32.le_iff_toInt_le] at h1 h2
    apply Int32.toInt_inj.mp
    have e1 : (-128 : Int32).toInt = -128 := by decide
    have e2 : (127 : Int32).toInt = 127 := by decide
    rw [e1] at h1
    rw [e2] at h2
    rw [Int8.toInt_toInt32, Int32.toInt_toInt8]
    exact Int.bmod_eq_of_le (by omega) (by omega)
  cases rt with
  | none => simp [xm_rd, xm_okr] at h
  | some ty =>
    refine ⟨ty, rfl, ?_⟩
    cases ty <;> simp [xm_rd, xm_okr] at h <;> try rfl
    case boolean => rcases h with rfl | rfl <;> rfl
    case byte =>
      show Value.int v.toInt8.toInt32 = .int v
      rw [hb v h.1 h.2]
    case char =>
      show Value.int v.toUInt32.toUInt16.toUInt32.toInt32 = .int v
      rw [Int32.le_iff_toInt_le, Int32.le_iff_toInt_le] at h
      have e1 : (0 : Int32).toInt = 0 := by decide
      have e2 : (65535 : Int32).toInt = 65535 := by decide
      rw [e1, e2] at h
      rw [lg_i2c_small h.1 (by omega)]
theorem xm_run_ok {P : List xm_M} (PK : xm_PK T0 T cl TX P) (CK : xm_CK T cl) (AC : xm_AC T) (HT : ∀ w ∈ T0, goodWord w = true → w ∈ T) (l : Launch) :
    ∀ (d n mi : Nat) (as : List Value) (h : xm_H) (r : Option Value) (h' : xm_H), xm_run X P d n mi as h = some (r, h') → ∀ M, P[mi]? = some M → xm_Met l T cl TX X D cA ad A d M as h r h' := by
  intro d
  induction d with
  | zero => intro n mi as h r h' hz; cases hz
  | succ d ih =>
    intro n mi as h r h' hz M hM
    unfold xm_run at hz
    rw [hM] at hz
    simp only at hz
    split at hz
    · rename_i hal
      obtain ⟨ok, hcode⟩ := PK.2 mi M hM
      obtain ⟨o1, o2, o3, o4, o5, o6, o7, o8, o9⟩ := xm_okM_inv ok
      refine Met.ofW (cc := xm_cc M) (maxL := xm_ml M) (ret := xm_rt M) o3 rfl ?_
      intro p e s m args below meth c s₁ B hml hv
      obtain ⟨rfl, hW, hK, hX⟩ := hv
      have hts := atoms_spec (ws := Cond.code (xm_y M) (xm_cc M) (xm_ml M) (xm_rt M) :: T) B.pre
      have E : xm_Env p s m ((as.map (xm_cv ad)).toArray) c T0 T cl TX X D cA ad A (xm_y M).cls (xm_cc M) (xm_ml M) := ⟨B.exec, B.bytes, hml, findClass_of_methodNamed B.named, fun w hw => hts w (List.mem_cons_of_mem _ hw), hK, hX, CK, AC, HT⟩
      have hlocks := B.notSynchronized
      rw [lg_entry_eq]
      have key := xm_go_ok (R := xm_rm (d + 1)) (cells := 0) (slots := 0) (below := below) (meth := meth) (e := e) (l := l) (Q := MQ below (xm_Qc cl X D cA ad A r h') ((as.map (xm_cv ad)).toArray) s 0 0 A) (rt := xm_rt M) (r := r) (h' := h') E PK (fun mi' as' g r1 g' q M' hM' => ih n mi' as' g r1 g' q M' hM') (Nat.le_refl _) (Nat.le_refl _) ⟨Nat.le_refl _, Nat.le_refl _⟩ o9 ?_ n 0 _ [] h hz _ s.heap [] (xm_entry hal) hW va_S.rf
      · rw [o8] at key
        exact key
      · intro pc' LS' H' locs' hW' hS' hr'
        cases r with
        | none =>
          obtain ⟨hd, hrt⟩ := hr'
          exact W.vret B.exec B.bytes (B.returns.trans hrt) (fun t ht hWm => ⟨⟨rfl, by rw [ht]; exact hW'⟩, hS'.F ht⟩) hS'.2.2 hd hlocks
        | some v =>
          cases v with
          | int v =>
            obtain ⟨hd, hokr⟩ := hr'
            obtain ⟨ty, hrt, hnr⟩ := xm_okr_ok hokr
            exact W.zret B.exec B.bytes (B.returns.trans hrt) hnr (fun t ht hWm => ⟨⟨rfl, by rw [ht]; exact hW'⟩, hS'.F ht⟩) hS'.2.2 hd hlocks
          | long v =>
            obtain ⟨hd, hrt⟩ := hr'
            exact W.lret B.exec B.bytes (B.returns.trans hrt) (fun t ht hWm => ⟨⟨rfl, by rw [ht]; exact hW'⟩, hS'.F ht⟩) hS'.2.2 hd hlocks
          | _ => exact hr'.elim
    · cases hz
end XMG
