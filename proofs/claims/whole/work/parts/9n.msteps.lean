/-! The maker's steps together. -/
section YMT
variable {p : Program} {l : Launch} {e : Env} {R : Room} {s : State} {m : MethodId} {args : Array Value} {below : List Frame} {meth : Method} {c : Code} {H : Heap} {locs : List Loc} {cells slots : Nat} {Q : State → Prop}
variable {T0 T : List Cond} {cl : List vw_C} {NW : List (String × Nat × MethodName × String)} {D : va_G} {cA : Nat → ClassId} {ad : Nat → Nat} {A : Nat → Prop} {own : String} {cc : ByteArray} {nL : Nat} {co : List xm_I}
variable {pc i : Nat} {ls : xm_L} {st : List Value} {cs : List ym_E} {LS : Array Slot}
def ym_okN (T : List Cond) (cl : List vw_C) (NW : List (String × Nat × MethodName × String)) (P : List xm_M) (own : String) (co : List xm_I) (e : xm_I) (i len : Nat) : Bool := match xm_in e with
    | .goto off => decide (len = 3) && xm_to co (xm_pc e) off (xm_b e)
    | .return_ => decide (len = 1)
    | ins => decide (len = ym_len ins) && decide (xm_np co (i + 1) = xm_pc e + ym_len ins) && ym_okJ T cl NW P own co e
theorem ym_okI_inv {P : List xm_M} {e0 : xm_I} (h : ym_okI T0 cl NW P own cc co e0 i = true) : ∃ len, decode cc (xm_pc e0) = .ok (xm_in e0, len) ∧ ym_okN T0 cl NW P own co e0 i len = true := by
  unfold ym_okI at h
  split at h
  · rename_i q hq
    simp only [Bool.and_eq_true, decide_eq_true_eq] at h
    exact ⟨q.2, by rw [hq, ← h.1], h.2⟩
  · cases h
theorem ym_cls {q : vw_C} : q = (q.1, q.2.1, q.2.2) := rfl
set_option maxHeartbeats 4000000 in
theorem ym_step_ok (E : ym_Env p s m args meth c T0 T cl NW D cA A own cc nL) {P : List xm_M} {e0 : xm_I} {q8 q2 : vw_C} (hcw : cl[8]? = some q8) (hcr : cl[2]? = some q2) (h8 : q8.1 = "SheetByTwo$Work") (h2 : q2.1 = "SheetByTwo$Row") (hF : 1 ≤ R.frames) (hL : 64 ≤ R.locals) (hok : ym_okI T0 cl NW P own cc co e0 i = true) {z : ym_N} (hz : ym_step e0 i ls st cs = some z) (hl : xm_lh LS nL ad ls) (hW : ym_Wd cl D cA ad A H cs) (hS : va_S A s.heap H locs) (kk : ym_C p l e R s m args below meth c cells slots Q cl D cA ad A nL co z) : W p l e R s m args below meth c H locs cells slots Q (F0 m (xm_pc e0) LS (st.map (xm_cv ad))) := by
  have E0 := E
  obtain ⟨⟨hx, hb, hml, hown, hts⟩, hK, hAO, hNW, hCK, hOI, HT, hA, hin0⟩ := E
  obtain ⟨len, hd, hk⟩ := ym_okI_inv hok
  unfold ym_step at hz
  split at hz
  · -- iconst
    rename_i n hin
    cases hz
    rw [hin] at hd
    simp only [ym_okN, hin, ym_okJ, ym_len] at hk
    simp only [Bool.and_eq_true, decide_eq_true_eq] at hk
    obtain ⟨⟨hlen, hn⟩, hv⟩ := hk
    replace hlen := of_decide_eq_true hlen
    replace hn := of_decide_eq_true hn
    subst hlen
    have k2 := kk LS H locs hl hW hS
    rw [show xm_np co (i + 1) = xm_pc e0 + 1 from hn] at k2
    exact lv_iconst hx hb hd hv k2
  · -- bipush
    rename_i n hin
    cases hz
    rw [hin] at hd
    simp only [ym_okN, hin, ym_okJ, ym_len] at hk
    simp only [Bool.and_eq_true, decide_eq_true_eq] at hk
    obtain ⟨⟨hlen, hn⟩, hv⟩ := hk
    replace hlen := of_decide_eq_true hlen
    replace hn := of_decide_eq_true hn
    subst hlen
    have k2 := kk LS H locs hl hW hS
    rw [show xm_np co (i + 1) = xm_pc e0 + 2 from hn] at k2
    exact lv_bipush hx hb hd hv k2
  · -- sipush
    rename_i n hin
    cases hz
    rw [hin] at hd
    simp only [ym_okN, hin, ym_okJ, ym_len] at hk
    simp only [Bool.and_eq_true, decide_eq_true_eq] at hk
    obtain ⟨⟨hlen, hn⟩, hv⟩ := hk
    replace hlen := of_decide_eq_true hlen
    replace hn := of_decide_eq_true hn
    subst hlen
    have k2 := kk LS H locs hl hW hS
    rw [show xm_np co (i + 1) = xm_pc e0 + 3 from hn] at k2
    exact lv_sipush hx hb hd hv k2
  · -- ldc
    rename_i n hin
    cases hz
    rw [hin] at hd
    simp only [ym_okN, hin, ym_okJ, ym_len] at hk
    simp only [Bool.and_eq_true, decide_eq_true_eq] at hk
    obtain ⟨⟨hlen, hn⟩, hv⟩ := hk
    replace hlen := of_decide_eq_true hlen
    replace hn := of_decide_eq_true hn
    subst hlen
    have k2 := kk LS H locs hl hW hS
    rw [show xm_np co (i + 1) = xm_pc e0 + 2 from hn] at k2
    exact lv_ldc hx hb hown (xm_at hts HT hv rfl) hd k2
  · -- aload
    rename_i k hin
    split at hz
    · rename_i x hk1
      cases hz
      rw [hin] at hd
      simp only [ym_okN, hin, ym_okJ, ym_len] at hk
      simp only [Bool.and_eq_true, decide_eq_true_eq] at hk
      obtain ⟨⟨hlen, hn⟩, -⟩ := hk
      replace hlen := of_decide_eq_true hlen
      replace hn := of_decide_eq_true hn
      subst hlen
      have k2 := kk LS H locs hl hW hS
      rw [show xm_np co (i + 1) = xm_pc e0 + 1 from hn] at k2
      exact lv_aload_n hx hb hd rfl (hl.at hk1) k2
    · cases hz
  · -- iload
    rename_i k hin
    split at hz
    · rename_i x hk1
      cases hz
      rw [hin] at hd
      simp only [ym_okN, hin, ym_okJ, ym_len] at hk
      simp only [Bool.and_eq_true, decide_eq_true_eq] at hk
      obtain ⟨⟨hlen, hn⟩, -⟩ := hk
      replace hlen := of_decide_eq_true hlen
      replace hn := of_decide_eq_true hn
      subst hlen
      have k2 := kk LS H locs hl hW hS
      rw [show xm_np co (i + 1) = xm_pc e0 + 1 from hn] at k2
      exact lv_iload_n hx hb hd rfl (hl.at hk1) k2
    · cases hz
  · -- istore
    rename_i k hin
    split at hz
    · rename_i x r
      split at hz
      · rename_i hkl
        cases hz
        rw [hin] at hd
        simp only [ym_okN, hin, ym_okJ, ym_len] at hk
        simp only [Bool.and_eq_true, decide_eq_true_eq] at hk
        obtain ⟨⟨hlen, hn⟩, -⟩ := hk
        replace hlen := of_decide_eq_true hlen
        replace hn := of_decide_eq_true hn
        subst hlen
        refine lv_istore_n hx hb hd rfl hl.2 (by rw [← hl.1]; exact hkl) rfl (fun LS' h' => ?_)
        have k2 := kk LS' H locs (xm_lh.s1 hl.1 h') hW hS
        rw [show xm_np co (i + 1) = xm_pc e0 + 1 from hn] at k2
        exact k2
      · cases hz
    · cases hz
  · -- iinc
    rename_i k n hin
    split at hz
    · rename_i x hk1
      cases hz
      rw [hin] at hd
      simp only [ym_okN, hin, ym_okJ, ym_len] at hk
      simp only [Bool.and_eq_true, decide_eq_true_eq] at hk
      obtain ⟨⟨hlen, hn⟩, hv⟩ := hk
      replace hlen := of_decide_eq_true hlen
      replace hn := of_decide_eq_true hn
      subst hlen
      obtain ⟨k', hk'⟩ := List.getElem?_of_mem (xm_cl_mem (ad := ad) (q := (k, .int x)).mpr ⟨_, hk1, rfl⟩)
      refine lv_iinc hx hb hd hl.2 hk' (by rw [hv]) (by rw [← hl.1]; exact (List.getElem?_eq_some_iff.mp hk1).1) rfl (fun LS' h' => ?_)
      have k2 := kk LS' H locs (xm_lh.s1 hl.1 h') hW hS
      rw [show xm_np co (i + 1) = xm_pc e0 + 3 from hn] at k2
      exact k2
    · cases hz
  · -- dup
    rename_i hin
    split at hz
    · rename_i x r
      cases hz
      rw [hin] at hd
      simp only [ym_okN, hin, ym_okJ, ym_len] at hk
      simp only [Bool.and_eq_true, decide_eq_true_eq] at hk
      obtain ⟨⟨hlen, hn⟩, -⟩ := hk
      replace hlen := of_decide_eq_true hlen
      replace hn := of_decide_eq_true hn
      subst hlen
      have k2 := kk LS H locs hl hW hS
      rw [show xm_np co (i + 1) = xm_pc e0 + 1 from hn] at k2
      exact lv_dup hx hb hd rfl k2
    · cases hz
  · -- goto
    rename_i off hin
    cases hz
    rw [hin] at hd
    simp only [ym_okN, hin, xm_to] at hk
    simp only [Bool.and_eq_true, decide_eq_true_eq] at hk
    obtain ⟨rfl, hj⟩ := hk
    exact lv_goto hx hb hd hj (kk LS H locs hl hW hS)
  · -- icmp
    rename_i off hin
    split at hz
    · rename_i y x r
      cases hz
      rw [hin] at hd
      simp only [ym_okN, hin, ym_okJ, ym_len, xm_to] at hk
      simp only [Bool.and_eq_true, decide_eq_true_eq] at hk
      obtain ⟨⟨hlen, hn⟩, hj⟩ := hk
      replace hlen := of_decide_eq_true hlen
      replace hn := of_decide_eq_true hn
      subst hlen
      have k2 := kk LS H locs hl hW hS
      refine lv_icmp_ge hx hb hd hj (fun q => ?_) (fun q => ?_)
      · simp only [xm_c2, q, if_true, if_false] at k2
        exact k2
      · simp only [xm_c2, q, if_true, if_false] at k2
        rw [hn] at k2
        exact k2
    · cases hz
  · -- getfield
    rename_i n hin
    split at hz
    · rename_i p0 r
      split at hz
      · rename_i ci fs hp0
        split at hz
        · rename_i hci
          split at hz
          · rename_i v hv
            cases hz
            rw [hin] at hd
            simp only [ym_okN, hin, ym_okJ, ym_len] at hk
            simp only [Bool.and_eq_true, decide_eq_true_eq] at hk
            obtain ⟨⟨hlen, hn⟩, hj⟩ := hk
            replace hlen := of_decide_eq_true hlen
            replace hn := of_decide_eq_true hn
            subst hlen
            split at hj
            · rename_i q hq
              simp only [Bool.and_eq_true, decide_eq_true_eq] at hj
              subst hci
              exact ym_o_getf E0 hd hn hq hj.1 hj.2 hp0 hv hl hW hS kk
            · cases hj
          · cases hz
        · cases hz
      · cases hz
    · cases hz
  · -- putfield
    rename_i n hin
    rw [hin] at hd
    simp only [ym_okN, hin, ym_okJ, ym_len] at hk
    simp only [Bool.and_eq_true, decide_eq_true_eq] at hk
    obtain ⟨⟨hlen, hn⟩, hj⟩ := hk
    replace hlen := of_decide_eq_true hlen
    replace hn := of_decide_eq_true hn
    subst hlen
    split at hj
    · rename_i q hq
      simp only [Bool.and_eq_true, decide_eq_true_eq] at hj
      obtain ⟨⟨⟨j1, j2⟩, j3⟩, j4⟩ := hj
      split at hz
      · rename_i x p0 r
        split at hz
        · rename_i ci fs hp0
          split at hz
          · rename_i hci
            cases hz
            obtain ⟨rfl, hd0, hbl⟩ := hci
            exact ym_o_put E0 hd hn hq j1 j2 (Or.inl ⟨hd0, x, rfl⟩) j3 j4 hp0 hbl hl hW hS kk
          · cases hz
        · cases hz
      · rename_i x p0 r
        split at hz
        · rename_i ci fs hp0
          split at hz
          · rename_i hci
            cases hz
            obtain ⟨rfl, hd0, hbl⟩ := hci
            exact ym_o_put E0 hd hn hq j1 j2 (Or.inr ⟨hd0, x, rfl⟩) j3 j4 hp0 hbl hl hW hS kk
          · cases hz
        · cases hz
      · cases hz
    · cases hj
  · -- iastore
    rename_i hin
    split at hz
    · rename_i x j p0 r
      split at hz
      · rename_i t n ov hp0
        split at hz
        · rename_i ht
          split at hz
          · cases hz
          · rename_i hj
            cases hz
            rw [hin] at hd
            simp only [ym_okN, hin, ym_okJ, ym_len] at hk
            simp only [Bool.and_eq_true, decide_eq_true_eq] at hk
            obtain ⟨⟨hlen, hn⟩, -⟩ := hk
            replace hlen := of_decide_eq_true hlen
            replace hn := of_decide_eq_true hn
            subst hlen
            subst ht
            exact ym_o_iast E0 hd hn hp0 hj hl hW hS kk
        · cases hz
      · cases hz
    · cases hz
  · -- aastore
    rename_i hin
    split at hz
    · rename_i x j p0 r
      split at hz
      · rename_i t n ov ci fs hp0 hx0
        split at hz
        · rename_i ht
          split at hz
          · cases hz
          · rename_i hj
            cases hz
            rw [hin] at hd
            simp only [ym_okN, hin, ym_okJ, ym_len] at hk
            simp only [Bool.and_eq_true, decide_eq_true_eq] at hk
            obtain ⟨⟨hlen, hn⟩, -⟩ := hk
            replace hlen := of_decide_eq_true hlen
            replace hn := of_decide_eq_true hn
            subst hlen
            exact ym_o_aast E0 hcw hcr h8 h2 hd hn hp0 hx0 ht hj hl hW hS kk
        · cases hz
      · cases hz
    · cases hz
  · -- invokespecial
    rename_i n hin
    split at hz
    · rename_i p0 r
      split at hz
      · rename_i hd1
        cases hz
        rw [hin] at hd
        simp only [ym_okN, hin, ym_okJ, ym_len, hd1.1, if_true] at hk
        simp only [Bool.and_eq_true, decide_eq_true_eq] at hk
        obtain ⟨⟨hlen, hn⟩, hw⟩ := hk
        replace hlen := of_decide_eq_true hlen
        replace hn := of_decide_eq_true hn
        subst hlen
        exact ym_o_obj E0 hd hn hw hF hL hd1.2 hl hW hS kk
      · cases hz
    · cases hz
  · cases hz
theorem ym_step_len {e0 : xm_I} {z : ym_N} (hz : ym_step e0 i ls st cs = some z) : z.2.2.2.length = cs.length := by
  unfold ym_step at hz
  repeat' split at hz
  all_goals first | (cases hz; done) | (cases hz; rfl) | (cases hz; simp only [List.length_set])
end YMT
