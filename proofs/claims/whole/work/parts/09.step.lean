/-! One step. -/
section XMS4
variable {p : Program} {l : Launch} {e : Env} {R : Room} {s : State} {m : MethodId} {args : Array Value} {below : List Frame} {meth : Method} {c : Code} {H : Heap} {locs : List Loc} {cells slots : Nat} {Q : State → Prop}
variable {T0 T : List Cond} {cl : List vw_C} {TX : List (String × Nat × String × Nat)} {X : xm_X} {D : va_G} {cA : Nat → ClassId} {ad : Nat → Nat} {A : Nat → Prop} {own : String} {cc : ByteArray} {nL : Nat} {co : List xm_I}
variable {pc i : Nat} {ls : xm_L} {st : List Value} {h : xm_H} {LS : Array Slot} {z : xm_N}
theorem xm_sp {a b : Prop} [Decidable a] [Decidable b] {c : Bool} (h : (decide a && decide b && c) = true) : a ∧ b ∧ c = true := by
  simp only [Bool.and_eq_true, decide_eq_true_eq] at h
  exact ⟨h.1.1, h.1.2, h.2⟩
set_option maxHeartbeats 4000000 in
theorem xm_step_ok (E : xm_Env p s m args c T0 T cl TX X D cA ad A own cc nL) {P : List xm_M} {rt : Option FieldType} {e0 : xm_I} (hok : xm_okI T0 cl TX P own cc rt co e0 i = true) (hF : 1 ≤ R.frames) (hL : 64 ≤ R.locals) (hcs : cells ≤ R.cells ∧ slots ≤ R.slots) (hnc : ∀ x, xm_in e0 = .invokestatic x → xm_d e0 ≠ 0) (hl : xm_lh LS nL ad ls) (hW : xm_Wd cl D cA ad A X.1 H h) (hS : va_S A s.heap H locs) (hz : xm_step X e0 i ls st h = some z) (kk : xm_C p l e R s m args below meth c cells slots Q cl X D cA ad A nL co z) : W p l e R s m args below meth c H locs cells slots Q (F0 m (xm_pc e0) LS (st.map (xm_cv ad))) := by
  obtain ⟨len, hd, hk⟩ := xm_okI_inv hok
  obtain ⟨pc, ins, w, a, b, d, v, u, js⟩ := e0
  cases ins
  case iadd =>
    obtain ⟨hlen, hn, hJ⟩ := xm_sp hk
    have hlen : len = 1 := hlen
    subst hlen
    exact xm_o_iadd E hd hn hl hW hS hz kk
  case isub =>
    obtain ⟨hlen, hn, hJ⟩ := xm_sp hk
    have hlen : len = 1 := hlen
    subst hlen
    exact xm_o_isub E hd hn hl hW hS hz kk
  case imul =>
    obtain ⟨hlen, hn, hJ⟩ := xm_sp hk
    have hlen : len = 1 := hlen
    subst hlen
    exact xm_o_imul E hd hn hl hW hS hz kk
  case iand =>
    obtain ⟨hlen, hn, hJ⟩ := xm_sp hk
    have hlen : len = 1 := hlen
    subst hlen
    exact xm_o_iand E hd hn hl hW hS hz kk
  case ior =>
    obtain ⟨hlen, hn, hJ⟩ := xm_sp hk
    have hlen : len = 1 := hlen
    subst hlen
    exact xm_o_ior E hd hn hl hW hS hz kk
  case ixor =>
    obtain ⟨hlen, hn, hJ⟩ := xm_sp hk
    have hlen : len = 1 := hlen
    subst hlen
    exact xm_o_ixor E hd hn hl hW hS hz kk
  case ishl =>
    obtain ⟨hlen, hn, hJ⟩ := xm_sp hk
    have hlen : len = 1 := hlen
    subst hlen
    exact xm_o_ishl E hd hn hl hW hS hz kk
  case ishr =>
    obtain ⟨hlen, hn, hJ⟩ := xm_sp hk
    have hlen : len = 1 := hlen
    subst hlen
    exact xm_o_ishr E hd hn hl hW hS hz kk
  case iushr =>
    obtain ⟨hlen, hn, hJ⟩ := xm_sp hk
    have hlen : len = 1 := hlen
    subst hlen
    exact xm_o_iushr E hd hn hl hW hS hz kk
  case idiv =>
    obtain ⟨hlen, hn, hJ⟩ := xm_sp hk
    have hlen : len = 1 := hlen
    subst hlen
    exact xm_o_idiv E hd hn hl hW hS hz kk
  case irem =>
    obtain ⟨hlen, hn, hJ⟩ := xm_sp hk
    have hlen : len = 1 := hlen
    subst hlen
    exact xm_o_irem E hd hn hl hW hS hz kk
  case ineg =>
    obtain ⟨hlen, hn, hJ⟩ := xm_sp hk
    have hlen : len = 1 := hlen
    subst hlen
    exact xm_o_ineg E hd hn hl hW hS hz kk
  case i2b =>
    obtain ⟨hlen, hn, hJ⟩ := xm_sp hk
    have hlen : len = 1 := hlen
    subst hlen
    exact xm_o_i2b E hd hn hl hW hS hz kk
  case i2s =>
    obtain ⟨hlen, hn, hJ⟩ := xm_sp hk
    have hlen : len = 1 := hlen
    subst hlen
    exact xm_o_i2s E hd hn hl hW hS hz kk
  case i2c =>
    obtain ⟨hlen, hn, hJ⟩ := xm_sp hk
    have hlen : len = 1 := hlen
    subst hlen
    exact xm_o_i2c E hd hn hl hW hS hz kk
  case ladd =>
    obtain ⟨hlen, hn, hJ⟩ := xm_sp hk
    have hlen : len = 1 := hlen
    subst hlen
    exact xm_o_ladd E hd hn hl hW hS hz kk
  case lsub =>
    obtain ⟨hlen, hn, hJ⟩ := xm_sp hk
    have hlen : len = 1 := hlen
    subst hlen
    exact xm_o_lsub E hd hn hl hW hS hz kk
  case lmul =>
    obtain ⟨hlen, hn, hJ⟩ := xm_sp hk
    have hlen : len = 1 := hlen
    subst hlen
    exact xm_o_lmul E hd hn hl hW hS hz kk
  case land =>
    obtain ⟨hlen, hn, hJ⟩ := xm_sp hk
    have hlen : len = 1 := hlen
    subst hlen
    exact xm_o_land E hd hn hl hW hS hz kk
  case lor =>
    obtain ⟨hlen, hn, hJ⟩ := xm_sp hk
    have hlen : len = 1 := hlen
    subst hlen
    exact xm_o_lor E hd hn hl hW hS hz kk
  case ldiv =>
    obtain ⟨hlen, hn, hJ⟩ := xm_sp hk
    have hlen : len = 1 := hlen
    subst hlen
    exact xm_o_ldiv E hd hn hl hW hS hz kk
  case lrem =>
    obtain ⟨hlen, hn, hJ⟩ := xm_sp hk
    have hlen : len = 1 := hlen
    subst hlen
    exact xm_o_lrem E hd hn hl hW hS hz kk
  case lshl =>
    obtain ⟨hlen, hn, hJ⟩ := xm_sp hk
    have hlen : len = 1 := hlen
    subst hlen
    exact xm_o_lshl E hd hn hl hW hS hz kk
  case lshr =>
    obtain ⟨hlen, hn, hJ⟩ := xm_sp hk
    have hlen : len = 1 := hlen
    subst hlen
    exact xm_o_lshr E hd hn hl hW hS hz kk
  case iload k =>
    obtain ⟨hlen, hn, hJ⟩ := xm_sp hk
    have hlen : len = 2 := hlen
    subst hlen
    exact xm_o_iload (r0 := (pc, .iload k, w, a, b, d, v, u, js)) E hd hn hl hW hS hz kk
  case iload_n k =>
    obtain ⟨hlen, hn, hJ⟩ := xm_sp hk
    have hlen : len = 1 := hlen
    subst hlen
    exact xm_o_iload_n (r0 := (pc, .iload_n k, w, a, b, d, v, u, js)) E hd hn hl hW hS hz kk
  case istore k =>
    obtain ⟨hlen, hn, hJ⟩ := xm_sp hk
    have hlen : len = 2 := hlen
    subst hlen
    exact xm_o_istore E hd hn hl hW hS hz kk
  case istore_n k =>
    obtain ⟨hlen, hn, hJ⟩ := xm_sp hk
    have hlen : len = 1 := hlen
    subst hlen
    exact xm_o_istore_n E hd hn hl hW hS hz kk
  case lload k =>
    obtain ⟨hlen, hn, hJ⟩ := xm_sp hk
    have hlen : len = 2 := hlen
    subst hlen
    exact xm_o_lload (r0 := (pc, .lload k, w, a, b, d, v, u, js)) E hd hn hl hW hS hz kk
  case lload_n k =>
    obtain ⟨hlen, hn, hJ⟩ := xm_sp hk
    have hlen : len = 1 := hlen
    subst hlen
    exact xm_o_lload_n (r0 := (pc, .lload_n k, w, a, b, d, v, u, js)) E hd hn hl hW hS hz kk
  case lstore k =>
    obtain ⟨hlen, hn, hJ⟩ := xm_sp hk
    have hlen : len = 2 := hlen
    subst hlen
    exact xm_o_lstore E hd hn hl hW hS hz kk
  case lstore_n k =>
    obtain ⟨hlen, hn, hJ⟩ := xm_sp hk
    have hlen : len = 1 := hlen
    subst hlen
    exact xm_o_lstore_n E hd hn hl hW hS hz kk
  case aload k =>
    obtain ⟨hlen, hn, hJ⟩ := xm_sp hk
    have hlen : len = 2 := hlen
    subst hlen
    exact xm_o_aload (r0 := (pc, .aload k, w, a, b, d, v, u, js)) E hd hn hl hW hS hz kk
  case aload_n k =>
    obtain ⟨hlen, hn, hJ⟩ := xm_sp hk
    have hlen : len = 1 := hlen
    subst hlen
    exact xm_o_aload_n (r0 := (pc, .aload_n k, w, a, b, d, v, u, js)) E hd hn hl hW hS hz kk
  case astore k =>
    obtain ⟨hlen, hn, hJ⟩ := xm_sp hk
    have hlen : len = 2 := hlen
    subst hlen
    exact xm_o_astore E hd hn hl hW hS hz kk
  case astore_n k =>
    obtain ⟨hlen, hn, hJ⟩ := xm_sp hk
    have hlen : len = 1 := hlen
    subst hlen
    exact xm_o_astore_n E hd hn hl hW hS hz kk
  case iconst n =>
    obtain ⟨hlen, hn, hJ⟩ := xm_sp hk
    have hlen : len = 1 := hlen
    subst hlen
    cases hz
    exact xm_o_iconst E hd hn (of_decide_eq_true hJ) hl hW hS kk
  case bipush n =>
    obtain ⟨hlen, hn, hJ⟩ := xm_sp hk
    have hlen : len = 2 := hlen
    subst hlen
    cases hz
    exact xm_o_bipush E hd hn (of_decide_eq_true hJ) hl hW hS kk
  case sipush n =>
    obtain ⟨hlen, hn, hJ⟩ := xm_sp hk
    have hlen : len = 3 := hlen
    subst hlen
    cases hz
    exact xm_o_sipush E hd hn (of_decide_eq_true hJ) hl hW hS kk
  case lconst n =>
    obtain ⟨hlen, hn, hJ⟩ := xm_sp hk
    have hlen : len = 1 := hlen
    subst hlen
    cases hz
    exact xm_o_lconst E hd hn (of_decide_eq_true hJ) hl hW hS kk
  case ldc_w n =>
    obtain ⟨hlen, hn, hJ⟩ := xm_sp hk
    have hlen : len = 3 := hlen
    subst hlen
    cases hz
    exact xm_o_ldc_w E hd hn (of_decide_eq_true hJ) hl hW hS kk
  case ldc2_w n =>
    obtain ⟨hlen, hn, hJ⟩ := xm_sp hk
    have hlen : len = 3 := hlen
    subst hlen
    cases hz
    exact xm_o_ldc2 E hd hn (of_decide_eq_true hJ) hl hW hS kk
  case ldc n =>
    obtain ⟨hlen, hn, hJ⟩ := xm_sp hk
    have hlen : len = 2 := hlen
    subst hlen
    simp only [xm_okJ] at hJ
    simp only [xm_step] at hz
    by_cases hd1 : d = 1
    · simp only [hd1, if_true] at hz hJ
      cases hz
      split at hJ
      · rename_i q hq
        simp only [Bool.and_eq_true, decide_eq_true_eq] at hJ
        exact xm_o_ldcs E hd hn hq hJ.1.1 hJ.1.2 hJ.2 hl hW hS kk
      · cases hJ
    · simp only [hd1, if_false, decide_eq_true_eq] at hz hJ
      cases hz
      exact xm_o_ldc E hd hn hJ hl hW hS kk
  case iinc k n =>
    obtain ⟨hlen, hn, hJ⟩ := xm_sp hk
    have hlen : len = 3 := hlen
    subst hlen
    simp only [xm_step] at hz
    split at hz
    · rename_i x hx1
      cases hz
      exact xm_o_iinc E hd hn (of_decide_eq_true hJ) hl hW hS hx1 kk
    · cases hz
  case lcmp =>
    obtain ⟨hlen, hn, hJ⟩ := xm_sp hk
    have hlen : len = 1 := hlen
    subst hlen
    simp only [xm_step] at hz
    split at hz
    · cases hz
      exact xm_o_lcmp E hd hn hl hW hS kk
    · cases hz
  case i2l =>
    obtain ⟨hlen, hn, hJ⟩ := xm_sp hk
    have hlen : len = 1 := hlen
    subst hlen
    simp only [xm_step] at hz
    split at hz
    · cases hz
      exact xm_o_i2l E hd hn hl hW hS kk
    · cases hz
  case l2i =>
    obtain ⟨hlen, hn, hJ⟩ := xm_sp hk
    have hlen : len = 1 := hlen
    subst hlen
    simp only [xm_step] at hz
    split at hz
    · cases hz
      exact xm_o_l2i E hd hn hl hW hS kk
    · cases hz
  case dup =>
    obtain ⟨hlen, hn, hJ⟩ := xm_sp hk
    have hlen : len = 1 := hlen
    subst hlen
    simp only [xm_step] at hz
    split at hz
    · cases hz
      exact xm_o_dupi E hd hn hl hW hS kk
    · cases hz
      exact xm_o_dupa E hd hn hl hW hS kk
    · cases hz
  case dup2 =>
    obtain ⟨hlen, hn, hJ⟩ := xm_sp hk
    have hlen : len = 1 := hlen
    subst hlen
    simp only [xm_step] at hz
    split at hz
    · cases hz
      exact xm_o_dup2 E hd hn hl hW hS kk
    · cases hz
  case pop =>
    obtain ⟨hlen, hn, hJ⟩ := xm_sp hk
    have hlen : len = 1 := hlen
    subst hlen
    simp only [xm_step] at hz
    split at hz
    · cases hz
      exact xm_o_pop E hd hn hl hW hS kk
    · cases hz
  case goto off =>
    simp only [xm_okK, Bool.and_eq_true, decide_eq_true_eq] at hk
    obtain ⟨rfl, hj⟩ := hk
    cases hz
    exact xm_o_goto E hd (of_decide_eq_true hj) hl hW hS kk
  case ifCond cnd off =>
    obtain ⟨hlen, hn, hJ⟩ := xm_sp hk
    have hlen : len = 3 := hlen
    subst hlen
    have hJ2 := of_decide_eq_true hJ
    simp only [xm_step] at hz
    split at hz
    · cases hz
      cases cnd
      case eq => exact xm_o_if_eq E hd hn hJ2 hl hW hS kk
      case ne => exact xm_o_if_ne E hd hn hJ2 hl hW hS kk
      case lt => exact xm_o_if_lt E hd hn hJ2 hl hW hS kk
      case ge => exact xm_o_if_ge E hd hn hJ2 hl hW hS kk
      case gt => exact xm_o_if_gt E hd hn hJ2 hl hW hS kk
      case le => exact xm_o_if_le E hd hn hJ2 hl hW hS kk
    · cases hz
  case if_icmp cnd off =>
    obtain ⟨hlen, hn, hJ⟩ := xm_sp hk
    have hlen : len = 3 := hlen
    subst hlen
    have hJ2 := of_decide_eq_true hJ
    simp only [xm_step] at hz
    split at hz
    · cases hz
      cases cnd
      case eq => exact xm_o_icmp_eq E hd hn hJ2 hl hW hS kk
      case ne => exact xm_o_icmp_ne E hd hn hJ2 hl hW hS kk
      case lt => exact xm_o_icmp_lt E hd hn hJ2 hl hW hS kk
      case ge => exact xm_o_icmp_ge E hd hn hJ2 hl hW hS kk
      case gt => exact xm_o_icmp_gt E hd hn hJ2 hl hW hS kk
      case le => exact xm_o_icmp_le E hd hn hJ2 hl hW hS kk
    · cases hz
  case tableswitch df lo hi offs =>
    simp only [xm_okK, Bool.and_eq_true, decide_eq_true_eq] at hk
    obtain ⟨⟨h1, h2⟩, h3⟩ := hk
    simp only [xm_step] at hz
    split at hz
    · exact xm_o_table E hd h1 h2 h3 hl hW hS hz kk
    · cases hz
  case lookupswitch df ps =>
    simp only [xm_okK, Bool.and_eq_true] at hk
    obtain ⟨⟨⟨h0, h1⟩, h2⟩, h3⟩ := hk
    simp only [xm_step] at hz
    split at hz
    · cases hz
      exact xm_o_lookup E hd h0 h1 (of_decide_eq_true h2) h3 hl hW hS kk
    · cases hz
  case getstatic n =>
    obtain ⟨hlen, hn, hJ⟩ := xm_sp hk
    have hlen : len = 3 := hlen
    subst hlen
    simp only [xm_step] at hz
    split at hz
    · rename_i v0 hv0
      cases hz
      exact xm_o_getstatic E hd hn (of_decide_eq_true hJ) hv0 hl hW hS kk
    · cases hz
  case getfield n =>
    obtain ⟨hlen, hn, hJ⟩ := xm_sp hk
    have hlen : len = 3 := hlen
    subst hlen
    simp only [xm_okJ] at hJ
    simp only [xm_step, xm_getf] at hz
    split at hz
    · rename_i p0 r0
      by_cases hd9 : d = 9
      · simp only [hd9, if_true, decide_eq_true_eq] at hz hJ
        split at hz
        · rename_i v0 hv0
          cases hz
          exact xm_o_getfs E hd hn hJ hv0 hl hW hS kk
        · cases hz
      · simp only [hd9, if_false] at hz hJ
        split at hz
        · rename_i c0 hp0
          split at hz
          · rename_i hca
            subst hca
            cases hz
            split at hJ
            · rename_i q hq
              obtain ⟨C, TT, N0⟩ := q
              simp only [Bool.and_eq_true, decide_eq_true_eq] at hJ
              exact xm_o_getf E hd hn hq hJ.1.1 hJ.1.2 hJ.2 hp0 hl hW hS kk
            · cases hJ
          · cases hz
        · cases hz
    · cases hz
  case putfield n =>
    obtain ⟨hlen, hn, hJ⟩ := xm_sp hk
    have hlen : len = 3 := hlen
    subst hlen
    simp only [xm_okJ] at hJ
    split at hJ
    · rename_i q hq
      obtain ⟨C, TT, N0⟩ := q
      simp only [Bool.and_eq_true, decide_eq_true_eq] at hJ
      obtain ⟨⟨⟨j1, j2⟩, j3⟩, j4⟩ := hJ
      simp only [xm_step, xm_putf] at hz
      split at hz
      · rename_i x0 p0 r0
        split at hz
        · rename_i c0 hp0
          split at hz
          · rename_i hca
            subst hca
            split at hz
            · rename_i hd0
              subst hd0
              cases hz
              exact xm_o_puti E hd hn hq j1 j2 j3 j4 hp0 hl hW hS kk
            · split at hz
              · rename_i hd3
                subst hd3
                split at hz
                · rename_i h0
                  subst h0
                  cases hz
                  exact xm_o_putz E hd hn hq j1 j2 j3 j4 hp0 (Or.inl rfl) hl hW hS kk
                · split at hz
                  · rename_i h1
                    subst h1
                    cases hz
                    exact xm_o_putz E hd hn hq j1 j2 j3 j4 hp0 (Or.inr rfl) hl hW hS kk
                  · cases hz
              · cases hz
          · cases hz
        · cases hz
      · rename_i x0 p0 r0
        split at hz
        · rename_i c0 hp0
          split at hz
          · rename_i hca
            obtain ⟨rfl, rfl⟩ := hca
            cases hz
            exact xm_o_putl E hd hn hq j1 j2 j3 j4 hp0 hl hW hS kk
          · cases hz
        · cases hz
      · rename_i x0 p0 r0
        split at hz
        · rename_i c0 hp0
          split at hz
          · rename_i hca
            obtain ⟨rfl, rfl⟩ := hca
            cases hz
            exact xm_o_puta E hd hn hq j1 j2 j3 j4 hp0 hl hW hS kk
          · cases hz
        · cases hz
      · cases hz
    · cases hJ
  case iaload =>
    obtain ⟨hlen, hn, hJ⟩ := xm_sp hk
    have hlen : len = 1 := hlen
    subst hlen
    simp only [xm_step, xm_ald] at hz
    split at hz
    · rename_i j0 p0 r0
      split at hz
      · rename_i t n0 hp0
        split at hz
        · rename_i ht
          split at hz
          · cases hz
          · rename_i hj
            cases hz
            have ht0 : t = 0 := by omega
            subst ht0
            exact xm_o_iald E hd hn hp0 hj hl hW hS kk
        · cases hz
      · cases hz
      · split at hz
        · rename_i t n0 f0 hp0
          split at hz
          · rename_i ht
            split at hz
            · cases hz
            · rename_i hj
              cases hz
              have ht0 : t = 0 := by omega
              subst ht0
              exact xm_o_ialx E hd hn hp0 hj hl hW hS kk
          · cases hz
        · cases hz
    · cases hz
  case baload =>
    obtain ⟨hlen, hn, hJ⟩ := xm_sp hk
    have hlen : len = 1 := hlen
    subst hlen
    simp only [xm_step, xm_ald] at hz
    split at hz
    · rename_i j0 p0 r0
      split at hz
      · rename_i t n0 hp0
        split at hz
        · rename_i ht
          split at hz
          · cases hz
          · rename_i hj
            cases hz
            have ht0 : t = 1 ∨ t = 2 := by omega
            rcases ht0 with rfl | rfl
            · exact xm_o_bald E hd hn hp0 hj hl hW hS kk
            · exact xm_o_zald E hd hn hp0 hj hl hW hS kk
        · cases hz
      · cases hz
      · split at hz
        · rename_i t n0 f0 hp0
          split at hz
          · rename_i ht
            split at hz
            · cases hz
            · rename_i hj
              cases hz
              have ht0 : t = 1 ∨ t = 2 := by omega
              rcases ht0 with rfl | rfl
              · exact xm_o_balx E hd hn hp0 hj hl hW hS kk
              · exact xm_o_zalx E hd hn hp0 hj hl hW hS kk
          · cases hz
        · cases hz
    · cases hz
  case laload =>
    obtain ⟨hlen, hn, hJ⟩ := xm_sp hk
    have hlen : len = 1 := hlen
    subst hlen
    simp only [xm_step, xm_lald] at hz
    split at hz
    · rename_i j0 p0 r0
      split at hz
      · rename_i t n0 hp0
        split at hz
        · rename_i ht
          subst ht
          split at hz
          · cases hz
          · rename_i hj
            cases hz
            exact xm_o_lald E hd hn hp0 hj hl hW hS kk
        · cases hz
      · cases hz
    · cases hz
  case aaload =>
    obtain ⟨hlen, hn, hJ⟩ := xm_sp hk
    have hlen : len = 1 := hlen
    subst hlen
    simp only [xm_step, xm_aald] at hz
    split at hz
    · rename_i j0 p0 r0
      split at hz
      · rename_i t n0 hp0
        split at hz
        · rename_i ht
          split at hz
          · cases hz
          · rename_i hj
            cases hz
            exact xm_o_aald E hd hn ht hp0 hj hl hW hS kk
        · cases hz
      · cases hz
    · cases hz
  case iastore =>
    obtain ⟨hlen, hn, hJ⟩ := xm_sp hk
    have hlen : len = 1 := hlen
    subst hlen
    simp only [xm_step, xm_ast] at hz
    split at hz
    · rename_i x0 j0 p0 r0
      split at hz
      · rename_i t n0 hp0
        split at hz
        · rename_i ht
          split at hz
          · cases hz
          · rename_i hj
            have ht0 : t = 0 := by omega
            subst ht0
            cases hz
            exact xm_o_iast E hd hn hp0 hj hl hW hS kk
        · cases hz
      · cases hz
    · cases hz
  case bastore =>
    obtain ⟨hlen, hn, hJ⟩ := xm_sp hk
    have hlen : len = 1 := hlen
    subst hlen
    simp only [xm_step, xm_ast] at hz
    split at hz
    · rename_i x0 j0 p0 r0
      split at hz
      · rename_i t n0 hp0
        split at hz
        · rename_i ht
          split at hz
          · cases hz
          · rename_i hj
            have ht0 : t = 1 ∨ t = 2 := by omega
            rcases ht0 with rfl | rfl
            · cases hz
              exact xm_o_bast E hd hn hp0 hj hl hW hS kk
            · cases hz
              exact xm_o_zast E hd hn hp0 hj hl hW hS kk
        · cases hz
      · cases hz
    · cases hz
  case lastore =>
    obtain ⟨hlen, hn, hJ⟩ := xm_sp hk
    have hlen : len = 1 := hlen
    subst hlen
    simp only [xm_step, xm_last] at hz
    split at hz
    · rename_i x0 j0 p0 r0
      split at hz
      · rename_i t n0 hp0
        split at hz
        · rename_i ht
          subst ht
          split at hz
          · cases hz
          · rename_i hj
            cases hz
            exact xm_o_last E hd hn hp0 hj hl hW hS kk
        · cases hz
      · cases hz
    · cases hz
  case arraylength =>
    obtain ⟨hlen, hn, hJ⟩ := xm_sp hk
    have hlen : len = 1 := hlen
    subst hlen
    simp only [xm_step, xm_alen] at hz
    split at hz
    · rename_i p0 r0
      split at hz
      · rename_i t n0 hp0
        split at hz
        · rename_i ht
          cases hz
          exact xm_o_alen E hd hn ht hp0 hl hW hS kk
        · cases hz
      · cases hz
      · split at hz
        · rename_i t n0 f0 hp0
          cases hz
          exact xm_o_alenx E hd hn hp0 hl hW hS kk
        · cases hz
    · cases hz
  case invokestatic n =>
    obtain ⟨hlen, hn, hJ⟩ := xm_sp hk
    have hlen : len = 3 := hlen
    subst hlen
    have hd0 : d ≠ 0 := hnc n rfl
    simp only [xm_step] at hz
    split at hz
    rotate_left
    · rename_i hd1
      simp only [xm_okJ] at hJ
      rw [if_neg hd0, if_neg hd1] at hJ
      simp only [xm_mth] at hz
      split at hz
      · split at hz
        · cases hz
        · rename_i h8
          split at hz
          · rename_i hd2
            rw [if_pos hd2] at hJ
            cases hz
            exact xm_o_max E hd hn (of_decide_eq_true hJ) hF hL hcs h8 hl hW hS kk
          · rename_i hd2
            rw [if_neg hd2] at hJ
            split at hz
            · rename_i hd3
              rw [if_pos hd3] at hJ
              cases hz
              exact xm_o_min E hd hn (of_decide_eq_true hJ) hF hL hcs h8 hl hW hS kk
            · cases hz
      · split at hz
        · rename_i hd4
          rw [if_neg (by omega), if_neg (by omega), if_pos hd4] at hJ
          cases hz
          exact xm_o_abs E hd hn (of_decide_eq_true hJ) hF hL hcs (by decide) hl hW hS kk
        · cases hz
      · split at hz
        · cases hz
        · rename_i h8
          split at hz
          · rename_i hd5
            rw [if_neg (by omega), if_neg (by omega), if_neg (by omega), if_pos hd5] at hJ
            cases hz
            exact xm_o_minl E hd hn (of_decide_eq_true hJ) hF hL hcs h8 hl hW hS kk
          · cases hz
      · cases hz
    rename_i hd1
    simp only [xm_okJ] at hJ
    rw [if_neg hd0, if_pos hd1] at hJ
    have hJ := of_decide_eq_true hJ
    simp only [xm_cpy] at hz
    split at hz
    · rename_i n9 dp q0 sp p0 r0
      split at hz
      · rename_i t0 n0 t1 n1 hp0 hq0
        split at hz
        · cases hz
        · rename_i hj
          split at hz
          · rename_i ht
            obtain ⟨rfl, rfl⟩ := ht
            cases hz
            exact xm_o_cpyi E hd hn hJ hF hL hp0 hq0 hj hl hW hS kk
          · split at hz
            · rename_i ht
              obtain ⟨rfl, rfl⟩ := ht
              cases hz
              exact xm_o_cpyl E hd hn hJ hF hL hp0 hq0 hj hl hW hS kk
            · cases hz
      · cases hz
    · cases hz
  all_goals cases hz
end XMS4
