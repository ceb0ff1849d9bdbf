/-! The start: classes known, what stands outside, what is made. -/
set_option maxRecDepth 100000 in
theorem yi_0 : Cond.instantiable "SheetByTwo$Linen" 19 ∈ lw_tbl := List.mem_of_getElem? (i := 177) rfl
set_option maxRecDepth 100000 in
theorem yi_1 : Cond.instantiable "SheetByTwo$Press" 2 ∈ lw_tbl := List.mem_of_getElem? (i := 444) rfl
set_option maxRecDepth 100000 in
theorem yi_2 : Cond.instantiable "SheetByTwo$Row" 4 ∈ lw_tbl := List.mem_of_getElem? (i := 457) rfl
set_option maxRecDepth 100000 in
theorem yi_3 : Cond.instantiable "SheetByTwo$Search" 16 ∈ lw_tbl := List.mem_of_getElem? (i := 335) rfl
set_option maxRecDepth 100000 in
theorem yi_4 : Cond.instantiable "SheetByTwo$Shares" 6 ∈ lw_tbl := List.mem_of_getElem? (i := 419) rfl
set_option maxRecDepth 100000 in
theorem yi_5 : Cond.instantiable "SheetByTwo$Tape" 7 ∈ lw_tbl := List.mem_of_getElem? (i := 139) rfl
set_option maxRecDepth 100000 in
theorem yi_6 : Cond.instantiable "SheetByTwo$Trial" 5 ∈ lw_tbl := List.mem_of_getElem? (i := 393) rfl
set_option maxRecDepth 100000 in
theorem yi_7 : Cond.instantiable "SheetByTwo$Wish" 4 ∈ lw_tbl := List.mem_of_getElem? (i := 183) rfl
set_option maxRecDepth 100000 in
theorem yi_8 : Cond.instantiable "SheetByTwo$Work" 6 ∈ lw_tbl := List.mem_of_getElem? (i := 171) rfl
set_option maxRecDepth 100000 in
theorem yi_9 : Cond.instantiable "SheetByTwo" 9 ∈ lw_tbl := List.mem_of_getElem? (i := 131) rfl
set_option maxRecDepth 100000 in
theorem yi_10 : Cond.instantiable "SheetByTwoModel" 39 ∈ lw_tbl := List.mem_of_getElem? (i := 1374) rfl
theorem y_inst : ∀ c ∈ vwCl, Cond.instantiable c.1 c.2.2 ∈ lw_tbl := List.forall_mem_cons.mpr ⟨yi_0, List.forall_mem_cons.mpr ⟨yi_1, List.forall_mem_cons.mpr ⟨yi_2, List.forall_mem_cons.mpr ⟨yi_3, List.forall_mem_cons.mpr ⟨yi_4, List.forall_mem_cons.mpr ⟨yi_5, List.forall_mem_cons.mpr ⟨yi_6, List.forall_mem_cons.mpr ⟨yi_7, List.forall_mem_cons.mpr ⟨yi_8, List.forall_mem_cons.mpr ⟨yi_9, List.forall_mem_cons.mpr ⟨yi_10, fun _ h => by cases h⟩⟩⟩⟩⟩⟩⟩⟩⟩⟩⟩
theorem y_K {s : State} {args : Array Value} (hts : ∀ w ∈ lw_tbl, w.before args s = true) : ∃ (D : va_G) (cA : Nat → ClassId), va_K D vwCl (xm_tys cA) s := by
  have hT : ∀ w ∈ xm_T, w.before args s = true := fun w hw => hts w (List.mem_filter.mp hw).1
  have h0 : ∀ k : Nat, ∃ q : ClassId × (Nat → Nat), ∀ c : vw_C, vwCl[k]? = some c → u_Kn s c.1 c.2.1 c.2.2 q.1 q.2 := by
    intro k
    cases hk : vwCl[k]? with
    | none => exact ⟨(0, fun _ => 0), fun c h => by cases h⟩
    | some c =>
      obtain ⟨C, TT, N⟩ := c
      have hi : (Cond.instantiable C N).before args s = true := by
        have := (show ∀ c ∈ vwCl, Cond.instantiable c.1 c.2.2 ∈ lw_tbl from y_inst) (C, TT, N) (List.mem_of_getElem? hk)
        exact hts _ this
      obtain ⟨cC, iS, h⟩ := u_known hT (xm_CK_ok k C TT N hk).1 hi
      exact ⟨(cC, iS), fun c hc => by cases hc; exact h⟩
  obtain ⟨f, hf⟩ := Classical.axiomOfChoice h0
  have pr : ∀ ty : FieldType, Cond.arrayClass ty ∈ xm_T → ∃ c : ClassId, ArrOfT s c ty ∧ s.vm.findClass ("[" ++ ty.toString) = some c := fun ty h => by
    obtain ⟨c, k, comp, h1, h2, h3⟩ := Cond.arrayClass_spec (hT _ h)
    exact ⟨c, fun n z => ⟨fun k h => (by cases h), k, h2, comp, h3⟩, h1⟩
  have ob : ∀ C : String, Cond.arrayOver (.object C) ∈ lw_tbl → ∃ c : ClassId, ArrOfT s c (.object C) ∧ va_RA s c (.object C) := fun C h => by
    obtain ⟨comp, c, k, h1, h2, h3, h4, h5⟩ := Cond.arrayOver_spec (hts _ h)
    exact ⟨c, fun n z => ⟨fun k h => (by cases h), k, h3, comp, h4⟩, k, comp, h3, h4, h1, h5⟩
  obtain ⟨c0, a0, b0⟩ := pr .int ya_int
  obtain ⟨c1, a1, b1⟩ := pr .byte ya_byte
  obtain ⟨c2, a2, b2⟩ := pr .boolean ya_boolean
  obtain ⟨c3, a3, b3⟩ := pr .long ya_long
  obtain ⟨c4, a4, b4⟩ := ob _ ya_Work
  obtain ⟨c5, a5, b5⟩ := ob _ ya_Row
  refine ⟨(fun k => (f k).1, fun k => (f k).2), fun t => if t = 0 then c0 else if t = 1 then c1 else if t = 2 then c2 else if t = 3 then c3 else if t = 4 then c4 else c5, fun k c hc => hf k c hc, fun k q hq => ?_⟩
  unfold xm_tys at hq
  rw [List.getElem?_map] at hq
  match k, hq with
  | 0, hq => cases hq; exact ⟨a0, b0⟩
  | 1, hq => cases hq; exact ⟨a1, b1⟩
  | 2, hq => cases hq; exact ⟨a2, b2⟩
  | 3, hq => cases hq; exact ⟨a3, b3⟩
  | 4, hq => cases hq; exact ⟨a4, b4⟩
  | 5, hq => cases hq; exact ⟨a5, b5⟩
  | k + 6, hq => simp at hq
theorem y_TX1 : ∀ i, i < 48 → (xm_TX.getD i ("", 0, "", 0)).2.2.2 = 1000 + 2 * i := by decide +kernel
theorem y_TX2 : xm_TX.length = 48 := by decide +kernel
theorem y_ext {s : State} {b L : Nat} {xs : Nat → Int32} (hts : ∀ w ∈ lw_tbl, w.before #[Value.ref b] s = true) (hX : va_X b L xs s s.heap) (hbl : b < s.heap.size) (hL : L ≤ 3072) (hg : (Jvm.Cond.and given_1 narrow_1).before #[Value.ref b] s = true) (hz4 : (xs 5000 = 0 ∧ (Term.static "jdk/internal/util/Preconditions" "SIOOBE_FORMATTER" "Ljava/util/function/BiFunction;").eval #[Value.ref b] s none [] s = some .null) ∨ (¬ xs 5000 = 0 ∧ ∃ q : Nat, (Term.static "jdk/internal/util/Preconditions" "SIOOBE_FORMATTER" "Ljava/util/function/BiFunction;").eval #[Value.ref b] s none [] s = some (.ref q))) : ∃ adO : Nat → Nat, adO 950 = b ∧ ∀ ad : Nat → Nat, (∀ p, 900 ≤ p → ad p = adO p) → xm_Ext (xm_X0 L xs) xm_TX ad (fun q => s.heap.size ≤ q) s s.heap := by
  have hA : ∀ a : Nat, a < s.heap.size → ¬ (fun q : Nat => s.heap.size ≤ q) a := fun a h q => absurd h (Nat.not_lt.mpr q)
  have at0 : ∀ (k : Nat) (c : Cond), yF[k]? = some c → c.before #[Value.ref b] s = true := fun k c h => flat_of_before _ hg c (List.mem_of_getElem? h)
  have h0 : ∀ i : Nat, ∃ q : Nat × Nat, i < 48 → (yt i).eval #[Value.ref b] s none [] s = some (.ref q.1) ∧ va_O "java/lang/String" q.1 (fun q => s.heap.size ≤ q) s s.heap ∧ va_OF "java/lang/String" "coder" "B" (.int 0) q.1 (fun q => s.heap.size ≤ q) s s.heap ∧ va_OF "java/lang/String" "value" "[B" (.ref q.2) q.1 (fun q => s.heap.size ≤ q) s s.heap ∧ va_T .byte q.2 (yl i) (fun j => .int ((xm_t_tx.getD i []).getD j 0)) (fun q => s.heap.size ≤ q) s s.heap := by
    intro i
    by_cases hi : i < 48
    · obtain ⟨e1, e2, e3, e4, e5, e6⟩ := y_str i hi
      obtain ⟨a, c, cA, kA, q1, q2, q3, q4, q5, q6, -⟩ := Cond.exactly_spec (args := #[Value.ref b]) (first := s) (o := none) (s := s) (idx := []) (t := yt i) (cls := "java/lang/String") (at0 _ _ e1)
      obtain ⟨t, ht, hT⟩ := va_Tof (f := fun j => .int ((xm_t_tx.getD i []).getD j 0)) (A := fun q => s.heap.size ≤ q) (by omega) (at0 _ _ e3) (va_eqt (at0 _ _ e4)) (fun j hj => va_eqt (at0 _ _ (e6 j hj))) hA
      exact ⟨(a, t), fun _ => ⟨q1, ⟨cA, q3, q5, by rw [q6]; exact q2, hA a (Array.getElem?_eq_some_iff.mp q3).1⟩, vk_OFof q1 (va_eqt (at0 _ _ e2)) hA, vk_OFof q1 ht hA, hT⟩⟩
    · exact ⟨(0, 0), fun h => absurd h hi⟩
  obtain ⟨adS, hS⟩ := Classical.axiomOfChoice h0
  obtain ⟨⟨m1, m2, m3⟩, ⟨m4, m5, m6⟩, ⟨m7, m8, m9⟩, m10, m11⟩ := y_tab
  obtain ⟨t3, e3, T3⟩ := va_Tof (f := fun j => .int (xm_t_hem.getD j 0)) (A := fun q => s.heap.size ≤ q) (by decide) (at0 _ _ m1) (va_eqt (at0 _ _ m2)) (fun j hj => va_eqt (at0 _ _ (m3 j hj))) hA
  obtain ⟨t2, e2, T2⟩ := va_Tof (f := fun j => .int (xm_t_mov.getD j 0)) (A := fun q => s.heap.size ≤ q) (by decide) (at0 _ _ m4) (va_eqt (at0 _ _ m5)) (fun j hj => va_eqt (at0 _ _ (m6 j hj))) hA
  obtain ⟨t1, e1, T1⟩ := va_Tof (f := fun j => .int (xm_t_act.getD j 0)) (A := fun q => s.heap.size ≤ q) (by decide) (at0 _ _ m7) (va_eqt (at0 _ _ m8)) (fun j hj => va_eqt (at0 _ _ (m9 j hj))) hA
  obtain ⟨t4, e4⟩ : ∃ q : Nat, (xs 5000 = 0 ∧ (Term.static "jdk/internal/util/Preconditions" "SIOOBE_FORMATTER" "Ljava/util/function/BiFunction;").eval #[Value.ref b] s none [] s = some .null) ∨ (¬ xs 5000 = 0 ∧ (Term.static "jdk/internal/util/Preconditions" "SIOOBE_FORMATTER" "Ljava/util/function/BiFunction;").eval #[Value.ref b] s none [] s = some (.ref q)) := by
    rcases hz4 with h | ⟨h1, q, h2⟩
    · exact ⟨0, Or.inl h⟩
    · exact ⟨q, Or.inr ⟨h1, h2⟩⟩
  refine ⟨fun p => if p = 900 then t1 else if p = 901 then t2 else if p = 902 then t3 else if p = 903 then t4 else if p = 950 then b else if p % 2 = 0 then (adS ((p - 1000) / 2)).1 else (adS ((p - 1001) / 2)).2, rfl, fun ad had => ⟨fun p t n f e => ?_, fun p k v e => ?_, fun k v e => ?_, fun q hq => ?_⟩⟩
  · unfold xm_X0 at e
    simp only at e
    split at e
    · rename_i hp
      subst hp
      cases e
      rw [had 900 (by omega)]
      exact ⟨by omega, T1⟩
    · split at e
      · rename_i hp
        subst hp
        cases e
        rw [had 901 (by omega)]
        exact ⟨by omega, T2⟩
      · split at e
        · rename_i hp
          subst hp
          cases e
          rw [had 902 (by omega)]
          exact ⟨by omega, T3⟩
        · split at e
          · rename_i hp
            subst hp
            cases e
            rw [had 950 (by omega)]
            obtain ⟨scr, h1, h2, h3, h4, h5⟩ := hX
            refine ⟨by omega, scr, h1, h2, h3, by rw [h4]; exact Nat.le_refl _, by rw [h4], h5, hA b hbl⟩
          · split at e
            · rename_i n1 n2 n3 n4 hp
              cases e
              obtain ⟨q1, q2, q3, q4, q5⟩ := hS ((p - 1001) / 2) (by omega)
              have ea : ad p = (adS ((p - 1001) / 2)).2 := by
                rw [had p (by omega)]
                simp only
                rw [if_neg (by omega), if_neg (by omega), if_neg (by omega), if_neg (by omega), if_neg (by omega), if_neg (by omega)]
              rw [ea]
              exact ⟨by omega, q5⟩
            · cases e
  · unfold xm_X0 at e
    simp only at e
    split at e
    · rename_i hp
      obtain ⟨q1, q2, q3, q4, q5⟩ := hS ((p - 1000) / 2) (by omega)
      have ea : ad p = (adS ((p - 1000) / 2)).1 := by
        rw [had p (by omega)]
        simp only
        rw [if_neg (by omega), if_neg (by omega), if_neg (by omega), if_neg (by omega), if_neg (by omega), if_pos (by omega)]
      have eb : ad (p + 1) = (adS ((p - 1000) / 2)).2 := by
        rw [had (p + 1) (by omega)]
        simp only
        rw [if_neg (by omega), if_neg (by omega), if_neg (by omega), if_neg (by omega), if_neg (by omega), if_neg (by omega), show (p + 1 - 1001) / 2 = (p - 1000) / 2 by omega]
      rw [ea]
      refine ⟨q2, ?_⟩
      split at e
      · rename_i hk
        cases e
        subst hk
        exact q3
      · rename_i hk
        cases e
        unfold xm_sn xm_sd
        rw [if_neg hk, if_neg hk]
        show va_OF _ _ _ (.ref (ad (p + 1))) _ _ _ _
        rw [eb]
        exact q4
    · cases e
  · unfold xm_X0 at e
    simp only at e
    split at e
    · rename_i hk
      subst hk
      cases e
      exact va_Zof (hts _ yz_0.1) (hts _ yz_0.2) (va_eqt (at0 _ _ m10)) hA
    · split at e
      · rename_i hk
        subst hk
        cases e
        show va_Z _ _ _ (.ref (ad 900)) _ _ _
        rw [had 900 (by omega)]
        exact va_Zof (hts _ yz_1.1) (hts _ yz_1.2) e1 hA
      · split at e
        · rename_i hk
          subst hk
          cases e
          show va_Z _ _ _ (.ref (ad 901)) _ _ _
          rw [had 901 (by omega)]
          exact va_Zof (hts _ yz_2.1) (hts _ yz_2.2) e2 hA
        · split at e
          · rename_i hk
            subst hk
            cases e
            show va_Z _ _ _ (.ref (ad 902)) _ _ _
            rw [had 902 (by omega)]
            exact va_Zof (hts _ yz_3.1) (hts _ yz_3.2) e3 hA
          · split at e
            · rename_i hk
              subst hk
              rcases e4 with ⟨z, e4⟩ | ⟨z, e4⟩
              · rw [if_pos z] at e
                cases e
                exact va_Zof (hts _ yz_4.1) (hts _ yz_4.2) e4 hA
              · rw [if_neg z] at e
                cases e
                show va_Z _ _ _ (.ref (ad 903)) _ _ _
                rw [had 903 (by omega)]
                exact va_Zof (hts _ yz_4.1) (hts _ yz_4.2) e4 hA
            · cases e
  · obtain ⟨i, hi⟩ := List.getElem?_of_mem hq
    have hl : i < 48 := by
      have := (List.getElem?_eq_some_iff.mp hi).1
      rw [y_TX2] at this
      exact this
    have eq : xm_TX.getD i ("", 0, "", 0) = q := by rw [List.getD_eq_getElem?_getD, hi]; rfl
    have e5 := y_TX1 i hl
    rw [eq] at e5
    obtain ⟨q1, -⟩ := hS i hl
    have ey : yt i = .string q.1 q.2.1 := by unfold yt; rw [eq]
    rw [ey] at q1
    have ea : ad q.2.2.2 = (adS i).1 := by
      rw [e5, had _ (by omega)]
      simp only
      rw [if_neg (by omega), if_neg (by omega), if_neg (by omega), if_neg (by omega), if_neg (by omega), if_pos (by omega), show (1000 + 2 * i - 1000) / 2 = i by omega]
    rw [ea]
    exact vk_R.of (hts _ (ym_TX_in q hq)) q1
theorem y_z4 {s : State} {b : Nat} (hg : (Jvm.Cond.and given_1 narrow_1).before #[Value.ref b] s = true) : (Term.static "jdk/internal/util/Preconditions" "SIOOBE_FORMATTER" "Ljava/util/function/BiFunction;").eval #[Value.ref b] s none [] s = some .null ∨ ∃ q : Nat, (Term.static "jdk/internal/util/Preconditions" "SIOOBE_FORMATTER" "Ljava/util/function/BiFunction;").eval #[Value.ref b] s none [] s = some (.ref q) := by
  have h : (Cond.isRef (.static "jdk/internal/util/Preconditions" "SIOOBE_FORMATTER" "Ljava/util/function/BiFunction;")).before #[Value.ref b] s = true := flat_of_before _ hg _ (List.mem_of_getElem? (i := 5) y_tab.2.2.2.2)
  cases hv : (Term.static "jdk/internal/util/Preconditions" "SIOOBE_FORMATTER" "Ljava/util/function/BiFunction;").eval #[Value.ref b] s none [] s with
  | none => simp [Cond.before, Cond.holds, Cond.value, hv] at h
  | some w =>
    simp only [Cond.before, Cond.holds, Cond.value, hv] at h
    cases w with
    | ref q => exact Or.inr ⟨q, rfl⟩
    | null => exact Or.inl rfl
    | _ => simp at h
