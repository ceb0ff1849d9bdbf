/-! What is made at last: the world of the law's loop. -/
def sgL : List Nat := [0, 1, 2, 3, 12, 4, 5, 6, 7, 8, 9, 10, 11, 13, 14, 15, 16, 17, 18, 19, 20, 21, 44, 53, 45, 46, 47, 48, 49, 50, 51, 52, 54, 63, 55, 56, 57, 58, 59, 60, 61, 62, 64, 73, 65, 66, 67, 68, 69, 70, 71, 72, 22, 74, 75, 76, 77, 78, 79, 80, 81, 23, 24, 25, 26, 27, 28, 29, 30, 31, 32, 33, 34, 35, 36, 37, 38, 39, 40, 41, 42, 43, 82, 83, 84, 85, 86, 87, 88, 89, 90, 91, 92, 93, 94, 95, 96, 97, 98, 99, 100, 101, 102]
def sgm (p : Nat) : Nat := sgL.getD p 0
theorem sg_lt : ∀ p, p < 103 → sgm p < 103 := by decide +kernel
theorem sg_inj : ∀ p, p < 103 → ∀ q, q < 103 → sgm p = sgm q → p = q := by decide +kernel
theorem xS_len : xm_S.length = 103 := by decide +kernel
/-- the heap of the law's loop at its begin -/
def hI (p k : Nat) : Int32 := if p = 1 ∧ k = 3 then -1 else if p = 82 ∧ k = 13 then -1 else if p = 99 ∧ k < 4 then -1 else 0
def h00 : xm_H := (hI, fun _ _ => 0, xm_R0 5)
def yfv (p ci k : Nat) (v : Value) : Bool := match v with
  | .int x => decide (xm_ft vwCl ci k ≠ 1) && decide (xm_ft vwCl ci k ≠ 2) && decide (x = hI p k)
  | .long x => decide (xm_ft vwCl ci k = 1) && decide (x = 0)
  | .ref q => decide (xm_ft vwCl ci k = 2) && (match xm_R0 5 p k with
    | some q' => decide (sgm q' = q) && decide (q' < 103)
    | none => false)
  | .null => decide (xm_ft vwCl ci k = 2) && decide (xm_R0 5 p k = none)
  | _ => false
def yce (p : Nat) (e : ym_E) (k : xm_K) : Bool := match e, k with
  | .inl q, .inl k => decide (q.1 = k.1) && decide (q.2.1 = k.2) && (if p = 99 then decide (q.1 = 0) && decide (q.2.2 = [(3, .int (-1)), (2, .int (-1)), (1, .int (-1)), (0, .int (-1))]) else if p = 21 then decide (q.1 = 4) && decide (q.2.2 = [(2, .ref 64), (1, .ref 54), (0, .ref 44)]) else if p = 52 then decide (q.1 = 5) && decide (q.2.2 = [(3, .ref 80), (2, .ref 78), (1, .ref 76), (0, .ref 74)]) else decide (q.1 < 4) && decide (q.2.2 = []) && decide (p ≠ 1) && decide (p ≠ 82))
  | .inr o, .inr ci => decide (o.1 = ci) && decide (o.2.length = xm_nf vwCl ci) && (List.range o.2.length).all (fun j => match o.2[j]? with
    | some v => yfv p ci j v
    | none => false)
  | _, _ => false
def ych (cs : List ym_E) : Bool := (List.range 103).all (fun p => match cs[sgm p]?, xm_S[p]? with
  | some e, some k => yce p e k
  | _, _ => false)
def y1 : List ym_E := [.inr (9, ym_f0 vwCl 9)]
def yA : Option (List ym_E × Nat × Nat) := ym_run vwCl ym_P 5 400 9 0 y1
def yB (cs : List ym_E) : Option (List ym_E × Nat × Nat) := ym_run vwCl ym_P 5 400 10 82 (cs ++ [.inr (10, ym_f0 vwCl 10)])
set_option maxRecDepth 100000 in
theorem y_ev : (match yA with
  | some a => decide (a.1.length = 82) && a.1.all (ym_e 82) && (match yB a.1 with
    | some b => decide (b.1.length = 103) && ych b.1 && decide (2 + a.2.1 + b.2.1 ≤ 600000) && decide (48 + a.2.2 + b.2.2 ≤ 7302250)
    | none => false)
  | none => false) = true := by decide +kernel
theorem y_run : ∃ (a b : List ym_E) (c1 s1 c2 s2 : Nat), yA = some (a, c1, s1) ∧ yB a = some (b, c2, s2) ∧ a.length = 82 ∧ a.all (ym_e 82) = true ∧ b.length = 103 ∧ ych b = true ∧ 2 + c1 + c2 ≤ 600000 ∧ 48 + s1 + s2 ≤ 7302250 := by
  have h := y_ev
  split at h
  · rename_i a ha
    simp only [Bool.and_eq_true, decide_eq_true_eq] at h
    obtain ⟨⟨h1, h2⟩, h3⟩ := h
    split at h3
    · rename_i b hb
      simp only [Bool.and_eq_true, decide_eq_true_eq] at h3
      obtain ⟨⟨⟨h4, h5⟩, h6⟩, h7⟩ := h3
      exact ⟨a.1, b.1, a.2.1, a.2.2, b.2.1, b.2.2, ha, hb, h1, h2, h4, h5, h6, h7⟩
    · cases h3
  · cases h
theorem y_cell {cA : Nat → ClassId} {ad ad2 : Nat → Nat} {p : Nat} {e : ym_E} {k : xm_K} (had : ∀ q, q < 103 → ad2 q = ad (sgm q)) (h : yce p e k = true) : xm_cell vwCl cA ad2 h00 p k = ym_cell cA ad e := by
  have r22 : ad2 22 = ad 44 := had 22 (by decide)
  have r32 : ad2 32 = ad 54 := had 32 (by decide)
  have r42 : ad2 42 = ad 64 := had 42 (by decide)
  have r53 : ad2 53 = ad 74 := had 53 (by decide)
  have r55 : ad2 55 = ad 76 := had 55 (by decide)
  have r57 : ad2 57 = ad 78 := had 57 (by decide)
  have r59 : ad2 59 = ad 80 := had 59 (by decide)
  cases e with
  | inl q =>
    cases k with
    | inr ci => simp only [yce] at h; cases h
    | inl k =>
      obtain ⟨t, n, ov⟩ := q
      obtain ⟨t', n'⟩ := k
      simp only [yce, Bool.and_eq_true, decide_eq_true_eq] at h
      obtain ⟨⟨rfl, rfl⟩, h⟩ := h
      by_cases h99 : p = 99
      · rw [if_pos h99] at h
        simp only [Bool.and_eq_true, decide_eq_true_eq] at h
        obtain ⟨rfl, rfl⟩ := h
        subst h99
        unfold xm_cell ym_cell xm_ac
        simp only
        congr 3
        show Sum.inl (hI 99) = Sum.inl _
        congr 1
        funext j
        unfold hI ym_oi
        rw [if_neg (by omega), if_neg (by omega)]
        match j with
        | 0 => rfl
        | 1 => rfl
        | 2 => rfl
        | 3 => rfl
        | j + 4 =>
          rw [if_neg (by omega)]
          have : List.find? (fun q : Nat × Value => q.1 == j + 4) [(3, Value.int (-1)), (2, .int (-1)), (1, .int (-1)), (0, .int (-1))] = none := by
            rw [List.find?_eq_none]
            intro x hx
            simp only [List.mem_cons, List.not_mem_nil, or_false] at hx
            rcases hx with rfl | rfl | rfl | rfl <;> simp
          rw [this]
      · rw [if_neg h99] at h
        by_cases h21 : p = 21
        · rw [if_pos h21] at h
          simp only [Bool.and_eq_true, decide_eq_true_eq] at h
          obtain ⟨rfl, rfl⟩ := h
          subst h21
          unfold xm_cell ym_cell xm_ac
          simp only
          congr 3
          show Sum.inr (Sum.inr (Sum.inr (Sum.inr (fun j => (xm_R0 5 21 j).map ad2)))) = Sum.inr (Sum.inr (Sum.inr (Sum.inr (ym_or ad _))))
          congr 4
          funext j
          match j with
          | 0 => show some (ad2 22) = some (ad 44); rw [r22]
          | 1 => show some (ad2 32) = some (ad 54); rw [r32]
          | 2 => show some (ad2 42) = some (ad 64); rw [r42]
          | j + 3 =>
            have h1 : xm_R0 5 21 (j + 3) = none := by
              unfold xm_R0
              rw [if_neg (by omega), if_neg (by omega), if_neg (by omega), if_neg (by omega), if_neg (by omega), if_pos rfl, if_neg (by omega)]
            have : List.find? (fun q : Nat × Value => q.1 == j + 3) [(2, Value.ref 64), (1, .ref 54), (0, .ref 44)] = none := by
              rw [List.find?_eq_none]
              intro x hx
              simp only [List.mem_cons, List.not_mem_nil, or_false] at hx
              rcases hx with rfl | rfl | rfl <;> simp
            unfold ym_or
            rw [h1, this]
            rfl
        · rw [if_neg h21] at h
          by_cases h52 : p = 52
          · rw [if_pos h52] at h
            simp only [Bool.and_eq_true, decide_eq_true_eq] at h
            obtain ⟨rfl, rfl⟩ := h
            subst h52
            unfold xm_cell ym_cell xm_ac
            simp only
            congr 3
            show Sum.inr (Sum.inr (Sum.inr (Sum.inr (fun j => (xm_R0 5 52 j).map ad2)))) = Sum.inr (Sum.inr (Sum.inr (Sum.inr (ym_or ad _))))
            congr 4
            funext j
            match j with
            | 0 => show some (ad2 53) = some (ad 74); rw [r53]
            | 1 => show some (ad2 55) = some (ad 76); rw [r55]
            | 2 => show some (ad2 57) = some (ad 78); rw [r57]
            | 3 => show some (ad2 59) = some (ad 80); rw [r59]
            | j + 4 =>
              have h1 : xm_R0 5 52 (j + 4) = none := by
                unfold xm_R0
                rw [if_neg (by omega), if_neg (by omega), if_neg (by omega), if_neg (by omega), if_neg (by omega), if_neg (by omega), if_pos rfl, if_neg (by omega)]
              have : List.find? (fun q : Nat × Value => q.1 == j + 4) [(3, Value.ref 80), (2, .ref 78), (1, .ref 76), (0, .ref 74)] = none := by
                rw [List.find?_eq_none]
                intro x hx
                simp only [List.mem_cons, List.not_mem_nil, or_false] at hx
                rcases hx with rfl | rfl | rfl | rfl <;> simp
              unfold ym_or
              rw [h1, this]
              rfl
          · rw [if_neg h52] at h
            simp only [Bool.and_eq_true, decide_eq_true_eq] at h
            obtain ⟨⟨⟨ht, rfl⟩, hp1⟩, hp82⟩ := h
            have hz : h00.1 p = ym_oi [] := by
              funext j
              show hI p j = 0
              unfold hI
              rw [if_neg (fun q => hp1 q.1), if_neg (fun q => hp82 q.1), if_neg (fun q => h99 q.1)]
            unfold xm_cell ym_cell xm_ac
            simp only
            by_cases t3 : t = 3
            · subst t3
              rfl
            · rw [if_neg t3, if_neg t3, if_pos (by omega), if_pos (by omega), hz]
  | inr o =>
    cases k with
    | inl k => simp only [yce] at h; cases h
    | inr ci =>
      obtain ⟨ci', fs⟩ := o
      simp only [yce, Bool.and_eq_true, decide_eq_true_eq] at h
      obtain ⟨⟨rfl, hlen⟩, h⟩ := h
      unfold xm_cell ym_cell xm_fs
      simp only
      congr 2
      apply List.ext_getElem?
      intro j
      rw [List.getElem?_map, List.getElem?_map]
      by_cases hj : j < fs.length
      · have hv := List.all_eq_true.mp h j (List.mem_range.mpr hj)
        rw [List.getElem?_range (by omega)]
        cases hf : fs[j]? with
        | none => rw [hf] at hv; cases hv
        | some v =>
          rw [hf] at hv
          simp only [Option.map_some, Option.some.injEq]
          unfold xm_fv
          cases v with
          | int x =>
            simp only [yfv, Bool.and_eq_true, decide_eq_true_eq] at hv
            rw [if_neg hv.1.1, if_neg hv.1.2, hv.2]
            rfl
          | long x =>
            simp only [yfv, Bool.and_eq_true, decide_eq_true_eq] at hv
            rw [if_pos hv.1, hv.2]
            rfl
          | ref q =>
            simp only [yfv, Bool.and_eq_true, decide_eq_true_eq] at hv
            obtain ⟨h2, h3⟩ := hv
            rw [if_neg (by omega), if_pos h2]
            show va_rf ((xm_R0 5 p j).map ad2) = Value.ref (ad q)
            cases hq : xm_R0 5 p j with
            | none => rw [hq] at h3; cases h3
            | some q' =>
              rw [hq] at h3
              simp only [Bool.and_eq_true, decide_eq_true_eq] at h3
              show Value.ref (ad2 q') = _
              rw [had q' h3.2, h3.1]
          | null =>
            simp only [yfv, Bool.and_eq_true, decide_eq_true_eq] at hv
            obtain ⟨h2, h3⟩ := hv
            rw [if_neg (by omega), if_pos h2]
            show va_rf ((xm_R0 5 p j).map ad2) = Value.null
            rw [h3]
            rfl
          | _ => simp only [yfv] at hv; cases hv
      · rw [List.getElem?_eq_none (by simp; omega), List.getElem?_eq_none (by omega)]
        rfl
theorem y_world {D : va_G} {cA : Nat → ClassId} {ad ad2 : Nat → Nat} {A : Nat → Prop} {H : Heap} {cs : List ym_E} (had : ∀ q, q < 103 → ad2 q = ad (sgm q)) (hc : ych cs = true) (hl : cs.length = 103) (h : ym_Wd vwCl D cA ad A H cs) : xm_Wd vwCl D cA ad2 A xm_S H h00 := by
  have key : ∀ (k : Nat) (q : Nat × va_E), (xm_wd vwCl cA ad2 xm_S h00)[k]? = some q → k < 103 ∧ (ym_wd cA ad cs)[sgm k]? = some q := by
    intro k q hk
    rw [xm_wd_get] at hk
    cases hs : xm_S[k]? with
    | none => rw [hs] at hk; cases hk
    | some kd =>
      rw [hs] at hk
      have hk103 : k < 103 := by
        have := (List.getElem?_eq_some_iff.mp hs).1
        rw [xS_len] at this
        exact this
      have hx := List.all_eq_true.mp hc k (List.mem_range.mpr hk103)
      rw [hs] at hx
      cases he : cs[sgm k]? with
      | none => rw [he] at hx; cases hx
      | some e =>
        rw [he] at hx
        simp only [Option.map_some, Option.some.injEq] at hk
        refine ⟨hk103, ?_⟩
        rw [ym_wd_at he, ← hk, had k hk103, y_cell had hx]
  refine ⟨fun k q hk => h.1 (sgm k) q (key k q hk).2, fun i j x y hi hj e => ?_, fun k q hk => h.2.2 (sgm k) q (key k q hk).2⟩
  obtain ⟨i1, i2⟩ := key i x hi
  obtain ⟨j1, j2⟩ := key j y hj
  exact sg_inj i i1 j j1 (h.2.1 _ _ x y i2 j2 e)
theorem y_rel : Rel SIs h00 := by
  have z : ∀ p k, p ≠ 1 → p ≠ 82 → p ≠ 99 → h00.1 p k = 0 := fun p k h1 h2 h3 => by
    show hI p k = 0
    unfold hI
    rw [if_neg (fun q => h1 q.1), if_neg (fun q => h2 q.1), if_neg (fun q => h3 q.1)]
  have w0 : ∀ k, h00.1 83 k = 0 := fun k => z 83 k (by decide) (by decide) (by decide)
  have in0 : ∀ m, rl_in (0 : Int32) 0 m := fun m => ⟨0, Nat.le_refl _, Nat.zero_le _, rfl⟩
  refine ⟨5, Or.inl rfl, rfl, ⟨0, by omega, rfl, rfl, fun j hj => absurd hj (Nat.not_lt_zero _)⟩, ⟨rfl, rfl⟩, ?_, ?_, ?_, fun k hk => Or.inl ⟨?_, ?_⟩, fun s hs => Or.inl ⟨?_, ?_⟩, ?_⟩
  · refine ⟨by rw [w0]; exact in0 _, fun _ k _ => w0 k, fun q => absurd (w0 22) q, by rw [w0]; exact in0 _, by rw [w0]; exact in0 _, Or.inl (w0 13), by rw [w0]; exact in0 _, ⟨0, by omega, w0 19, fun j hj => absurd hj (Nat.not_lt_zero _)⟩, ⟨0, by omega, w0 20, fun j hj => absurd hj (Nat.not_lt_zero _)⟩, ⟨0, by omega, w0 21, fun j hj => absurd hj (Nat.not_lt_zero _)⟩, ⟨0, by omega, w0 23, fun j hj => absurd hj (Nat.not_lt_zero _)⟩⟩
  · have nl : ∀ j k, j < 100 → nI j < h00.1 83 k → False := fun j k hj q => by
      rw [w0] at q
      exact absurd q (nI_pos (by omega))
    refine ⟨rfl, rfl, rfl, rfl, rfl, rfl, rfl, rfl, rfl, rfl, rfl, rfl, fun _ => rfl, fun q => ?_, fun q => absurd (w0 22) q, fun j q hj => (nl j 19 (by omega) q).elim, fun j q hj => (nl j 20 (by omega) q).elim, fun j q hj => (nl j 21 (by omega) q).elim⟩
    rw [w0] at q
    exact absurd q.symm one_ne0
  · refine ⟨rfl, fun i hi q => ?_, fun q => absurd (w0 22) q⟩
    rw [w0] at q
    exact absurd q (nI_pos (by omega))
  · exact z _ _ (by omega) (by omega) (by omega)
  · exact z _ _ (by decide) (by decide) (by decide)
  · exact z _ _ (by omega) (by omega) (by omega)
  · show hI 99 s = -1
    unfold hI
    rw [if_neg (by omega), if_neg (by omega), if_pos ⟨rfl, hs⟩]
  · refine Or.inl ⟨rfl, fun e _ => ?_⟩
    exact z _ _ (by decide) (by decide) (by decide)
