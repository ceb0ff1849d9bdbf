/-! The press: how many, by the reference; packs. -/
theorem cntL_eq {vs : Nat → Int64} {x : Int} : ∀ k, cntL vs x k = cntL vs (x - 1) k + cn (fun j => decide ((vs j).toInt = x)) k
  | 0 => rfl
  | k + 1 => by
    have e := cntL_eq (vs := vs) (x := x) k
    show cntL vs x k + (if (vs k).toInt ≤ x then 1 else 0) = cntL vs (x - 1) k + (if (vs k).toInt ≤ x - 1 then 1 else 0) + (cn (fun j => decide ((vs j).toInt = x)) k + (if decide ((vs k).toInt = x) = true then 1 else 0))
    by_cases h1 : (vs k).toInt = x
    · rw [if_pos (by omega), if_neg (by omega), if_pos (decide_eq_true h1)]
      omega
    · have h2 : ¬ decide ((vs k).toInt = x) = true := by rw [decide_eq_true_eq]; exact h1
      rw [if_neg h2]
      by_cases h3 : (vs k).toInt ≤ x
      · rw [if_pos h3, if_pos (by omega)]
        omega
      · rw [if_neg h3, if_neg (by omega)]
        omega
section OPS
variable {L : Nat} {xs : Nat → Int32} {d : Nat} {SI : (Nat → Nat → Int32) → (Nat → Nat → Int64) → Prop}
theorem v_mostM {h : xm_H} {t s m pr c : Nat} {vs S : Nat → Int64} (hR : h.2.2 = xm_R0 t) (ht : t = 5 ∨ t = 13) (s4 : s < 4) (hm : m ≤ 60) (e99 : h.1 99 s = nI m) (hpr : pr ≤ 999) (epr : h.1 83 18 = nI pr) (hvs : ∀ i, i < m → h.2.1 101 (60 * s + i) = vs i) (hv : ∀ i, i < m → 0 ≤ (vs i).toInt) (hS : srt S vs m) (hcm : c ≤ m) (hg1 : ∀ i, i < c → (S i).toInt ≤ lfP S pr i) (hg2 : c = m ∨ lfP S pr c < (S c).toInt) (hg3 : ∀ i, i ≤ c → 0 ≤ lfP S pr i ∧ lfP S pr i ≤ pr) : xm_V (xm_X0 L xs) xm_P (d + 8) 308 [.ref 82, .int (nI s)] h (some (.int (nI c))) h := by
  have ec : (nI s).toNatClampNeg = s := nI_clamp (by omega)
  have hend : ∀ i, i = m → h.1 99 (nI s).toNatClampNeg ≤ nI i := fun i hi => by rw [ec, e99, hi]; exact nI_le (by omega) (by omega)
  have hnot : ∀ i, i < m → ¬ h.1 99 (nI s).toNatClampNeg ≤ nI i := fun i hi => by rw [ec, e99]; exact nI_ge hi (by omega)
  have eN : ∀ i, i < m → F_X11_numberAt h t (nI s) (nI i) = vs i := fun i hi => by
    unfold F_X11_numberAt
    rw [ix_60, nI_clamp (by omega), hvs i hi]
  have mn : ∀ (l lf : Int64) (n : Int32), (∀ N : Int64, (∀ j, j < m → l.toInt < (vs j).toInt → N.toInt ≤ (vs j).toInt) → (N = 9223372036854775807 ∨ ∃ j, j < m ∧ l.toInt < (vs j).toInt ∧ vs j = N) → xm_E (xm_X0 L xs) xm_P (d + 7) co_X11_mostIn 14 [some (.ref 82), some (.int (nI s)), some (.long lf), none, some (.long l), none, some (.int n), some (.long N), none, some (.int (nI m))] [] h (some (.int (nI c))) h) → ∀ k i (N : Int64), k + i = m → (∀ j, j < i → l.toInt < (vs j).toInt → N.toInt ≤ (vs j).toInt) → (N = 9223372036854775807 ∨ ∃ j, j < i ∧ l.toInt < (vs j).toInt ∧ vs j = N) → xm_E (xm_X0 L xs) xm_P (d + 7) co_X11_mostIn 14 [some (.ref 82), some (.int (nI s)), some (.long lf), none, some (.long l), none, some (.int n), some (.long N), none, some (.int (nI i))] [] h (some (.int (nI c))) h := by
    intro l lf n K k
    induction k with
    | zero =>
      intro i N hk a1 a2
      have hic : i = m := by omega
      subst hic
      exact K N a1 a2
    | succ k ih =>
      intro i N hk a1 a2
      by_cases hc : (vs i).toInt ≤ l.toInt
      · refine s_X11_mostIn_14_2 (d := d) hR ht (g_sl s4) (hnot i (by omega)) (g_60 s4 (by omega)) (by rw [eN i (by omega), lg_cmp_le, Int64.le_iff_toInt_le]; exact hc) ?_
        rw [nI_1]
        refine ih (i + 1) N (by omega) (fun j hj hl => ?_) ?_
        · by_cases hji : j = i
          · subst hji
            omega
          · exact a1 j (by omega) hl
        · rcases a2 with a2 | ⟨j, b1, b2, b3⟩
          · exact Or.inl a2
          · exact Or.inr ⟨j, by omega, b2, b3⟩
      · refine s_X11_mostIn_14_3 (d := d) hR ht (g_sl s4) (hnot i (by omega)) (g_60 s4 (by omega)) (by rw [eN i (by omega), lg_cmp_le, Int64.le_iff_toInt_le]; exact hc) ?_
        rw [nI_1, eN i (by omega)]
        by_cases hlt : vs i < N
        · rw [if_pos hlt]
          have hlt' := hlt
          rw [Int64.lt_iff_toInt_lt] at hlt'
          refine ih (i + 1) (vs i) (by omega) (fun j hj hl => ?_) (Or.inr ⟨i, by omega, by omega, rfl⟩)
          by_cases hji : j = i
          · subst hji
            omega
          · have := a1 j (by omega) hl
            omega
        · rw [if_neg hlt]
          rw [Int64.lt_iff_toInt_lt] at hlt
          refine ih (i + 1) N (by omega) (fun j hj hl => ?_) ?_
          · by_cases hji : j = i
            · subst hji
              omega
            · exact a1 j (by omega) hl
          · rcases a2 with a2 | ⟨j, b1, b2, b3⟩
            · exact Or.inl a2
            · exact Or.inr ⟨j, by omega, b2, b3⟩
  have emax : (9223372036854775807 : Int64).toInt = 9223372036854775807 := rfl
  have stuck : ∀ (l lf : Int64) (o7 o9 : Option Value), lf.toInt ≤ 999 → (∀ i, i < m → l.toInt < (vs i).toInt → lf.toInt < (vs i).toInt) → xm_E (xm_X0 L xs) xm_P (d + 7) co_X11_mostIn 10 [some (.ref 82), some (.int (nI s)), some (.long lf), none, some (.long l), none, some (.int (nI c)), o7, none, o9] [] h (some (.int (nI c))) h := by
    intro l lf o7 o9 h9 hst
    refine s_X11_mostIn_10_0 (d := d) (mn l lf (nI c) (fun N n1 n2 => ?_) m 0 _ (by omega) (fun j hj => absurd hj (by omega)) (Or.inl rfl))
    refine s_X11_mostIn_14_1 (d := d) hR ht (g_sl s4) (hend m rfl) ?_
    rw [lg_cmp_le, Int64.le_iff_toInt_le]
    rcases n2 with rfl | ⟨j, b1, b2, rfl⟩
    · rw [emax]
      omega
    · have := hst j b1 b2
      omega
  have main : ∀ f (l lf : Int64) (o7 o9 : Option Value), m - cntL vs l.toInt m ≤ f → cntL vs l.toInt m ≤ c → lf.toInt = lfP S pr (cntL vs l.toInt m) → xm_E (xm_X0 L xs) xm_P (d + 7) co_X11_mostIn 10 [some (.ref 82), some (.int (nI s)), some (.long lf), none, some (.long l), none, some (.int (nI (cntL vs l.toInt m))), o7, none, o9] [] h (some (.int (nI c))) h := by
    intro f
    induction f with
    | zero =>
      intro l lf o7 o9 hf hpc hlf
      have hp : cntL vs l.toInt m = m := by
        have := cntL_le (vs := vs) (z := l.toInt) m
        omega
      have hcm' : c = m := by omega
      rw [hp, ← hcm']
      refine stuck l lf o7 o9 ?_ (fun i hi hl => ?_)
      · rw [hlf]
        have := (hg3 _ hpc).2
        omega
      · have h1 := cntL_in (vs := vs) (Int.le_of_lt hl) m i hi hl (Int.le_refl _)
        have h2 := cntL_le (vs := vs) (z := (vs i).toInt) m
        omega
    | succ f ih =>
      intro l lf o7 o9 hf hpc hlf
      have hlb := hg3 _ hpc
      by_cases hp : cntL vs l.toInt m = m
      · have hcm' : c = m := by omega
        rw [hp, ← hcm']
        refine stuck l lf o7 o9 (by rw [hlf]; omega) (fun i hi hl => ?_)
        have h1 := cntL_in (vs := vs) (Int.le_of_lt hl) m i hi hl (Int.le_refl _)
        have h2 := cntL_le (vs := vs) (z := (vs i).toInt) m
        omega
      · have hpm : cntL vs l.toInt m < m := by
          have := cntL_le (vs := vs) (z := l.toInt) m
          omega
        generalize hpd : cntL vs l.toInt m = p at hf hpc hlf hlb hp hpm ⊢
        have hx1 : l.toInt < (S p).toInt := by
          by_cases z : (S p).toInt ≤ l.toInt
          · have := (hS p hpm l.toInt).mp z
            omega
          · omega
        have hx2 : cntL vs ((S p).toInt - 1) m = p := by
          have a1 : ¬ p < cntL vs ((S p).toInt - 1) m := fun z => by
            have := (hS p hpm _).mpr z
            omega
          have a2 := cntL_mono (vs := vs) (show l.toInt ≤ (S p).toInt - 1 by omega) m
          omega
        have hx3 : p < cntL vs (S p).toInt m := (hS p hpm _).mp (Int.le_refl _)
        obtain ⟨i0, hi0, hi1, hi2⟩ := cntL_lt (vs := vs) (y := (S p).toInt - 1) (z := (S p).toInt) m (by omega)
        refine s_X11_mostIn_10_0 (d := d) (mn l lf (nI p) (fun N n1 n2 => ?_) m 0 _ (by omega) (fun j hj => absurd hj (by omega)) (Or.inl rfl))
        have hNx : N.toInt = (S p).toInt := by
          have a1 := n1 i0 hi0 (by omega)
          rcases n2 with rfl | ⟨j, b1, b2, rfl⟩
          · rw [emax] at a1 ⊢
            have := (S p).toInt_lt
            omega
          · have b3 := cntL_in (vs := vs) (Int.le_of_lt b2) m j b1 b2 (Int.le_refl _)
            have b4 := (hS p hpm (vs j).toInt).mpr (by omega)
            omega
        by_cases hfit : (S p).toInt ≤ lfP S pr p
        · have grp : ∀ k i (lf' : Int64) (n' : Nat), k + i = m → n' = min (p + cn (fun j => decide ((vs j).toInt = (S p).toInt)) i) c → lf'.toInt = lfP S pr n' → xm_E (xm_X0 L xs) xm_P (d + 7) co_X11_mostIn 44 [some (.ref 82), some (.int (nI s)), some (.long lf'), none, some (.long l), none, some (.int (nI n')), some (.long N), none, some (.int (nI i))] [] h (some (.int (nI c))) h := by
            intro k
            induction k with
            | zero =>
              intro i lf' n' hk hn' hl'
              have hic : i = m := by omega
              subst hic
              have ecx := cntL_eq (vs := vs) (x := (S p).toInt) i
              refine s_X11_mostIn_44_0 (d := d) hR ht (g_sl s4) (hend i rfl) ?_
              by_cases hq : cntL vs (S p).toInt i ≤ c
              · have hn2 : n' = cntL vs N.toInt i := by rw [hNx]; omega
                rw [hn2] at hl' ⊢
                exact ih N lf' _ _ (by rw [hNx]; omega) (by rw [hNx]; exact hq) hl'
              · have hn2 : n' = c := by omega
                rw [hn2] at hl' ⊢
                have hci : c < i := by
                  have := cntL_le (vs := vs) (z := (S p).toInt) i
                  omega
                have hsc := (hS c hci (S p).toInt).mpr (by omega)
                refine stuck N lf' _ _ (by rw [hl']; have := (hg3 c (Nat.le_refl _)).2; omega) (fun j hj hl => ?_)
                rw [hl']
                rcases hg2 with z | z
                · omega
                · rw [hNx] at hl
                  omega
            | succ k ih' =>
              intro i lf' n' hk hn' hl'
              have es : cn (fun j => decide ((vs j).toInt = (S p).toInt)) (i + 1) = cn (fun j => decide ((vs j).toInt = (S p).toInt)) i + (if decide ((vs i).toInt = (S p).toInt) = true then 1 else 0) := rfl
              by_cases he : (vs i).toInt = (S p).toInt
              · rw [if_pos (decide_eq_true he)] at es
                have hmon := cn_le (f := fun j => decide ((vs j).toInt = (S p).toInt)) (i + 1) k
                rw [show i + 1 + k = m by omega] at hmon
                have ecx := cntL_eq (vs := vs) (x := (S p).toInt) m
                have ceq : lg_cmp (F_X11_numberAt h t (nI s) (nI i)) N = 0 := by
                  rw [eN i (by omega), lg_cmp_eq]
                  apply Int64.toInt_inj.1
                  rw [he, hNx]
                have hcx := cntL_le (vs := vs) (z := (S p).toInt) m
                by_cases htk : n' < c
                · have hn1 : n' = p + cn (fun j => decide ((vs j).toInt = (S p).toInt)) i := by omega
                  have hs1 := (hS n' (by omega) (S p).toInt).mpr (by omega)
                  have hs2 : ¬ (S n').toInt ≤ (S p).toInt - 1 := fun z => by
                    have := (hS n' (by omega) _).mp z
                    omega
                  have hfit' := hg1 n' htk
                  have hb1 := hg3 n' (by omega)
                  have hxp := hv i (by omega)
                  refine s_X11_mostIn_44_1 (d := d) hR ht (g_sl s4) (hnot i (by omega)) (g_60 s4 (by omega)) ceq (by rw [lg_cmp_le, Int64.le_iff_toInt_le, hNx, hl']; omega) ?_
                  rw [nI_1, nI_1]
                  refine ih' (i + 1) (lf' - N) (n' + 1) (by omega) (by omega) ?_
                  show (lf' - N).toInt = lfP S pr n' - (S n').toInt
                  rw [Int64.toInt_sub, hl', hNx, show (S p).toInt = (S n').toInt by omega]
                  exact Int.bmod_eq_of_le (by omega) (by omega)
                · have hn1 : n' = c := by omega
                  have hsc := (hS c (by omega) (S p).toInt).mpr (by omega)
                  refine s_X11_mostIn_44_2 (d := d) hR ht (g_sl s4) (hnot i (by omega)) (g_60 s4 (by omega)) ceq ?_ ?_
                  · rw [lg_cmp_le, Int64.le_iff_toInt_le, hNx, hl', hn1]
                    rcases hg2 with z | z
                    · omega
                    · omega
                  · rw [nI_1]
                    exact ih' (i + 1) lf' n' (by omega) (by omega) hl'
              · rw [if_neg (by rw [decide_eq_true_eq]; exact he)] at es
                refine s_X11_mostIn_44_3 (d := d) hR ht (g_sl s4) (hnot i (by omega)) (g_60 s4 (by omega)) ?_ ?_
                · rw [eN i (by omega), lg_cmp_eq]
                  intro z
                  rw [z] at he
                  exact he hNx
                · rw [nI_1]
                  exact ih' (i + 1) lf' n' (by omega) (by omega) hl'
          refine s_X11_mostIn_14_0 (d := d) hR ht (g_sl s4) (hend m rfl) (by rw [lg_cmp_le, Int64.le_iff_toInt_le, hNx, hlf]; exact hfit) ?_
          exact grp m 0 lf p (by omega) (by show p = min (p + 0) c; omega) hlf
        · have hcp : c = p := by
            by_cases z : p < c
            · exact absurd (hg1 p z) hfit
            · omega
          rw [hcp]
          exact s_X11_mostIn_14_1 (d := d) hR ht (g_sl s4) (hend m rfl) (by rw [lg_cmp_le, Int64.le_iff_toInt_le, hNx, hlf]; exact hfit)
  have h0 : ∀ k, k ≤ m → cntL vs (-1) k = 0 := by
    intro k
    induction k with
    | zero => intro _; rfl
    | succ k ih =>
      intro hk
      show cntL vs (-1) k + (if (vs k).toInt ≤ -1 then 1 else 0) = 0
      have := hv k (by omega)
      rw [ih (by omega), if_neg (by omega)]
  have e1 : (-1 : Int64).toInt = -1 := rfl
  have E := main m (-1) (nI pr).toInt64 none none (by omega) (by rw [e1, h0 m (Nat.le_refl _)]; omega) (by rw [e1, h0 m (Nat.le_refl _), nI_l (by omega), lj_toInt (by omega)]; rfl)
  rw [e1, h0 m (Nat.le_refl _)] at E
  refine v_X11_mostIn (d := d + 7) (s_X11_mostIn_0_0 (d := d) hR ht ?_)
  rw [epr]
  exact E
theorem op_packs (a w : Int32) : xm_opi (xm_X0 L xs) (d + 20) (Rel SI) 146 306 [.int a, .int w] := by
  intro h hr
  obtain ⟨t, ht, hR, hw, hli, hwk⟩ := hr.opn
  have n0 : ¬ (1 : Int32) = 0 := by decide
  have l9 : h.1 t 9 = h.1 83 18 := hli.2.2.2.2.2.2.2.2.2.1
  by_cases hn : h.1 83 22 = 0
  · have q := ln_0 (t := t) hli.1 hn
    have V1 := v_X10_packs (d := d + 19) (s_X10_packs_0_7 (L := L) (xs := xs) (d := d + 12) (h := h) (l1 := a) (l2 := w) hR ht (by rw [q.1]; exact n0))
    by_cases hs : nb a 0 3
    · exact ⟨_, _, _, V1, v_X11_packs (d := d + 19) (s_X11_packs_0_1 (d := d + 12) hR ht (by rw [show F_X11_isSlot a = 1 from (in_0_3 a).1 hs]; exact n0) q.2), hr⟩
    · exact ⟨_, _, _, V1, v_X11_packs (d := d + 19) (s_X11_packs_0_0 (d := d + 12) ((in_0_3 a).2 hs)), hr⟩
  · have q := ln_1 (t := t) hli.1 hw.1 hn
    by_cases hs : nb a 0 3
    · have m1 : ¬ F_X10_isSlot a = 0 := by rw [(x_isSlot a).1 hs]; exact n0
      have m2 : ¬ F_X11_isSlot a = 0 := by rw [show F_X11_isSlot a = 1 from (in_0_3 a).1 hs]; exact n0
      by_cases hp : nb w 0 1
      · have k1 : ¬ F_X10_isPart w = 0 := by rw [(x_isPart w).1 hp]; exact n0
        have k2 : ¬ F_X11_in w.toInt64 (0 : Int64) (1 : Int64) = 0 := by rw [(in_0_1 w).1 hp]; exact n0
        have ql : ¬ F_X11_isLinen h t = 0 := by rw [q.2]; exact n0
        obtain ⟨s, -, hs3, rfl⟩ := hs
        have s4 : s < 4 := by omega
        have ec : (nI s).toNatClampNeg = s := nI_clamp (by omega)
        rcases hr.rows s s4 with ⟨r0, r1⟩ | ⟨r0, m, hm, r1, r2, w', hw3, r3, r4, r5⟩
        · exact ⟨_, _, _, v_X10_packs (d := d + 19) (s_X10_packs_0_2 (d := d + 12) hR ht q.1 m1 k1 (g_sl s4) (rw_ref hR s4) (rw_sh s4) r0), v_X11_packs (d := d + 19) (s_X11_packs_0_3 (d := d + 12) hR ht m2 ql k2 (g_sl s4) (by rw [ec]; exact r1)), hr⟩
        · have c4 : ¬ h.1 (53 + 2 * s) 1 = 0 := by rw [r0]; exact n0
          have d4 : ¬ h.1 99 (nI s).toNatClampNeg = -1 := by rw [ec, r2]; exact n_1 (by omega)
          have loopX : ∀ k i, k + i = m → ∃ b : Bool, xm_E (xm_X0 L xs) xm_P (d + 18) co_X2_hasBelowZero 2 [some (.ref (53 + 2 * s)), some (.int (nI i))] [] h (some (.int (if b = true then 0 else 1))) h ∧ (b = true → ∀ j, i ≤ j → j < m → 0 ≤ (h.2.1 (54 + 2 * s) j).toInt) ∧ (b = false → ∃ j, i ≤ j ∧ j < m ∧ (h.2.1 (54 + 2 * s) j).toInt < 0) := by
            intro k
            induction k with
            | zero =>
              intro i hk
              have hic : i = m := by omega
              subst hic
              exact ⟨true, s_X2_hasBelowZero_2_0 (d := d + 11) (rw_sh s4) (by rw [r1]; exact nI_le (by omega) (by omega)), fun _ j h1 h2 => absurd h1 (by omega), fun z => absurd z (by decide)⟩
            | succ k ih =>
              intro i hk
              have cl : ¬ h.1 (53 + 2 * s) 3 ≤ nI i := by rw [r1]; exact nI_ge (by omega) (by omega)
              have V := v_at (L := L) (xs := xs) (d := d + 10) hR s4 hm (show i < m by omega) r1
              by_cases hz : 0 ≤ (h.2.1 (54 + 2 * s) i).toInt
              · obtain ⟨b, E1, E2, E3⟩ := ih (i + 1) (by omega)
                refine ⟨b, s_X2_hasBelowZero_2_1 (d := d + 11) (rw_sh s4) cl V ?_ (by rw [nI_1]; exact E1), fun hb j h1 h2 => ?_, fun hb => ?_⟩
                · rw [lg_cmp_ge, Int64.le_iff_toInt_le, show (0 : Int64).toInt = 0 from rfl]
                  exact hz
                · by_cases hji : j = i
                  · subst hji
                    exact hz
                  · exact E2 hb j (by omega) h2
                · obtain ⟨j, h1, h2, h3⟩ := E3 hb
                  exact ⟨j, by omega, h2, h3⟩
              · refine ⟨false, s_X2_hasBelowZero_2_2 (d := d + 11) (rw_sh s4) cl V ?_, fun z => absurd z (by decide), fun _ => ⟨i, Nat.le_refl _, by omega, by omega⟩⟩
                rw [lg_cmp_ge, Int64.le_iff_toInt_le, show (0 : Int64).toInt = 0 from rfl]
                exact hz
          obtain ⟨b, E1, E2, E3⟩ := loopX m 0 (by omega)
          have VB := v_X2_hasBelowZero (d := d + 18) (s_X2_hasBelowZero_0_0 (d := d + 11) E1)
          have eN : ∀ (y : xm_H) i, y.2.1 101 = h.2.1 101 → i < m → F_X11_numberAt y t (nI s) (nI i) = h.2.1 (54 + 2 * s) i := fun y i ey hi => by
            unfold F_X11_numberAt
            rw [ix_60, nI_clamp (by omega), ey, r5 i hi]
          cases b with
          | false =>
            obtain ⟨j, -, hj, hneg⟩ := E3 rfl
            have lpM : ∀ k i, k + i = m → i ≤ j → xm_E (xm_X0 L xs) xm_P (d + 19) co_X11_packs 24 [some (.ref 82), some (.int (nI s)), some (.int w), some (.int (nI i))] [] h (some (.int (-2))) h := by
              intro k
              induction k with
              | zero => intro i hk hij; omega
              | succ k ih =>
                intro i hk hij
                have cl : ¬ h.1 99 (nI s).toNatClampNeg ≤ nI i := by rw [ec, r2]; exact nI_ge (by omega) (by omega)
                by_cases hz : 0 ≤ (h.2.1 (54 + 2 * s) i).toInt
                · refine s_X11_packs_24_3 (d := d + 12) hR ht (g_sl s4) cl (g_60 s4 (by omega)) ?_ (by rw [nI_1]; exact ih (i + 1) (by omega) (by
                    by_cases e : i = j
                    · subst e; omega
                    · omega))
                  rw [eN h i rfl (by omega), lg_cmp_ge, Int64.le_iff_toInt_le, show (0 : Int64).toInt = 0 from rfl]
                  exact hz
                · refine s_X11_packs_24_4 (d := d + 12) hR ht (g_sl s4) cl (g_60 s4 (by omega)) ?_
                  rw [eN h i rfl (by omega), lg_cmp_ge, Int64.le_iff_toInt_le, show (0 : Int64).toInt = 0 from rfl]
                  exact hz
            exact ⟨_, _, _, v_X10_packs (d := d + 19) (s_X10_packs_0_6 (d := d + 12) hR ht q.1 m1 k1 (g_sl s4) (rw_ref hR s4) (rw_sh s4) c4 VB n0), v_X11_packs (d := d + 19) (s_X11_packs_0_4 (d := d + 12) hR ht m2 ql k2 (g_sl s4) d4 (lpM m 0 (by omega) (by omega))), hr⟩
          | true =>
            have hv : ∀ i, i < m → 0 ≤ (h.2.1 (54 + 2 * s) i).toInt := fun i hi => E2 rfl i (by omega) hi
            have lpM : ∀ (y : xm_H) (r : Int32) (g : xm_H), y.2.2 = h.2.2 → y.2.1 101 = h.2.1 101 → y.1 99 = h.1 99 → xm_E (xm_X0 L xs) xm_P (d + 19) co_X11_packs 24 [some (.ref 82), some (.int (nI s)), some (.int w), some (.int (nI m))] [] y (some (.int r)) g → ∀ k i, k + i = m → xm_E (xm_X0 L xs) xm_P (d + 19) co_X11_packs 24 [some (.ref 82), some (.int (nI s)), some (.int w), some (.int (nI i))] [] y (some (.int r)) g := by
              intro y r g y2 y101 y99 K k
              induction k with
              | zero =>
                intro i hk
                have hic : i = m := by omega
                subst hic
                exact K
              | succ k ih =>
                intro i hk
                refine s_X11_packs_24_3 (d := d + 12) (y2.trans hR) ht (g_sl s4) (by rw [ec, y99, r2]; exact nI_ge (by omega) (by omega)) (g_60 s4 (by omega)) ?_ (by rw [nI_1]; exact ih (i + 1) (by omega))
                rw [eN y i y101 (by omega), lg_cmp_ge, Int64.le_iff_toInt_le, show (0 : Int64).toInt = 0 from rfl]
                exact hv i (by omega)
            have hend : ∀ y : xm_H, y.1 99 = h.1 99 → y.1 99 (nI s).toNatClampNeg ≤ nI m := fun y e => by rw [ec, e, r2]; exact nI_le (by omega) (by omega)
            obtain ⟨pr, -, hpr, epr⟩ := hw.2.2.2.2.2.2.1
            by_cases hz : h.1 83 18 = 0
            · exact ⟨_, _, _, v_X10_packs (d := d + 19) (s_X10_packs_0_3 (d := d + 12) hR ht q.1 m1 k1 (g_sl s4) (rw_ref hR s4) (rw_sh s4) c4 VB rfl hR (by rw [l9]; exact hz)), v_X11_packs (d := d + 19) (s_X11_packs_0_4 (d := d + 12) hR ht m2 ql k2 (g_sl s4) d4 (lpM h _ h rfl rfl rfl (s_X11_packs_24_0 (d := d + 12) hR ht (g_sl s4) (hend h rfl) hz) m 0 (by omega))), hr⟩
            · have hz' : ¬ h.1 t 9 = 0 := by rw [l9]; exact hz
              by_cases hw0 : w = 0
              · obtain ⟨g, VX, g2, gq⟩ := v_highX (L := L) (xs := xs) (d := d + 9) hR ht s4 hm r1 hpr hv
                have gR : g.2.2 = xm_R0 t := by rw [g2]; exact hR
                obtain ⟨z, VM, z2, zq⟩ := v_highM (L := L) (xs := xs) (d := d + 9) (h := g) (t := t) (s := s) (m := m) (pr := pr) (vs := h.2.1 (54 + 2 * s)) gR ht s4 hm (by rw [gq 99 (by decide)]; exact r2) hpr (by rw [gq 83 (by decide)]; exact epr) (fun i hi => by rw [g2]; exact (r5 i hi).symm) hv
                have qg : ¬ F_X11_isLinen g t = 0 := by
                  have := ql
                  unfold F_X11_isLinen at this ⊢
                  rw [gq 83 (by decide)]
                  exact this
                have W1 := v_X10_packs (d := d + 19) (s_X10_packs_0_4 (L := L) (xs := xs) (d := d + 12) hR ht q.1 m1 k1 (g_sl s4) (rw_ref hR s4) (rw_sh s4) c4 VB rfl hR hz' hw0 (by rw [l9, epr]; exact VX))
                have W2 := v_X11_packs (d := d + 19) (s_X11_packs_0_4 (L := L) (xs := xs) (d := d + 12) (h := g) (t := t) gR ht m2 qg k2 (g_sl s4) (by rw [gq 99 (by decide)]; exact d4) (lpM g _ z (by rw [g2]) (by rw [g2]) (gq 99 (by decide)) (s_X11_packs_24_1 (d := d + 12) gR ht (g_sl s4) (hend g (gq 99 (by decide))) (by rw [gq 83 (by decide)]; exact hz) hw0 VM) m 0 (by omega)))
                refine ⟨_, _, _, W1, W2, hr.frame (by rw [z2, g2]) (fun q' hq => ?_) (fun q' _ => by rw [z2, g2]) (fun j _ => by rw [zq 1 (by decide), gq 1 (by decide)]) (fun j _ => by rw [zq 82 (by decide), gq 82 (by decide)])⟩
                have h1' : q' ≠ 80 ∧ q' ≠ 96 := by unfold rl_cell at hq; omega
                rw [zq q' h1'.2, gq q' h1'.1]
              · obtain ⟨S, c, g, VX, g1, g2, gl, hS, hcm, hg1, hg2, hg3⟩ := v_mostX (L := L) (xs := xs) (d := d + 9) hR ht s4 hm r1 hpr hv
                have gR : g.2.2 = xm_R0 t := by rw [g2]; exact hR
                have VM := v_mostM (L := L) (xs := xs) (d := d + 11) (h := g) (t := t) (s := s) (m := m) (pr := pr) (c := c) (vs := h.2.1 (54 + 2 * s)) (S := S) gR ht s4 hm (by rw [g1]; exact r2) hpr (by rw [g1]; exact epr) (fun i hi => by rw [gl 101 (by decide)]; exact (r5 i hi).symm) hv hS hcm hg1 hg2 hg3
                have qg : ¬ F_X11_isLinen g t = 0 := by
                  have := ql
                  unfold F_X11_isLinen at this ⊢
                  rw [g1]
                  exact this
                have W1 := v_X10_packs (d := d + 19) (s_X10_packs_0_5 (L := L) (xs := xs) (d := d + 12) hR ht q.1 m1 k1 (g_sl s4) (rw_ref hR s4) (rw_sh s4) c4 VB rfl hR hz' hw0 (by rw [l9, epr]; exact VX))
                have W2 := v_X11_packs (d := d + 19) (s_X11_packs_0_4 (L := L) (xs := xs) (d := d + 12) (h := g) (t := t) gR ht m2 qg k2 (g_sl s4) (by rw [g1]; exact d4) (lpM g _ g g2 (gl 101 (by decide)) (by rw [g1]) (s_X11_packs_24_2 (d := d + 12) gR ht (g_sl s4) (hend g (by rw [g1])) (by rw [g1]; exact hz) hw0 VM) m 0 (by omega)))
                refine ⟨_, _, _, W1, W2, hr.frame g2 (fun q' hq => by rw [g1]) (fun q' hq => gl q' (by unfold rl_cell at hq; omega)) (fun j _ => by rw [g1]) (fun j _ => by rw [g1])⟩
      · exact ⟨_, _, _, v_X10_packs (d := d + 19) (s_X10_packs_0_1 (d := d + 12) hR ht q.1 m1 ((x_isPart w).2 hp)), v_X11_packs (d := d + 19) (s_X11_packs_0_2 (d := d + 12) hR ht m2 (by rw [q.2]; exact n0) ((in_0_1 w).2 hp)), hr⟩
    · exact ⟨_, _, _, v_X10_packs (d := d + 19) (s_X10_packs_0_0 (d := d + 12) hR ht q.1 ((x_isSlot a).2 hs)), v_X11_packs (d := d + 19) (s_X11_packs_0_0 (d := d + 12) ((in_0_3 a).2 hs)), hr⟩
end OPS
