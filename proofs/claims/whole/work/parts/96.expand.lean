/-! The search: from one state on, by all moves. -/
def nxC (al sp ar k : Nat) (s : St) : Option St := if (al >>> k) % 2 = 1 ∧ (2 < k ∨ s.1 ≤ ar) then st_do sp k s else none
theorem nxC_do {al sp ar k : Nat} {s s' : St} (h : nxC al sp ar k s = some s') : st_do sp k s = some s' := by
  unfold nxC at h
  split at h
  · exact h
  · cases h
theorem st_do_tw {room k : Nat} {s s' : St} (hk : k ≤ 9) (hd : st_do room k s = some s') (hz : ¬ s'.2.2.2.2 = 2) : k = 9 ∧ s.1 = s'.1 ∧ s.2.1 = s'.2.1 ∧ s.2.2.1 = s'.2.2.1 ∧ s.2.2.2.1 = s'.2.2.2.1 ∧ (2 < s'.2.2.2.2 ∧ s.2.2.2.2 = s'.2.2.2.2 + 1 ∨ s'.2.2.2.2 < 2 ∧ s.2.2.2.2 + 1 = s'.2.2.2.2) := by
  by_cases k9 : k = 9
  · subst k9
    unfold st_do at hd
    rw [if_neg (by decide), if_pos rfl] at hd
    split at hd
    · cases hd
    · rename_i h2
      cases hd
      refine ⟨rfl, rfl, rfl, rfl, rfl, ?_⟩
      simp only at hz ⊢
      by_cases h3 : 2 < s.2.2.2.2
      · rw [if_pos h3] at hz ⊢
        omega
      · rw [if_neg h3] at hz ⊢
        omega
  · exfalso
    apply hz
    unfold st_do at hd
    rw [if_neg (by omega), if_neg k9] at hd
    by_cases k8 : k = 8
    · rw [if_pos k8] at hd
      split at hd
      · cases hd; rfl
      · cases hd
    · rw [if_neg k8, if_neg (by omega), if_neg (by omega)] at hd
      split at hd
      · repeat' split at hd
        all_goals first | cases hd | skip
        all_goals rfl
      · cases hd
/-- what is twisted is come to but once -/
theorem tw_new {al sp ar A B i k N : Nat} {s0 s' : St} {Q : Nat → St} {par mv dep : Nat → Nat} (h : PB (nxC al sp ar) s0 i k N Q par mv dep) (hQ : ∀ j, j < N → uV A B s0 (Q j)) (hi : i < N) (hk : k < 10) (hn : nxC al sp ar k (Q i) = some s') (hz : ¬ s'.2.2.2.2 = 2) : ∀ j, j < N → Q j ≠ s' := by
  intro j hj e
  obtain ⟨a0, a1, a2, a3, a4, a5⟩ := st_do_tw (by omega) (nxC_do hn) hz
  by_cases j0 : j = 0
  · rw [j0, h.2.1] at e
    obtain ⟨-, -, u3⟩ := hQ i hi
    rw [e] at u3
    omega
  · have p := h.2.2.2.2.1 j (by omega) hj
    have pn := p.2.2.1
    rw [e] at pn
    obtain ⟨b0, b1, b2, b3, b4, b5⟩ := st_do_tw (by omega) (nxC_do pn) hz
    have eq : Q (par j) = Q i := Prod.ext (b1.trans a1.symm) (Prod.ext (b2.trans a2.symm) (Prod.ext (b3.trans a3.symm) (Prod.ext (b4.trans a4.symm) (by omega))))
    have ep := h.2.2.2.1 (par j) i (by omega) hi eq
    have l := h.2.2.2.2.2.2.2 j (by omega) hj
    unfold lx at l
    omega
theorem bit_1 {al k : Nat} (ha : al < 2147483648) (hk : k < 32) : ((nI al >>> (nI k &&& 31)) &&& (1 : Int32) = (1 : Int32)) ↔ (al >>> k) % 2 = 1 := by
  rw [nm_shr (by omega) hk, show (1 : Int32) = nI (2 ^ 1 - 1) from rfl, nm_and, nm_andm, nI_eq (by omega) (by omega)]
def SC (nx : Nat → St → Option St) (A B : Nat) (s0 : St) (i k N P : Nat) (Q : Nat → St) (par mv dep : Nat → Nat) (D : Nat → Nat × Nat) (f : Nat → Nat → Int32) : Prop :=
  PB nx s0 i k N Q par mv dep ∧ (∀ j, j < N → uV A B s0 (Q j)) ∧ f 61 14 = nI N ∧ f 61 15 = nI P ∧ PKG (f 62) P D ∧ PLC (f 63) N Q P D ∧ COV N Q P D ∧ (∀ j, j < N → f 64 j = st_P (Q j) ∧ f 68 j = nI (dep j)) ∧ (∀ j, 1 ≤ j → j < N → f 66 j = nI (par j) ∧ f 67 j = nI (mv j)) ∧
  (∀ a b, a < N → b < 10 → lx a b i k → (nx b (Q a) = none ∧ f 65 (a * 10 + b) = -1) ∨ (∃ j, j < N ∧ nx b (Q a) = some (Q j) ∧ f 65 (a * 10 + b) = nI j))
section OPS
variable {L : Nat} {xs : Nat → Int32} {d : Nat}
theorem x_none {g go : xm_H} {t al sp ar i k : Nat} {s : St} {l3 : Int32} {l5 : Option Value} (hR : g.2.2 = xm_R0 t) (ht : t = 5 ∨ t = 13) (hal : al < 1024) (hsp : sp ≤ 60) (e11 : g.1 61 11 = nI al) (e12 : g.1 61 12 = nI sp) (hi : i < 640) (hk : k < 10) (hK : st_K s) (h3 : l3 = if ar < s.1 then 0 else 1) (hn : nxC al sp ar k s = none) (K : ∀ l5, xm_E (xm_X0 L xs) xm_P (d + 7) co_X3_expand 16 [some (.ref 61), some (.int (nI i)), some (.int (st_P s)), some (.int l3), some (.int (nI (k + 1))), l5] [] (xm_si g 65 (i * 10 + k) (-1)) none go) : xm_E (xm_X0 L xs) xm_P (d + 7) co_X3_expand 16 [some (.ref 61), some (.int (nI i)), some (.int (st_P s)), some (.int l3), some (.int (nI k)), l5] [] g none go := by
  have c0 : ¬ ((10 : Int32) ≤ nI k) := nI_ge (b := 10) hk (by decide)
  have ex : (nI i * (10 : Int32)) + nI k = nI (i * 10 + k) := by rw [show (10 : Int32) = nI 10 from rfl, nm_mul, nI_add]
  have cx : ¬ ((nI i * (10 : Int32)) + nI k < 0 ∨ 6400 ≤ ((nI i * (10 : Int32)) + nI k).toNatClampNeg) := by rw [ex]; exact nI_in (by omega) (by decide)
  have ecl : ((nI i * (10 : Int32)) + nI k).toNatClampNeg = i * 10 + k := by rw [ex]; exact nI_clamp (by omega)
  have ep := cx_possible (s := s) (room := sp) (a := k) hK (by omega) (by omega)
  have cb := bit_1 (al := al) (k := k) (by omega) (by omega)
  unfold nxC at hn
  by_cases hb : (al >>> k) % 2 = 1
  · have c1 : ((g.1 61 11) >>> (nI k &&& 31)) &&& (1 : Int32) = (1 : Int32) := by rw [e11]; exact cb.mpr hb
    by_cases h2 : 2 < k
    · rw [if_pos ⟨hb, Or.inl h2⟩] at hn
      refine s_X3_expand_16_1 hR ht c0 c1 (show (2 : Int32) < nI k from nI_lt (a := 2) h2 (by omega)) (by rw [e12, ep, hn]; rfl) cx ?_
      rw [ecl, nI_1]
      exact K _
    · have c2 : ¬ ((2 : Int32) < nI k) := nI_nlt (a := 2) (by omega) (by decide)
      by_cases ha : ar < s.1
      · rw [if_pos ha] at h3
        refine s_X3_expand_16_3 hR ht c0 c1 c2 h3 cx ?_
        rw [ecl, nI_1]
        exact K _
      · rw [if_neg ha] at h3
        rw [if_pos ⟨hb, Or.inr (by omega)⟩] at hn
        refine s_X3_expand_16_4 hR ht c0 c1 c2 (by rw [h3]; exact one_ne0) (by rw [e12, ep, hn]; rfl) cx ?_
        rw [ecl, nI_1]
        exact K _
  · refine s_X3_expand_16_6 hR ht c0 (by rw [e11, cb]; exact hb) cx ?_
    rw [ecl, nI_1]
    exact K _
theorem x_some {g g1 go : xm_H} {t al sp ar i k : Nat} {s s' : St} {l3 r : Int32} {l5 : Option Value} (hR : g.2.2 = xm_R0 t) (ht : t = 5 ∨ t = 13) (hal : al < 1024) (hsp : sp ≤ 60) (e11 : g.1 61 11 = nI al) (e12 : g.1 61 12 = nI sp) (hi : i < 640) (hk : k < 10) (hK : st_K s) (h3 : l3 = if ar < s.1 then 0 else 1) (hn : nxC al sp ar k s = some s') (V : xm_V (xm_X0 L xs) xm_P (d + 7) 84 [.ref 61, .int (st_P s'), .int (nI i), .int (nI k)] g (some (.int r)) g1) (K : ∀ l5, xm_E (xm_X0 L xs) xm_P (d + 7) co_X3_expand 16 [some (.ref 61), some (.int (nI i)), some (.int (st_P s)), some (.int l3), some (.int (nI (k + 1))), l5] [] (xm_si g1 65 (i * 10 + k) r) none go) : xm_E (xm_X0 L xs) xm_P (d + 7) co_X3_expand 16 [some (.ref 61), some (.int (nI i)), some (.int (st_P s)), some (.int l3), some (.int (nI k)), l5] [] g none go := by
  have c0 : ¬ ((10 : Int32) ≤ nI k) := nI_ge (b := 10) hk (by decide)
  have ex : (nI i * (10 : Int32)) + nI k = nI (i * 10 + k) := by rw [show (10 : Int32) = nI 10 from rfl, nm_mul, nI_add]
  have cx : ¬ ((nI i * (10 : Int32)) + nI k < 0 ∨ 6400 ≤ ((nI i * (10 : Int32)) + nI k).toNatClampNeg) := by rw [ex]; exact nI_in (by omega) (by decide)
  have ecl : ((nI i * (10 : Int32)) + nI k).toNatClampNeg = i * 10 + k := by rw [ex]; exact nI_clamp (by omega)
  have ep := cx_possible (s := s) (room := sp) (a := k) hK (by omega) (by omega)
  have hd := nxC_do hn
  rw [hd] at ep
  have ef := cx_folded hK (by omega) hd
  have cb := bit_1 (al := al) (k := k) (by omega) (by omega)
  rw [← ef] at V
  unfold nxC at hn
  split at hn
  · rename_i hh
    obtain ⟨hb, hh⟩ := hh
    have c1 : ((g.1 61 11) >>> (nI k &&& 31)) &&& (1 : Int32) = (1 : Int32) := by rw [e11]; exact cb.mpr hb
    by_cases h2 : 2 < k
    · refine s_X3_expand_16_2 hR ht c0 c1 (show (2 : Int32) < nI k from nI_lt (a := 2) h2 (by omega)) (by rw [e12, ep]; exact one_ne0) V cx ?_
      rw [ecl, nI_1]
      exact K _
    · have c2 : ¬ ((2 : Int32) < nI k) := nI_nlt (a := 2) (by omega) (by decide)
      rw [if_neg (show ¬ ar < s.1 by omega)] at h3
      refine s_X3_expand_16_5 hR ht c0 c1 c2 (by rw [h3]; exact one_ne0) (by rw [e12, ep]; exact one_ne0) V cx ?_
      rw [ecl, nI_1]
      exact K _
  · cases hn
theorem v_expand {h : xm_H} {t al sp ar A B i N P : Nat} {s0 : St} {Q : Nat → St} {par mv dep : Nat → Nat} {D : Nat → Nat × Nat} (hR : h.2.2 = xm_R0 t) (ht : t = 5 ∨ t = 13) (hA : A < 49) (hB : B < 49) (hK0 : st_K s0) (hal : al < 1024) (hsp : sp ≤ 60) (har : ar ≤ 60) (e11 : h.1 61 11 = nI al) (e12 : h.1 61 12 = nI sp) (e13 : h.1 61 13 = nI ar) (hi : i < N) (hS : SC (nxC al sp ar) A B s0 i 0 N P Q par mv dep D h.1) : ∃ (g : xm_H) (N' P' : Nat) (Q' : Nat → St) (par' mv' dep' : Nat → Nat) (D' : Nat → Nat × Nat), xm_V (xm_X0 L xs) xm_P (d + 10) 86 [.ref 61, .int (nI i)] h none g ∧ g.2 = h.2 ∧ (∀ q, (q < 61 ∨ 68 < q) → g.1 q = h.1 q) ∧ (∀ x, x ≠ 14 → x ≠ 15 → g.1 61 x = h.1 61 x) ∧ N ≤ N' ∧ SC (nxC al sp ar) A B s0 (i + 1) 0 N' P' Q' par' mv' dep' D' g.1 := by
  have hKi := (hS.2.1 i hi).1
  have hN640 : N ≤ 640 := uV_len hA hB hK0 hS.2.1 hS.1.2.2.2.1
  generalize es : Q i = s at hKi
  have loop : ∀ m k (g : xm_H) (N1 P1 : Nat) (Q1 : Nat → St) (par1 mv1 dep1 : Nat → Nat) (D1 : Nat → Nat × Nat) (l3 : Int32), m + k = 10 → g.2 = h.2 → (∀ q, (q < 61 ∨ 68 < q) → g.1 q = h.1 q) → (∀ x, x ≠ 14 → x ≠ 15 → g.1 61 x = h.1 61 x) → N ≤ N1 → Q1 i = s → (l3 = if ar < s.1 then 0 else 1) → SC (nxC al sp ar) A B s0 i k N1 P1 Q1 par1 mv1 dep1 D1 g.1 → ∃ (g' : xm_H) (N' P' : Nat) (Q' : Nat → St) (par' mv' dep' : Nat → Nat) (D' : Nat → Nat × Nat), (∀ l5, xm_E (xm_X0 L xs) xm_P (d + 9) co_X3_expand 16 [some (.ref 61), some (.int (nI i)), some (.int (st_P s)), some (.int l3), some (.int (nI k)), l5] [] g none g') ∧ g'.2 = h.2 ∧ (∀ q, (q < 61 ∨ 68 < q) → g'.1 q = h.1 q) ∧ (∀ x, x ≠ 14 → x ≠ 15 → g'.1 61 x = h.1 61 x) ∧ N ≤ N' ∧ SC (nxC al sp ar) A B s0 (i + 1) 0 N' P' Q' par' mv' dep' D' g'.1 := by
    intro m
    induction m with
    | zero =>
      intro k g N1 P1 Q1 par1 mv1 dep1 D1 l3 hm g2 gq g61 hN1 hQ1 h3 hS1
      have hk : k = 10 := by omega
      subst hk
      obtain ⟨s1, s2, s3, s4, s5, s6, s7, s8, s9, s10⟩ := hS1
      refine ⟨g, N1, P1, Q1, par1, mv1, dep1, D1, fun l5 => s_X3_expand_16_0 (d := d + 2) (by decide), g2, gq, g61, hN1, s1.next, s2, s3, s4, s5, s6, s7, s8, s9, fun a b ha hb hl => s10 a b ha hb ?_⟩
      unfold lx at *; omega
    | succ m ih =>
      intro k g N1 P1 Q1 par1 mv1 dep1 D1 l3 hm g2 gq g61 hN1 hQ1 h3 hS1
      have gR : g.2.2 = xm_R0 t := by rw [g2]; exact hR
      have hk : k < 10 := by omega
      have hi1 : i < N1 := by omega
      have hi640 : i < 640 := by omega
      have f11 : g.1 61 11 = nI al := (g61 11 (by decide) (by decide)).trans e11
      have f12 : g.1 61 12 = nI sp := (g61 12 (by decide) (by decide)).trans e12
      obtain ⟨s1, s2, s3, s4, s5, s6, s7, s8, s9, s10⟩ := hS1
      cases hn : nxC al sp ar k s with
      | none =>
        have hn' : nxC al sp ar k (Q1 i) = none := by rw [hQ1]; exact hn
        obtain ⟨g', N', P', Q', par', mv', dep', D', E, r1, r2, r3, r4, r5⟩ := ih (k + 1) (xm_si g 65 (i * 10 + k) (-1)) N1 P1 Q1 par1 mv1 dep1 D1 l3 (by omega) g2 (fun q hq => by rw [xm_rn (by omega)]; exact gq q hq) (fun x h1 h2 => by rw [xm_rn (by decide)]; exact g61 x h1 h2) hN1 hQ1 h3 (by
          refine ⟨s1.skip hn', s2, by rw [xm_rn (by decide)]; exact s3, by rw [xm_rn (by decide)]; exact s4, by rw [xm_rn (by decide)]; exact s5, by rw [xm_rn (by decide)]; exact s6, s7, fun j hj => by rw [xm_rn (by decide), xm_rn (by decide)]; exact s8 j hj, fun j h1 hj => by rw [xm_rn (by decide), xm_rn (by decide)]; exact s9 j h1 hj, fun a b ha hb hl => ?_⟩
          rcases lx_s hl with hl | ⟨ea, eb⟩
          · have ne : a * 10 + b ≠ i * 10 + k := by
              intro e
              unfold lx at hl
              omega
            rw [xm_rk ne]
            exact s10 a b ha hb hl
          · rw [ea, eb]
            exact Or.inl ⟨hn', xm_ra⟩)
        exact ⟨g', N', P', Q', par', mv', dep', D', fun l5 => x_none (d := d + 2) gR ht hal hsp f11 f12 hi640 hk hKi h3 hn E, r1, r2, r3, r4, r5⟩
      | some s' =>
        have hn' : nxC al sp ar k (Q1 i) = some s' := by rw [hQ1]; exact hn
        have hu : uV A B s0 s' := uV_do hA hB (s2 i hi1) (by omega) (nxC_do hn')
        have V := v_place (L := L) (xs := xs) (d := d) (l2 := nI i) (l3 := nI k) (dv := nI (dep1 i + 1)) gR ht hA hB hK0 hu s2 s1.2.2.2.1 s3 s4 s5 s6 s7 (fun hz => tw_new s1 s2 hi1 hk hn' hz) (Or.inr ⟨i, hi1, rfl, by rw [(s8 i hi1).2, nI_1]⟩)
        rcases V with ⟨j, g1, P', D', hj, hjs, V, b2, bq, b61, b15, bP, bl, bc⟩ | ⟨g1, P', D', hN, hne, V, b2, bq, b61, b14, b15, bP, bl, bc, b64, b66, b67, b68⟩
        · obtain ⟨g', N', P', Q', par', mv', dep', D', E, r1, r2, r3, r4, r5⟩ := ih (k + 1) (xm_si g1 65 (i * 10 + k) (nI j)) N1 P' Q1 par1 mv1 dep1 D' l3 (by omega) (b2.trans g2) (fun q hq => by rw [xm_rn (by omega), bq q (by omega) (by omega)]; exact gq q hq) (fun x h1 h2 => by rw [xm_rn (by decide), b61 x h2]; exact g61 x h1 h2) hN1 hQ1 h3 (by
            refine ⟨s1.seen hn' hj hjs, s2, by rw [xm_rn (by decide), b61 14 (by decide)]; exact s3, by rw [xm_rn (by decide)]; exact b15, by rw [xm_rn (by decide)]; exact bP, by rw [xm_rn (by decide)]; exact bl, bc, fun j hj => by rw [xm_rn (by decide), xm_rn (by decide), bq 64 (by decide) (by decide), bq 68 (by decide) (by decide)]; exact s8 j hj, fun j h1 hj => by rw [xm_rn (by decide), xm_rn (by decide), bq 66 (by decide) (by decide), bq 67 (by decide) (by decide)]; exact s9 j h1 hj, fun a b ha hb hl => ?_⟩
            rcases lx_s hl with hl | ⟨ea, eb⟩
            · have ne : a * 10 + b ≠ i * 10 + k := by
                intro e
                unfold lx at hl
                omega
              rw [xm_rk ne, bq 65 (by decide) (by decide)]
              exact s10 a b ha hb hl
            · rw [ea, eb]
              exact Or.inr ⟨j, hj, by rw [hjs]; exact hn', xm_ra⟩)
          exact ⟨g', N', P', Q', par', mv', dep', D', fun l5 => x_some (d := d + 2) gR ht hal hsp f11 f12 hi640 hk hKi h3 hn V E, r1, r2, r3, r4, r5⟩
        · obtain ⟨g', N', P', Q', par', mv', dep', D', E, r1, r2, r3, r4, r5⟩ := ih (k + 1) (xm_si g1 65 (i * 10 + k) (nI N1)) (N1 + 1) P' (fu Q1 N1 s') (fu par1 N1 i) (fu mv1 N1 k) (fu dep1 N1 (dep1 i + 1)) D' l3 (by omega) (b2.trans g2) (fun q hq => by rw [xm_rn (by omega), bq q (by omega) (by omega) (by omega) (by omega) (by omega) (by omega) (by omega)]; exact gq q hq) (fun x h1 h2 => by rw [xm_rn (by decide), b61 x h1 h2]; exact g61 x h1 h2) (by omega) (by rw [fu_k (by omega)]; exact hQ1) h3 (by
            refine ⟨s1.add hn' hi1 hk hne, fun j hj => ?_, by rw [xm_rn (by decide)]; exact b14, by rw [xm_rn (by decide)]; exact b15, by rw [xm_rn (by decide)]; exact bP, by rw [xm_rn (by decide)]; exact bl, bc, fun j hj => ?_, fun j h1 hj => ?_, fun a b ha hb hl => ?_⟩
            · by_cases jN : j = N1
              · rw [jN, fu_a]; exact hu
              · rw [fu_k jN]; exact s2 j (by omega)
            · rw [xm_rn (by decide), xm_rn (by decide), b64, b68]
              by_cases jN : j = N1
              · rw [jN, fu_a, fu_a, fu_a, fu_a]; exact ⟨rfl, rfl⟩
              · rw [fu_k jN, fu_k jN, fu_k jN, fu_k jN]; exact s8 j (by omega)
            · rw [xm_rn (by decide), xm_rn (by decide), b66, b67]
              by_cases jN : j = N1
              · rw [jN, fu_a, fu_a, fu_a, fu_a]; exact ⟨rfl, rfl⟩
              · rw [fu_k jN, fu_k jN, fu_k jN, fu_k jN]; exact s9 j h1 (by omega)
            · have aN : a ≠ N1 := by
                intro e
                unfold lx at hl
                omega
              rw [fu_k aN]
              rcases lx_s hl with hl | ⟨ea, eb⟩
              · have ne : a * 10 + b ≠ i * 10 + k := by
                  intro e
                  unfold lx at hl
                  omega
                rw [xm_rk ne, bq 65 (by decide) (by decide) (by decide) (by decide) (by decide) (by decide) (by decide)]
                rcases s10 a b (by omega) hb hl with q | ⟨j, q1, q2, q3⟩
                · exact Or.inl q
                · exact Or.inr ⟨j, by omega, by rw [fu_k (by omega)]; exact q2, q3⟩
              · rw [ea, eb]
                exact Or.inr ⟨N1, by omega, by rw [fu_a]; exact hn', xm_ra⟩)
          exact ⟨g', N', P', Q', par', mv', dep', D', fun l5 => x_some (d := d + 2) gR ht hal hsp f11 f12 hi640 hk hKi h3 hn V E, r1, r2, r3, r4, r5⟩
  have e64 : h.1 64 (nI i).toNatClampNeg = st_P s := by rw [nI_clamp (by omega), (hS.2.2.2.2.2.2.2.1 i hi).1, es]
  have ci : ¬ (nI i < 0 ∨ 640 ≤ (nI i).toNatClampNeg) := nI_in (by omega) (by decide)
  by_cases ha : ar < s.1
  · obtain ⟨g', N', P', Q', par', mv', dep', D', E, r1, r2, r3, r4, r5⟩ := loop 10 0 h N P Q par mv dep D 0 rfl rfl (fun _ _ => rfl) (fun _ _ _ => rfl) (Nat.le_refl _) es (by rw [if_pos ha]) hS
    refine ⟨g', N', P', Q', par', mv', dep', D', v_X3_expand (d := d + 9) (s_X3_expand_0_0 (d := d + 2) hR ht ci (by rw [e64, e13, cx_long hKi]; exact nI_lt ha (by have := hKi.1.2; omega)) ?_), r1, r2, r3, r4, r5⟩
    rw [e64]
    exact E _
  · obtain ⟨g', N', P', Q', par', mv', dep', D', E, r1, r2, r3, r4, r5⟩ := loop 10 0 h N P Q par mv dep D 1 rfl rfl (fun _ _ => rfl) (fun _ _ _ => rfl) (Nat.le_refl _) es (by rw [if_neg ha]) hS
    refine ⟨g', N', P', Q', par', mv', dep', D', v_X3_expand (d := d + 9) (s_X3_expand_0_1 (d := d + 2) hR ht ci (by rw [e64, e13, cx_long hKi]; exact nI_nlt (by omega) (by omega)) ?_), r1, r2, r3, r4, r5⟩
    rw [e64]
    exact E _
end OPS
