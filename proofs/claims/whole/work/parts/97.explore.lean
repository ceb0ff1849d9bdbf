/-! The search whole; what it keeps between calls. -/
def FND (al sp ar : Nat) (s0 : St) (N P : Nat) (Q : Nat → St) (par mv dep : Nat → Nat) (D : Nat → Nat × Nat) (f : Nat → Nat → Int32) : Prop := ∃ A B, A < 49 ∧ B < 49 ∧ f 61 11 = nI al ∧ f 61 12 = nI sp ∧ f 61 13 = nI ar ∧ SC (nxC al sp ar) A B s0 N 0 N P Q par mv dep D f
def SRCH (f : Nat → Nat → Int32) : Prop := (f 61 14 = nI 0 ∧ ∀ e, d48 e → f 62 (cel e) = 0) ∨ (∃ al sp ar s0 N P Q par mv dep D, al < 1024 ∧ sp ≤ 60 ∧ ar ≤ 60 ∧ st_K s0 ∧ FND al sp ar s0 N P Q par mv dep D f)
theorem st_P_inj {s s' : St} (h : st_K s) (h' : st_K s') (e : st_P s = st_P s') : s = s' := by
  have a1 := cx_long h
  have a2 := cx_wide h
  have a3 := cx_hem h
  have a4 := cx_face h
  have a5 := st_twist h.ok
  rw [e] at a1 a2 a3 a4
  rw [cx_long h'] at a1
  rw [cx_wide h'] at a2
  rw [cx_hem h'] at a3
  rw [cx_face h'] at a4
  have e' : nI (st_pk s.1 s.2.1 s.2.2.1 s.2.2.2.1 s.2.2.2.2) = nI (st_pk s'.1 s'.2.1 s'.2.2.1 s'.2.2.2.1 s'.2.2.2.2) := e
  rw [e', st_twist h'.ok] at a5
  obtain ⟨⟨-, q1⟩, ⟨-, q2⟩, q3, q4, q5⟩ := h
  obtain ⟨⟨-, r1⟩, ⟨-, r2⟩, r3, r4, r5⟩ := h'
  rw [nI_eq (by omega) (by omega)] at a1 a2 a3 a4 a5
  exact Prod.ext a1.symm (Prod.ext a2.symm (Prod.ext a3.symm (Prod.ext a4.symm a5.symm)))
section OPS
variable {L : Nat} {xs : Nat → Int32} {d : Nat}
theorem v_forget {h : xm_H} {t N P : Nat} {Q : Nat → St} {D : Nat → Nat × Nat} (hR : h.2.2 = xm_R0 t) (ht : t = 5 ∨ t = 13) (hN : N ≤ 640) (e14 : h.1 61 14 = nI N) (hQ : ∀ j, j < N → h.1 64 j = st_P (Q j) ∧ st_K (Q j)) (hP : PKG (h.1 62) P D) (cov : COV N Q P D) : ∃ g, xm_V (xm_X0 L xs) xm_P (d + 8) 82 [.ref 61] h none g ∧ g.2 = h.2 ∧ (∀ q, q ≠ 61 → q ≠ 62 → q ≠ 63 → g.1 q = h.1 q) ∧ (∀ x, x ≠ 14 → x ≠ 15 → g.1 61 x = h.1 61 x) ∧ g.1 61 14 = nI 0 ∧ g.1 61 15 = nI 0 ∧ (∀ e, d48 e → g.1 62 (cel e) = 0) ∧ (∀ x, x < 1440 → g.1 63 x = 0) := by
  have loop : ∀ m i (g : xm_H), m + i = N → g.2 = h.2 → (∀ q, q ≠ 62 → g.1 q = h.1 q) → (∀ x, g.1 62 x = h.1 62 x ∨ g.1 62 x = 0) → (∀ j, j < i → g.1 62 (cel (dm (Q j))) = 0) → ∃ g', (∀ l2, xm_E (xm_X0 L xs) xm_P (d + 7) co_X3_forget 2 [some (.ref 61), some (.int (nI i)), l2] [] g none g') ∧ g'.2 = h.2 ∧ (∀ q, q ≠ 61 → q ≠ 62 → q ≠ 63 → g'.1 q = h.1 q) ∧ (∀ x, x ≠ 14 → x ≠ 15 → g'.1 61 x = h.1 61 x) ∧ g'.1 61 14 = nI 0 ∧ g'.1 61 15 = nI 0 ∧ (∀ e, d48 e → g'.1 62 (cel e) = 0) ∧ (∀ x, x < 1440 → g'.1 63 x = 0) := by
    intro m
    induction m with
    | zero =>
      intro i g hm g2 gq g62 gz
      have hi : i = N := by omega
      subst hi
      obtain ⟨g1, V, b2, bq, bz⟩ := v_fillI (L := L) (xs := xs) (d := d + 6) (h := g) (v := 63) (x := 0) xs_63 (by decide)
      refine ⟨_, fun l2 => s_X3_forget_2_0 (d := d) (by rw [g2]; exact hR) ht (by rw [gq 61 (by decide), e14]; exact nI_le (Nat.le_refl _) (by omega)) V, b2.trans g2, fun q h1 h2 h3 => ?_, fun x h1 h2 => ?_, ?_, ?_, fun e he => ?_, fun x hx => ?_⟩
      · rw [xm_rn h1, xm_rn h1, bq q h3, gq q h2]
      · rw [xm_rk h2, xm_rk h1, bq 61 (by decide), gq 61 (by decide)]
      · rw [xm_rk (by decide), xm_ra]; rfl
      · rw [xm_ra]; rfl
      · rw [xm_rn (by decide), xm_rn (by decide), bq 62 (by decide)]
        by_cases hh : ∃ p, p < P ∧ D p = e
        · obtain ⟨p, hp, hpe⟩ := hh
          obtain ⟨j, hj, -, c2⟩ := cov p hp
          rw [← hpe, ← c2]
          exact gz j hj
        · have z : h.1 62 (cel e) = 0 := hP.2.2 e he (fun p hp q => hh ⟨p, hp, q⟩)
          rcases g62 (cel e) with q | q
          · rw [q, z]
          · exact q
      · rw [xm_rn (by decide), xm_rn (by decide)]
        exact bz x hx
    | succ m ih =>
      intro i g hm g2 gq g62 gz
      have hi : i < N := by omega
      obtain ⟨q1, q2⟩ := hQ i hi
      have ei : (nI i).toNatClampNeg = i := nI_clamp (by omega)
      have ec : F_X3_cellOf (g.1 64 (nI i).toNatClampNeg) = nI (cel (dm (Q i))) := by rw [ei, gq 64 (by decide), q1, cx_cell q2]
      have hc := cel_lt (dm_48 q2)
      have ecl : (nI (cel (dm (Q i)))).toNatClampNeg = cel (dm (Q i)) := nI_clamp (by omega)
      obtain ⟨g', E, r⟩ := ih (i + 1) (xm_si g 62 (cel (dm (Q i))) 0) (by omega) g2 (fun q hq => by rw [xm_rn hq]; exact gq q hq) (fun x => by
        by_cases hx : x = cel (dm (Q i))
        · rw [hx, xm_ra]; exact Or.inr rfl
        · rw [xm_rk hx]; exact g62 x) (fun j hj => by
        by_cases hx : cel (dm (Q j)) = cel (dm (Q i))
        · rw [hx, xm_ra]
        · rw [xm_rk hx]
          by_cases ji : j = i
          · rw [ji] at hx; exact absurd rfl hx
          · exact gz j (by omega))
      refine ⟨g', fun l2 => s_X3_forget_2_3 (d := d) (by rw [g2]; exact hR) ht (by rw [gq 61 (by decide), e14]; exact nI_ge hi (by omega)) (nI_ge (b := 640) (by omega) (by decide)) (nI_in (by omega) (by decide)) (by rw [ec]; exact n1_ne (by omega)) (by rw [ec]; exact nI_in hc (by decide)) ?_, r⟩
      rw [ec, ecl, nI_1]
      exact E _
  obtain ⟨g', E, r⟩ := loop N 0 h rfl rfl (fun _ _ => rfl) (fun _ => Or.inl rfl) (fun j hj => absurd hj (Nat.not_lt_zero _))
  exact ⟨g', v_X3_forget (d := d + 7) (s_X3_forget_0_0 (d := d) (E _)), r⟩
theorem v_explore {h : xm_H} {t al sp ar A B : Nat} {s0 : St} (hR : h.2.2 = xm_R0 t) (ht : t = 5 ∨ t = 13) (hA : A < 49) (hB : B < 49) (hK0 : st_K s0) (hU : uS A B s0) (hal : al < 1024) (hsp : sp ≤ 60) (har : ar ≤ 60) (hS : SRCH h.1) : ∃ (g : xm_H) (N P : Nat) (Q : Nat → St) (par mv dep : Nat → Nat) (D : Nat → Nat × Nat), xm_V (xm_X0 L xs) xm_P (d + 11) 81 [.ref 61, .int (st_P s0), .int (nI al), .int (nI sp), .int (nI ar)] h none g ∧ g.2 = h.2 ∧ (∀ q, (q < 61 ∨ 68 < q) → g.1 q = h.1 q) ∧ FND al sp ar s0 N P Q par mv dep D g.1 := by
  have loop : ∀ m i (g : xm_H) (N P : Nat) (Q : Nat → St) (par mv dep : Nat → Nat) (D : Nat → Nat × Nat), m + i = 640 → i ≤ N → g.2 = h.2 → (∀ q, (q < 61 ∨ 68 < q) → g.1 q = h.1 q) → g.1 61 11 = nI al → g.1 61 12 = nI sp → g.1 61 13 = nI ar → SC (nxC al sp ar) A B s0 i 0 N P Q par mv dep D g.1 → ∃ (g' : xm_H) (N' P' : Nat) (Q' : Nat → St) (par' mv' dep' : Nat → Nat) (D' : Nat → Nat × Nat), xm_E (xm_X0 L xs) xm_P (d + 10) co_X3_explore 41 [some (.ref 61), some (.int (st_P s0)), some (.int (nI al)), some (.int (nI sp)), some (.int (nI ar)), some (.int (nI i))] [] g none g' ∧ g'.2 = h.2 ∧ (∀ q, (q < 61 ∨ 68 < q) → g'.1 q = h.1 q) ∧ FND al sp ar s0 N' P' Q' par' mv' dep' D' g'.1 := by
    intro m
    induction m with
    | zero =>
      intro i g N P Q par mv dep D hm hi g2 gq g11 g12 g13 hS
      have hN640 : N ≤ 640 := uV_len hA hB hK0 hS.2.1 hS.1.2.2.2.1
      have hiN : i = N := by omega
      subst hiN
      exact ⟨g, i, P, Q, par, mv, dep, D, s_X3_explore_41_0 (d := d + 3) (by rw [hS.2.2.1]; exact nI_le (Nat.le_refl _) (by omega)), g2, gq, A, B, hA, hB, g11, g12, g13, hS⟩
    | succ m ih =>
      intro i g N P Q par mv dep D hm hi g2 gq g11 g12 g13 hS
      have hN640 : N ≤ 640 := uV_len hA hB hK0 hS.2.1 hS.1.2.2.2.1
      by_cases hiN : i = N
      · subst hiN
        exact ⟨g, i, P, Q, par, mv, dep, D, s_X3_explore_41_0 (d := d + 3) (by rw [hS.2.2.1]; exact nI_le (Nat.le_refl _) (by omega)), g2, gq, A, B, hA, hB, g11, g12, g13, hS⟩
      · obtain ⟨g1, N1, P1, Q1, par1, mv1, dep1, D1, V, b2, bq, b61, bN, bS⟩ := v_expand (L := L) (xs := xs) (d := d) (i := i) (by rw [g2]; exact hR) ht hA hB hK0 hal hsp har g11 g12 g13 (by omega) hS
        obtain ⟨g', N', P', Q', par', mv', dep', D', E, r⟩ := ih (i + 1) g1 N1 P1 Q1 par1 mv1 dep1 D1 (by omega) (by omega) (b2.trans g2) (fun q hq => (bq q hq).trans (gq q hq)) ((b61 11 (by decide) (by decide)).trans g11) ((b61 12 (by decide) (by decide)).trans g12) ((b61 13 (by decide) (by decide)).trans g13) bS
        refine ⟨g', N', P', Q', par', mv', dep', D', s_X3_explore_41_2 (d := d + 3) (by rw [hS.2.2.1]; exact nI_ge (by omega) (by omega)) (nI_ge (b := 640) (by omega) (by decide)) V ?_, r⟩
        rw [nI_1]
        exact E
  have fresh : ∀ (N P : Nat) (Q : Nat → St) (D : Nat → Nat × Nat), N ≤ 640 → h.1 61 14 = nI N → (∀ j, j < N → h.1 64 j = st_P (Q j) ∧ st_K (Q j)) → PKG (h.1 62) P D → COV N Q P D → ∃ (h2 h3 g' : xm_H) (r3 : Int32) (N' P' : Nat) (Q' : Nat → St) (par' mv' dep' : Nat → Nat) (D' : Nat → Nat × Nat), xm_V (xm_X0 L xs) xm_P (d + 10) 82 [.ref 61] h none h2 ∧ xm_V (xm_X0 L xs) xm_P (d + 10) 84 [.ref 61, .int (st_P s0), .int (-1 : Int32), .int (-1 : Int32)] (xm_si (xm_si (xm_si h2 61 11 (nI al)) 61 12 (nI sp)) 61 13 (nI ar)) (some (.int r3)) h3 ∧ xm_E (xm_X0 L xs) xm_P (d + 10) co_X3_explore 41 [some (.ref 61), some (.int (st_P s0)), some (.int (nI al)), some (.int (nI sp)), some (.int (nI ar)), some (.int (0 : Int32))] [] h3 none g' ∧ g'.2 = h.2 ∧ (∀ q, (q < 61 ∨ 68 < q) → g'.1 q = h.1 q) ∧ FND al sp ar s0 N' P' Q' par' mv' dep' D' g'.1 := by
    intro N P Q D hN e14 hQ hP cov
    obtain ⟨h2, V2, a2, aq, a61, a14, a15, a62, a63⟩ := v_forget (L := L) (xs := xs) (d := d + 2) hR ht hN e14 hQ hP cov
    have ef : fu (fun _ => s0) 0 s0 = fun _ => s0 := by
      funext j
      unfold fu
      split <;> rfl
    have uv0 := uV_0 (A := A) (B := B) hK0 hU
    have V := v_place (L := L) (xs := xs) (d := d + 1) (h := xm_si (xm_si (xm_si h2 61 11 (nI al)) 61 12 (nI sp)) 61 13 (nI ar)) (t := t) (N := 0) (P := 0) (A := A) (B := B) (s0 := s0) (s := s0) (Q := fun _ => s0) (D := fun _ => (1, 1)) (l2 := -1) (l3 := -1) (dv := 0) (by show h2.2.2 = _; rw [a2]; exact hR) ht hA hB hK0 uv0 (fun j hj => absurd hj (Nat.not_lt_zero _)) (fun a b ha => absurd ha (Nat.not_lt_zero _)) (by rw [xm_rk (by decide), xm_rk (by decide), xm_rk (by decide)]; exact a14) (by rw [xm_rk (by decide), xm_rk (by decide), xm_rk (by decide)]; exact a15) (by
      rw [xm_rn (by decide), xm_rn (by decide), xm_rn (by decide)]
      exact ⟨by omega, fun p hp => absurd hp (Nat.not_lt_zero _), fun e he _ => a62 e he⟩) (by
      rw [xm_rn (by decide), xm_rn (by decide), xm_rn (by decide)]
      exact ⟨fun j hj => absurd hj (Nat.not_lt_zero _), fun p r hp => absurd hp (Nat.not_lt_zero _), fun x _ hx => a63 x hx⟩) (fun p hp => absurd hp (Nat.not_lt_zero _)) (fun _ j hj => absurd hj (Nat.not_lt_zero _)) (Or.inl ⟨by decide, rfl⟩)
    rcases V with ⟨j, -, -, -, hj, -⟩ | ⟨h3, P', D', -, -, V3, b2, bq, b61, b14, b15, bP, bl, bc, b64, b66, b67, b68⟩
    · exact absurd hj (Nat.not_lt_zero _)
    · rw [ef] at bl bc
      have ct : ∀ x, x ≠ 14 → x ≠ 15 → h3.1 61 x = (xm_si (xm_si (xm_si h2 61 11 (nI al)) 61 12 (nI sp)) 61 13 (nI ar)).1 61 x := b61
      obtain ⟨g', N', P', Q', par', mv', dep', D', E, r1, r2, r3⟩ := loop 640 0 h3 1 P' (fun _ => s0) (fun _ => 0) (fun _ => 0) (fun _ => 0) D' rfl (by omega) (b2.trans a2) (fun q hq => by rw [bq q (by omega) (by omega) (by omega) (by omega) (by omega) (by omega) (by omega), xm_rn (by omega), xm_rn (by omega), xm_rn (by omega), aq q (by omega) (by omega) (by omega)]) (by rw [ct 11 (by decide) (by decide), xm_rk (by decide), xm_rk (by decide), xm_ra]) (by rw [ct 12 (by decide) (by decide), xm_rk (by decide), xm_ra]) (by rw [ct 13 (by decide) (by decide), xm_ra]) ⟨PB.start, fun j hj => uv0, b14, b15, bP, bl, bc, fun j hj => by
          have : j = 0 := by omega
          rw [b64, b68, this, fu_a, fu_a]
          exact ⟨rfl, rfl⟩, fun j h1 hj => by omega, fun a b ha hb hl => by unfold lx at hl; omega⟩
      exact ⟨h2, h3, g', _, N', P', Q', par', mv', dep', D', V2, V3, E, r1, r2, r3⟩
  rcases hS with ⟨z14, z62⟩ | ⟨al', sp', ar', s0', N, P, Q, par, mv, dep, D, hal', hsp', har', hK0', A', B', hA', hB', f11, f12, f13, hS⟩
  · obtain ⟨h2, h3, g', r3, N', P', Q', par', mv', dep', D', V2, V3, E, r⟩ := fresh 0 0 (fun _ => s0) (fun _ => (1, 1)) (by omega) z14 (fun j hj => absurd hj (Nat.not_lt_zero _)) ⟨by omega, fun p hp => absurd hp (Nat.not_lt_zero _), fun e he _ => z62 e he⟩ (fun p hp => absurd hp (Nat.not_lt_zero _))
    exact ⟨g', N', P', Q', par', mv', dep', D', v_X3_explore (d := d + 10) (s_X3_explore_0_0 (d := d + 3) (by rw [z14]; decide) V2 V3 E), r⟩
  · have hN640 : N ≤ 640 := uV_len hA' hB' hK0' hS.2.1 hS.1.2.2.2.1
    have hN1 := hS.1.1
    have c0 : ¬ (h.1 61 14 ≤ (0 : Int32)) := by rw [hS.2.2.1]; exact nI_nle (by omega) (by omega)
    have f64 : h.1 64 0 = st_P s0' := by rw [(hS.2.2.2.2.2.2.2.1 0 (by omega)).1, hS.1.2.1]
    obtain ⟨h2, h3, g', r3, N', P', Q', par', mv', dep', D', V2, V3, E, r⟩ := fresh N P Q D hN640 hS.2.2.1 (fun j hj => ⟨(hS.2.2.2.2.2.2.2.1 j hj).1, (hS.2.1 j hj).1⟩) hS.2.2.2.2.1 hS.2.2.2.2.2.2.1
    by_cases c1 : st_P s0 = h.1 64 0
    · by_cases c2 : nI al = h.1 61 11
      · by_cases c3 : nI sp = h.1 61 12
        · by_cases c4 : nI ar = h.1 61 13
          · have e0 : s0 = s0' := st_P_inj hK0 hK0' (c1.trans f64)
            have e1 : al = al' := (nI_eq (by omega) (by omega)).mp (c2.trans f11)
            have e2 : sp = sp' := (nI_eq (by omega) (by omega)).mp (c3.trans f12)
            have e3 : ar = ar' := (nI_eq (by omega) (by omega)).mp (c4.trans f13)
            subst e0 e1 e2 e3
            exact ⟨h, N, P, Q, par, mv, dep, D, v_X3_explore (d := d + 10) (s_X3_explore_0_1 (d := d + 3) hR ht c0 c1 c2 c3 c4), rfl, fun _ _ => rfl, A', B', hA', hB', f11, f12, f13, hS⟩
          · exact ⟨g', N', P', Q', par', mv', dep', D', v_X3_explore (d := d + 10) (s_X3_explore_0_2 (d := d + 3) hR ht c0 c1 c2 c3 c4 V2 V3 E), r⟩
        · exact ⟨g', N', P', Q', par', mv', dep', D', v_X3_explore (d := d + 10) (s_X3_explore_0_3 (d := d + 3) hR ht c0 c1 c2 c3 V2 V3 E), r⟩
      · exact ⟨g', N', P', Q', par', mv', dep', D', v_X3_explore (d := d + 10) (s_X3_explore_0_4 (d := d + 3) hR ht c0 c1 c2 V2 V3 E), r⟩
    · exact ⟨g', N', P', Q', par', mv', dep', D', v_X3_explore (d := d + 10) (s_X3_explore_0_5 (d := d + 3) hR ht c0 c1 V2 V3 E), r⟩
end OPS
