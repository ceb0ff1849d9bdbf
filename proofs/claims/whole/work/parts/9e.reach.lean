/-! What can be reached: parcel, parcels, reach, most. -/
theorem cq_en {p : Nat → Bool} : ∀ N, ∃ en : Nat → Nat, (∀ i, i < cq p N → en i < N ∧ p (en i) = true) ∧ (∀ i j, i < cq p N → j < cq p N → en i = en j → i = j)
  | 0 => ⟨fun _ => 0, fun i hi => absurd hi (Nat.not_lt_zero _), fun i j hi => absurd hi (Nat.not_lt_zero _)⟩
  | N + 1 => by
    obtain ⟨en, h1, h2⟩ := cq_en (p := p) N
    by_cases q : p N = true
    · have e : cq p (N + 1) = cq p N + 1 := by
        simp only [cq]
        rw [if_pos q]
      rw [e]
      refine ⟨fu en (cq p N) N, fun i hi => ?_, fun i j hi hj hij => ?_⟩
      · by_cases z : i = cq p N
        · rw [z, fu_a]; exact ⟨by omega, q⟩
        · rw [fu_k z]
          have := h1 i (by omega)
          exact ⟨by omega, this.2⟩
      · by_cases z : i = cq p N
        · by_cases y : j = cq p N
          · omega
          · rw [z, fu_a, fu_k y] at hij
            have := h1 j (by omega)
            omega
        · by_cases y : j = cq p N
          · rw [y, fu_a, fu_k z] at hij
            have := h1 i (by omega)
            omega
          · rw [fu_k z, fu_k y] at hij
            exact h2 i j (by omega) (by omega) hij
    · have e : cq p (N + 1) = cq p N := by
        simp only [cq]
        rw [if_neg q, Nat.add_zero]
      rw [e]
      exact ⟨en, fun i hi => by
        have := h1 i hi
        exact ⟨by omega, this.2⟩, h2⟩
theorem cq_up {p : Nat → Bool} {a : Nat} (ha : p a = true) : ∀ b, a < b → cq p a < cq p b
  | 0, h => absurd h (Nat.not_lt_zero _)
  | b + 1, h => by
    by_cases e : a = b
    · subst e
      simp only [cq]
      rw [if_pos ha]
      omega
    · have := cq_up ha b (by omega)
      simp only [cq]
      omega
/-- as many as there are of another kind -/
theorem cq_as {p : Nat → Bool} {N P : Nat} {R : Nat → Nat → Prop} (h1 : ∀ j, j < N → p j = true → ∃ x, x < P ∧ R j x) (h2 : ∀ x, x < P → ∃ j, j < N ∧ p j = true ∧ R j x) (h3 : ∀ j x y, x < P → y < P → R j x → R j y → x = y) (h4 : ∀ i j x, i < N → j < N → p i = true → p j = true → R i x → R j x → i = j) : cq p N = P := by
  obtain ⟨en, e1, e2⟩ := cq_en (p := p) N
  have f1 : ∀ i, ∃ x, i < cq p N → x < P ∧ R (en i) x := fun i => by
    by_cases q : i < cq p N
    · obtain ⟨x, a, b⟩ := h1 (en i) (e1 i q).1 (e1 i q).2
      exact ⟨x, fun _ => ⟨a, b⟩⟩
    · exact ⟨0, fun z => absurd z q⟩
  have f2 : ∀ x, ∃ j, x < P → j < N ∧ p j = true ∧ R j x := fun x => by
    by_cases q : x < P
    · obtain ⟨j, a⟩ := h2 x q
      exact ⟨j, fun _ => a⟩
    · exact ⟨0, fun z => absurd z q⟩
  have a := pigeon P (cq p N) (fun i => Classical.choose (f1 i)) (fun i hi => (Classical.choose_spec (f1 i) hi).1) (fun i j hi hj e => by
    have x1 := (Classical.choose_spec (f1 i) hi).2
    have x2 := (Classical.choose_spec (f1 j) hj).2
    have e : Classical.choose (f1 i) = Classical.choose (f1 j) := e
    rw [← e] at x2
    exact e2 i j hi hj (h4 _ _ _ (e1 i hi).1 (e1 j hj).1 (e1 i hi).2 (e1 j hj).2 x1 x2))
  have b := pigeon (cq p N) P (fun x => cq p (Classical.choose (f2 x))) (fun x hx => by
    have y := Classical.choose_spec (f2 x) hx
    exact cq_up y.2.1 N y.1) (fun x y hx hy e => by
    have x1 := Classical.choose_spec (f2 x) hx
    have x2 := Classical.choose_spec (f2 y) hy
    have e : cq p (Classical.choose (f2 x)) = cq p (Classical.choose (f2 y)) := e
    have e' : Classical.choose (f2 x) = Classical.choose (f2 y) := by
      rcases Nat.lt_trichotomy (Classical.choose (f2 x)) (Classical.choose (f2 y)) with q | q | q
      · have := cq_up x1.2.1 _ q
        omega
      · exact q
      · have := cq_up x2.2.1 _ q
        omega
    rw [← e'] at x2
    exact h3 _ x y hx hy x1.2.2 x2.2.2)
  omega
theorem SR.as {nx : Nat → St → Option St} {s : St} {N N' : Nat} {Q Q' : Nat → St} {par mv dep par' mv' dep' F : Nat → Nat} {f : Nat → Nat → Int32} (h : SR nx (fun _ => 1) s N' Q' par' mv' dep' F f) (hB : BF nx s N Q par mv dep) : RQ N Q dep f := by
  obtain ⟨s1, s2, s3, s4, s5⟩ := h
  have e := hB.same s1
  subst e
  refine ⟨s3.1, fun j hj => ?_, fun j hj => ?_⟩
  · rw [s3.2.1 j hj, (hB.same1 s1 j hj).2.1]
  · have x := (hB.same1 s1 j hj)
    have y := s3.2.2 j hj
    rw [x.2.1, s4.dp s1 j hj, x.2.2.2] at y
    exact y
theorem tw_back {sp : Nat} {s0 : St} {N : Nat} {Q : Nat → St} {par mv dep : Nat → Nat} (h : BF (nx10 1023 sp 60) s0 N Q par mv dep) (hK : ∀ j, j < N → st_K (Q j)) {j : Nat} (hj : j < N) : ∃ i, i < N ∧ (Q i).2.2.2.2 = 2 ∧ dm (Q i) = dm (Q j) := by
  have step : ∀ j, j < N → ¬ (Q j).2.2.2.2 = 2 → ∃ i, i < N ∧ (Q i).2.2.2.2 = (if 2 < (Q j).2.2.2.2 then (Q j).2.2.2.2 - 1 else (Q j).2.2.2.2 + 1) ∧ dm (Q i) = dm (Q j) := by
    intro j hj hz
    have e : nx10 1023 sp 60 9 (Q j) = some ((Q j).1, (Q j).2.1, (Q j).2.2.1, (Q j).2.2.2.1, if 2 < (Q j).2.2.2.2 then (Q j).2.2.2.2 - 1 else (Q j).2.2.2.2 + 1) := by
      rw [nx10_e (by omega), nxC_all (hK j hj) (by omega)]
      unfold st_do
      rw [if_neg (by omega), if_pos rfl, if_neg hz]
    obtain ⟨i, i1, i2, -⟩ := h.edge hj (by omega) e
    refine ⟨i, i1, ?_, ?_⟩
    · rw [i2]
    · rw [i2]; rfl
  by_cases z : (Q j).2.2.2.2 = 2
  · exact ⟨j, hj, z, rfl⟩
  · obtain ⟨i, i1, i2, i3⟩ := step j hj z
    by_cases y : (Q i).2.2.2.2 = 2
    · exact ⟨i, i1, y, i3⟩
    · obtain ⟨k, k1, k2, k3⟩ := step i i1 y
      refine ⟨k, k1, ?_, k3.trans i3⟩
      have b := (hK j hj).2.2.2.2
      by_cases q : 2 < (Q j).2.2.2.2
      · rw [if_pos q] at i2
        by_cases q' : 2 < (Q i).2.2.2.2
        · rw [if_pos q'] at k2; omega
        · omega
      · rw [if_neg q] at i2
        by_cases q' : 2 < (Q i).2.2.2.2
        · omega
        · rw [if_neg q'] at k2; omega
def mx (v : Nat → Int32) : Nat → Int32
  | 0 => 0
  | i + 1 => if mx v i < v i then v i else mx v i
section OPS
variable {L : Nat} {xs : Nat → Int32} {d : Nat} {t : Nat} {nx : Nat → St → Option St} {s0 : St} {N : Nat} {Q : Nat → St} {par mv dep : Nat → Nat}
theorem x_ahead {h : xm_H} {cn rm : Nat} {s : St} (hr : Rel SIs h) (hR : h.2.2 = xm_R0 t) (ht : t = 5 ∨ t = 13) (hN : NOW h cn s) (e3 : h.1 3 3 = st_P s) (hrm : rm ≤ 60) (e4 : h.1 t 4 = nI rm) : ∃ (g : xm_H) (N P : Nat) (Q : Nat → St) (par mv dep : Nat → Nat) (D : Nat → Nat × Nat), xm_V (xm_X0 L xs) xm_P (d + 12) 91 [.ref 0] h none g ∧ g.2 = h.2 ∧ (∀ q, (q < 61 ∨ 68 < q) → g.1 q = h.1 q) ∧ FC (nx10 1023 rm 60) s N Q par mv dep g.1 ∧ Rel SIs g ∧ FND 1023 rm 60 s N P Q par mv dep D g.1 := by
  obtain ⟨A, B, hA, hB, hK, hU, -⟩ := hN.uS
  obtain ⟨g, N, P, Q, par, mv, dep, D, V, g2, gq, hF, hrg, hf⟩ := x_explore (L := L) (xs := xs) (d := d) hr hR ht hA hB hK hU (al := 1023) (by decide) hrm (ar := 60) (Nat.le_refl _)
  exact ⟨g, N, P, Q, par, mv, dep, D, v_X10_exploreAhead (d := d + 11) (s_X10_exploreAhead_0_0 (L := L) (xs := xs) (d := d + 4) (h := h) hR ht (by rw [e3, e4]; exact V)), g2, gq, hF, hrg, hf⟩
theorem r_all {h : xm_H} {cn rm : Nat} {s : St} (hR : h.2.2 = xm_R0 t) (ht : t = 5 ∨ t = 13) (hN : NOW h cn s) (hrm : rm ≤ 60) (er : h.1 83 3 = nI rm) (hB : BF (nx10 1023 rm 60) s N Q par mv dep) : ∃ g, xm_V (xm_X0 L xs) xm_P (d + 11) 280 [.ref 82] h none g ∧ srF g h ∧ RQ N Q dep g.1 := by
  obtain ⟨g, r, N', Q', par', mv', dep', F, V, b1, -, b3, -⟩ := r_search (L := L) (xs := xs) (d := d) (b := false) hR ht hN hrm
  rw [cs_f] at b3
  exact ⟨g, v_X11_searchesAll (d := d + 10) (s_X11_searchesAll_0_0 (L := L) (xs := xs) (d := d + 3) (h := h) hR ht (by rw [er]; exact V)), b1, b3.as hB⟩
theorem r_parcel {h : xm_H} {a b g : Nat} (hR : h.2.2 = xm_R0 t) (ht : t = 5 ∨ t = 13) (hB : BF nx s0 N Q par mv dep) (hK : ∀ j, j < N → st_K (Q j)) (hQ : RQ N Q dep h.1) (hN : N ≤ 640) (ha : a ≤ 48) (hb : b ≤ 48) (hg : g ≤ N) (h1 : g < N → szd a b (Q g) = true) (h2 : ∀ j, j < g → ¬ szd a b (Q j) = true) : xm_E (xm_X0 L xs) xm_P (d + 7) co_X11_parcel 23 [some (.ref 82), some (.int (nI a)), some (.int (nI b)), some (.int (1000000000 : Int32)), some (.int (0 : Int32)), none] [] h (some (.int (if g < N then nI (dep g) else -1))) h := by
  have dl : ∀ j, j < N → dep j < 1000 := fun j hj => by
    have := hB.dle j hj
    omega
  have loop : ∀ m i, m + i = N → ∀ l5, xm_E (xm_X0 L xs) xm_P (d + 7) co_X11_parcel 23 [some (.ref 82), some (.int (nI a)), some (.int (nI b)), some (.int (nI (if g < i then dep g else 1000000000))), some (.int (nI i)), l5] [] h (some (.int (if g < N then nI (dep g) else -1))) h := by
    intro m
    induction m with
    | zero =>
      intro i hm l5
      have hi : i = N := by omega
      subst hi
      have c0 : h.1 82 23 ≤ nI i := by rw [hQ.1]; exact nI_le (Nat.le_refl _) (by omega)
      by_cases q : g < i
      · rw [if_pos q, if_pos q]
        exact s_X11_parcel_23_1 (d := d) c0 (fun e => by
          have := dl g q
          have := (nI_eq (a := dep g) (b := 1000000000) (by omega) (by decide)).mp e
          omega)
      · rw [if_neg q, if_neg q]
        exact s_X11_parcel_23_0 (d := d) c0 rfl
    | succ m ih =>
      intro i hm l5
      have hi : i < N := by omega
      have hKi := hK i hi
      have c0 : ¬ (h.1 82 23 ≤ nI i) := by rw [hQ.1]; exact nI_ge hi (by omega)
      have c1 : ¬ (nI i < 0 ∨ 120050 ≤ (nI i).toNatClampNeg) := nI_in (by omega) (by decide)
      have e91 : h.1 91 (nI i).toNatClampNeg = st_M (Q i) := by rw [nI_clamp (by omega)]; exact hQ.2.1 i hi
      have k1 := hKi.1.2
      have k2 := hKi.2.1.2
      have q1 : F_X11_longOf (h.1 91 (nI i).toNatClampNeg) = nI a ↔ (Q i).1 = a := by rw [e91, cm_long hKi, nI_eq (by omega) (by omega)]
      have q2 : F_X11_wideOf (h.1 91 (nI i).toNatClampNeg) = nI b ↔ (Q i).2.1 = b := by rw [e91, cm_wide hKi, nI_eq (by omega) (by omega)]
      have q3 : F_X11_twistOf (h.1 91 (nI i).toNatClampNeg) = 0 ↔ (Q i).2.2.2.2 = 2 := by rw [e91, cm_twist hKi, tw_eq hKi.2.2.2.2]
      have E := ih (i + 1) (by omega)
      rw [← nI_1] at E
      by_cases hq : szd a b (Q i) = true
      · have hq' := of_decide_eq_true hq
        have hgi : g ≤ i := by
          by_cases z : g ≤ i
          · exact z
          · exact absurd hq (h2 i (by omega))
        have hdg : dep g ≤ dep i := hB.mono i g hgi hi
        have hdi := dl i hi
        refine s_X11_parcel_23_2 (d := d) hR ht c0 c1 (q1.mpr hq'.1) (q2.mpr hq'.2.1) (q3.mpr hq'.2.2) (by rw [e91]; exact mdn_in hKi) ?_
        have ev : (if h.1 89 ((h.1 91 (nI i).toNatClampNeg).toNatClampNeg) < nI (if g < i then dep g else 1000000000) then h.1 89 ((h.1 91 (nI i).toNatClampNeg).toNatClampNeg) else nI (if g < i then dep g else 1000000000)) = nI (if g < i + 1 then dep g else 1000000000) := by
          rw [e91, mdn_cl hKi, hQ.2.2 i hi, if_pos (show g < i + 1 by omega)]
          by_cases z : g < i
          · rw [if_pos z, if_neg (nI_nlt (by omega) (by omega))]
          · have : g = i := by omega
            subst this
            rw [if_neg z, if_pos (nI_lt (by omega) (by decide))]
        rw [ev]
        exact E _
      · have hgi : ¬ g = i := fun e => by
          rw [← e] at hq hi
          exact hq (h1 hi)
        have ev : nI (if g < i + 1 then dep g else 1000000000) = nI (if g < i then dep g else 1000000000) := by
          by_cases z : g < i
          · rw [if_pos z, if_pos (by omega)]
          · rw [if_neg z, if_neg (by omega)]
        rw [ev] at E
        by_cases p1 : (Q i).1 = a
        · by_cases p2 : (Q i).2.1 = b
          · exact s_X11_parcel_23_3 (d := d) hR ht c0 c1 (q1.mpr p1) (q2.mpr p2) (fun e => hq (decide_eq_true ⟨p1, p2, q3.mp e⟩)) (E _)
          · exact s_X11_parcel_23_4 (d := d) hR ht c0 c1 (q1.mpr p1) (fun e => p2 (q2.mp e)) (E _)
        · exact s_X11_parcel_23_5 (d := d) hR ht c0 c1 (fun e => p1 (q1.mp e)) (E _)
  have K := loop N 0 rfl none
  rw [if_neg (Nat.not_lt_zero _)] at K
  exact K
theorem op_parcel (a b : Int32) : xm_opi (xm_X0 L xs) (d + 20) (Rel SIs) 107 279 [.int a, .int b] := by
  intro h hr
  obtain ⟨t, ht, hR, hw, hli, hwk⟩ := hr.opn
  by_cases hn : h.1 83 22 = 0
  · obtain ⟨q1, q2⟩ := ln_0 (t := t) hli.1 hn
    exact ⟨-2, h, h, v_X10_parcel (d := d + 19) (s_X10_parcel_0_3 (d := d + 12) hR ht (by rw [q1]; exact one_ne0)), v_X11_parcel (d := d + 19) (s_X11_parcel_0_0 (d := d + 12) hR ht q2), hr⟩
  · obtain ⟨q1, q2⟩ := ln_1 (t := t) hli.1 hw.1 hn
    have n2 : ¬ F_X11_isLinen h t = 0 := by rw [q2]; exact one_ne0
    by_cases ha : nb a 1 48
    · by_cases hb : nb b 1 48
      · obtain ⟨cn, s, rm, ar, hN, e3, hrm, er, e4, -⟩ := now_of hw hli hwk hn
        obtain ⟨g, N, P, Q, par, mv, dep, D, V, g2, gq, hF, hrg, -⟩ := x_ahead (L := L) (xs := xs) (d := d + 7) hr hR ht hN e3 hrm e4
        have gR : g.2.2 = xm_R0 t := by rw [g2]; exact hR
        have e83 : g.1 83 = h.1 83 := gq 83 (by omega)
        obtain ⟨z, V', z1, z2⟩ := r_all (L := L) (xs := xs) (d := d + 8) gR ht (hN.fr e83) hrm (by rw [e83]; exact er) hF.1
        have zR : z.2.2 = xm_R0 t := by rw [z1.1]; exact gR
        have n2' : ¬ F_X11_isLinen g t = 0 := by
          unfold F_X11_isLinen at n2 ⊢
          rw [e83]
          exact n2
        have ca : ¬ F_X10_isSize a = 0 := by rw [(x_isSize a).1 ha]; exact one_ne0
        have cb : ¬ F_X10_isSize b = 0 := by rw [(x_isSize b).1 hb]; exact one_ne0
        have ma : ¬ F_X11_in a.toInt64 (1 : Int64) (48 : Int64) = 0 := by rw [(in_1_48 a).1 ha]; exact one_ne0
        have mb : ¬ F_X11_in b.toInt64 (1 : Int64) (48 : Int64) = 0 := by rw [(in_1_48 b).1 hb]; exact one_ne0
        obtain ⟨x, x1, x2, rfl⟩ := ha
        obtain ⟨y, y1, y2, rfl⟩ := hb
        rcases v_sized (L := L) (xs := xs) (d := d + 11) x2 y2 gR ht hF with ⟨j, j1, j2, j3, W⟩ | ⟨j3, W⟩
        · have E := r_parcel (L := L) (xs := xs) (d := d + 12) (g := j) zR ht hF.1 hF.2.2.1 z2 hF.2.1 x2 y2 (by omega) (fun _ => j2) j3
          rw [if_pos j1] at E
          have K := v_X10_parcel (d := d + 19) (s_X10_parcel_0_2 (L := L) (xs := xs) (d := d + 12) hR ht q1 ca cb V gR W gR)
          rw [depth_y hF j1] at K
          exact ⟨nI (dep j), g, z, K, v_X11_parcel (d := d + 19) (s_X11_parcel_0_3 (d := d + 12) gR ht n2' ma mb V' E), hrg.srF z1⟩
        · have E := r_parcel (L := L) (xs := xs) (d := d + 12) (g := N) zR ht hF.1 hF.2.2.1 z2 hF.2.1 x2 y2 (by omega) (fun q => absurd q (Nat.lt_irrefl _)) j3
          rw [if_neg (Nat.lt_irrefl _)] at E
          have K := v_X10_parcel (d := d + 19) (s_X10_parcel_0_2 (L := L) (xs := xs) (d := d + 12) hR ht q1 ca cb V gR W gR)
          rw [depth_n] at K
          exact ⟨-1, g, z, K, v_X11_parcel (d := d + 19) (s_X11_parcel_0_3 (d := d + 12) gR ht n2' ma mb V' E), hrg.srF z1⟩
      · exact ⟨-2, h, h, v_X10_parcel (d := d + 19) (s_X10_parcel_0_1 (d := d + 12) hR ht q1 (by rw [(x_isSize a).1 ha]; exact one_ne0) ((x_isSize b).2 hb)), v_X11_parcel (d := d + 19) (s_X11_parcel_0_2 (d := d + 12) hR ht n2 (by rw [(in_1_48 a).1 ha]; exact one_ne0) ((in_1_48 b).2 hb)), hr⟩
    · exact ⟨-2, h, h, v_X10_parcel (d := d + 19) (s_X10_parcel_0_0 (d := d + 12) hR ht q1 ((x_isSize a).2 ha)), v_X11_parcel (d := d + 19) (s_X11_parcel_0_1 (d := d + 12) hR ht n2 ((in_1_48 a).2 ha)), hr⟩
theorem r_reach {h : xm_H} {n : Nat} (hR : h.2.2 = xm_R0 t) (ht : t = 5 ∨ t = 13) (hB : BF nx s0 N Q par mv dep) (hK : ∀ j, j < N → st_K (Q j)) (hQ : RQ N Q dep h.1) (hN : N ≤ 640) (hn : n ≤ 20) : xm_E (xm_X0 L xs) xm_P (d + 7) co_X11_reach 17 [some (.ref 82), some (.int (nI n)), some (.int (0 : Int32)), some (.int (0 : Int32))] [] h (some (.int (nI (cq (fun j => decide (dep j ≤ n)) N)))) h := by
  have loop : ∀ m i, m + i = N → xm_E (xm_X0 L xs) xm_P (d + 7) co_X11_reach 17 [some (.ref 82), some (.int (nI n)), some (.int (nI (cq (fun j => decide (dep j ≤ n)) i))), some (.int (nI i))] [] h (some (.int (nI (cq (fun j => decide (dep j ≤ n)) N)))) h := by
    intro m
    induction m with
    | zero =>
      intro i hm
      have hi : i = N := by omega
      subst hi
      exact s_X11_reach_17_0 (d := d) (by rw [hQ.1]; exact nI_le (Nat.le_refl _) (by omega))
    | succ m ih =>
      intro i hm
      have hi : i < N := by omega
      have hKi := hK i hi
      have c0 : ¬ (h.1 82 23 ≤ nI i) := by rw [hQ.1]; exact nI_ge hi (by omega)
      have c1 : ¬ (nI i < 0 ∨ 120050 ≤ (nI i).toNatClampNeg) := nI_in (by omega) (by decide)
      have e91 : h.1 91 (nI i).toNatClampNeg = st_M (Q i) := by rw [nI_clamp (by omega)]; exact hQ.2.1 i hi
      have hd := hB.dle i hi
      have ef : h.1 89 ((h.1 91 (nI i).toNatClampNeg).toNatClampNeg) = nI (dep i) := by rw [e91, mdn_cl hKi, hQ.2.2 i hi]
      have E := ih (i + 1) (by omega)
      by_cases q : dep i ≤ n
      · refine s_X11_reach_17_2 (d := d) hR ht c0 c1 (by rw [e91]; exact mdn_in hKi) (by rw [ef]; exact nI_nlt q (by omega)) ?_
        have e1 : cq (fun j => decide (dep j ≤ n)) (i + 1) = cq (fun j => decide (dep j ≤ n)) i + 1 := by
          simp only [cq]
          rw [if_pos (decide_eq_true q)]
        rw [e1] at E
        rw [nI_1, nI_1]
        exact E
      · refine s_X11_reach_17_1 (d := d) hR ht c0 c1 (by rw [e91]; exact mdn_in hKi) (by rw [ef]; exact nI_lt (by omega) (by omega)) ?_
        have e1 : cq (fun j => decide (dep j ≤ n)) (i + 1) = cq (fun j => decide (dep j ≤ n)) i := by
          simp only [cq]
          rw [if_neg (fun e => q (of_decide_eq_true e)), Nat.add_zero]
        rw [e1] at E
        rw [nI_1, Int32.add_zero]
        exact E
  exact loop N 0 rfl
theorem op_reach (a : Int32) : xm_opi (xm_X0 L xs) (d + 20) (Rel SIs) 111 282 [.int a] := by
  intro h hr
  obtain ⟨t, ht, hR, hw, hli, hwk⟩ := hr.opn
  by_cases hn : h.1 83 22 = 0
  · obtain ⟨q1, q2⟩ := ln_0 (t := t) hli.1 hn
    exact ⟨-2, h, h, v_X10_reach (d := d + 19) (s_X10_reach_0_3 (d := d + 12) hR ht (by rw [q1]; exact one_ne0)), v_X11_reach (d := d + 19) (s_X11_reach_0_0 (d := d + 12) hR ht q2), hr⟩
  · obtain ⟨q1, q2⟩ := ln_1 (t := t) hli.1 hw.1 hn
    have n2 : ¬ F_X11_isLinen h t = 0 := by rw [q2]; exact one_ne0
    by_cases hb : nb a 0 20
    · obtain ⟨cn, s, rm, ar, hN, e3, hrm, er, e4, -⟩ := now_of hw hli hwk hn
      obtain ⟨g, N, P, Q, par, mv, dep, D, V, g2, gq, hF, hrg, -⟩ := x_ahead (L := L) (xs := xs) (d := d + 7) hr hR ht hN e3 hrm e4
      have gR : g.2.2 = xm_R0 t := by rw [g2]; exact hR
      have e83 : g.1 83 = h.1 83 := gq 83 (by omega)
      obtain ⟨z, V', z1, z2⟩ := r_all (L := L) (xs := xs) (d := d + 8) gR ht (hN.fr e83) hrm (by rw [e83]; exact er) hF.1
      have zR : z.2.2 = xm_R0 t := by rw [z1.1]; exact gR
      have n2' : ¬ F_X11_isLinen g t = 0 := by
        unfold F_X11_isLinen at n2 ⊢
        rw [e83]
        exact n2
      have ma : ¬ F_X11_in a.toInt64 (0 : Int64) (20 : Int64) = 0 := by rw [(in_0_20 a).1 hb]; exact one_ne0
      obtain ⟨x, x1, x2, rfl⟩ := hb
      have W := v_within (L := L) (xs := xs) (d := d + 11) x2 gR ht hF
      have E := r_reach (L := L) (xs := xs) (d := d + 12) zR ht hF.1 hF.2.2.1 z2 hF.2.1 x2
      exact ⟨_, g, z, v_X10_reach (d := d + 19) (s_X10_reach_0_1 (d := d + 12) hR ht q1 (nI_pos (by omega)) (nI_le (b := 20) x2 (by decide)) V gR W), v_X11_reach (d := d + 19) (s_X11_reach_0_2 (d := d + 12) gR ht n2' ma V' E), hrg.srF z1⟩
    · have VM := v_X11_reach (d := d + 19) (s_X11_reach_0_1 (L := L) (xs := xs) (d := d + 12) hR ht n2 ((in_0_20 a).2 hb))
      by_cases h1 : a < (0 : Int32)
      · exact ⟨-2, h, h, v_X10_reach (d := d + 19) (s_X10_reach_0_0 (d := d + 12) hR ht q1 h1), VM, hr⟩
      · refine ⟨-2, h, h, v_X10_reach (d := d + 19) (s_X10_reach_0_2 (d := d + 12) hR ht q1 h1 (fun h2 => hb ?_)), VM, hr⟩
        obtain ⟨j, hj, rfl⟩ := nI_of h1
        exact ⟨j, by omega, (nI_leI hj (by decide)).mp h2, rfl⟩
theorem op_most : xm_opi (xm_X0 L xs) (d + 20) (Rel SIs) 113 283 [] := by
  intro h hr
  obtain ⟨t, ht, hR, hw, hli, hwk⟩ := hr.opn
  by_cases hn : h.1 83 22 = 0
  · obtain ⟨q1, q2⟩ := ln_0 (t := t) hli.1 hn
    exact ⟨-2, h, h, v_X10_most (d := d + 19) (s_X10_most_0_1 (d := d + 12) hR ht (by rw [q1]; exact one_ne0)), v_X11_most (d := d + 19) (s_X11_most_0_0 (d := d + 12) hR ht q2), hr⟩
  · obtain ⟨q1, q2⟩ := ln_1 (t := t) hli.1 hw.1 hn
    have n2 : ¬ F_X11_isLinen h t = 0 := by rw [q2]; exact one_ne0
    obtain ⟨cn, s, rm, ar, hN, e3, hrm, er, e4, -⟩ := now_of hw hli hwk hn
    obtain ⟨g, N, P, Q, par, mv, dep, D, V, g2, gq, hF, hrg, -⟩ := x_ahead (L := L) (xs := xs) (d := d + 7) hr hR ht hN e3 hrm e4
    have gR : g.2.2 = xm_R0 t := by rw [g2]; exact hR
    have e83 : g.1 83 = h.1 83 := gq 83 (by omega)
    obtain ⟨z, V', z1, z2⟩ := r_all (L := L) (xs := xs) (d := d + 8) gR ht (hN.fr e83) hrm (by rw [e83]; exact er) hF.1
    have zR : z.2.2 = xm_R0 t := by rw [z1.1]; exact gR
    have n2' : ¬ F_X11_isLinen g t = 0 := by
      unfold F_X11_isLinen at n2 ⊢
      rw [e83]
      exact n2
    have zt83 : z.1 83 = g.1 83 := z1.2.1 83 (by decide) (by decide) (by decide)
    have eN := hF.2.1
    have lp1 : ∀ m i, m + i = N → xm_E (xm_X0 L xs) xm_P (d + 19) co_X10_most 12 [some (.ref 0), some (.int (mx (fun j => ((h.1 83 0) * (h.1 83 1)) / nI ((Q j).1 * (Q j).2.1)) i)), some (.int (nI i))] [] g (some (.int (mx (fun j => ((h.1 83 0) * (h.1 83 1)) / nI ((Q j).1 * (Q j).2.1)) N))) g := by
      intro m
      induction m with
      | zero =>
        intro i hm
        have hi : i = N := by omega
        subst hi
        exact s_X10_most_12_0 (d := d + 12) gR ht (by rw [hF.2.2.2.1]; exact nI_le (Nat.le_refl _) (by omega))
      | succ m ih =>
        intro i hm
        have hi : i < N := by omega
        have c0 : ¬ (g.1 61 14 ≤ nI i) := by rw [hF.2.2.2.1]; exact nI_ge hi (by omega)
        have es : F_X3_stateAt g t (nI i) = st_P (Q i) := by
          unfold F_X3_stateAt
          rw [if_neg (nI_pos (by omega)), if_neg c0, if_neg (show ¬ (640 : Int32) ≤ nI i from nI_ge (b := 640) (by omega) (by decide)), nI_clamp (by omega)]
          exact (hF.2.2.2.2.1 i hi).1
        refine s_X10_most_12_1 (d := d + 12) gR ht c0 ?_
        rw [es, lay_x (hF.2.2.1 i hi) (by rw [gq t (by omega), e83]; exact hli.2.1) (by rw [gq t (by omega), e83]; exact hli.2.2.1), e83, nI_1]
        exact ih (i + 1) (by omega)
    have lp2 : ∀ m i, m + i = N → xm_E (xm_X0 L xs) xm_P (d + 19) co_X11_most 11 [some (.ref 82), some (.int (mx (fun j => ((h.1 83 0) * (h.1 83 1)) / nI ((Q j).1 * (Q j).2.1)) i)), some (.int (nI i))] [] z (some (.int (mx (fun j => ((h.1 83 0) * (h.1 83 1)) / nI ((Q j).1 * (Q j).2.1)) N))) z := by
      intro m
      induction m with
      | zero =>
        intro i hm
        have hi : i = N := by omega
        subst hi
        exact s_X11_most_11_0 (d := d + 12) (by rw [z2.1]; exact nI_le (Nat.le_refl _) (by omega))
      | succ m ih =>
        intro i hm
        have hi : i < N := by omega
        have hKi := hF.2.2.1 i hi
        have c0 : ¬ (z.1 82 23 ≤ nI i) := by rw [z2.1]; exact nI_ge hi (by omega)
        have e91 : z.1 91 (nI i).toNatClampNeg = st_M (Q i) := by rw [nI_clamp (by omega)]; exact z2.2.1 i hi
        refine s_X11_most_11_1 (d := d + 12) zR ht c0 (nI_in (by omega) (by decide)) ?_ ?_
        · rw [e91, cm_long hKi, cm_wide hKi, nm_mul]
          intro e
          obtain ⟨⟨k1, k2⟩, ⟨k3, k4⟩, -⟩ := hKi
          have b1 : (Q i).1 * (Q i).2.1 ≤ 48 * 48 := Nat.mul_le_mul k2 k4
          have b2 : 1 * 1 ≤ (Q i).1 * (Q i).2.1 := Nat.mul_le_mul k1 k3
          have := (nI_eq (b := 0) (by omega) (by omega)).mp e
          omega
        · rw [e91, lay_m hKi, zt83, e83, nI_1]
          exact ih (i + 1) (by omega)
    exact ⟨_, g, z, v_X10_most (d := d + 19) (s_X10_most_0_0 (d := d + 12) hR ht q1 V (lp1 N 0 rfl)), v_X11_most (d := d + 19) (s_X11_most_0_1 (d := d + 12) gR ht n2' V' (lp2 N 0 rfl)), hrg.srF z1⟩
def ky (s : St) : Nat := 49 * s.1 + s.2.1
theorem ky_lt {s : St} (h : st_K s) : ky s < 2401 := by
  obtain ⟨⟨k1, k2⟩, ⟨k3, k4⟩, -⟩ := h
  unfold ky
  omega
theorem ky_dm {s u : St} (h : st_K s) (h' : st_K u) : ky s = ky u ↔ dm s = dm u := by
  obtain ⟨⟨k1, k2⟩, ⟨k3, k4⟩, -⟩ := h
  obtain ⟨⟨m1, m2⟩, ⟨m3, m4⟩, -⟩ := h'
  constructor
  · intro e
    unfold ky at e
    exact Prod.ext (by show s.1 = u.1; omega) (by show s.2.1 = u.2.1; omega)
  · intro e
    have e1 : s.1 = u.1 := congrArg (fun x : Nat × Nat => x.1) e
    have e2 : s.2.1 = u.2.1 := congrArg (fun x : Nat × Nat => x.2) e
    unfold ky
    rw [e1, e2]
def fst1 (Q : Nat → St) (i : Nat) : Bool := decide (∀ j, j < i → ¬ ky (Q j) = ky (Q i))
theorem r_parcels {h : xm_H} (hR : h.2.2 = xm_R0 t) (ht : t = 5 ∨ t = 13) (hK : ∀ j, j < N → st_K (Q j)) (hQ : RQ N Q dep h.1) (hN : N ≤ 640) : ∃ g, g.2 = h.2 ∧ (∀ q, q ≠ 92 → g.1 q = h.1 q) ∧ xm_E (xm_X0 L xs) xm_P (d + 7) co_X11_parcels 9 [some (.ref 82), some (.int (0 : Int32)), none, none] [] h (some (.int (nI (cq (fst1 Q) N)))) g := by
  have lp2 : ∀ m i (g : xm_H), m + i = N → g.2 = h.2 → (∀ q, q ≠ 92 → g.1 q = h.1 q) → (∀ x, x < 2401 → (g.1 92 x = 0 ∧ ∀ j, j < i → ¬ ky (Q j) = x) ∨ (g.1 92 x = 1 ∧ ∃ j, j < i ∧ ky (Q j) = x)) → ∃ g', g'.2 = h.2 ∧ (∀ q, q ≠ 92 → g'.1 q = h.1 q) ∧ ∀ l3, xm_E (xm_X0 L xs) xm_P (d + 7) co_X11_parcels 25 [some (.ref 82), some (.int (nI (cq (fst1 Q) i))), some (.int (nI i)), l3] [] g (some (.int (nI (cq (fst1 Q) N)))) g' := by
    intro m
    induction m with
    | zero =>
      intro i g hm g2 gq hz
      have hi : i = N := by omega
      subst hi
      exact ⟨g, g2, gq, fun l3 => s_X11_parcels_25_0 (d := d) (by rw [gq 82 (by decide), hQ.1]; exact nI_le (Nat.le_refl _) (by omega))⟩
    | succ m ih =>
      intro i g hm g2 gq hz
      have hi : i < N := by omega
      have hKi := hK i hi
      have gR : g.2.2 = xm_R0 t := by rw [g2]; exact hR
      have c0 : ¬ (g.1 82 23 ≤ nI i) := by rw [gq 82 (by decide), hQ.1]; exact nI_ge hi (by omega)
      have c1 : ¬ (nI i < 0 ∨ 120050 ≤ (nI i).toNatClampNeg) := nI_in (by omega) (by decide)
      have e91 : g.1 91 (nI i).toNatClampNeg = st_M (Q i) := by rw [nI_clamp (by omega), gq 91 (by decide)]; exact hQ.2.1 i hi
      have ek : (49 : Int32) * F_X11_longOf (g.1 91 (nI i).toNatClampNeg) + F_X11_wideOf (g.1 91 (nI i).toNatClampNeg) = nI (ky (Q i)) := by
        rw [e91, cm_long hKi, cm_wide hKi, show (49 : Int32) = nI 49 from rfl, nm_mul, nI_add]
        rfl
      have hl := ky_lt hKi
      have c2 : ¬ ((49 : Int32) * F_X11_longOf (g.1 91 (nI i).toNatClampNeg) + F_X11_wideOf (g.1 91 (nI i).toNatClampNeg) < 0 ∨ 2401 ≤ ((49 : Int32) * F_X11_longOf (g.1 91 (nI i).toNatClampNeg) + F_X11_wideOf (g.1 91 (nI i).toNatClampNeg)).toNatClampNeg) := by rw [ek]; exact nI_in hl (by decide)
      have ekc : (nI (ky (Q i))).toNatClampNeg = ky (Q i) := nI_clamp (by omega)
      obtain ⟨g', r1, r2, r3⟩ := ih (i + 1) (xm_si g 92 (ky (Q i)) 1) (by omega) g2 (fun q hq => by rw [xm_rn hq]; exact gq q hq) (fun x hx => by
        by_cases e : x = ky (Q i)
        · rw [e, xm_ra]
          exact Or.inr ⟨rfl, i, by omega, rfl⟩
        · rw [xm_rk e]
          rcases hz x hx with ⟨a1, a2⟩ | ⟨a1, j, a2, a3⟩
          · refine Or.inl ⟨a1, fun j hj => ?_⟩
            by_cases ji : j = i
            · rw [ji]; exact fun q => e q.symm
            · exact a2 j (by omega)
          · exact Or.inr ⟨a1, j, by omega, a3⟩)
      refine ⟨g', r1, r2, fun l3 => ?_⟩
      rcases hz (ky (Q i)) hl with ⟨a1, a2⟩ | ⟨a1, j, a2, a3⟩
      · have e1 : cq (fst1 Q) (i + 1) = cq (fst1 Q) i + 1 := by
          simp only [cq]
          rw [if_pos (show fst1 Q i = true from decide_eq_true a2)]
        refine s_X11_parcels_25_1 (d := d) gR ht c0 c1 c2 (by rw [ek, ekc]; exact a1) ?_
        rw [ek, ekc, nI_1, nI_1, ← e1]
        exact r3 _
      · have e1 : cq (fst1 Q) (i + 1) = cq (fst1 Q) i := by
          simp only [cq]
          rw [if_neg (fun (e : fst1 Q i = true) => of_decide_eq_true e j a2 a3), Nat.add_zero]
        refine s_X11_parcels_25_2 (d := d) gR ht c0 c1 c2 (by rw [ek, ekc, a1]; exact one_ne0) ?_
        rw [ek, ekc, nI_1, Int32.add_zero, ← e1]
        exact r3 _
  have lp1 : ∀ m i (g : xm_H), m + i = 2401 → g.2 = h.2 → (∀ q, q ≠ 92 → g.1 q = h.1 q) → (∀ x, x < i → g.1 92 x = 0) → ∃ g', g'.2 = h.2 ∧ (∀ q, q ≠ 92 → g'.1 q = h.1 q) ∧ xm_E (xm_X0 L xs) xm_P (d + 7) co_X11_parcels 9 [some (.ref 82), some (.int (nI i)), none, none] [] g (some (.int (nI (cq (fst1 Q) N)))) g' := by
    intro m
    induction m with
    | zero =>
      intro i g hm g2 gq hz
      have hi : i = 2401 := by omega
      subst hi
      obtain ⟨g', r1, r2, r3⟩ := lp2 N 0 g rfl g2 gq (fun x hx => Or.inl ⟨hz x hx, fun j hj => absurd hj (Nat.not_lt_zero _)⟩)
      exact ⟨g', r1, r2, s_X11_parcels_9_0 (d := d) (by rw [g2]; exact hR) ht (by decide) (r3 _)⟩
    | succ m ih =>
      intro i g hm g2 gq hz
      have ei : (nI i).toNatClampNeg = i := nI_clamp (by omega)
      obtain ⟨g', r1, r2, r3⟩ := ih (i + 1) (xm_si g 92 i 0) (by omega) g2 (fun q hq => by rw [xm_rn hq]; exact gq q hq) (fun x hx => by
        by_cases e : x = i
        · rw [e, xm_ra]
        · rw [xm_rk e]; exact hz x (by omega))
      refine ⟨g', r1, r2, s_X11_parcels_9_1 (d := d) (by rw [g2]; exact hR) ht (nI_ge (by omega) (by decide)) (nI_in (by omega) (by decide)) ?_⟩
      rw [ei, nI_1]
      exact r3
  exact lp1 2401 0 h rfl rfl (fun _ _ => rfl) (fun x hx => absurd hx (Nat.not_lt_zero _))
theorem op_parcels : xm_opi (xm_X0 L xs) (d + 20) (Rel SIs) 110 281 [] := by
  intro h hr
  obtain ⟨t, ht, hR, hw, hli, hwk⟩ := hr.opn
  by_cases hn : h.1 83 22 = 0
  · obtain ⟨q1, q2⟩ := ln_0 (t := t) hli.1 hn
    exact ⟨-2, h, h, v_X10_parcels (d := d + 19) (s_X10_parcels_0_1 (d := d + 12) hR ht (by rw [q1]; exact one_ne0)), v_X11_parcels (d := d + 19) (s_X11_parcels_0_0 (d := d + 12) hR ht q2), hr⟩
  · obtain ⟨q1, q2⟩ := ln_1 (t := t) hli.1 hw.1 hn
    have n2 : ¬ F_X11_isLinen h t = 0 := by rw [q2]; exact one_ne0
    obtain ⟨cn, s, rm, ar, hN, e3, hrm, er, e4, -⟩ := now_of hw hli hwk hn
    obtain ⟨g, N, P, Q, par, mv, dep, D, V, g2, gq, hF, hrg, hf⟩ := x_ahead (L := L) (xs := xs) (d := d + 7) hr hR ht hN e3 hrm e4
    have gR : g.2.2 = xm_R0 t := by rw [g2]; exact hR
    have e83 : g.1 83 = h.1 83 := gq 83 (by omega)
    obtain ⟨z, V', z1, z2⟩ := r_all (L := L) (xs := xs) (d := d + 8) gR ht (hN.fr e83) hrm (by rw [e83]; exact er) hF.1
    have zR : z.2.2 = xm_R0 t := by rw [z1.1]; exact gR
    have n2' : ¬ F_X11_isLinen g t = 0 := by
      unfold F_X11_isLinen at n2 ⊢
      rw [e83]
      exact n2
    obtain ⟨y, y1, y2, E⟩ := r_parcels (L := L) (xs := xs) (d := d + 12) zR ht hF.2.2.1 z2 hF.2.1
    have hKQ := hF.2.2.1
    obtain ⟨A, B, -, -, -, -, -, s1, s2, s3, s4, s5, s6, s7, s8⟩ := hf
    have any : ∀ j, j < N → ∃ p, p < P ∧ D p = dm (Q j) := fun j hj => by
      obtain ⟨i, i1, i2, i3⟩ := tw_back hF.1 hKQ hj
      obtain ⟨p, p1, p2, -⟩ := s6.1 i i1 i2
      exact ⟨p, p1, p2.trans i3⟩
    have ec : cq (fst1 Q) N = P := by
      refine cq_as (R := fun j p => D p = dm (Q j)) (fun j hj _ => any j hj) (fun p hp => ?_) (fun j a b ha hb e1 e2 => s5.inj ha hb (e1.trans e2.symm)) (fun i j x hi hj pi pj e1 e2 => ?_)
      · obtain ⟨j, j1, -, j2⟩ := s7 p hp
        obtain ⟨m, ⟨m1, m2⟩, m3⟩ := least_of (p := fun j => j < N ∧ dm (Q j) = D p) j ⟨j1, j2⟩
        refine ⟨m, m1, decide_eq_true (fun i hi e => ?_), m2.symm⟩
        have := m3 i ⟨by omega, ((ky_dm (hKQ i (by omega)) (hKQ m m1)).mp e).trans m2⟩
        omega
      · have e : ky (Q i) = ky (Q j) := (ky_dm (hKQ i hi) (hKQ j hj)).mpr (e1.symm.trans e2)
        rcases Nat.lt_trichotomy i j with q | q | q
        · exact absurd e (of_decide_eq_true pj i q)
        · exact q
        · exact absurd e.symm (of_decide_eq_true pi j q)
    rw [ec, ← s4] at E
    refine ⟨g.1 61 15, g, y, v_X10_parcels (d := d + 19) (s_X10_parcels_0_0 (d := d + 12) hR ht q1 V gR), v_X11_parcels (d := d + 19) (s_X11_parcels_0_1 (d := d + 12) gR ht n2' V' E), ?_⟩
    have hrz := hrg.srF z1
    exact hrz.frame (by rw [y1]) (fun q hq => y2 q (by unfold rl_cell at hq; omega)) (fun q _ => by rw [y1]) (fun j _ => by rw [y2 1 (by decide)]) (fun j _ => by rw [y2 82 (by decide)])
end OPS
