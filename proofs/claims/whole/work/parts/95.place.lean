/-! The search: a state is put in its place. -/
theorem xm_rf {h : xm_H} {p k : Nat} {x : Int32} : (xm_si h p k x).1 p = fu (h.1 p) k x := by
  funext j
  by_cases hj : j = k
  · rw [hj, xm_ra, fu_a]
  · rw [xm_rk hj, fu_k hj]
theorem n1_ne {x : Nat} (hx : x < 2147483648) : ¬ nI x = (-1 : Int32) := fun e => (nj_n1 (a := x) (k := 1) hx (by decide) (by decide)).mp e
section OPS
variable {L : Nat} {xs : Nat → Int32} {d : Nat}
theorem e_put {h : xm_H} {t N : Nat} {l1 l2 l3 l4 dv : Int32} (hR : h.2.2 = xm_R0 t) (ht : t = 5 ∨ t = 13) (e14 : h.1 61 14 = nI N) (hN : N < 640) (hdv : (l2 < 0 ∧ dv = 0) ∨ (∃ i, i < N ∧ l2 = nI i ∧ dv = h.1 68 i + 1)) (h4 : l4 = -1 ∨ ∃ x, x < 1440 ∧ l4 = nI x) : ∃ g, xm_E (xm_X0 L xs) xm_P (d + 7) co_X3_placeOf 21 [some (.ref 61), some (.int l1), some (.int l2), some (.int l3), some (.int l4), none] [] h (some (.int (nI N))) g ∧ g.2 = h.2 ∧ (∀ q, q ≠ 61 → q ≠ 63 → q ≠ 64 → q ≠ 66 → q ≠ 67 → q ≠ 68 → g.1 q = h.1 q) ∧ g.1 61 = fu (h.1 61) 14 (nI (N + 1)) ∧ g.1 64 = fu (h.1 64) N l1 ∧ g.1 66 = fu (h.1 66) N l2 ∧ g.1 67 = fu (h.1 67) N l3 ∧ g.1 68 = fu (h.1 68) N dv ∧ (l4 = -1 → g.1 63 = h.1 63) ∧ (∀ x, x < 1440 → l4 = nI x → g.1 63 = fu (h.1 63) x (nI (N + 1))) := by
  have c0 : h.1 61 14 < (640 : Int32) := by rw [e14]; exact nI_lt (b := 640) hN (by decide)
  have c1 : ¬ (h.1 61 14 < 0 ∨ 640 ≤ (h.1 61 14).toNatClampNeg) := by rw [e14]; exact nI_in hN (by decide)
  have eN : (nI N).toNatClampNeg = N := nI_clamp (by omega)
  rcases hdv with ⟨c2, rfl⟩ | ⟨i, hi, rfl, rfl⟩
  · rcases h4 with rfl | ⟨x, hx, rfl⟩
    · have V := s_X3_placeOf_21_0 (L := L) (xs := xs) (d := d) (l1 := l1) (l3 := l3) hR ht c0 c1 c2 rfl
      rw [e14, eN, nI_1] at V
      refine ⟨_, V, rfl, fun q h1 h3 h4 h6 h7 h8 => ?_, ?_, ?_, ?_, ?_, ?_, fun _ => ?_, fun x hx e => absurd e.symm (n1_ne (by omega))⟩
      · rw [xm_rn h8, xm_rn h7, xm_rn h6, xm_rn h4, xm_rn h1]
      all_goals simp (disch := decide) only [xm_rn, xm_rf]
    · have ex : (nI x).toNatClampNeg = x := nI_clamp (by omega)
      have V := s_X3_placeOf_21_1 (L := L) (xs := xs) (d := d) (l1 := l1) (l3 := l3) (l4 := nI x) hR ht c0 c1 c2 (n1_ne (by omega)) (nI_in hx (by decide))
      rw [e14, eN, nI_1, ex] at V
      refine ⟨_, V, rfl, fun q h1 h3 h4 h6 h7 h8 => ?_, ?_, ?_, ?_, ?_, ?_, fun e => absurd e (n1_ne (by omega)), fun y hy e => ?_⟩
      · rw [xm_rn h3, xm_rn h8, xm_rn h7, xm_rn h6, xm_rn h4, xm_rn h1]
      · simp (disch := decide) only [xm_rn, xm_rf]
      · simp (disch := decide) only [xm_rn, xm_rf]
      · simp (disch := decide) only [xm_rn, xm_rf]
      · simp (disch := decide) only [xm_rn, xm_rf]
      · simp (disch := decide) only [xm_rn, xm_rf]
      · have : x = y := (nI_eq (by omega) (by omega)).mp e
        subst this
        simp (disch := decide) only [xm_rn, xm_rf]
  · have ei : (nI i).toNatClampNeg = i := nI_clamp (by omega)
    have k2 : ¬ (nI i < (0 : Int32)) := nI_pos (by omega)
    have k3 : ¬ (h.1 61 14 ≤ nI i) := by rw [e14]; exact nI_ge hi (by omega)
    have k4 : ¬ (nI i < 0 ∨ 640 ≤ (nI i).toNatClampNeg) := nI_in (by omega) (by decide)
    rcases h4 with rfl | ⟨x, hx, rfl⟩
    · have V := s_X3_placeOf_21_4 (L := L) (xs := xs) (d := d) (l1 := l1) (l3 := l3) hR ht c0 c1 k2 k3 k4 rfl
      rw [e14, eN, nI_1, ei] at V
      refine ⟨_, V, rfl, fun q h1 h3 h4 h6 h7 h8 => ?_, ?_, ?_, ?_, ?_, ?_, fun _ => ?_, fun x hx e => absurd e.symm (n1_ne (by omega))⟩
      · rw [xm_rn h8, xm_rn h7, xm_rn h6, xm_rn h4, xm_rn h1]
      all_goals simp (disch := decide) only [xm_rn, xm_rf]
    · have ex : (nI x).toNatClampNeg = x := nI_clamp (by omega)
      have V := s_X3_placeOf_21_5 (L := L) (xs := xs) (d := d) (l1 := l1) (l3 := l3) (l4 := nI x) hR ht c0 c1 k2 k3 k4 (n1_ne (by omega)) (nI_in hx (by decide))
      rw [e14, eN, nI_1, ei, ex] at V
      refine ⟨_, V, rfl, fun q h1 h3 h4 h6 h7 h8 => ?_, ?_, ?_, ?_, ?_, ?_, fun e => absurd e (n1_ne (by omega)), fun y hy e => ?_⟩
      · rw [xm_rn h3, xm_rn h8, xm_rn h7, xm_rn h6, xm_rn h4, xm_rn h1]
      · simp (disch := decide) only [xm_rn, xm_rf]
      · simp (disch := decide) only [xm_rn, xm_rf]
      · simp (disch := decide) only [xm_rn, xm_rf]
      · simp (disch := decide) only [xm_rn, xm_rf]
      · simp (disch := decide) only [xm_rn, xm_rf]
      · have : x = y := (nI_eq (by omega) (by omega)).mp e
        subst this
        simp (disch := decide) only [xm_rn, xm_rf]
def COV (N : Nat) (Q : Nat → St) (P : Nat) (D : Nat → Nat × Nat) : Prop := ∀ p, p < P → ∃ j, j < N ∧ (Q j).2.2.2.2 = 2 ∧ dm (Q j) = D p
theorem uS_dl {A B : Nat} {s : St} (hK : st_K s) (h : uS A B s) : dm s ∈ dl A B := by
  have h1 := hK.1.2
  have h2 := hK.2.1.2
  exact mem_dl (by omega) (by omega) h
theorem v_place {h : xm_H} {t N P A B : Nat} {s0 s : St} {Q : Nat → St} {D : Nat → Nat × Nat} {l2 l3 dv : Int32} (hR : h.2.2 = xm_R0 t) (ht : t = 5 ∨ t = 13) (hA : A < 49) (hB : B < 49) (hK0 : st_K s0) (hs : uV A B s0 s) (hQ : ∀ j, j < N → uV A B s0 (Q j)) (hinj : ∀ a b, a < N → b < N → Q a = Q b → a = b) (e14 : h.1 61 14 = nI N) (e15 : h.1 61 15 = nI P) (hP : PKG (h.1 62) P D) (hl : PLC (h.1 63) N Q P D) (cov : COV N Q P D) (htw : ¬ s.2.2.2.2 = 2 → ∀ j, j < N → Q j ≠ s) (hdv : (l2 < 0 ∧ dv = 0) ∨ (∃ i, i < N ∧ l2 = nI i ∧ dv = h.1 68 i + 1)) :
    (∃ j g P' D', j < N ∧ Q j = s ∧ xm_V (xm_X0 L xs) xm_P (d + 9) 84 [.ref 61, .int (st_P s), .int l2, .int l3] h (some (.int (nI j))) g ∧ g.2 = h.2 ∧ (∀ q, q ≠ 61 → q ≠ 62 → g.1 q = h.1 q) ∧ (∀ x, x ≠ 15 → g.1 61 x = h.1 61 x) ∧ g.1 61 15 = nI P' ∧ PKG (g.1 62) P' D' ∧ PLC (g.1 63) N Q P' D' ∧ COV N Q P' D') ∨
    (∃ g P' D', N < 640 ∧ (∀ j, j < N → Q j ≠ s) ∧ xm_V (xm_X0 L xs) xm_P (d + 9) 84 [.ref 61, .int (st_P s), .int l2, .int l3] h (some (.int (nI N))) g ∧ g.2 = h.2 ∧ (∀ q, q ≠ 61 → q ≠ 62 → q ≠ 63 → q ≠ 64 → q ≠ 66 → q ≠ 67 → q ≠ 68 → g.1 q = h.1 q) ∧ (∀ x, x ≠ 14 → x ≠ 15 → g.1 61 x = h.1 61 x) ∧ g.1 61 14 = nI (N + 1) ∧ g.1 61 15 = nI P' ∧ PKG (g.1 62) P' D' ∧ PLC (g.1 63) (N + 1) (fu Q N s) P' D' ∧ COV (N + 1) (fu Q N s) P' D' ∧ g.1 64 = fu (h.1 64) N (st_P s) ∧ g.1 66 = fu (h.1 66) N l2 ∧ g.1 67 = fu (h.1 67) N l3 ∧ g.1 68 = fu (h.1 68) N dv) := by
  have newN : (∀ j, j < N → Q j ≠ s) → N < 640 := by
    intro hne
    have := uV_len (N := N + 1) (Q := fu Q N s) hA hB hK0 (fun i hi => by
      by_cases iN : i = N
      · rw [iN, fu_a]; exact hs
      · rw [fu_k iN]; exact hQ i (by omega)) (fun i j hi hj hij => by
      by_cases iN : i = N
      · by_cases jN : j = N
        · omega
        · rw [iN, fu_a, fu_k jN] at hij
          exact absurd hij.symm (hne j (by omega))
      · by_cases jN : j = N
        · rw [jN, fu_a, fu_k iN] at hij
          exact absurd hij (hne i (by omega))
        · rw [fu_k iN, fu_k jN] at hij
          exact hinj i j (by omega) (by omega) hij)
    omega
  by_cases hz : s.2.2.2.2 = 2
  · have hd : ∀ p, p < P → D p ∈ dl A B := by
      intro p hp
      obtain ⟨j, hj, -, e⟩ := cov p hp
      rw [← e]
      exact uS_dl (hQ j hj).1 (hQ j hj).2.1
    obtain ⟨p, P', D', g1, V, g2, gq, g61, g15, hP', hl', hd', hp, hpd, hPP, hDD, hPq⟩ := v_spot (L := L) (xs := xs) (d := d) hR ht hs.1 hz hP e15 hl hd (uS_dl hs.1 hs.2.1) hA hB
    have hlk := lk_lt hs.1
    have hP1 := hP'.1
    have V' : xm_V (xm_X0 L xs) xm_P (d + 8) 85 [.ref 61, .int (st_P s), .int (F_X3_cellOf (st_P s))] h (some (.int (nI (p * 10 + lk s)))) g1 := by rw [cx_cell hs.1]; exact V
    have hsp : p * 10 + lk s < 1440 := by omega
    have gR : g1.2.2 = xm_R0 t := by rw [g2]; exact hR
    have ecl : (nI (p * 10 + lk s)).toNatClampNeg = p * 10 + lk s := nI_clamp (by omega)
    by_cases hin : ∃ j, j < N ∧ Q j = s
    · left
      obtain ⟨j, hj, hjs⟩ := hin
      obtain ⟨p', k1, k2, k3⟩ := hl'.1 j hj (by rw [hjs]; exact hz)
      rw [hjs] at k2 k3
      have ep : p' = p := hP'.inj k1 hp (k2.trans hpd.symm)
      rw [ep] at k3
      have hN640 : N ≤ 640 := uV_len hA hB hK0 hQ hinj
      have W := v_X3_placeOf (d := d + 8) (s_X3_placeOf_0_2 (L := L) (xs := xs) (d := d + 1) (l2 := l2) (l3 := l3) ht V' (n1_ne (by omega)) gR (nI_in hsp (by decide)) (by rw [ecl, k3]; exact nI_nle (by omega) (by omega)))
      rw [ecl, k3, show (1 : Int32) = nI 1 from rfl, nm_sub (by omega), Nat.add_sub_cancel] at W
      refine ⟨j, g1, P', D', hj, hjs, W, g2, gq, g61, g15, hP', hl', fun q hq => ?_⟩
      rcases hPq q hq with h1 | h1
      · rw [hDD q h1]; exact cov q h1
      · rw [h1, hpd]
        exact ⟨j, hj, by rw [hjs]; exact hz, by rw [hjs]⟩
    · right
      have hne : ∀ j, j < N → Q j ≠ s := fun j hj e => hin ⟨j, hj, e⟩
      have hN := newN hne
      have f0 : g1.1 63 (p * 10 + lk s) = 0 := hl'.2.1 p (lk s) hp hlk (fun j hj hzj hh => hne j hj (st_eq (hQ j hj).1 hs.1 (hh.1.trans hpd) hh.2 (hzj.trans hz.symm)))
      obtain ⟨g, E, b2, bq, b61, b64, b66, b67, b68, -, b63⟩ := e_put (L := L) (xs := xs) (d := d + 1) (h := g1) (l1 := st_P s) (l2 := l2) (l3 := l3) (l4 := nI (p * 10 + lk s)) (dv := dv) gR ht (by rw [g61 14 (by decide)]; exact e14) hN (by rw [gq 68 (by decide) (by decide)]; exact hdv) (Or.inr ⟨_, hsp, rfl⟩)
      have W := v_X3_placeOf (d := d + 8) (s_X3_placeOf_0_1 (L := L) (xs := xs) (d := d + 1) (l2 := l2) (l3 := l3) ht V' (n1_ne (by omega)) gR (nI_in hsp (by decide)) (by rw [ecl, f0]; decide) E)
      have c63 := b63 _ hsp rfl
      refine ⟨g, P', D', hN, hne, W, b2.trans g2, fun q h1 h2 h3 h4 h6 h7 h8 => by rw [bq q h1 h3 h4 h6 h7 h8, gq q h1 h2], fun x h1 h2 => by rw [b61, fu_k h1, g61 x h2], by rw [b61, fu_a], by rw [b61, fu_k (by decide)]; exact g15, by rw [bq 62 (by decide) (by decide) (by decide) (by decide) (by decide) (by decide)]; exact hP', ?_, ?_, by rw [b64, gq 64 (by decide) (by decide)], by rw [b66, gq 66 (by decide) (by decide)], by rw [b67, gq 67 (by decide) (by decide)], by rw [b68, gq 68 (by decide) (by decide)]⟩
      · rw [c63]
        refine ⟨fun j hj hzj => ?_, fun p' r hp' hr hno => ?_, fun x hx1 hx2 => ?_⟩
        · by_cases jN : j = N
          · rw [jN, fu_a]
            exact ⟨p, hp, hpd, fu_a⟩
          · rw [fu_k jN] at hzj ⊢
            obtain ⟨p', k1, k2, k3⟩ := hl'.1 j (by omega) hzj
            refine ⟨p', k1, k2, ?_⟩
            rw [fu_k, k3]
            intro e
            have hlj := lk_lt (hQ j (by omega)).1
            have e1 : p' = p := by omega
            have e2 : lk (Q j) = lk s := by omega
            rw [e1] at k2
            exact hne j (by omega) (st_eq (hQ j (by omega)).1 hs.1 (k2.symm.trans hpd) e2 (hzj.trans hz.symm))
        · by_cases e : p' * 10 + r = p * 10 + lk s
          · exfalso
            have e1 : p' = p := by omega
            have e2 : lk s = r := by omega
            refine hno N (by omega) (by rw [fu_a]; exact hz) ?_
            rw [fu_a, e1]
            exact ⟨hpd.symm, e2⟩
          · rw [fu_k e]
            refine hl'.2.1 p' r hp' hr (fun j hj hzj => ?_)
            have := hno j (by omega)
            rw [fu_k (by omega)] at this
            exact this hzj
        · rw [fu_k (by omega)]
          exact hl'.2.2 x hx1 hx2
      · intro q hq
        rcases hPq q hq with h1 | h1
        · rw [hDD q h1]
          obtain ⟨j, hj, c1, c2⟩ := cov q h1
          exact ⟨j, by omega, by rw [fu_k (by omega)]; exact c1, by rw [fu_k (by omega)]; exact c2⟩
        · rw [h1, hpd]
          exact ⟨N, by omega, by rw [fu_a]; exact hz, by rw [fu_a]⟩
  · right
    have hne := htw hz
    have hN := newN hne
    have V := v_X3_spotOf (d := d + 7) (s_X3_spotOf_0_12 (L := L) (xs := xs) (d := d) (h := h) (l1 := st_P s) (l2 := F_X3_cellOf (st_P s)) (by rw [cx_twist hs.1, tw_eq hs.1.2.2.2.2]; exact hz))
    obtain ⟨g, E, b2, bq, b61, b64, b66, b67, b68, b63, -⟩ := e_put (L := L) (xs := xs) (d := d + 1) (h := h) (l1 := st_P s) (l2 := l2) (l3 := l3) (l4 := -1) (dv := dv) hR ht e14 hN hdv (Or.inl rfl)
    have W := v_X3_placeOf (d := d + 8) (s_X3_placeOf_0_0 (L := L) (xs := xs) (d := d + 1) (l2 := l2) (l3 := l3) V rfl E)
    refine ⟨g, P, D, hN, hne, W, b2, fun q h1 h2 h3 h4 h6 h7 h8 => bq q h1 h3 h4 h6 h7 h8, fun x h1 h2 => by rw [b61, fu_k h1], by rw [b61, fu_a], by rw [b61, fu_k (by decide)]; exact e15, by rw [bq 62 (by decide) (by decide) (by decide) (by decide) (by decide) (by decide)]; exact hP, ?_, ?_, b64, b66, b67, b68⟩
    · rw [b63 rfl]
      refine ⟨fun j hj hzj => ?_, fun p' r hp' hr hno => ?_, hl.2.2⟩
      · by_cases jN : j = N
        · rw [jN, fu_a] at hzj
          exact absurd hzj hz
        · rw [fu_k jN] at hzj ⊢
          exact hl.1 j (by omega) hzj
      · refine hl.2.1 p' r hp' hr (fun j hj hzj => ?_)
        have := hno j (by omega)
        rw [fu_k (by omega)] at this
        exact this hzj
    · intro q hq
      obtain ⟨j, hj, c1, c2⟩ := cov q hq
      exact ⟨j, by omega, by rw [fu_k (by omega)]; exact c1, by rw [fu_k (by omega)]; exact c2⟩
end OPS
