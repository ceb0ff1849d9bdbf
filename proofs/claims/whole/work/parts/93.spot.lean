/-! The class's search: where a state is kept. -/
def cel (d : Nat × Nat) : Nat := (d.1 - 1) * 48 + (d.2 - 1)
def dm (s : St) : Nat × Nat := (s.1, s.2.1)
def lk (s : St) : Nat := s.2.2.1 * 2 + s.2.2.2.1
def d48 (d : Nat × Nat) : Prop := (1 ≤ d.1 ∧ d.1 ≤ 48) ∧ (1 ≤ d.2 ∧ d.2 ≤ 48)
theorem cel_lt {d : Nat × Nat} (h : d48 d) : cel d < 2304 := by
  obtain ⟨⟨h1, h2⟩, h3, h4⟩ := h
  unfold cel
  omega
theorem cel_inj {d e : Nat × Nat} (h : d48 d) (h' : d48 e) (hc : cel d = cel e) : d = e := by
  obtain ⟨⟨h1, h2⟩, h3, h4⟩ := h
  obtain ⟨⟨k1, k2⟩, k3, k4⟩ := h'
  unfold cel at hc
  have a : d.1 = e.1 := by omega
  have b : d.2 = e.2 := by omega
  exact Prod.ext a b
theorem lk_lt {s : St} (h : st_K s) : lk s < 10 := by
  obtain ⟨-, -, h3, h4, -⟩ := h
  unfold lk
  omega
theorem dm_48 {s : St} (h : st_K s) : d48 (dm s) := ⟨h.1, h.2.1⟩
theorem st_eq {s t : St} (hs : st_K s) (ht : st_K t) (h1 : dm s = dm t) (h2 : lk s = lk t) (h3 : s.2.2.2.2 = t.2.2.2.2) : s = t := by
  obtain ⟨-, -, a3, a4, -⟩ := hs
  obtain ⟨-, -, b3, b4, -⟩ := ht
  have e1 : s.1 = t.1 := congrArg (fun x : Nat × Nat => x.1) h1
  have e2 : s.2.1 = t.2.1 := congrArg (fun x : Nat × Nat => x.2) h1
  unfold lk at h2
  have e3 : s.2.2.1 = t.2.2.1 := by omega
  have e4 : s.2.2.2.1 = t.2.2.2.1 := by omega
  exact Prod.ext e1 (Prod.ext e2 (Prod.ext e3 (Prod.ext e4 h3)))
theorem cx_cell {s : St} (h : st_K s) : F_X3_cellOf (st_P s) = nI (cel (dm s)) := by
  unfold F_X3_cellOf
  rw [cx_long h, cx_wide h]
  obtain ⟨⟨h1, h2⟩, ⟨h3, h4⟩, -⟩ := h
  rw [show (1 : Int32) = nI 1 from rfl, show (48 : Int32) = nI 48 from rfl]
  rw [if_neg (nI_nlt (a := s.1) (b := 1) (by omega) (by omega)), if_neg (nI_nlt (a := 48) (b := s.1) (by omega) (by decide)), if_neg (nI_nlt (a := s.2.1) (b := 1) (by omega) (by omega)), if_pos (nI_le (a := s.2.1) (b := 48) (by omega) (by decide))]
  rw [nm_sub (by omega), nm_mul, nI_add, nm_sub (by omega)]
  unfold cel dm
  congr 1
  simp only
  omega
/-- the packages that are found, by their numbers -/
def PKG (f : Nat → Int32) (P : Nat) (D : Nat → Nat × Nat) : Prop := P ≤ 144 ∧ (∀ p, p < P → d48 (D p) ∧ f (cel (D p)) = nI (p + 1)) ∧ (∀ d, d48 d → (∀ p, p < P → D p ≠ d) → f (cel d) = 0)
/-- where the states stand, by package and look -/
def PLC (f : Nat → Int32) (N : Nat) (Q : Nat → St) (P : Nat) (D : Nat → Nat × Nat) : Prop := (∀ j, j < N → (Q j).2.2.2.2 = 2 → ∃ p, p < P ∧ D p = dm (Q j) ∧ f (p * 10 + lk (Q j)) = nI (j + 1)) ∧ (∀ p r, p < P → r < 10 → (∀ j, j < N → (Q j).2.2.2.2 = 2 → ¬ (dm (Q j) = D p ∧ lk (Q j) = r)) → f (p * 10 + r) = 0) ∧ (∀ x, P * 10 ≤ x → x < 1440 → f x = 0)
theorem PKG.inj {f : Nat → Int32} {P : Nat} {D : Nat → Nat × Nat} (h : PKG f P D) {p q : Nat} (hp : p < P) (hq : q < P) (e : D p = D q) : p = q := by
  have a := (h.2.1 p hp).2
  have b := (h.2.1 q hq).2
  rw [e, b] at a
  have hP := h.1
  have := (nI_eq (a := q + 1) (b := p + 1) (by omega) (by omega)).mp a
  omega
section OPS
variable {L : Nat} {xs : Nat → Int32} {d : Nat}
theorem spot_num {p r : Nat} (hp : p < 144) (hr : r < 10) : (nI (p + 1) - (1 : Int32)) * (10 : Int32) + nI r = nI (p * 10 + r) := by
  rw [show (1 : Int32) = nI 1 from rfl, show (10 : Int32) = nI 10 from rfl, nm_sub (by omega), nm_mul, nI_add]
  rfl
theorem v_spot {h : xm_H} {t N P A B : Nat} {Q : Nat → St} {D : Nat → Nat × Nat} {s : St} (hR : h.2.2 = xm_R0 t) (ht : t = 5 ∨ t = 13) (hK : st_K s) (hz : s.2.2.2.2 = 2) (hP : PKG (h.1 62) P D) (e15 : h.1 61 15 = nI P) (hl : PLC (h.1 63) N Q P D) (hd : ∀ p, p < P → D p ∈ dl A B) (hs : dm s ∈ dl A B) (hA : A < 49) (hB : B < 49) : ∃ p P' D' g, xm_V (xm_X0 L xs) xm_P (d + 8) 85 [.ref 61, .int (st_P s), .int (nI (cel (dm s)))] h (some (.int (nI (p * 10 + lk s)))) g ∧ g.2 = h.2 ∧ (∀ q, q ≠ 61 → q ≠ 62 → g.1 q = h.1 q) ∧ (∀ j, j ≠ 15 → g.1 61 j = h.1 61 j) ∧ g.1 61 15 = nI P' ∧ PKG (g.1 62) P' D' ∧ PLC (g.1 63) N Q P' D' ∧ (∀ p, p < P' → D' p ∈ dl A B) ∧ p < P' ∧ D' p = dm s ∧ P ≤ P' ∧ (∀ q, q < P → D' q = D q) ∧ (∀ q, q < P' → q < P ∨ q = p) := by
  have hc := cel_lt (dm_48 hK)
  have hlk := lk_lt hK
  have c0 : F_X5_twistOf (st_P s) = (0 : Int32) := by rw [cx_twist hK, hz]; decide
  have el : (F_X5_hemOf (st_P s) * (2 : Int32)) + F_X5_faceOf (st_P s) = nI (lk s) := by
    rw [cx_hem hK, cx_face hK, show (2 : Int32) = nI 2 from rfl, nm_mul, nI_add]
    rfl
  have c1 : ¬ (nI (cel (dm s)) < (0 : Int32)) := nI_pos (by omega)
  have c2 : ¬ (Int32.ofNat 2304 ≤ nI (cel (dm s))) := nI_ge hc (by decide)
  have c3 : (F_X5_hemOf (st_P s) * (2 : Int32)) + F_X5_faceOf (st_P s) < (10 : Int32) := by rw [el]; exact nI_lt (b := 10) hlk (by decide)
  have c4 : ¬ (nI (cel (dm s)) < 0 ∨ 2304 ≤ (nI (cel (dm s))).toNatClampNeg) := nI_in hc (by decide)
  have ecl : (nI (cel (dm s))).toNatClampNeg = cel (dm s) := nI_clamp (by omega)
  by_cases hin : ∃ p, p < P ∧ D p = dm s
  · obtain ⟨p, hp, hpd⟩ := hin
    have hP1 := hP.1
    have ef : h.1 62 (nI (cel (dm s))).toNatClampNeg = nI (p + 1) := by rw [ecl, ← hpd]; exact (hP.2.1 p hp).2
    have es : ((h.1 62 (nI (cel (dm s))).toNatClampNeg - (1 : Int32)) * (10 : Int32)) + ((F_X5_hemOf (st_P s) * (2 : Int32)) + F_X5_faceOf (st_P s)) = nI (p * 10 + lk s) := by rw [ef, el]; exact spot_num (by omega) hlk
    have V := v_X3_spotOf (d := d + 7) (s_X3_spotOf_0_10 (L := L) (xs := xs) (d := d) hR ht c0 c1 c2 c3 c4 (by rw [ef]; exact fun e => absurd ((nI_eq (b := 0) (by omega) (by omega)).mp e) (by omega)) (by rw [es]; exact nI_pos (by omega)) (by rw [es]; exact nI_ge (by omega) (by decide)))
    rw [es] at V
    exact ⟨p, P, D, h, V, rfl, fun _ _ _ => rfl, fun _ _ => rfl, e15, hP, hl, hd, hp, hpd, Nat.le_refl _, fun _ _ => rfl, fun q hq => Or.inl hq⟩
  · have hni : ∀ p, p < P → D p ≠ dm s := fun p hp e => hin ⟨p, hp, e⟩
    have ef : h.1 62 (nI (cel (dm s))).toNatClampNeg = 0 := by rw [ecl]; exact hP.2.2 _ (dm_48 hK) hni
    have hP1 := hP.1
    have hlt : P + 1 ≤ 144 := by
      refine Nat.le_trans (pigeon_l (N := P + 1) (Q := fu D P (dm s)) (l := dl A B) (fun i hi => ?_) (fun i j hi hj hij => ?_)) (dl_len A hA B hB)
      · by_cases iP : i = P
        · rw [iP, fu_a]; exact hs
        · rw [fu_k iP]; exact hd i (by omega)
      · by_cases iP : i = P
        · by_cases jP : j = P
          · omega
          · rw [iP, fu_a, fu_k jP] at hij
            exact absurd hij.symm (hni j (by omega))
        · by_cases jP : j = P
          · rw [jP, fu_a, fu_k iP] at hij
            exact absurd hij (hni i (by omega))
          · rw [fu_k iP, fu_k jP] at hij
            exact hP.inj (by omega) (by omega) hij
    let g : xm_H := xm_si (xm_si h 61 15 (h.1 61 15 + (1 : Int32))) 62 (nI (cel (dm s))).toNatClampNeg ((xm_si h 61 15 (h.1 61 15 + (1 : Int32))).1 61 15)
    have gv : (xm_si h 61 15 (h.1 61 15 + (1 : Int32))).1 61 15 = nI (P + 1) := by rw [xm_ra, e15, nI_1]
    have gf : g.1 62 (nI (cel (dm s))).toNatClampNeg = nI (P + 1) := by
      show (xm_si (xm_si h 61 15 (h.1 61 15 + (1 : Int32))) 62 (nI (cel (dm s))).toNatClampNeg ((xm_si h 61 15 (h.1 61 15 + (1 : Int32))).1 61 15)).1 62 (nI (cel (dm s))).toNatClampNeg = _
      rw [xm_ra, gv]
    have es : ((g.1 62 (nI (cel (dm s))).toNatClampNeg - (1 : Int32)) * (10 : Int32)) + ((F_X5_hemOf (st_P s) * (2 : Int32)) + F_X5_faceOf (st_P s)) = nI (P * 10 + lk s) := by rw [gf, el]; exact spot_num (by omega) hlk
    have V := v_X3_spotOf (d := d + 7) (s_X3_spotOf_0_7 (L := L) (xs := xs) (d := d) hR ht c0 c1 c2 c3 c4 ef (by rw [e15]; exact nI_ge (b := 144) (by omega) (by decide)) (show ¬ ((g.1 62 (nI (cel (dm s))).toNatClampNeg - (1 : Int32)) * (10 : Int32) + ((F_X5_hemOf (st_P s) * (2 : Int32)) + F_X5_faceOf (st_P s)) < (0 : Int32)) by rw [es]; exact nI_pos (by omega)) (show ¬ (Int32.ofNat 1440 ≤ (g.1 62 (nI (cel (dm s))).toNatClampNeg - (1 : Int32)) * (10 : Int32) + ((F_X5_hemOf (st_P s) * (2 : Int32)) + F_X5_faceOf (st_P s))) by rw [es]; exact nI_ge (by omega) (by decide)))
    have V' : xm_V (xm_X0 L xs) xm_P (d + 8) 85 [.ref 61, .int (st_P s), .int (nI (cel (dm s)))] h (some (.int (((g.1 62 (nI (cel (dm s))).toNatClampNeg - (1 : Int32)) * (10 : Int32)) + ((F_X5_hemOf (st_P s) * (2 : Int32)) + F_X5_faceOf (st_P s))))) g := V
    rw [es] at V'
    have g62 : ∀ x, g.1 62 x = if x = cel (dm s) then nI (P + 1) else h.1 62 x := by
      intro x
      show (xm_si (xm_si h 61 15 (h.1 61 15 + (1 : Int32))) 62 (nI (cel (dm s))).toNatClampNeg ((xm_si h 61 15 (h.1 61 15 + (1 : Int32))).1 61 15)).1 62 x = _
      rw [ecl, gv]
      by_cases hx : x = cel (dm s)
      · rw [if_pos hx, hx, xm_ra]
      · rw [if_neg hx, xm_rk hx, xm_rn (by decide)]
    have gq : ∀ q, q ≠ 61 → q ≠ 62 → g.1 q = h.1 q := fun q h1 h2 => by
      show (xm_si (xm_si h 61 15 (h.1 61 15 + (1 : Int32))) 62 (nI (cel (dm s))).toNatClampNeg ((xm_si h 61 15 (h.1 61 15 + (1 : Int32))).1 61 15)).1 q = _
      rw [xm_rn h2, xm_rn h1]
    refine ⟨P, P + 1, fu D P (dm s), g, V', rfl, gq, fun j hj => ?_, ?_, ⟨hlt, fun p hp => ?_, fun dd hdd hne => ?_⟩, ⟨fun j hj hzj => ?_, fun p r hp hr hno => ?_, fun x hx1 hx2 => ?_⟩, fun p hp => ?_, by omega, fu_a, by omega, fun q hq => fu_k (by omega), fun q hq => by omega⟩
    · show (xm_si (xm_si h 61 15 (h.1 61 15 + (1 : Int32))) 62 (nI (cel (dm s))).toNatClampNeg ((xm_si h 61 15 (h.1 61 15 + (1 : Int32))).1 61 15)).1 61 j = _
      rw [xm_rn (by decide), xm_rk hj]
    · show (xm_si (xm_si h 61 15 (h.1 61 15 + (1 : Int32))) 62 (nI (cel (dm s))).toNatClampNeg ((xm_si h 61 15 (h.1 61 15 + (1 : Int32))).1 61 15)).1 61 15 = _
      rw [xm_rn (by decide)]; exact gv
    · by_cases pP : p = P
      · rw [pP, fu_a, g62, if_pos rfl]
        exact ⟨dm_48 hK, rfl⟩
      · rw [fu_k pP, g62, if_neg (fun e => hni p (by omega) (cel_inj (hP.2.1 p (by omega)).1 (dm_48 hK) e))]
        exact hP.2.1 p (by omega)
    · rw [g62, if_neg (fun e => by
        have := cel_inj hdd (dm_48 hK) e
        exact hne P (by omega) (by rw [fu_a]; exact this.symm))]
      exact hP.2.2 dd hdd (fun p hp e => hne p (by omega) (by rw [fu_k (by omega)]; exact e))
    · obtain ⟨p, k1, k2, k3⟩ := hl.1 j hj hzj
      refine ⟨p, by omega, by rw [fu_k (by omega)]; exact k2, ?_⟩
      rw [gq 63 (by decide) (by decide)]
      exact k3
    · rw [gq 63 (by decide) (by decide)]
      by_cases pP : p = P
      · subst pP
        exact hl.2.2 _ (by omega) (by omega)
      · rw [fu_k pP] at hno
        exact hl.2.1 p r (by omega) hr hno
    · rw [gq 63 (by decide) (by decide)]
      exact hl.2.2 x (by omega) hx2
    · by_cases pP : p = P
      · rw [pP, fu_a]; exact hs
      · rw [fu_k pP]; exact hd p (by omega)
end OPS
