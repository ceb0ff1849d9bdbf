/-! Fractions in lowest terms. -/
theorem lj_toInt {n : Nat} (h : n < 4611686018427387904) : (lN n).toInt = (n : Int) := lg_ofNat_toInt (by omega)
theorem lj_div {a b : Nat} (ha : a < 4611686018427387904) (hb : b < 4611686018427387904) : lN a / lN b = lN (a / b) := by
  apply Int64.toInt_inj.1
  have hq : a / b < 4611686018427387904 := Nat.lt_of_le_of_lt (Nat.div_le_self _ _) ha
  rw [Int64.toInt_div, lj_toInt ha, lj_toInt hb, lj_toInt hq]
  rw [← Int.ofNat_tdiv]
  generalize a / b = q at hq ⊢
  apply Int.bmod_eq_of_le <;> omega
theorem lj_rem {a b : Nat} (ha : a < 4611686018427387904) (hb : b < 4611686018427387904) : lN a - lN a / lN b * lN b = lN (a % b) := by
  rw [lj_div ha hb, lN_mul, lN_sub (Nat.div_mul_le_self a b)]
  congr 1
  have := Nat.div_add_mod a b
  rw [Nat.mul_comm] at this
  omega
theorem lj_n0 {b : Nat} (h : 0 < b) (hb : b < 4611686018427387904) : ¬ lN b = 0 := by
  intro e
  have h2 := congrArg Int64.toInt e
  rw [lj_toInt hb, show (0 : Int64).toInt = 0 from rfl] at h2
  omega
theorem lj_pos {b : Nat} (h : 0 < b) (hb : b < 4611686018427387904) : (0 : Int32) < lg_cmp (lN b) (0 : Int64) := by
  rw [lg_cmp_gt, Int64.lt_iff_toInt_lt, lj_toInt hb, show (0 : Int64).toInt = 0 from rfl]
  omega
theorem gcd_st (a b : Nat) : Nat.gcd a b = Nat.gcd b (a % b) := by
  rw [Nat.gcd_comm a b, Nat.gcd_rec b a, Nat.gcd_comm (a % b) b]
theorem gcd_hf {b r n : Nat} (hr : 0 < r) (hrb : r < b) (hb : b < 2 ^ (n + 1)) : b % r < 2 ^ n := by
  have h1 := Nat.mod_lt b hr
  have h2 := Nat.div_add_mod b r
  have h3 : 1 ≤ b / r := Nat.div_pos (by omega) hr
  have h4 : r * 1 ≤ r * (b / r) := Nat.mul_le_mul_left r h3
  rw [Nat.pow_succ] at hb
  omega
section OPS
variable {L : Nat} {xs : Nat → Int32} {d : Nat} {SI : (Nat → Nat → Int32) → (Nat → Nat → Int64) → Prop}
theorem eu_x {h : xm_H} {l0 l2 : Int64} : ∀ n a b i (o : Option Value), b < 2 ^ n → n ≤ 62 → a < 4611686018427387904 → 2 * n + i ≤ 199 → xm_E (xm_X0 L xs) xm_P (d + 7) co_X10_commonOf 6 [some (.long l0), none, some (.long l2), none, some (.long (lN a)), none, some (.long (lN b)), none, some (.int (nI i)), o, none] [] h (some (.long (lN (Nat.gcd a b)))) h := by
  intro n
  induction n with
  | zero =>
    intro a b i o hb hn ha hi
    have hb0 : b = 0 := by omega
    subst hb0
    rw [Nat.gcd_zero_right]
    exact s_X10_commonOf_6_1 (d := d) (nI_ge (b := 200) (by omega) (by omega)) ((lg_cmp_eq _ _).mpr rfl)
  | succ n ih =>
    intro a b i o hb hn ha hi
    have hB : b < 4611686018427387904 := Nat.lt_of_lt_of_le hb (Nat.le_trans (Nat.pow_le_pow_right (by omega) hn) (by decide))
    by_cases hb0 : b = 0
    · subst hb0
      rw [Nat.gcd_zero_right]
      exact s_X10_commonOf_6_1 (d := d) (nI_ge (b := 200) (by omega) (by omega)) ((lg_cmp_eq _ _).mpr rfl)
    · have hn0 := lj_n0 (b := b) (by omega) hB
      refine s_X10_commonOf_6_2 (d := d) (nI_ge (b := 200) (by omega) (by omega)) (fun q => hn0 ((lg_cmp_eq _ _).mp q)) hn0 ?_
      rw [lj_rem ha hB, nI_1, gcd_st a b]
      have hr := Nat.mod_lt a (show 0 < b by omega)
      by_cases hr0 : a % b = 0
      · rw [hr0, Nat.gcd_zero_right]
        exact s_X10_commonOf_6_1 (d := d) (nI_ge (b := 200) (by omega) (by omega)) ((lg_cmp_eq _ _).mpr rfl)
      · have hR : a % b < 4611686018427387904 := by omega
        have hr1 := lj_n0 (b := a % b) (by omega) hR
        refine s_X10_commonOf_6_2 (d := d) (nI_ge (b := 200) (by omega) (by omega)) (fun q => hr1 ((lg_cmp_eq _ _).mp q)) hr1 ?_
        rw [lj_rem hB hR, nI_1, gcd_st b (a % b)]
        exact ih (a % b) (b % (a % b)) (i + 1 + 1) _ (gcd_hf (by omega) hr hb) (by omega) hR (by omega)
theorem eu_m {h : xm_H} {l0 l2 : Int64} : ∀ n a b (o : Option Value), b < 2 ^ n → n ≤ 62 → a < 4611686018427387904 → xm_E (xm_X0 L xs) xm_P (d + 7) co_X11_divisor 4 [some (.long l0), none, some (.long l2), none, some (.long (lN a)), none, some (.long (lN b)), none, o, none] [] h (some (.long (lN (Nat.gcd a b)))) h := by
  intro n
  induction n with
  | zero =>
    intro a b o hb hn ha
    have hb0 : b = 0 := by omega
    subst hb0
    rw [Nat.gcd_zero_right]
    exact s_X11_divisor_4_0 (d := d) ((lg_cmp_eq _ _).mpr rfl)
  | succ n ih =>
    intro a b o hb hn ha
    have hB : b < 4611686018427387904 := Nat.lt_of_lt_of_le hb (Nat.le_trans (Nat.pow_le_pow_right (by omega) hn) (by decide))
    by_cases hb0 : b = 0
    · subst hb0
      rw [Nat.gcd_zero_right]
      exact s_X11_divisor_4_0 (d := d) ((lg_cmp_eq _ _).mpr rfl)
    · have hn0 := lj_n0 (b := b) (by omega) hB
      refine s_X11_divisor_4_1 (d := d) (fun q => hn0 ((lg_cmp_eq _ _).mp q)) hn0 ?_
      rw [lj_rem ha hB, gcd_st a b]
      have hr := Nat.mod_lt a (show 0 < b by omega)
      by_cases hr0 : a % b = 0
      · rw [hr0, Nat.gcd_zero_right]
        exact s_X11_divisor_4_0 (d := d) ((lg_cmp_eq _ _).mpr rfl)
      · have hR : a % b < 4611686018427387904 := by omega
        have hr1 := lj_n0 (b := a % b) (by omega) hR
        refine s_X11_divisor_4_1 (d := d) (fun q => hr1 ((lg_cmp_eq _ _).mp q)) hr1 ?_
        rw [lj_rem hB hR, gcd_st b (a % b)]
        exact ih (a % b) (b % (a % b)) _ (gcd_hf (by omega) hr hb) (by omega) hR
/-- a part in lowest terms -/
def prt (a b : Nat) (w : Int32) : Int64 := if w = 0 then lN a / lN (Nat.gcd a b) else lN b / lN (Nat.gcd a b)
theorem v_partX {h : xm_H} {a b : Nat} {w : Int32} (hb : 0 < b) (hB : b < 1152921504606846976) (ha : a < 1152921504606846976) : xm_V (xm_X0 L xs) xm_P (d + 9) 136 [.long (lN a), .long (lN b), .int w] h (some (.long (prt a b w))) h := by
  have hg : 0 < Nat.gcd a b := Nat.gcd_pos_of_pos_right a hb
  have hgl : Nat.gcd a b ≤ b := Nat.gcd_le_right a hb
  have E := eu_x (L := L) (xs := xs) (d := d) (h := h) (l0 := lN a) (l2 := lN b) 60 a b 0 none (by omega) (by omega) (by omega) (by omega)
  have V := v_X10_commonOf (d := d + 7) (s_X10_commonOf_0_0 (d := d) E)
  unfold prt
  by_cases hw : w = 0
  · rw [if_pos hw]
    exact v_X10_partOf (d := d + 8) (s_X10_partOf_0_0 (d := d + 1) V (lj_pos hg (by omega)) hw (lj_n0 hg (by omega)))
  · rw [if_neg hw]
    exact v_X10_partOf (d := d + 8) (s_X10_partOf_0_1 (d := d + 1) V (lj_pos hg (by omega)) hw (lj_n0 hg (by omega)))
theorem v_partM {h : xm_H} {a b : Nat} {w : Int32} (hb : 0 < b) (hB : b < 1152921504606846976) (ha : a < 1152921504606846976) : xm_V (xm_X0 L xs) xm_P (d + 9) 297 [.long (lN a), .long (lN b), .int w] h (some (.long (prt a b w))) h := by
  have hg : 0 < Nat.gcd a b := Nat.gcd_pos_of_pos_right a hb
  have hgl : Nat.gcd a b ≤ b := Nat.gcd_le_right a hb
  have E := eu_m (L := L) (xs := xs) (d := d) (h := h) (l0 := lN a) (l2 := lN b) 60 a b none (by omega) (by omega) (by omega)
  have V := v_X11_divisor (d := d + 7) (s_X11_divisor_0_0 (d := d) E)
  unfold prt
  by_cases hw : w = 0
  · rw [if_pos hw]
    exact v_X11_part (d := d + 8) (s_X11_part_0_0 (d := d + 1) hw V (lj_n0 hg (by omega)))
  · rw [if_neg hw]
    exact v_X11_part (d := d + 8) (s_X11_part_0_1 (d := d + 1) hw V (lj_n0 hg (by omega)))
theorem slips_of {h : xm_H} {t : Nat} (hw : rl_wf (h.1 83)) (hli : rl_lin (h.1 t) (h.1 (t + 1)) (h.1 (t + 2)) (h.1 (t + 3)) (h.1 (t + 4)) (h.1 (t + 5)) (h.1 (t + 6)) (h.1 (t + 7)) (h.1 83)) : ∃ a b, a ≤ 50 ∧ b ≤ 50 ∧ h.1 83 11 = nI a ∧ h.1 83 12 = nI b ∧ h.1 t 7 = nI a ∧ h.1 t 8 = nI b := by
  obtain ⟨-, -, -, ⟨a, -, ha, ea⟩, ⟨b, -, hb, eb⟩, -⟩ := hw
  obtain ⟨-, -, -, -, -, -, -, l7, l8, -⟩ := hli
  exact ⟨a, b, ha, hb, ea, eb, l7.trans ea, l8.trans eb⟩
/-- of a hundred, of ten thousand -/
def rgt (p a : Nat) : Nat := if p ≤ 1 then 100 - a else 100
def tws (p q a b : Nat) : Nat := if p ≤ 1 ∧ q ≤ 1 then (if p = q then a * (100 - b) + b * (100 - a) else 10000 - (a * (100 - b) + b * (100 - a))) else 0
theorem tws_5 : ∀ a, a < 51 → ∀ b, b < 51 → a * (100 - b) + b * (100 - a) ≤ 5000 := by decide +kernel
theorem csl_tab : ∀ p, p < 4 → (F_X0_canSlip (nI p) = 0 ↔ ¬ p ≤ 1) ∧ (F_X11_slips (nI p) = 0 ↔ ¬ p ≤ 1) := by decide +kernel
theorem i100 {a : Nat} (ha : a ≤ 50) : (100 : Int32) - nI a = nI (100 - a) := nm_sub (a := 100) (by omega)
theorem rgt_x {h : xm_H} {t j p q a b : Nat} (hp : p < 4) (hq : q < 4) (ha : a ≤ 50) (hb : b ≤ 50) (e7 : h.1 t 7 = nI a) (e8 : h.1 t 8 = nI b) (b1 : F_X0_herAct h t (nI j) = nI p) (b2 : F_X0_hisAct h t (nI j) = nI q) : F_X0_rightOfTenThousand h t (nI j) = nI (rgt p a * rgt q b) := by
  unfold F_X0_rightOfTenThousand rgt
  rw [b1, b2, e7, e8, i100 ha, i100 hb, show (100 : Int32) = nI 100 from rfl]
  have c1 := (csl_tab p hp).1
  have c2 := (csl_tab q hq).1
  by_cases k1 : p ≤ 1
  · rw [if_neg (fun z => c1.mp z k1), if_pos k1]
    by_cases k2 : q ≤ 1
    · rw [if_neg (fun z => c2.mp z k2), if_pos k2, nm_mul]
    · rw [if_pos (c2.mpr k2), if_neg k2, nm_mul]
  · rw [if_pos (c1.mpr k1), if_neg k1]
    by_cases k2 : q ≤ 1
    · rw [if_neg (fun z => c2.mp z k2), if_pos k2, nm_mul]
    · rw [if_pos (c2.mpr k2), if_neg k2, nm_mul]
theorem rgt_m {h : xm_H} {t p a w : Nat} (hp : p < 4) (hw : w ≤ 1) (ha : a ≤ 50) (e : h.1 83 (11 + w) = nI a) : F_X11_rightOf h t (nI p) (nI w) = nI (rgt p a) := by
  unfold F_X11_rightOf rgt
  have c1 := (csl_tab p hp).2
  rw [show (11 : Int32) = nI 11 from rfl, nI_add, nI_clamp (by omega), e, i100 ha]
  by_cases k1 : p ≤ 1
  · rw [if_neg (fun z => c1.mp z k1), if_pos k1]
  · rw [if_pos (c1.mpr k1), if_neg k1]
    rfl
theorem tws_x {p q a b : Nat} {X Y : Int32} (hp : p < 4) (hq : q < 4) (ha : a ≤ 50) (hb : b ≤ 50) (hX : X = nI p) (hY : Y = nI q) : (if (F_X0_canSlip X) = (0 : Int32) then (0 : Int32) else (if (F_X0_canSlip Y) = (0 : Int32) then (0 : Int32) else (if X = Y then ((nI a * ((100 : Int32) - nI b)) + (nI b * ((100 : Int32) - nI a))) else ((10000 : Int32) - ((nI a * ((100 : Int32) - nI b)) + (nI b * ((100 : Int32) - nI a))))))) = nI (tws p q a b) := by
  subst hX hY
  have c1 := (csl_tab p hp).1
  have c2 := (csl_tab q hq).1
  have h5 := tws_5 a (by omega) b (by omega)
  unfold tws
  rw [i100 ha, i100 hb, nm_mul, nm_mul, nI_add]
  by_cases k1 : p ≤ 1
  · rw [if_neg (fun z => c1.mp z k1)]
    by_cases k2 : q ≤ 1
    · rw [if_neg (fun z => c2.mp z k2), if_pos (show p ≤ 1 ∧ q ≤ 1 from ⟨k1, k2⟩)]
      by_cases k3 : p = q
      · rw [if_pos k3, if_pos (show nI p = nI q by rw [k3])]
      · rw [if_neg k3, if_neg (show ¬ nI p = nI q from fun z => k3 ((nI_eq (by omega) (by omega)).mp z)), show (10000 : Int32) = nI 10000 from rfl, nm_sub (by omega)]
    · rw [if_pos (c2.mpr k2), if_neg (fun z => k2 z.2)]
      rfl
  · rw [if_pos (c1.mpr k1), if_neg (fun z => k1 z.1)]
    rfl
theorem tws_le {p q a b : Nat} (ha : a ≤ 50) (hb : b ≤ 50) : tws p q a b ≤ 10000 ∧ (p = q → tws p q a b ≤ 5000) := by
  have h5 := tws_5 a (by omega) b (by omega)
  unfold tws
  by_cases k1 : p ≤ 1 ∧ q ≤ 1
  · rw [if_pos k1]
    by_cases k3 : p = q
    · rw [if_pos k3]
      exact ⟨by omega, fun _ => h5⟩
    · rw [if_neg k3]
      exact ⟨by omega, fun z => absurd z k3⟩
  · rw [if_neg k1]
    exact ⟨by omega, fun _ => by omega⟩
theorem rgt_le (p a : Nat) : rgt p a ≤ 100 := by
  unfold rgt
  split <;> omega
theorem l10k : (10000 : Int64) = lN 10000 := by decide +kernel
theorem op_right (a w : Int32) : xm_opi (xm_X0 L xs) (d + 20) (Rel SI) 133 294 [.int a, .int w] := by
  intro h hr
  obtain ⟨t, ht, hR, hw, hli, hwk⟩ := hr.opn
  obtain ⟨c, hc, e6, e19, hz, hcs⟩ := calls_of hw hli
  have hi := isCall_x (h := h) (t := t) (a := a) hc e6 e19
  have n0 : ¬ (1 : Int32) = 0 := by decide
  by_cases hb : ∃ j, j < c ∧ a = nI j
  · have m := hi.1 hb
    obtain ⟨j, hj, rfl⟩ := hb
    obtain ⟨p, q, hp, hq, b1, b2, b3, b4⟩ := hcs j hj
    obtain ⟨sa, sb, hsa, hsb, ea, eb, e7, e8⟩ := slips_of hw hli
    by_cases hp1 : nb w 0 1
    · have m1 := (x_isPart w).1 hp1
      have m2 := (in_0_1 w).1 hp1
      have hm1 := rgt_le p sa
      have hm2 := rgt_le q sb
      have hmm : rgt p sa * rgt q sb ≤ 100 * 100 := Nat.mul_le_mul hm1 hm2
      have VX := v_partX (L := L) (xs := xs) (d := d + 10) (h := h) (a := rgt p sa * rgt q sb) (b := 10000) (w := w) (by omega) (by omega) (by omega)
      have VM := v_partM (L := L) (xs := xs) (d := d + 10) (h := h) (a := rgt p sa * rgt q sb) (b := 10000) (w := w) (by omega) (by omega) (by omega)
      refine ⟨(prt (rgt p sa * rgt q sb) 10000 w).toInt32, h, h, v_X10_right (d := d + 19) (s_X10_right_0_2 (d := d + 12) hR ht (by rw [m.1]; exact n0) (by rw [m1]; exact n0) ?_), v_X11_right (d := d + 19) (s_X11_right_0_2 (d := d + 12) hR ht (by rw [m.2]; exact n0) (by rw [m2]; exact n0) (g_her (by omega)) (fun _ => by decide) (g_his (by omega)) (fun _ => by decide) ?_), hr⟩
      · rw [rgt_x hp hq hsa hsb e7 e8 b1 b2, nI_l (by omega), l10k]
        exact VX
      · rw [b3, b4, show (0 : Int32) = nI 0 from rfl, show (1 : Int32) = nI 1 from rfl, rgt_m (w := 0) hp (by omega) hsa ea, rgt_m (w := 1) hq (by omega) hsb eb, nI_l (by omega), nI_l (by omega), lN_mul, l10k]
        exact VM
    · exact ⟨_, _, _, v_X10_right (d := d + 19) (s_X10_right_0_1 (d := d + 12) hR ht (by rw [m.1]; exact n0) ((x_isPart w).2 hp1)), v_X11_right (d := d + 19) (s_X11_right_0_1 (d := d + 12) hR ht (by rw [m.2]; exact n0) ((in_0_1 w).2 hp1)), hr⟩
  · have m := hi.2 hb
    exact ⟨_, _, _, v_X10_right (d := d + 19) (s_X10_right_0_0 (d := d + 12) hR ht m.1), v_X11_right (d := d + 19) (s_X11_right_0_0 (d := d + 12) hR ht m.2), hr⟩
theorem tw_xm {h : xm_H} {t j p q a b : Nat} (hp : p < 4) (hq : q < 4) (ha : a ≤ 50) (hb : b ≤ 50) (ea : h.1 83 11 = nI a) (eb : h.1 83 12 = nI b) (e7 : h.1 t 7 = nI a) (e8 : h.1 t 8 = nI b) (b1 : F_X0_herAct h t (nI j) = nI p) (b2 : F_X0_hisAct h t (nI j) = nI q) (b3 : F_X11_her h t (nI j) = nI p) (b4 : F_X11_his h t (nI j) = nI q) : F_X0_twistsOfTenThousand h t (nI j) = nI (tws p q a b) ∧ F_X11_twistsOf h t (nI j) = nI (tws p q a b) := by
  constructor
  · unfold F_X0_twistsOfTenThousand
    rw [e7, e8]
    exact tws_x hp hq ha hb b1 b2
  · unfold F_X11_twistsOf
    rw [ea, eb]
    exact tws_x hp hq ha hb b3 b4
theorem op_twists (a w : Int32) : xm_opi (xm_X0 L xs) (d + 20) (Rel SI) 138 299 [.int a, .int w] := by
  intro h hr
  obtain ⟨t, ht, hR, hw, hli, hwk⟩ := hr.opn
  obtain ⟨c, hc, e6, e19, hz, hcs⟩ := calls_of hw hli
  have hi := isCall_x (h := h) (t := t) (a := a) hc e6 e19
  have n0 : ¬ (1 : Int32) = 0 := by decide
  by_cases hb : ∃ j, j < c ∧ a = nI j
  · have m := hi.1 hb
    obtain ⟨j, hj, rfl⟩ := hb
    obtain ⟨p, q, hp, hq, b1, b2, b3, b4⟩ := hcs j hj
    obtain ⟨sa, sb, hsa, hsb, ea, eb, e7, e8⟩ := slips_of hw hli
    by_cases hp1 : nb w 0 1
    · have m1 := (x_isPart w).1 hp1
      have m2 := (in_0_1 w).1 hp1
      have tw := tw_xm (h := h) (t := t) (j := j) hp hq hsa hsb ea eb e7 e8 b1 b2 b3 b4
      have hm := tws_le (p := p) (q := q) hsa hsb
      have VX := v_partX (L := L) (xs := xs) (d := d + 10) (h := h) (a := tws p q sa sb) (b := 10000) (w := w) (by omega) (by omega) (by omega)
      have VM := v_partM (L := L) (xs := xs) (d := d + 10) (h := h) (a := tws p q sa sb) (b := 10000) (w := w) (by omega) (by omega) (by omega)
      refine ⟨(prt (tws p q sa sb) 10000 w).toInt32, h, h, v_X10_twists (d := d + 19) (s_X10_twists_0_2 (d := d + 12) hR ht (by rw [m.1]; exact n0) (by rw [m1]; exact n0) ?_), v_X11_twists (d := d + 19) (s_X11_twists_0_2 (d := d + 12) hR ht (by rw [m.2]; exact n0) (by rw [m2]; exact n0) (g_her (by omega)) (fun _ => g_his (by omega)) (fun _ _ => g_her (by omega)) (fun _ _ => g_his (by omega)) ?_), hr⟩
      · rw [tw.1, nI_l (by omega), l10k]
        exact VX
      · rw [tw.2, nI_l (by omega), l10k]
        exact VM
    · exact ⟨_, _, _, v_X10_twists (d := d + 19) (s_X10_twists_0_1 (d := d + 12) hR ht (by rw [m.1]; exact n0) ((x_isPart w).2 hp1)), v_X11_twists (d := d + 19) (s_X11_twists_0_1 (d := d + 12) hR ht (by rw [m.2]; exact n0) ((in_0_1 w).2 hp1)), hr⟩
  · have m := hi.2 hb
    exact ⟨_, _, _, v_X10_twists (d := d + 19) (s_X10_twists_0_0 (d := d + 12) hR ht m.1), v_X11_twists (d := d + 19) (s_X11_twists_0_0 (d := d + 12) hR ht m.2), hr⟩
theorem mg_1 : ∀ p, p < 4 → ∀ q, q < 4 → mg p q ≤ 1 → p = q ∧ p ≤ 1 := by decide +kernel
theorem op_mend (a w : Int32) : xm_opi (xm_X0 L xs) (d + 20) (Rel SI) 140 301 [.int a, .int w] := by
  intro h hr
  obtain ⟨t, ht, hR, hw, hli, hwk⟩ := hr.opn
  obtain ⟨c, hc, e6, e19, hz, hcs⟩ := calls_of hw hli
  have hi := isCall_x (h := h) (t := t) (a := a) hc e6 e19
  have n0 : ¬ (1 : Int32) = 0 := by decide
  by_cases hb : ∃ j, j < c ∧ a = nI j
  · have m := hi.1 hb
    obtain ⟨j, hj, rfl⟩ := hb
    have hn : ¬ h.1 83 22 = 0 := fun h0 => by have := hz h0; omega
    obtain ⟨p, q, hp, hq, b1, b2, b3, b4⟩ := hcs j hj
    obtain ⟨t1, t2, t3⟩ := mg_tab p hp q hq
    obtain ⟨sa, sb, hsa, hsb, ea, eb, e7, e8⟩ := slips_of hw hli
    have w1 : F_X0_actOf h t (nI j) = nI (mg p q) := by
      unfold F_X0_actOf
      rw [b1, b2, t1]
    by_cases hp1 : nb w 0 1
    · have m1 := (x_isPart w).1 hp1
      have m2 := (in_0_1 w).1 hp1
      by_cases hg : mg p q ≤ 1
      · have hpq := mg_1 p hp q hq hg
        have tw := tw_xm (h := h) (t := t) (j := j) hp hq hsa hsb ea eb e7 e8 b1 b2 b3 b4
        have hm := (tws_le (p := p) (q := q) hsa hsb).2 hpq.1
        have h14 := hli.2.2.2.2.2.2.2.2.2.2.2.2.2.2.1 hn
        obtain ⟨s0, -, hs0, es0⟩ := (hw.2.2.1 hn).2.2.2.2.2 0 (by omega)
        obtain ⟨s5, -, hs5, es5⟩ := (hw.2.2.1 hn).2.2.2.2.2 5 (by omega)
        have k0 : F_X0_secondsOf h t (0 : Int32) = nI s0 := (xk_of (a := 0) (by omega) h14).trans es0
        have k9 : F_X0_secondsOf h t (9 : Int32) = nI s5 := (xk_of (a := 9) (by omega) h14).trans es5
        have hmul : tws p q sa sb * s5 ≤ 5000 * 99 := Nat.mul_le_mul hm hs5
        have es0' : h.1 83 5 = nI s0 := es0
        have es5' : h.1 83 10 = nI s5 := es5
        have VX := v_partX (L := L) (xs := xs) (d := d + 10) (h := h) (a := 10000 * s0 + tws p q sa sb * s5) (b := 10000 - tws p q sa sb) (w := w) (by omega) (by omega) (by omega)
        have VM := v_partM (L := L) (xs := xs) (d := d + 10) (h := h) (a := 10000 * s0 + tws p q sa sb * s5) (b := 10000 - tws p q sa sb) (w := w) (by omega) (by omega) (by omega)
        refine ⟨(prt (10000 * s0 + tws p q sa sb * s5) (10000 - tws p q sa sb) w).toInt32, h, h, v_X10_mend (d := d + 19) (s_X10_mend_0_2 (d := d + 12) hR ht (by rw [m.1]; exact n0) (by rw [m1]; exact n0) (by rw [w1]; exact nI_le (b := 1) hg (by omega)) ?_), v_X11_mend (d := d + 19) (s_X11_mend_0_2 (d := d + 12) hR ht (by rw [m.2]; exact n0) (by rw [m2]; exact n0) (g_her (by omega)) (g_his (by omega)) (by rw [b3, b4, t2]; exact nI_le (b := 1) hg (by omega)) (fun _ => g_his (by omega)) (fun _ _ => g_her (by omega)) (fun _ _ => g_his (by omega)) ?_), hr⟩
        · rw [tw.1, k0, k9, nI_l (by omega), nI_l (by omega), nI_l (by omega), l10k, lN_mul, lN_mul, lN_add, lN_sub (by omega)]
          exact VX
        · rw [tw.2, es0', es5', nI_l (by omega), nI_l (by omega), nI_l (by omega), l10k, lN_mul, lN_mul, lN_add, lN_sub (by omega)]
          exact VM
      · exact ⟨_, _, _, v_X10_mend (d := d + 19) (s_X10_mend_0_3 (d := d + 12) hR ht (by rw [m.1]; exact n0) (by rw [m1]; exact n0) (by rw [w1]; exact nI_ge (a := 1) (by omega) (by omega))), v_X11_mend (d := d + 19) (s_X11_mend_0_3 (d := d + 12) hR ht (by rw [m.2]; exact n0) (by rw [m2]; exact n0) (g_her (by omega)) (g_his (by omega)) (by rw [b3, b4, t2]; exact nI_ge (a := 1) (by omega) (by omega))), hr⟩
    · exact ⟨_, _, _, v_X10_mend (d := d + 19) (s_X10_mend_0_1 (d := d + 12) hR ht (by rw [m.1]; exact n0) ((x_isPart w).2 hp1)), v_X11_mend (d := d + 19) (s_X11_mend_0_1 (d := d + 12) hR ht (by rw [m.2]; exact n0) ((in_0_1 w).2 hp1)), hr⟩
  · have m := hi.2 hb
    exact ⟨_, _, _, v_X10_mend (d := d + 19) (s_X10_mend_0_0 (d := d + 12) hR ht m.1), v_X11_mend (d := d + 19) (s_X11_mend_0_0 (d := d + 12) hR ht m.2), hr⟩
end OPS
