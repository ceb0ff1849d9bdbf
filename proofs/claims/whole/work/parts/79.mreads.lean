/-! The reference's tokens, words, numbers. -/
section OPS
variable {L : Nat} {xs : Nat → Int32} {d : Nat}
def MF (h g : xm_H) : Prop := g.2 = h.2 ∧ (∀ q, q ≠ 82 → g.1 q = h.1 q) ∧ g.1 82 5 = h.1 82 5
theorem MF.refl (h : xm_H) : MF h h := ⟨rfl, fun _ _ => rfl, rfl⟩
theorem MF.trans {h g k : xm_H} (a : MF h g) (b : MF g k) : MF h k := ⟨b.1.trans a.1, fun q hq => (b.2.1 q hq).trans (a.2.1 q hq), b.2.2.trans a.2.2⟩
theorem MF.si {h : xm_H} {j : Nat} {v : Int32} (hj : j ≠ 5) : MF h (xm_si h 82 j v) := ⟨rfl, fun q hq => xm_rn hq, xm_rk (fun e => hj e.symm)⟩
/-- the reference's tape: where it stands, or its FAULT -/
def MX (n : Nat) (B : Nat → Nat) (h : xm_H) (r : Except (Nat × Nat) Nat) : Prop :=
  h.1 82 7 = nI n ∧ (∀ j, j < n → B j < 256 ∧ h.1 86 j = x8 (B j)) ∧ ∃ p, p ≤ n ∧ h.1 82 9 = nI (tst n B p) ∧ h.1 82 8 = nI (ten n B p) ∧ h.1 82 10 = nI (tkd n B p) ∧ (tkd n B p = 2 → h.1 82 11 = nI (min 99999 (tvl n B p))) ∧ (match r with
    | .ok q => p = q ∧ h.1 82 12 = 0 ∧ h.1 82 13 = -1
    | .error e => (e.1 = 1 ∨ e.1 = 2 ∨ e.1 = 3) ∧ h.1 82 12 = nI e.1 ∧ h.1 82 13 = nI e.2)
theorem MX.si {n : Nat} {B : Nat → Nat} {h : xm_H} {r : Except (Nat × Nat) Nat} (hc : MX n B h r) {q k : Nat} {v : Int32} (hq : 87 ≤ q) : MX n B (xm_si h q k v) r := by
  unfold MX at hc ⊢
  rw [xm_rn (show (82 : Nat) ≠ q by omega), xm_rn (show (86 : Nat) ≠ q by omega)]
  exact hc
theorem see_in {z : xm_H} {t n a : Nat} {B : Nat → Nat} (hn : n ≤ 1000) (e7 : z.1 82 7 = nI n) (ha : a < n) (hb : B a < 256) (e : z.1 86 a = x8 (B a)) : F_X11_see z t (nI a) = nI (B a) := by
  unfold F_X11_see
  rw [e7, if_neg (nI_ge ha (by omega)), nI_clamp (by omega), e]
  exact x8_and _ hb
theorem see_out {z : xm_H} {t n a : Nat} (hn : n ≤ 1000) (e7 : z.1 82 7 = nI n) (ha : n ≤ a) (ha2 : a ≤ 1000) : F_X11_see z t (nI a) = -1 := by
  unfold F_X11_see
  rw [e7, if_pos (nI_le ha (by omega))]
theorem see_g {z : xm_H} {n a : Nat} (hn : n ≤ 1000) (e7 : z.1 82 7 = nI n) (e8 : z.1 82 8 = nI a) (ha : a ≤ 1000) : (¬ (z.1 82 7 ≤ (z.1 82 8))) → ¬ ((z.1 82 8) < 0 ∨ 1000 ≤ (z.1 82 8).toNatClampNeg) := by
  intro hc
  rw [e7, e8] at hc
  rw [e8]
  have : a < n := by
    rcases Nat.lt_or_ge a n with h | h
    · exact h
    · exact absurd (nI_le h (by omega)) hc
  exact nI_in (by omega) (by omega)
theorem m_word {h : xm_H} {t n : Nat} {B : Nat → Nat} {l1 : Int32} (hR : h.2.2 = xm_R0 t) (ht : t = 5 ∨ t = 13) (hn : n ≤ 1000) (hB : ∀ j, j < n → B j < 256 ∧ h.1 86 j = x8 (B j)) : ∀ m b (z : xm_H), b + m = n → MF h z → z.1 82 7 = nI n → z.1 82 8 = nI b → ∃ g, xm_E (xm_X0 L xs) xm_P (d + 7) co_X11_advance 41 [some (.ref 82), some (.int l1)] [] z none g ∧ MF h g ∧ (∀ j, j ≠ 8 → j ≠ 10 → g.1 82 j = z.1 82 j) ∧ g.1 82 8 = nI (tkr B 1 m b) ∧ g.1 82 10 = nI 1 := by
  intro m
  induction m with
  | zero =>
    intro b z hb hz e7 e8
    have zR : z.2.2 = xm_R0 t := by rw [hz.1]; exact hR
    refine ⟨_, s_X11_advance_41_0 (d := d) zR ht (see_g hn e7 e8 (by omega)) (by rw [e8, see_out hn e7 (by omega) (by omega)]; exact x8_m1.1), hz.trans (MF.si (by decide)), fun j j8 j10 => xm_rk j10, by rw [xm_rk (by decide)]; unfold tkr; exact e8, xm_ra⟩
  | succ m ih =>
    intro b z hb hz e7 e8
    have zR : z.2.2 = xm_R0 t := by rw [hz.1]; exact hR
    have hbn := hB b (by omega)
    have es : F_X11_see z t (z.1 82 8) = nI (B b) := by rw [e8]; exact see_in hn e7 (by omega) hbn.1 (by rw [hz.2.1 86 (by decide)]; exact hbn.2)
    by_cases hk : kd (B b) = 1
    · obtain ⟨g, g0, g1, g2, g3, g4⟩ := ih (b + 1) (xm_si z 82 8 (z.1 82 8 + (1 : Int32))) (by omega) (hz.trans (MF.si (by decide))) (by rw [xm_rk (by decide)]; exact e7) (by rw [xm_ra, e8, nI_1])
      refine ⟨g, s_X11_advance_41_1 (d := d) zR ht (see_g hn e7 e8 (by omega)) ?_ g0, g1, fun j j8 j10 => by rw [g2 j j8 j10, xm_rk j8], ?_, g4⟩
      · rw [es, x8_wd _ hbn.1, if_pos hk]; decide
      · rw [g3]
        conv => rhs; unfold tkr
        rw [if_pos hk]
    · refine ⟨_, s_X11_advance_41_0 (d := d) zR ht (see_g hn e7 e8 (by omega)) (by rw [es, x8_wd _ hbn.1, if_neg hk]), hz.trans (MF.si (by decide)), fun j j8 j10 => xm_rk j10, ?_, xm_ra⟩
      rw [xm_rk (by decide)]
      unfold tkr
      rw [if_neg hk]
      exact e8
theorem m_digits {h : xm_H} {t n : Nat} {B : Nat → Nat} {l1 : Int32} (hR : h.2.2 = xm_R0 t) (ht : t = 5 ∨ t = 13) (hn : n ≤ 1000) (hB : ∀ j, j < n → B j < 256 ∧ h.1 86 j = x8 (B j)) : ∀ m b v0 (z : xm_H), b + m = n → MF h z → z.1 82 7 = nI n → z.1 82 8 = nI b → z.1 82 11 = nI (min 99999 v0) → ∃ g, xm_E (xm_X0 L xs) xm_P (d + 7) co_X11_advance 70 [some (.ref 82), some (.int l1)] [] z none g ∧ MF h g ∧ (∀ j, j ≠ 8 → j ≠ 10 → j ≠ 11 → g.1 82 j = z.1 82 j) ∧ g.1 82 8 = nI (tkr B 2 m b) ∧ g.1 82 10 = nI 2 ∧ g.1 82 11 = nI (min 99999 (tvn B (tkr B 2 m b - b) b v0)) := by
  intro m
  induction m with
  | zero =>
    intro b v0 z hb hz e7 e8 e11
    have zR : z.2.2 = xm_R0 t := by rw [hz.1]; exact hR
    refine ⟨_, s_X11_advance_70_0 (d := d) zR ht (see_g hn e7 e8 (by omega)) (by rw [e8, see_out hn e7 (by omega) (by omega)]; exact x8_m1.2), hz.trans (MF.si (by decide)), fun j j8 j10 j11 => xm_rk j10, by rw [xm_rk (by decide)]; unfold tkr; exact e8, xm_ra, ?_⟩
    rw [xm_rk (by decide), e11]
    unfold tkr
    rw [Nat.sub_self]
    rfl
  | succ m ih =>
    intro b v0 z hb hz e7 e8 e11
    have zR : z.2.2 = xm_R0 t := by rw [hz.1]; exact hR
    have hbn := hB b (by omega)
    have es : F_X11_see z t (z.1 82 8) = nI (B b) := by rw [e8]; exact see_in hn e7 (by omega) hbn.1 (by rw [hz.2.1 86 (by decide)]; exact hbn.2)
    by_cases hk : kd (B b) = 2
    · have hdg := kd_dig hk
      have ev : (if (((10 : Int32) * (z.1 82 11)) + (F_X11_see z t (z.1 82 8))) - (48 : Int32) < (99999 : Int32) then (((10 : Int32) * (z.1 82 11)) + (F_X11_see z t (z.1 82 8))) - (48 : Int32) else (99999 : Int32)) = nI (min 99999 (10 * v0 + (B b - 48))) := by
        rw [es, e11, Int32.mul_comm, show (99999 : Int32) = nI 99999 from rfl]
        exact min_step (by decide) (by decide) hdg.1 hdg.2
      obtain ⟨g, g0, g1, g2, g3, g4, g5⟩ := ih (b + 1) (10 * v0 + (B b - 48)) (xm_si (xm_si z 82 11 (nI (min 99999 (10 * v0 + (B b - 48))))) 82 8 (nI (b + 1))) (by omega) ((hz.trans (MF.si (by decide))).trans (MF.si (by decide))) (by rw [xm_rk (by decide), xm_rk (by decide)]; exact e7) xm_ra (by rw [xm_rk (by decide), xm_ra])
      have er : tkr B 2 (m + 1) b = tkr B 2 m (b + 1) := by
        conv => lhs; unfold tkr
        rw [if_pos hk]
      have hle := tkr_le B 2 m (b + 1)
      refine ⟨g, s_X11_advance_70_1 (d := d) zR ht (see_g hn e7 e8 (by omega)) ?_ ?_, g1, fun j j8 j10 j11 => by rw [g2 j j8 j10 j11, xm_rk j8, xm_rk j11], by rw [er]; exact g3, g4, ?_⟩
      · rw [es, x8_nu _ hbn.1, if_pos hk]; decide
      · rw [ev, xm_rk (by decide), e8, nI_1]
        exact g0
      · rw [g5, er, show tkr B 2 m (b + 1) - b = (tkr B 2 m (b + 1) - (b + 1)) + 1 by omega]
        rfl
    · have er : tkr B 2 (m + 1) b = b := by
        unfold tkr
        rw [if_neg hk]
      refine ⟨_, s_X11_advance_70_0 (d := d) zR ht (see_g hn e7 e8 (by omega)) (by rw [es, x8_nu _ hbn.1, if_neg hk]), hz.trans (MF.si (by decide)), fun j j8 j10 j11 => xm_rk j10, by rw [xm_rk (by decide), er]; exact e8, xm_ra, ?_⟩
      rw [xm_rk (by decide), e11, er, Nat.sub_self]
      rfl
theorem m_skip {h : xm_H} {t n : Nat} {B : Nat → Nat} (hR : h.2.2 = xm_R0 t) (ht : t = 5 ∨ t = 13) (hn : n ≤ 1000) (hB : ∀ j, j < n → B j < 256 ∧ h.1 86 j = x8 (B j)) : ∀ m a (z : xm_H), a + m = n → MF h z → z.1 82 7 = nI n → z.1 82 8 = nI a → ∃ g, xm_E (xm_X0 L xs) xm_P (d + 7) co_X11_advance 0 [some (.ref 82), none] [] z none g ∧ MF h g ∧ (∀ j, j ≠ 8 → j ≠ 9 → j ≠ 10 → j ≠ 11 → g.1 82 j = z.1 82 j) ∧ g.1 82 9 = nI (tks B m a) ∧ g.1 82 8 = nI (tke n B (tks B m a)) ∧ g.1 82 10 = nI (tkk n B (tks B m a)) ∧ (tkk n B (tks B m a) = 2 → g.1 82 11 = nI (min 99999 (tvn B (tke n B (tks B m a) - tks B m a) (tks B m a) 0))) := by
  intro m
  have pre : ∀ a (z : xm_H), a ≤ n → MF h z → z.1 82 7 = nI n → z.1 82 8 = nI a → (xm_si z 82 9 (z.1 82 8)).1 82 7 = nI n ∧ (xm_si z 82 9 (z.1 82 8)).1 82 8 = nI a ∧ (xm_si z 82 9 (z.1 82 8)).1 82 9 = nI a ∧ MF h (xm_si z 82 9 (z.1 82 8)) := by
    intro a z ha hz e7 e8
    exact ⟨by rw [xm_rk (by decide)]; exact e7, by rw [xm_rk (by decide)]; exact e8, by rw [xm_ra]; exact e8, hz.trans (MF.si (by decide))⟩
  induction m with
  | zero =>
    intro a z ha hz e7 e8
    have han : a = n := by omega
    subst han
    have et : tks B 0 a = a := rfl
    rw [et]
    have zR : z.2.2 = xm_R0 t := by rw [hz.1]; exact hR
    obtain ⟨y7, y8, y9, yF⟩ := pre a z (Nat.le_refl _) hz e7 e8
    have es : F_X11_see z t (z.1 82 8) = -1 := by rw [e8]; exact see_out hn e7 (Nat.le_refl _) hn
    have ey : F_X11_see (xm_si z 82 9 (z.1 82 8)) t ((xm_si z 82 9 (z.1 82 8)).1 82 8) = -1 := by rw [y8]; exact see_out hn y7 (Nat.le_refl _) hn
    refine ⟨_, s_X11_advance_0_2 (d := d) zR ht (see_g hn e7 e8 hn) (by rw [es]; decide) (by rw [es]; decide) (see_g hn y7 y8 hn) ey, yF.trans (MF.si (by decide)), fun j j8 j9 j10 j11 => by rw [xm_rk j10, xm_rk j9], by rw [xm_rk (by decide)]; exact y9, ?_, ?_, ?_⟩
    · rw [xm_rk (by decide), y8]
      unfold tke
      rw [if_pos (Nat.le_refl _)]
    · rw [xm_ra]
      unfold tkk
      rw [if_pos (Nat.le_refl _)]
      rfl
    · intro e
      unfold tkk at e
      rw [if_pos (Nat.le_refl _)] at e
      cases e
  | succ m ih =>
    intro a z ha hz e7 e8
    have zR : z.2.2 = xm_R0 t := by rw [hz.1]; exact hR
    have hbn := hB a (by omega)
    have es : F_X11_see z t (z.1 82 8) = nI (B a) := by rw [e8]; exact see_in hn e7 (by omega) hbn.1 (by rw [hz.2.1 86 (by decide)]; exact hbn.2)
    by_cases hbl : B a = 32 ∨ B a = 10
    · have et : tks B (m + 1) a = tks B m (a + 1) := by
        conv => lhs; unfold tks
        rw [if_pos hbl]
      rw [et]
      obtain ⟨g, g0, g1, g2, g3⟩ := ih (a + 1) (xm_si z 82 8 (z.1 82 8 + (1 : Int32))) (by omega) (hz.trans (MF.si (by decide))) (by rw [xm_rk (by decide)]; exact e7) (by rw [xm_ra, e8, nI_1])
      refine ⟨g, ?_, g1, fun j j8 j9 j10 j11 => by rw [g2 j j8 j9 j10 j11, xm_rk j8], g3⟩
      by_cases h32 : B a = 32
      · exact s_X11_advance_0_0 (d := d) zR ht (see_g hn e7 e8 (by omega)) (by rw [es, h32]; rfl) g0
      · have h10 : B a = 10 := by
          rcases hbl with h | h
          · exact absurd h h32
          · exact h
        exact s_X11_advance_0_1 (d := d) zR ht (see_g hn e7 e8 (by omega)) (by rw [es, h10]; decide) (by rw [es, h10]; rfl) g0
    · have et : tks B (m + 1) a = a := by
        unfold tks
        rw [if_neg hbl]
      rw [et]
      have hin : ¬ n ≤ a := by omega
      have e5 : tke n B a = if kd (B a) = 1 ∨ kd (B a) = 2 then tkr B (kd (B a)) (n - (a + 1)) (a + 1) else a + 1 := by
        unfold tke
        rw [if_neg hin]
      have e6 : tkk n B a = kd (B a) := by
        unfold tkk
        rw [if_neg hin]
      obtain ⟨y7, y8, y9, yF⟩ := pre a z (by omega) hz e7 e8
      have c1 : ¬ (F_X11_see z t (z.1 82 8) = (32 : Int32)) := by rw [es]; exact fun e => hbl (Or.inl ((nI_eq (b := 32) (by omega) (by omega)).mp e))
      have c2 : ¬ (F_X11_see z t (z.1 82 8) = (10 : Int32)) := by rw [es]; exact fun e => hbl (Or.inr ((nI_eq (b := 10) (by omega) (by omega)).mp e))
      have ey : F_X11_see (xm_si z 82 9 (z.1 82 8)) t ((xm_si z 82 9 (z.1 82 8)).1 82 8) = nI (B a) := by
        rw [y8]
        exact see_in hn y7 (by omega) hbn.1 (by rw [yF.2.1 86 (by decide)]; exact hbn.2)
      have c4 : ¬ (F_X11_see (xm_si z 82 9 (z.1 82 8)) t ((xm_si z 82 9 (z.1 82 8)).1 82 8) = (-1 : Int32)) := by
        rw [ey]
        exact fun e => ((nj_n1 (a := B a) (k := 1) (by omega) (by decide) (by decide)).mp e).elim
      have gs := see_g hn e7 e8 (by omega)
      have gy := see_g hn y7 y8 (by omega)
      have hr1 : ∀ k, kd (B a) = k → tkr B k (n - a) a = tkr B k (n - (a + 1)) (a + 1) := by
        intro k hk
        rw [show n - a = (n - (a + 1)) + 1 by omega]
        conv => lhs; unfold tkr
        rw [if_pos hk]
      by_cases h1 : kd (B a) = 1
      · obtain ⟨g, g0, g1, g2, g3, g4⟩ := m_word (L := L) (xs := xs) (d := d) (l1 := F_X11_see (xm_si z 82 9 (z.1 82 8)) t ((xm_si z 82 9 (z.1 82 8)).1 82 8)) hR ht hn hB (n - a) a (xm_si z 82 9 (z.1 82 8)) (by omega) yF y7 y8
        refine ⟨g, s_X11_advance_0_6 (d := d) zR ht gs c1 c2 gy c4 (by rw [ey, x8_wd _ hbn.1, if_pos h1]; decide) g0, g1, fun j j8 j9 j10 j11 => by rw [g2 j j8 j10, xm_rk j9], by rw [g2 9 (by decide) (by decide)]; exact y9, ?_, by rw [g4, e6, h1], fun e => by rw [e6, h1] at e; cases e⟩
        rw [g3, e5, h1, if_pos (Or.inl rfl), hr1 1 h1]
      · by_cases h2 : kd (B a) = 2
        · obtain ⟨g, g0, g1, g2, g3, g4, g5⟩ := m_digits (L := L) (xs := xs) (d := d) (l1 := F_X11_see (xm_si z 82 9 (z.1 82 8)) t ((xm_si z 82 9 (z.1 82 8)).1 82 8)) hR ht hn hB (n - a) a 0 (xm_si (xm_si z 82 9 (z.1 82 8)) 82 11 (0 : Int32)) (by omega) (yF.trans (MF.si (by decide))) (by rw [xm_rk (by decide)]; exact y7) (by rw [xm_rk (by decide)]; exact y8) xm_ra
          have ee : tke n B a = tkr B 2 (n - a) a := by rw [e5, h2, if_pos (Or.inr rfl), hr1 2 h2]
          refine ⟨g, s_X11_advance_0_5 (d := d) zR ht gs c1 c2 gy c4 (by rw [ey, x8_wd _ hbn.1, if_neg h1]) (by rw [ey, x8_nu _ hbn.1, if_pos h2]; decide) g0, g1, fun j j8 j9 j10 j11 => by rw [g2 j j8 j10 j11, xm_rk j11, xm_rk j9], by rw [g2 9 (by decide) (by decide) (by decide), xm_rk (by decide)]; exact y9, by rw [g3, ee], by rw [g4, e6, h2], fun _ => by rw [g5, ee]⟩
        · have e12 : ¬ (kd (B a) = 1 ∨ kd (B a) = 2) := by
            intro hh
            rcases hh with hh | hh
            · exact h1 hh
            · exact h2 hh
          have cw : F_X11_in ((F_X11_see (xm_si z 82 9 (z.1 82 8)) t ((xm_si z 82 9 (z.1 82 8)).1 82 8)).toInt64) (97 : Int64) (122 : Int64) = (0 : Int32) := by rw [ey, x8_wd _ hbn.1, if_neg h1]
          have cn : F_X11_in ((F_X11_see (xm_si z 82 9 (z.1 82 8)) t ((xm_si z 82 9 (z.1 82 8)).1 82 8)).toInt64) (48 : Int64) (57 : Int64) = (0 : Int32) := by rw [ey, x8_nu _ hbn.1, if_neg h2]
          by_cases h59 : B a = 59
          · have k3 : kd (B a) = 3 := by rw [h59]; rfl
            refine ⟨_, s_X11_advance_0_3 (d := d) zR ht gs c1 c2 gy c4 cw cn (by rw [ey, h59]; rfl), (yF.trans (MF.si (by decide))).trans (MF.si (by decide)), fun j j8 j9 j10 j11 => by rw [xm_rk j8, xm_rk j10, xm_rk j9], by rw [xm_rk (by decide), xm_rk (by decide)]; exact y9, ?_, by rw [xm_rk (by decide), xm_ra, e6, k3]; rfl, fun e => by rw [e6, k3] at e; cases e⟩
            rw [xm_ra, xm_rk (by decide), y8, nI_1, e5, if_neg e12]
          · have k4 : kd (B a) = 4 := by
              have hp4 := kd_pos (B a)
              have : kd (B a) ≠ 3 := by
                unfold kd
                split
                · omega
                · split
                  · omega
                  · omega
              omega
            refine ⟨_, s_X11_advance_0_4 (d := d) zR ht gs c1 c2 gy c4 cw cn (by rw [ey]; exact fun e => h59 ((nI_eq (b := 59) (by omega) (by omega)).mp e)), (yF.trans (MF.si (by decide))).trans (MF.si (by decide)), fun j j8 j9 j10 j11 => by rw [xm_rk j8, xm_rk j10, xm_rk j9], by rw [xm_rk (by decide), xm_rk (by decide)]; exact y9, ?_, by rw [xm_rk (by decide), xm_ra, e6, k4]; rfl, fun e => by rw [e6, k4] at e; cases e⟩
            rw [xm_ra, xm_rk (by decide), y8, nI_1, e5, if_neg e12]
theorem m_adv {h : xm_H} {t n : Nat} {B : Nat → Nat} {r : Except (Nat × Nat) Nat} (hR : h.2.2 = xm_R0 t) (ht : t = 5 ∨ t = 13) (hn : n ≤ 1000) (hc : MX n B h r) : ∃ g, xm_V (xm_X0 L xs) xm_P (d + 8) 197 [.ref 82] h none g ∧ MF h g ∧ MX n B g (padv n B r) := by
  obtain ⟨e1, hB, p, hp, e9, e8, e10, e11, hr⟩ := hc
  have h3 := ten_le (B := B) hp
  obtain ⟨g, g0, g1, g2, g3, g4, g5, g6⟩ := m_skip (L := L) (xs := xs) (d := d) hR ht hn hB (n - ten n B p) (ten n B p) h (by omega) (MF.refl h) e1 e8
  refine ⟨g, v_X11_advance (d := d + 7) g0, g1, ?_, fun j hj => ⟨(hB j hj).1, by rw [g1.2.1 86 (by decide)]; exact (hB j hj).2⟩, ten n B p, h3.2.2, g3, g4, g5, g6, ?_⟩
  · rw [g2 7 (by decide) (by decide) (by decide) (by decide)]; exact e1
  · have g12 : g.1 82 12 = h.1 82 12 := g2 12 (by decide) (by decide) (by decide) (by decide)
    have g13 : g.1 82 13 = h.1 82 13 := g2 13 (by decide) (by decide) (by decide) (by decide)
    cases r with
    | ok q =>
      obtain ⟨rfl, b2, b3⟩ := hr
      exact ⟨rfl, by rw [g12]; exact b2, by rw [g13]; exact b3⟩
    | error e =>
      obtain ⟨b1, b2, b3⟩ := hr
      exact ⟨b1, by rw [g12]; exact b2, by rw [g13]; exact b3⟩
theorem good_1 {h : xm_H} {t : Nat} (e : h.1 82 12 = 0) : F_X11_good h t = 1 := by
  unfold F_X11_good
  rw [if_pos e]
theorem good_0 {h : xm_H} {t : Nat} (e : ¬ h.1 82 12 = 0) : F_X11_good h t = 0 := by
  unfold F_X11_good
  rw [if_neg e]
theorem MX.good {n t : Nat} {B : Nat → Nat} {h : xm_H} {p : Nat} (hc : MX n B h (.ok p)) : F_X11_good h t = 1 := by
  obtain ⟨-, -, q, -, -, -, -, -, -, b2, -⟩ := hc
  exact good_1 b2
theorem MX.bad {n t : Nat} {B : Nat → Nat} {h : xm_H} {e : Nat × Nat} (hc : MX n B h (.error e)) : F_X11_good h t = 0 := by
  obtain ⟨-, -, q, -, -, -, -, -, b1, b2, -⟩ := hc
  exact good_0 (by rw [b2]; exact nz123 b1)
theorem MX.st {n : Nat} {B : Nat → Nat} {h : xm_H} {p : Nat} (hc : MX n B h (.ok p)) : p ≤ n ∧ h.1 82 9 = nI (tst n B p) ∧ h.1 82 8 = nI (ten n B p) ∧ h.1 82 10 = nI (tkd n B p) ∧ (tkd n B p = 2 → h.1 82 11 = nI (min 99999 (tvl n B p))) ∧ h.1 82 12 = 0 ∧ h.1 82 13 = -1 := by
  obtain ⟨e1, hB, p, hp, e4, e5, e6, e7, rfl, b2, b3⟩ := hc
  exact ⟨hp, e4, e5, e6, e7, b2, b3⟩
theorem m_errs {h : xm_H} {t n c : Nat} {B : Nat → Nat} {r : Except (Nat × Nat) Nat} (hR : h.2.2 = xm_R0 t) (ht : t = 5 ∨ t = 13) (hcc : c = 1 ∨ c = 2 ∨ c = 3) (hc : MX n B h r) : ∃ g, xm_V (xm_X0 L xs) xm_P (d + 8) 205 [.ref 82, .int (nI c)] h none g ∧ MF h g ∧ MX n B g (ebn r (fun p => .error (c, tst n B p))) := by
  cases r with
  | error e => exact ⟨h, v_X11_errs (d := d + 7) (s_X11_errs_0_0 (d := d) hR ht hc.bad), MF.refl h, hc⟩
  | ok p =>
    have n0 : ¬ (1 : Int32) = 0 := by decide
    have hg : F_X11_good h t = 1 := hc.good
    obtain ⟨e1, hB, p, hp, e4, e5, e6, e7, rfl, b2, b3⟩ := hc
    refine ⟨_, v_X11_errs (d := d + 7) (s_X11_errs_0_1 (d := d) hR ht (by rw [hg]; exact n0)), (MF.si (by decide)).trans (MF.si (by decide)), ?_, fun j hj => ⟨(hB j hj).1, ?_⟩, p, hp, ?_, ?_, ?_, ?_, hcc, ?_, ?_⟩
    · rw [xm_rk (by decide), xm_rk (by decide)]; exact e1
    · rw [xm_rn (by decide), xm_rn (by decide)]; exact (hB j hj).2
    · rw [xm_rk (by decide), xm_rk (by decide)]; exact e4
    · rw [xm_rk (by decide), xm_rk (by decide)]; exact e5
    · rw [xm_rk (by decide), xm_rk (by decide)]; exact e6
    · rw [xm_rk (by decide), xm_rk (by decide)]; exact e7
    · rw [xm_rk (by decide), xm_ra]
    · rw [xm_ra, xm_rk (by decide)]; exact e4
/-- whether the word stands here, unless there is a FAULT -/
def rtw (n : Nat) (B : Nat → Nat) (r : Except (Nat × Nat) Nat) (W : List Nat) : Bool := match r with
  | .ok p => tw n B p W
  | .error _ => false
def b2i (b : Bool) : Int32 := if b then 1 else 0
theorem m_is {h : xm_H} {t n w : Nat} {B : Nat → Nat} {S : List Nat} {r : Except (Nat × Nat) Nat} (hR : h.2.2 = xm_R0 t) (ht : t = 5 ∨ t = 13) (hn : n ≤ 1000) (hc : MX n B h r) (hs : SX w S) : xm_V (xm_X0 L xs) xm_P (d + 8) 204 [.ref 82, .ref w] h (some (.int (b2i (rtw n B r S)))) h := by
  have hl := hs.2.2.2.2.1
  have n0 : ¬ (1 : Int32) = 0 := by decide
  have out0 : xm_E (xm_X0 L xs) xm_P (d + 7) co_X11_is 21 [some (.ref 82), some (.ref w), some (.int (0 : Int32)), some (.int (0 : Int32))] [] h (some (.int 0)) h := by
    by_cases h0 : S.length = 0
    · refine s_X11_is_21_0 (d := d) (v_len (d := d + 5) hs) (sx_fld hs).1 ?_ (by decide)
      rw [h0]; decide
    · exact s_X11_is_21_1 (d := d) (v_len (d := d + 5) hs) (sx_fld hs).1 (nI_ge (a := 0) (by omega) (by omega)) rfl (by decide)
  cases r with
  | error e => exact v_X11_is (d := d + 7) (s_X11_is_0_0 (d := d) hR ht hc.bad out0)
  | ok p =>
    have hg : F_X11_good h t = 1 := hc.good
    have hcg : ¬ F_X11_good h t = 0 := by rw [hg]; exact n0
    have hB := hc.2.1
    obtain ⟨hp, e9, e8, e10, -, -, -⟩ := hc.st
    have h3 := ten_le (B := B) hp
    have hk4 : tkd n B p ≤ 4 := tkd_le
    show xm_V (xm_X0 L xs) xm_P (d + 8) 204 [.ref 82, .ref w] h (some (.int (b2i (tw n B p S)))) h
    by_cases hk : tkd n B p = 1
    · have ek : h.1 82 10 = (1 : Int32) := by rw [e10, hk]; rfl
      have el : h.1 82 8 - h.1 82 9 = nI (ten n B p - tst n B p) := by rw [e8, e9]; exact nm_sub h3.2.1
      by_cases hlen : S.length = ten n B p - tst n B p
      · have loop : ∀ m i, i + m = S.length → (∀ j, j < i → S.getD j 0 = B (tst n B p + j)) → xm_E (xm_X0 L xs) xm_P (d + 7) co_X11_is 21 [some (.ref 82), some (.ref w), some (.int (1 : Int32)), some (.int (nI i))] [] h (some (.int (b2i (tw n B p S)))) h := by
          intro m
          induction m with
          | zero =>
            intro i hi hall
            have : tw n B p S = true := decide_eq_true ⟨hk, by omega, fun j hj => by rw [Nat.zero_add]; exact hall j (by omega)⟩
            rw [this]
            exact s_X11_is_21_0 (d := d) (v_len (d := d + 5) hs) (sx_fld hs).1 (nI_le (by omega) (by omega)) (by decide)
          | succ m ih =>
            intro i hi hall
            have hii : i < S.length := by omega
            have hbn := hB (tst n B p + i) (by omega)
            have ex : h.1 82 9 + nI i = nI (tst n B p + i) := by rw [e9, nI_add]
            have ci : ¬ (h.1 82 9 + nI i < 0 ∨ 1000 ≤ (h.1 82 9 + nI i).toNatClampNeg) := by rw [ex]; exact nI_in (by omega) (by omega)
            have ev : h.1 86 ((h.1 82 9 + nI i).toNatClampNeg) = x8 (B (tst n B p + i)) := by rw [ex, nI_clamp (by omega)]; exact hbn.2
            by_cases he : S.getD i 0 = B (tst n B p + i)
            · have E := ih (i + 1) (by omega) (fun j hj => by
                by_cases hj2 : j = i
                · rw [hj2]; exact he
                · exact hall j (by omega))
              rw [← nI_1] at E
              exact s_X11_is_21_2 (d := d) ht (v_len (d := d + 5) hs) (sx_fld hs).1 (nI_ge hii (by omega)) (by decide) hR ci (v_char (d := d + 3) hs hii) (by rw [ev]; exact ((x8_eq hbn.1 (sx_lt hs hii)).mpr he).symm) E
            · have : tw n B p S = false := decide_eq_false (fun hq => he (by
                have := hq.2.2 i (by omega)
                rw [Nat.zero_add] at this
                exact this))
              rw [this]
              refine s_X11_is_21_3 (d := d) ht (v_len (d := d + 5) hs) (sx_fld hs).1 (nI_ge hii (by omega)) (by decide) hR ci (v_char (d := d + 3) hs hii) (by rw [ev]; exact fun e => he ((x8_eq hbn.1 (sx_lt hs hii)).mp e.symm)) ?_
              rw [nI_1]
              by_cases h0 : S.length ≤ i + 1
              · exact s_X11_is_21_0 (d := d) (v_len (d := d + 5) hs) (sx_fld hs).1 (nI_le h0 (by omega)) (by decide)
              · exact s_X11_is_21_1 (d := d) (v_len (d := d + 5) hs) (sx_fld hs).1 (nI_ge (by omega) (by omega)) rfl (by decide)
        exact v_X11_is (d := d + 7) (s_X11_is_0_1 (d := d) hR ht hcg ek (v_len (d := d + 5) hs) (sx_fld hs).1 (by rw [el, hlen]) (loop S.length 0 (by omega) (fun j hj => absurd hj (by omega))))
      · have : tw n B p S = false := decide_eq_false (fun hq => hlen (by have := hq.2.1; omega))
        rw [this]
        exact v_X11_is (d := d + 7) (s_X11_is_0_2 (d := d) hR ht hcg ek (v_len (d := d + 5) hs) (sx_fld hs).1 (by rw [el]; exact fun e => hlen ((nI_eq (by omega) (by omega)).mp e).symm) out0)
    · have : tw n B p S = false := decide_eq_false (fun hq => hk hq.1)
      rw [this]
      exact v_X11_is (d := d + 7) (s_X11_is_0_3 (d := d) hR ht hcg (by rw [e10]; exact fun e => hk ((nI_eq (b := 1) (by omega) (by omega)).mp e)) out0)
theorem m_takes {h : xm_H} {t n w : Nat} {B : Nat → Nat} {S : List Nat} {r : Except (Nat × Nat) Nat} (hR : h.2.2 = xm_R0 t) (ht : t = 5 ∨ t = 13) (hn : n ≤ 1000) (hc : MX n B h r) (hs : SX w S) : ∃ g, xm_V (xm_X0 L xs) xm_P (d + 9) 203 [.ref 82, .ref w] h (some (.int (b2i (rtw n B r S)))) g ∧ MF h g ∧ MX n B g (if rtw n B r S then padv n B r else r) := by
  have V := m_is (L := L) (xs := xs) (d := d) hR ht hn hc hs
  cases hq : rtw n B r S with
  | true =>
    rw [hq] at V
    obtain ⟨g, g0, g1, g2⟩ := m_adv (L := L) (xs := xs) (d := d) hR ht hn hc
    exact ⟨g, v_X11_takes (d := d + 8) (s_X11_takes_0_1 (d := d + 1) V (by decide) g0 (by decide)), g1, g2⟩
  | false =>
    rw [hq] at V
    exact ⟨h, v_X11_takes (d := d + 8) (s_X11_takes_0_0 (d := d + 1) V (by decide) (by decide)), MF.refl h, hc⟩
theorem m_needs {h : xm_H} {t n w : Nat} {B : Nat → Nat} {S : List Nat} {r : Except (Nat × Nat) Nat} (hR : h.2.2 = xm_R0 t) (ht : t = 5 ∨ t = 13) (hn : n ≤ 1000) (hc : MX n B h r) (hs : SX w S) : ∃ g, xm_V (xm_X0 L xs) xm_P (d + 10) 202 [.ref 82, .ref w] h none g ∧ MF h g ∧ MX n B g (ebn r (pw n B S)) := by
  obtain ⟨g, g0, g1, g2⟩ := m_takes (L := L) (xs := xs) (d := d) hR ht hn hc hs
  have gR : g.2.2 = xm_R0 t := by rw [g1.1]; exact hR
  cases hq : rtw n B r S with
  | true =>
    rw [hq] at g0 g2
    refine ⟨g, v_X11_needs (d := d + 9) (s_X11_needs_0_1 (d := d + 2) g0 (by decide)), g1, ?_⟩
    cases r with
    | error e => cases hq
    | ok p =>
      show MX n B g (pw n B S p)
      unfold pw
      rw [show tw n B p S = true from hq]
      exact g2
  | false =>
    rw [hq] at g0 g2
    obtain ⟨g', k0, k1, k2⟩ := m_errs (L := L) (xs := xs) (d := d + 1) (c := 1) gR ht (Or.inl rfl) g2
    refine ⟨g', v_X11_needs (d := d + 9) (s_X11_needs_0_0 (d := d + 2) g0 (by decide) k0), g1.trans k1, ?_⟩
    cases r with
    | error e => exact k2
    | ok p =>
      show MX n B g' (pw n B S p)
      unfold pw
      rw [show tw n B p S = false from hq]
      exact k2
theorem m_number {h : xm_H} {t n lo hi : Nat} {B : Nat → Nat} {r : Except (Nat × Nat) Nat} (hR : h.2.2 = xm_R0 t) (ht : t = 5 ∨ t = 13) (hn : n ≤ 1000) (hc : MX n B h r) (hlo : lo ≤ hi) (hhi : hi ≤ 999) : ∃ v g, xm_V (xm_X0 L xs) xm_P (d + 9) 207 [.ref 82, .int (nI lo), .int (nI hi)] h (some (.int v)) g ∧ MF h g ∧ MX n B g (er2 (ebn r (pn n B lo hi))) ∧ ev1 v (ebn r (pn n B lo hi)) := by
  have n0 : ¬ (1 : Int32) = 0 := by decide
  cases r with
  | error e =>
    exact ⟨_, h, v_X11_number (d := d + 8) (s_X11_number_0_0 (d := d + 1) hR ht hc.bad (s_X11_number_10_0 (d := d + 1) hR ht hc.bad)), MF.refl h, hc, trivial⟩
  | ok p =>
    have hg : ¬ F_X11_good h t = 0 := by rw [show F_X11_good h t = 1 from hc.good]; exact n0
    obtain ⟨hp, e9, e8, e10, e11, -, -⟩ := hc.st
    have hk4 : tkd n B p ≤ 4 := tkd_le
    show ∃ v g, _ ∧ _ ∧ MX n B g (er2 (pn n B lo hi p)) ∧ ev1 v (pn n B lo hi p)
    unfold pn
    by_cases hk : tkd n B p = 2
    · rw [if_pos hk]
      have ev := e11 hk
      have ein : F_X11_in ((h.1 82 11).toInt64) (nI lo).toInt64 (nI hi).toInt64 = if lo ≤ min 99999 (tvl n B p) ∧ min 99999 (tvl n B p) ≤ hi then 1 else 0 := by
        rw [ev]
        exact in_nat (by omega) (by omega) (by omega)
      by_cases hin : lo ≤ tvl n B p ∧ tvl n B p ≤ hi
      · rw [if_pos hin]
        obtain ⟨g, g0, g1, g2⟩ := m_adv (L := L) (xs := xs) (d := d) hR ht hn hc
        refine ⟨_, g, v_X11_number (d := d + 8) (s_X11_number_0_1 (d := d + 1) hR ht hg (by rw [e10, hk]; rfl) (s_X11_number_10_5 (d := d + 1) hR ht hg (by rw [ein, if_pos (by omega)]; exact n0) g0)), g1, g2, ?_⟩
        show h.1 82 11 = nI (tvl n B p)
        rw [ev]
        congr 1
        omega
      · rw [if_neg hin]
        obtain ⟨g, g0, g1, g2⟩ := m_errs (L := L) (xs := xs) (d := d) (c := 2) hR ht (Or.inr (Or.inl rfl)) hc
        have gR : g.2.2 = xm_R0 t := by rw [g1.1]; exact hR
        exact ⟨_, g, v_X11_number (d := d + 8) (s_X11_number_0_1 (d := d + 1) hR ht hg (by rw [e10, hk]; rfl) (s_X11_number_10_2 (d := d + 1) hR ht hg (by rw [ein, if_neg (by omega)]) g0 gR g2.bad)), g1, g2, trivial⟩
    · rw [if_neg hk]
      obtain ⟨g, g0, g1, g2⟩ := m_errs (L := L) (xs := xs) (d := d) (c := 1) hR ht (Or.inl rfl) hc
      have gR : g.2.2 = xm_R0 t := by rw [g1.1]; exact hR
      exact ⟨_, g, v_X11_number (d := d + 8) (s_X11_number_0_2 (d := d + 1) hR ht hg (by rw [e10]; exact fun e => hk ((nI_eq (b := 2) (by omega) (by omega)).mp e)) g0 (s_X11_number_10_0 (d := d + 1) gR ht g2.bad)), g1, g2, trivial⟩
theorem ebn_ebn {α : Type} {r : Except (Nat × Nat) Nat} {f : Nat → Except (Nat × Nat) Nat} {k : Nat → Except (Nat × Nat) α} : ebn (ebn r f) k = ebn r (fun p => ebn (f p) k) := by
  cases r <;> rfl
theorem m_told {h : xm_H} {t n lo hi w : Nat} {B : Nat → Nat} {S : List Nat} {r : Except (Nat × Nat) Nat} (hR : h.2.2 = xm_R0 t) (ht : t = 5 ∨ t = 13) (hn : n ≤ 1000) (hc : MX n B h r) (hs : SX w S) (hlo : lo ≤ hi) (hhi : hi ≤ 999) : ∃ v g, xm_V (xm_X0 L xs) xm_P (d + 11) 206 [.ref 82, .ref w, .int (nI lo), .int (nI hi)] h (some (.int v)) g ∧ MF h g ∧ MX n B g (er2 (ebn (ebn r (pw n B S)) (pn n B lo hi))) ∧ ev1 v (ebn (ebn r (pw n B S)) (pn n B lo hi)) := by
  obtain ⟨g, g0, g1, g2⟩ := m_needs (L := L) (xs := xs) (d := d) hR ht hn hc hs
  have gR : g.2.2 = xm_R0 t := by rw [g1.1]; exact hR
  obtain ⟨v, k, k0, k1, k2, k3⟩ := m_number (L := L) (xs := xs) (d := d + 1) gR ht hn g2 hlo hhi
  exact ⟨v, k, v_X11_told (d := d + 10) (s_X11_told_0_0 (d := d + 3) g0 k0), g1.trans k1, k2, k3⟩
end OPS
