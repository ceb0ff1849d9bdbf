/-! The tape's tokens: of the class and of the reference. -/
def x8 (c : Nat) : Int32 := (Int8.ofNat c).toInt32
def kd (c : Nat) : Nat := if 97 ≤ c ∧ c ≤ 122 then 1 else if 48 ≤ c ∧ c ≤ 57 then 2 else if c = 59 then 3 else 4
theorem x8_kd : ∀ c, c < 256 → F_X6_kindOf (x8 c) = nI (kd c) := by decide +kernel
theorem x8_bl : ∀ c, c < 256 → F_X6_isBlank (x8 c) = if c = 32 ∨ c = 10 then 1 else 0 := by decide +kernel
theorem x8_and : ∀ c, c < 256 → x8 c &&& 255 = nI c := by decide +kernel
theorem x8_dg : ∀ c, c < 128 → x8 c = nI c ∧ nI c &&& 255 = nI c := by decide +kernel
theorem x8_wd : ∀ c, c < 256 → F_X11_in (nI c).toInt64 (97 : Int64) (122 : Int64) = if kd c = 1 then 1 else 0 := by decide +kernel
theorem x8_nu : ∀ c, c < 256 → F_X11_in (nI c).toInt64 (48 : Int64) (57 : Int64) = if kd c = 2 then 1 else 0 := by decide +kernel
theorem x8_ch : ∀ c, c < 128 → (((nI c &&& (255 : Int32)).toUInt32 % 65536).toInt32) = nI c ∧ xm_okr 4 (nI c) = true := by decide +kernel
theorem x8_m1 : F_X11_in ((-1 : Int32)).toInt64 (97 : Int64) (122 : Int64) = 0 ∧ F_X11_in ((-1 : Int32)).toInt64 (48 : Int64) (57 : Int64) = 0 := by decide +kernel
theorem x8_eq {b c : Nat} (hb : b < 256) (hc : c < 128) : (nI c = x8 b) ↔ c = b := by
  constructor
  · intro h
    have h1 := x8_and b hb
    rw [← h, (x8_dg c hc).2] at h1
    exact (nI_eq (by omega) (by omega)).mp h1
  · intro h
    subst h
    exact (x8_dg c hc).1.symm
theorem x8_of (b : Int8) : ∃ c, c < 256 ∧ b.toInt32 = x8 c := by
  refine ⟨b.toBitVec.toNat, b.toBitVec.isLt, ?_⟩
  unfold x8
  congr 1
  apply Int8.toBitVec_inj.mp
  simp
theorem kd_pos (c : Nat) : 1 ≤ kd c ∧ kd c ≤ 4 := by
  unfold kd
  split
  · omega
  · split
    · omega
    · split <;> omega
def tks (B : Nat → Nat) : Nat → Nat → Nat
  | 0, p => p
  | m + 1, p => if B p = 32 ∨ B p = 10 then tks B m (p + 1) else p
def tkr (B : Nat → Nat) (k : Nat) : Nat → Nat → Nat
  | 0, p => p
  | m + 1, p => if kd (B p) = k then tkr B k m (p + 1) else p
def tvn (B : Nat → Nat) : Nat → Nat → Nat → Nat
  | 0, _, v => v
  | m + 1, p, v => tvn B m (p + 1) (10 * v + (B p - 48))
theorem tks_le (B : Nat → Nat) : ∀ m p, p ≤ tks B m p ∧ tks B m p ≤ p + m := by
  intro m
  induction m with
  | zero => intro p; exact ⟨Nat.le_refl _, Nat.le_refl _⟩
  | succ m ih =>
    intro p
    unfold tks
    split
    · have := ih (p + 1)
      omega
    · omega
theorem tkr_le (B : Nat → Nat) (k : Nat) : ∀ m p, p ≤ tkr B k m p ∧ tkr B k m p ≤ p + m := by
  intro m
  induction m with
  | zero => intro p; exact ⟨Nat.le_refl _, Nat.le_refl _⟩
  | succ m ih =>
    intro p
    unfold tkr
    split
    · have := ih (p + 1)
      omega
    · omega
theorem tkr_all (B : Nat → Nat) (k : Nat) : ∀ m p j, p ≤ j → j < tkr B k m p → kd (B j) = k := by
  intro m
  induction m with
  | zero => intro p j h1 h2; unfold tkr at h2; omega
  | succ m ih =>
    intro p j h1 h2
    unfold tkr at h2
    split at h2
    · rename_i hk
      by_cases hj : j = p
      · rw [hj]; exact hk
      · exact ih (p + 1) j (by omega) h2
    · omega
/-- the kind of what stands at s -/
def tkk (n : Nat) (B : Nat → Nat) (s : Nat) : Nat := if n ≤ s then 0 else kd (B s)
/-- where it ends -/
def tke (n : Nat) (B : Nat → Nat) (s : Nat) : Nat := if n ≤ s then s else if kd (B s) = 1 ∨ kd (B s) = 2 then tkr B (kd (B s)) (n - (s + 1)) (s + 1) else s + 1
def tst (n : Nat) (B : Nat → Nat) (p : Nat) : Nat := tks B (n - p) p
def tkd (n : Nat) (B : Nat → Nat) (p : Nat) : Nat := tkk n B (tst n B p)
def ten (n : Nat) (B : Nat → Nat) (p : Nat) : Nat := tke n B (tst n B p)
def tvl (n : Nat) (B : Nat → Nat) (p : Nat) : Nat := tvn B (ten n B p - tst n B p) (tst n B p) 0
theorem tst_le {n : Nat} {B : Nat → Nat} {p : Nat} (hp : p ≤ n) : p ≤ tst n B p ∧ tst n B p ≤ n := by
  have := tks_le B (n - p) p
  unfold tst
  omega
theorem tke_le {n : Nat} {B : Nat → Nat} {s : Nat} (hs : s ≤ n) : s ≤ tke n B s ∧ tke n B s ≤ n := by
  unfold tke
  split
  · omega
  · split
    · have := tkr_le B (kd (B s)) (n - (s + 1)) (s + 1)
      omega
    · omega
theorem ten_le {n : Nat} {B : Nat → Nat} {p : Nat} (hp : p ≤ n) : p ≤ ten n B p ∧ tst n B p ≤ ten n B p ∧ ten n B p ≤ n := by
  have h1 := tst_le (B := B) hp
  have h2 := tke_le (B := B) h1.2
  unfold ten
  omega
theorem tkd_le {n : Nat} {B : Nat → Nat} {p : Nat} : tkd n B p ≤ 4 := by
  unfold tkd tkk
  split
  · omega
  · exact (kd_pos _).2
theorem ten_lt {n : Nat} {B : Nat → Nat} {p : Nat} (hp : p ≤ n) (hk : ¬ tkd n B p = 0) : p < ten n B p := by
  have h1 := tst_le (B := B) hp
  unfold tkd tkk at hk
  split at hk
  · exact absurd rfl hk
  · rename_i hn
    unfold ten tke
    rw [if_neg hn]
    split
    · have := tkr_le B (kd (B (tst n B p))) (n - (tst n B p + 1)) (tst n B p + 1)
      omega
    · omega
theorem tdig {n : Nat} {B : Nat → Nat} {p : Nat} (hp : p ≤ n) (hk : tkd n B p = 2) : ∀ j, tst n B p ≤ j → j < ten n B p → kd (B j) = 2 ∧ j < n := by
  intro j h1 h2
  have h3 := ten_le (B := B) hp
  unfold tkd tkk at hk
  split at hk
  · cases hk
  · rename_i hn
    unfold ten tke at h2
    rw [if_neg hn, hk, if_pos (Or.inr rfl)] at h2
    refine ⟨?_, ?_⟩
    · by_cases hj : j = tst n B p
      · rw [hj]; exact hk
      · exact tkr_all B 2 _ _ j (by omega) h2
    · have := tkr_le B 2 (n - (tst n B p + 1)) (tst n B p + 1)
      omega
theorem kd_dig {c : Nat} (h : kd c = 2) : 48 ≤ c ∧ c ≤ 57 := by
  unfold kd at h
  split at h
  · cases h
  · split at h
    · omega
    · split at h <;> cases h
section OPS
variable {L : Nat} {xs : Nat → Int32} {d : Nat}
def XF (h g : xm_H) : Prop := g.2 = h.2 ∧ ∀ q, q ≠ 1 → g.1 q = h.1 q
theorem XF.refl (h : xm_H) : XF h h := ⟨rfl, fun _ _ => rfl⟩
theorem XF.trans {h g k : xm_H} (a : XF h g) (b : XF g k) : XF h k := ⟨b.1.trans a.1, fun q hq => (b.2 q hq).trans (a.2 q hq)⟩
theorem c_run {h : xm_H} {t n k : Nat} {B : Nat → Nat} (hR : h.2.2 = xm_R0 t) (ht : t = 5 ∨ t = 13) (hn : n ≤ 1000) (hB : ∀ j, j < n → B j < 256 ∧ h.1 2 j = x8 (B j)) (hk : k = 1 ∨ k = 2) : ∀ m b (z : xm_H), b + m = n → XF h z → z.1 1 1 = nI n → z.1 1 5 = nI b → z.1 1 6 = nI k → ∃ g, xm_E (xm_X0 L xs) xm_P (d + 7) co_X6_advance 50 [some (.ref 1)] [] z none g ∧ XF h g ∧ (∀ j, j ≠ 5 → g.1 1 j = z.1 1 j) ∧ g.1 1 5 = nI (tkr B k m b) := by
  intro m
  induction m with
  | zero =>
    intro b z hb hz e1 e5 e6
    exact ⟨z, s_X6_advance_50_0 (d := d) (by rw [e1, e5]; exact nI_le (by omega) (by omega)), hz, fun _ _ => rfl, by unfold tkr; exact e5⟩
  | succ m ih =>
    intro b z hb hz e1 e5 e6
    have zR : z.2.2 = xm_R0 t := by rw [hz.1]; exact hR
    have hbn := hB b (by omega)
    have c0 : ¬ (z.1 1 1 ≤ z.1 1 5) := by rw [e1, e5]; exact nI_ge (by omega) (by omega)
    have ci : ¬ (z.1 1 5 < 0 ∨ 1000 ≤ (z.1 1 5).toNatClampNeg) := by rw [e5]; exact nI_in (by omega) (by omega)
    have ek : F_X6_kindOf (z.1 2 ((z.1 1 5).toNatClampNeg)) = nI (kd (B b)) := by
      rw [e5, nI_clamp (by omega), hz.2 2 (by decide), hbn.2]
      exact x8_kd _ hbn.1
    have h4 := kd_pos (B b)
    by_cases hkb : kd (B b) = k
    · obtain ⟨g, g0, g1, g2, g3⟩ := ih (b + 1) (xm_si z 1 5 (z.1 1 5 + (1 : Int32))) (by omega) ⟨hz.1, fun q hq => by rw [xm_rn hq]; exact hz.2 q hq⟩ (by rw [xm_rk (by decide)]; exact e1) (by rw [xm_ra, e5, nI_1]) (by rw [xm_rk (by decide)]; exact e6)
      refine ⟨g, ?_, g1, fun j hj => by rw [g2 j hj, xm_rk hj], by rw [g3]; unfold tkr; rw [if_pos hkb]; cases m <;> rfl⟩
      rcases hk with rfl | rfl
      · exact s_X6_advance_50_1 (d := d) zR ht c0 e6 ci (by rw [ek, hkb, e6]) g0
      · exact s_X6_advance_50_3 (d := d) zR ht c0 (by rw [e6]; decide) e6 ci (by rw [ek, hkb, e6]) g0
    · refine ⟨z, ?_, hz, fun _ _ => rfl, by unfold tkr; rw [if_neg hkb]; exact e5⟩
      have hne : ¬ (F_X6_kindOf (z.1 2 ((z.1 1 5).toNatClampNeg)) = z.1 1 6) := by
        rw [ek, e6]
        intro e
        exact hkb ((nI_eq (by omega) (by omega)).mp e)
      rcases hk with rfl | rfl
      · exact s_X6_advance_50_2 (d := d) zR ht c0 e6 ci hne
      · exact s_X6_advance_50_4 (d := d) zR ht c0 (by rw [e6]; decide) e6 ci hne
theorem c_skip {h : xm_H} {t n : Nat} {B : Nat → Nat} (hR : h.2.2 = xm_R0 t) (ht : t = 5 ∨ t = 13) (hn : n ≤ 1000) (hB : ∀ j, j < n → B j < 256 ∧ h.1 2 j = x8 (B j)) : ∀ m a (z : xm_H), a + m = n → XF h z → z.1 1 1 = nI n → z.1 1 4 = nI a → ∃ g, xm_E (xm_X0 L xs) xm_P (d + 7) co_X6_advance 4 [some (.ref 1)] [] z none g ∧ XF h g ∧ (∀ j, j ≠ 4 → j ≠ 5 → j ≠ 6 → g.1 1 j = z.1 1 j) ∧ g.1 1 4 = nI (tks B m a) ∧ g.1 1 5 = nI (tke n B (tks B m a)) ∧ g.1 1 6 = nI (tkk n B (tks B m a)) := by
  intro m
  induction m with
  | zero =>
    intro a z ha hz e1 e4
    have han : a = n := by omega
    subst han
    have et : tks B 0 a = a := rfl
    rw [et]
    refine ⟨_, s_X6_advance_4_0 (d := d) (by rw [e1, e4]; exact nI_le (by omega) (by omega)) xm_ra (s_X6_advance_50_0 (d := d) ?_), ⟨hz.1, fun q hq => ?_⟩, fun j j4 j5 j6 => ?_, ?_, ?_, ?_⟩
    · rw [xm_rk (by decide), xm_rk (by decide), xm_ra, xm_rk (by decide), e1, e4]; exact nI_le (by omega) (by omega)
    · rw [xm_rn hq, xm_rn hq]; exact hz.2 q hq
    · rw [xm_rk j5, xm_rk j6]
    · rw [xm_rk (by decide), xm_rk (by decide), e4]
    · rw [xm_ra, xm_rk (by decide), e4]
      unfold tke
      rw [if_pos (Nat.le_refl _)]
    · rw [xm_rk (by decide), xm_ra]
      unfold tkk
      rw [if_pos (Nat.le_refl _)]
      rfl
  | succ m ih =>
    intro a z ha hz e1 e4
    have zR : z.2.2 = xm_R0 t := by rw [hz.1]; exact hR
    have hbn := hB a (by omega)
    have c0 : ¬ (z.1 1 1 ≤ z.1 1 4) := by rw [e1, e4]; exact nI_ge (by omega) (by omega)
    have ci : ¬ (z.1 1 4 < 0 ∨ 1000 ≤ (z.1 1 4).toNatClampNeg) := by rw [e4]; exact nI_in (by omega) (by omega)
    have eb : z.1 2 ((z.1 1 4).toNatClampNeg) = x8 (B a) := by rw [e4, nI_clamp (by omega), hz.2 2 (by decide), hbn.2]
    by_cases hbl : B a = 32 ∨ B a = 10
    · have et : tks B (m + 1) a = tks B m (a + 1) := by
        conv => lhs; unfold tks
        rw [if_pos hbl]
      rw [et]
      obtain ⟨g, g0, g1, g2, g3⟩ := ih (a + 1) (xm_si z 1 4 (z.1 1 4 + (1 : Int32))) (by omega) ⟨hz.1, fun q hq => by rw [xm_rn hq]; exact hz.2 q hq⟩ (by rw [xm_rk (by decide)]; exact e1) (by rw [xm_ra, e4, nI_1])
      refine ⟨g, s_X6_advance_4_6 (d := d) zR ht c0 ci ?_ g0, g1, fun j j4 j5 j6 => by rw [g2 j j4 j5 j6, xm_rk j4], g3⟩
      rw [eb, x8_bl _ hbn.1, if_pos hbl]
      decide
    · have et : tks B (m + 1) a = a := by
        unfold tks
        rw [if_neg hbl]
      rw [et]
      have ek : F_X6_kindOf (z.1 2 ((z.1 1 4).toNatClampNeg)) = nI (kd (B a)) := by rw [eb]; exact x8_kd _ hbn.1
      have h4 := kd_pos (B a)
      have kz : ¬ (nI (kd (B a)) = (0 : Int32)) := fun e => by
        have := (nI_eq (a := kd (B a)) (b := 0) (by omega) (by omega)).mp e
        omega
      have hin : ¬ n ≤ a := by omega
      have e5 : tke n B a = if kd (B a) = 1 ∨ kd (B a) = 2 then tkr B (kd (B a)) (n - (a + 1)) (a + 1) else a + 1 := by
        unfold tke
        rw [if_neg hin]
      have e6 : tkk n B a = kd (B a) := by
        unfold tkk
        rw [if_neg hin]
      let y : xm_H := xm_si (xm_si z 1 6 (nI (kd (B a)))) 1 5 (nI (a + 1))
      have yF : XF h y := ⟨hz.1, fun q hq => by
        show (xm_si (xm_si z 1 6 (nI (kd (B a)))) 1 5 (nI (a + 1))).1 q = _
        rw [xm_rn hq, xm_rn hq]; exact hz.2 q hq⟩
      have y1 : y.1 1 1 = nI n := by
        show (xm_si (xm_si z 1 6 (nI (kd (B a)))) 1 5 (nI (a + 1))).1 1 1 = _
        rw [xm_rk (by decide), xm_rk (by decide)]; exact e1
      have y4 : y.1 1 4 = nI a := by
        show (xm_si (xm_si z 1 6 (nI (kd (B a)))) 1 5 (nI (a + 1))).1 1 4 = _
        rw [xm_rk (by decide), xm_rk (by decide)]; exact e4
      have y5 : y.1 1 5 = nI (a + 1) := xm_ra
      have y6 : y.1 1 6 = nI (kd (B a)) := by
        show (xm_si (xm_si z 1 6 (nI (kd (B a)))) 1 5 (nI (a + 1))).1 1 6 = _
        rw [xm_rk (by decide), xm_ra]
      have yj : ∀ j, j ≠ 4 → j ≠ 5 → j ≠ 6 → y.1 1 j = z.1 1 j := fun j j4 j5 j6 => by
        show (xm_si (xm_si z 1 6 (nI (kd (B a)))) 1 5 (nI (a + 1))).1 1 j = _
        rw [xm_rk j5, xm_rk j6]
      have enter : ∀ g, xm_E (xm_X0 L xs) xm_P (d + 7) co_X6_advance 50 [some (.ref 1)] [] y none g → xm_E (xm_X0 L xs) xm_P (d + 7) co_X6_advance 4 [some (.ref 1)] [] z none g := by
        intro g K
        refine s_X6_advance_4_5 (d := d) zR ht c0 ci ?_ ?_ ?_
        · rw [eb, x8_bl _ hbn.1, if_neg hbl]
        · rw [xm_ra, ek]; exact kz
        · rw [ek, xm_rk (by decide), e4, nI_1]; exact K
      by_cases hk : kd (B a) = 1 ∨ kd (B a) = 2
      · obtain ⟨g, g0, g1, g2, g3⟩ := c_run (L := L) (xs := xs) (d := d) hR ht hn hB hk (n - (a + 1)) (a + 1) y (by omega) yF y1 y5 y6
        refine ⟨g, enter g g0, g1, fun j j4 j5 j6 => by rw [g2 j j5, yj j j4 j5 j6], by rw [g2 4 (by decide), y4], ?_, by rw [g2 6 (by decide), y6, e6]⟩
        rw [g3, e5, if_pos hk]
      · refine ⟨y, enter y ?_, yF, yj, y4, by rw [e5, if_neg hk]; exact y5, by rw [e6]; exact y6⟩
        by_cases hz5 : n ≤ a + 1
        · exact s_X6_advance_50_0 (d := d) (by rw [y1, y5]; exact nI_le (by omega) (by omega))
        · refine s_X6_advance_50_5 (d := d) (by rw [y1, y5]; exact nI_ge (by omega) (by omega)) ?_ ?_
          · rw [y6]
            intro e
            exact hk (Or.inl ((nI_eq (b := 1) (by omega) (by omega)).mp e))
          · rw [y6]
            intro e
            exact hk (Or.inr ((nI_eq (b := 2) (by omega) (by omega)).mp e))
/-- the class's tape: where it stands, or its FAULT -/
def CX (n : Nat) (B : Nat → Nat) (h : xm_H) (r : Except (Nat × Nat) Nat) : Prop :=
  h.1 1 1 = nI n ∧ (∀ j, j < n → B j < 256 ∧ h.1 2 j = x8 (B j)) ∧ ∃ p, p ≤ n ∧ h.1 1 4 = nI (tst n B p) ∧ h.1 1 5 = nI (ten n B p) ∧ h.1 1 6 = nI (tkd n B p) ∧ (match r with
    | .ok q => p = q ∧ h.1 1 2 = 0 ∧ h.1 1 3 = -1
    | .error e => (e.1 = 1 ∨ e.1 = 2 ∨ e.1 = 3) ∧ h.1 1 2 = nI e.1 ∧ h.1 1 3 = nI e.2)
theorem CX.si {n : Nat} {B : Nat → Nat} {h : xm_H} {r : Except (Nat × Nat) Nat} (hc : CX n B h r) {q k : Nat} {v : Int32} (hq : 3 ≤ q) : CX n B (xm_si h q k v) r := by
  unfold CX at hc ⊢
  rw [xm_rn (show (1 : Nat) ≠ q by omega), xm_rn (show (2 : Nat) ≠ q by omega)]
  exact hc
def padv (n : Nat) (B : Nat → Nat) (r : Except (Nat × Nat) Nat) : Except (Nat × Nat) Nat := match r with
  | .ok p => .ok (ten n B p)
  | .error e => .error e
theorem c_adv {h : xm_H} {t n : Nat} {B : Nat → Nat} {r : Except (Nat × Nat) Nat} (hR : h.2.2 = xm_R0 t) (ht : t = 5 ∨ t = 13) (hn : n ≤ 1000) (hc : CX n B h r) : ∃ g, xm_V (xm_X0 L xs) xm_P (d + 8) 8 [.ref 1] h none g ∧ XF h g ∧ CX n B g (padv n B r) := by
  obtain ⟨e1, hB, p, hp, e4, e5, e6, hr⟩ := hc
  have h3 := ten_le (B := B) hp
  obtain ⟨g, g0, g1, g2, g3, g4, g5⟩ := c_skip (L := L) (xs := xs) (d := d) hR ht hn hB (n - ten n B p) (ten n B p) (xm_si h 1 4 (h.1 1 5)) (by omega) ⟨rfl, fun q hq => xm_rn hq⟩ (by rw [xm_rk (by decide)]; exact e1) (by rw [xm_ra]; exact e5)
  refine ⟨g, v_X6_advance (d := d + 7) (s_X6_advance_0_0 (d := d) g0), g1, ?_, fun j hj => ⟨(hB j hj).1, by rw [g1.2 2 (by decide)]; exact (hB j hj).2⟩, ten n B p, h3.2.2, g3, g4, g5, ?_⟩
  · rw [g2 1 (by decide) (by decide) (by decide), xm_rk (by decide)]; exact e1
  · have g12 : g.1 1 2 = h.1 1 2 := by rw [g2 2 (by decide) (by decide) (by decide), xm_rk (by decide)]
    have g13 : g.1 1 3 = h.1 1 3 := by rw [g2 3 (by decide) (by decide) (by decide), xm_rk (by decide)]
    cases r with
    | ok q =>
      obtain ⟨rfl, b2, b3⟩ := hr
      exact ⟨rfl, by rw [g12]; exact b2, by rw [g13]; exact b3⟩
    | error e =>
      obtain ⟨b1, b2, b3⟩ := hr
      exact ⟨b1, by rw [g12]; exact b2, by rw [g13]; exact b3⟩
def pfail (c l : Nat) (r : Except (Nat × Nat) Nat) : Except (Nat × Nat) Nat := match r with
  | .ok _ => .error (c, l)
  | .error e => .error e
theorem nz123 {k : Nat} (h : k = 1 ∨ k = 2 ∨ k = 3) : ¬ nI k = (0 : Int32) := by
  rcases h with rfl | rfl | rfl <;> decide
theorem c_fail {h : xm_H} {n c l : Nat} {B : Nat → Nat} {r : Except (Nat × Nat) Nat} (hcc : c = 1 ∨ c = 2 ∨ c = 3) (hc : CX n B h r) : ∃ g, xm_V (xm_X0 L xs) xm_P (d + 8) 21 [.ref 1, .int (nI c), .int (nI l)] h none g ∧ XF h g ∧ CX n B g (pfail c l r) := by
  obtain ⟨e1, hB, p, hp, e4, e5, e6, hr⟩ := hc
  cases r with
  | ok q =>
    obtain ⟨rfl, b2, b3⟩ := hr
    refine ⟨_, v_X6_fail (d := d + 7) (s_X6_fail_0_0 (d := d) b2), ⟨rfl, fun q hq => by rw [xm_rn hq, xm_rn hq]⟩, ?_, fun j hj => ⟨(hB j hj).1, ?_⟩, p, hp, ?_, ?_, ?_, hcc, ?_, ?_⟩
    · rw [xm_rk (by decide), xm_rk (by decide)]; exact e1
    · rw [xm_rn (by decide), xm_rn (by decide)]; exact (hB j hj).2
    · rw [xm_rk (by decide), xm_rk (by decide)]; exact e4
    · rw [xm_rk (by decide), xm_rk (by decide)]; exact e5
    · rw [xm_rk (by decide), xm_rk (by decide)]; exact e6
    · rw [xm_rk (by decide), xm_ra]
    · exact xm_ra
  | error e =>
    have hr' := hr
    obtain ⟨b1, b2, b3⟩ := hr
    exact ⟨h, v_X6_fail (d := d + 7) (s_X6_fail_0_1 (d := d) (by rw [b2]; exact nz123 b1)), XF.refl h, e1, hB, p, hp, e4, e5, e6, hr'⟩
end OPS
