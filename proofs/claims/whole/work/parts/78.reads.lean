/-! Numbers, words that must stand; the reference's tokens. -/
def pw (n : Nat) (B : Nat → Nat) (W : List Nat) (p : Nat) : Except (Nat × Nat) Nat := if tw n B p W then .ok (ten n B p) else .error (1, tst n B p)
def pn (n : Nat) (B : Nat → Nat) (lo hi : Nat) (p : Nat) : Except (Nat × Nat) (Nat × Nat) := if tkd n B p = 2 then (if lo ≤ tvl n B p ∧ tvl n B p ≤ hi then .ok (tvl n B p, ten n B p) else .error (2, tst n B p)) else .error (1, tst n B p)
def pch (n : Nat) (B : Nat → Nat) (S : List Nat) (p : Nat) : Except (Nat × Nat) (Nat × Nat) := match ptk n B (.ok p) S with
  | some i => .ok (i, ten n B p)
  | none => .error (1, tst n B p)
/-- on from there, unless there is a FAULT -/
def ebn {α : Type} (r : Except (Nat × Nat) Nat) (f : Nat → Except (Nat × Nat) α) : Except (Nat × Nat) α := match r with
  | .ok p => f p
  | .error e => .error e
/-- where the tape then stands -/
def er2 {α : Type} (r : Except (Nat × Nat) (α × Nat)) : Except (Nat × Nat) Nat := match r with
  | .ok a => .ok a.2
  | .error e => .error e
def ev1 (v : Int32) (r : Except (Nat × Nat) (Nat × Nat)) : Prop := match r with
  | .ok a => v = nI a.1
  | .error _ => True
theorem tkl_1 {S : List Nat} {f : Nat → Nat → Bool} (h : ∀ j, j < S.length → ¬ S.getD j 0 = 32) : ∀ m c a i, m + i = S.length + 1 → i ≤ S.length → tkl S f m c a i = if f a S.length then some c else none := by
  intro m
  induction m with
  | zero => intro c a i hm hi; omega
  | succ m ih =>
    intro c a i hm hi
    unfold tkl
    by_cases hil : i = S.length
    · have hm0 : m = 0 := by omega
      subst hm0
      rw [if_pos (Or.inl hil), hil]
      rfl
    · rw [if_neg (by
        intro hh
        rcases hh with hh | hh
        · exact hil hh
        · exact h i (by omega) hh)]
      exact ih c a (i + 1) (by omega) (by omega)
abbrev nbl (S : List Nat) : Prop := ∀ j, j < S.length → ¬ S.getD j 0 = 32
theorem ptk_1 {n : Nat} {B : Nat → Nat} {r : Except (Nat × Nat) Nat} {S : List Nat} (h : nbl S) : ptk n B r S = if rsw n B r S 0 S.length then some 0 else none := tkl_1 h _ _ _ _ (by omega) (by omega)
theorem tkl_f {S : List Nat} {f : Nat → Nat → Bool} (hf : ∀ a b, f a b = false) : ∀ m c a i, tkl S f m c a i = none := by
  intro m
  induction m with
  | zero => intro c a i; rfl
  | succ m ih =>
    intro c a i
    unfold tkl
    rw [hf]
    split
    · exact ih _ _ _
    · exact ih _ _ _
theorem ptk_e {n : Nat} {B : Nat → Nat} {e : Nat × Nat} {S : List Nat} : ptk n B (.error e) S = none := tkl_f (fun _ _ => rfl) _ _ _ _
section OPS
variable {L : Nat} {xs : Nat → Int32} {d : Nat}
theorem CX.st {n : Nat} {B : Nat → Nat} {h : xm_H} {p : Nat} (hc : CX n B h (.ok p)) : p ≤ n ∧ h.1 1 4 = nI (tst n B p) ∧ h.1 1 5 = nI (ten n B p) ∧ h.1 1 6 = nI (tkd n B p) ∧ h.1 1 2 = 0 ∧ h.1 1 3 = -1 := by
  obtain ⟨e1, hB, p, hp, e4, e5, e6, rfl, b2, b3⟩ := hc
  exact ⟨hp, e4, e5, e6, b2, b3⟩
theorem c_expect {h : xm_H} {t n w : Nat} {B : Nat → Nat} {S : List Nat} {r : Except (Nat × Nat) Nat} (hR : h.2.2 = xm_R0 t) (ht : t = 5 ∨ t = 13) (hn : n ≤ 1000) (hc : CX n B h r) (hs : SX w S) (hb : nbl S) : ∃ g, xm_V (xm_X0 L xs) xm_P (d + 14) 13 [.ref 1, .ref w] h none g ∧ XF h g ∧ CX n B g (ebn r (pw n B S)) := by
  obtain ⟨v, g, g0, g1, g2⟩ := c_take (L := L) (xs := xs) (d := d) hR ht hn hc hs
  unfold TK at g2
  rw [ptk_1 hb] at g2
  cases r with
  | ok p =>
    have q : rsw n B (.ok p) S 0 S.length = tw n B p S := rfl
    rw [q] at g2
    show ∃ g, _ ∧ _ ∧ CX n B g (pw n B S p)
    unfold pw
    cases hq : tw n B p S with
    | true =>
      rw [hq, if_pos rfl] at g2
      obtain ⟨rfl, g3⟩ := g2
      rw [if_pos rfl]
      exact ⟨g, v_X6_expect (d := d + 13) (s_X6_expect_0_1 (d := d + 6) g0 (by decide)), g1, g3⟩
    | false =>
      rw [hq, if_neg (by decide)] at g2
      obtain ⟨rfl, g3⟩ := g2
      rw [if_neg (by decide)]
      obtain ⟨g', k0, k1, k2⟩ := c_fail (L := L) (xs := xs) (d := d + 5) (c := 1) (l := tst n B p) (Or.inl rfl) g3
      rw [← g3.st.2.1] at k0
      exact ⟨g', v_X6_expect (d := d + 13) (s_X6_expect_0_0 (d := d + 6) g0 rfl k0), g1.trans k1, k2⟩
  | error e =>
    have q : rsw n B (.error e) S 0 S.length = false := rfl
    rw [q, if_neg (by decide)] at g2
    obtain ⟨rfl, g3⟩ := g2
    have g3' := g3
    obtain ⟨-, -, p, -, e4, -⟩ := g3'
    obtain ⟨g', k0, k1, k2⟩ := c_fail (L := L) (xs := xs) (d := d + 5) (c := 1) (l := tst n B p) (Or.inl rfl) g3
    rw [← e4] at k0
    exact ⟨g', v_X6_expect (d := d + 13) (s_X6_expect_0_0 (d := d + 6) g0 rfl k0), g1.trans k1, k2⟩
theorem c_choose {h : xm_H} {t n w : Nat} {B : Nat → Nat} {S : List Nat} {r : Except (Nat × Nat) Nat} (hR : h.2.2 = xm_R0 t) (ht : t = 5 ∨ t = 13) (hn : n ≤ 1000) (hc : CX n B h r) (hs : SX w S) : ∃ v g, xm_V (xm_X0 L xs) xm_P (d + 14) 25 [.ref 1, .ref w] h (some (.int v)) g ∧ XF h g ∧ CX n B g (er2 (ebn r (pch n B S))) ∧ ev1 v (ebn r (pch n B S)) := by
  obtain ⟨v, g, g0, g1, g2⟩ := c_take (L := L) (xs := xs) (d := d) hR ht hn hc hs
  unfold TK at g2
  have hl : ∀ i, ptk n B r S = some i → ¬ nI i = (-1 : Int32) := by
    intro i hi
    have : ∀ m c a j, c ≤ j → m + j = S.length + 1 → ∀ i, tkl S (rsw n B r S) m c a j = some i → i ≤ S.length := by
      intro m
      induction m with
      | zero => intro c a j hc hm i hi; cases hi
      | succ m ih =>
        intro c a j hc hm i hi
        unfold tkl at hi
        split at hi
        · split at hi
          · cases hi; omega
          · exact ih _ _ _ (by omega) (by omega) _ hi
        · exact ih _ _ _ (by omega) (by omega) _ hi
    have h1 := this _ _ _ _ (Nat.le_refl _) (by omega) i hi
    have h2 := hs.2.2.2.2.1
    exact fun e => ((nj_n1 (a := i) (k := 1) (by omega) (by decide) (by decide)).mp e).elim
  cases r with
  | ok p =>
    show ∃ v g, _ ∧ _ ∧ CX n B g (er2 (pch n B S p)) ∧ ev1 v (pch n B S p)
    unfold pch
    cases hq : ptk n B (.ok p) S with
    | some i =>
      rw [hq] at g2
      obtain ⟨rfl, g3⟩ := g2
      exact ⟨_, g, v_X6_choose (d := d + 13) (s_X6_choose_0_1 (d := d + 6) g0 (hl i hq)), g1, g3, rfl⟩
    | none =>
      rw [hq] at g2
      obtain ⟨rfl, g3⟩ := g2
      obtain ⟨g', k0, k1, k2⟩ := c_fail (L := L) (xs := xs) (d := d + 5) (c := 1) (l := tst n B p) (Or.inl rfl) g3
      rw [← g3.st.2.1] at k0
      exact ⟨_, g', v_X6_choose (d := d + 13) (s_X6_choose_0_0 (d := d + 6) g0 rfl k0), g1.trans k1, k2, trivial⟩
  | error e =>
    rw [ptk_e] at g2
    obtain ⟨rfl, g3⟩ := g2
    have g3' := g3
    obtain ⟨-, -, p, -, e4, -⟩ := g3'
    obtain ⟨g', k0, k1, k2⟩ := c_fail (L := L) (xs := xs) (d := d + 5) (c := 1) (l := tst n B p) (Or.inl rfl) g3
    rw [← e4] at k0
    exact ⟨_, g', v_X6_choose (d := d + 13) (s_X6_choose_0_0 (d := d + 6) g0 rfl k0), g1.trans k1, k2, trivial⟩
theorem min_step {M v c : Nat} (hM : 0 < M) (hM2 : M ≤ 1000000) (hc : 48 ≤ c) (hc2 : c ≤ 57) : (if nI (min M v) * (10 : Int32) + nI c - (48 : Int32) < nI M then nI (min M v) * (10 : Int32) + nI c - (48 : Int32) else nI M) = nI (min M (10 * v + (c - 48))) := by
  have hm : min M v ≤ M := Nat.min_le_left _ _
  have e : nI (min M v) * (10 : Int32) + nI c - (48 : Int32) = nI (min M v * 10 + c - 48) := by
    rw [show (10 : Int32) = nI 10 from rfl, show (48 : Int32) = nI 48 from rfl, nm_mul, nI_add, nm_sub (by omega)]
  rw [e]
  by_cases hl : min M v * 10 + c - 48 < M
  · rw [if_pos (nI_lt hl (by omega))]
    congr 1
    omega
  · rw [if_neg (nI_nlt (by omega) (by omega))]
    congr 1
    omega
theorem c_number {h : xm_H} {t n lo hi : Nat} {B : Nat → Nat} {r : Except (Nat × Nat) Nat} (hR : h.2.2 = xm_R0 t) (ht : t = 5 ∨ t = 13) (hn : n ≤ 1000) (hc : CX n B h r) (hlo : lo ≤ hi) (hhi : hi ≤ 999) : ∃ v g, xm_V (xm_X0 L xs) xm_P (d + 9) 22 [.ref 1, .int (nI lo), .int (nI hi)] h (some (.int v)) g ∧ XF h g ∧ CX n B g (er2 (ebn r (pn n B lo hi))) ∧ ev1 v (ebn r (pn n B lo hi)) := by
  have hc0 := hc
  obtain ⟨e1, hB, p, hp, e4, e5, e6, hr⟩ := hc
  have h3 := ten_le (B := B) hp
  have hk4 : tkd n B p ≤ 4 := tkd_le
  have hrp : ∀ q, r = .ok q → p = q := by
    intro q hq
    subst hq
    exact hr.1
  by_cases hk : tkd n B p = 2
  · have hd2 := tdig (B := B) hp hk
    have fin : ∀ V, ∃ v g, xm_E (xm_X0 L xs) xm_P (d + 8) co_X6_number 16 [some (.ref 1), some (.int (nI lo)), some (.int (nI hi)), some (.int (nI (min 1000000 V))), some (.int (nI (ten n B p)))] [] h (some (.int v)) g ∧ XF h g ∧ (if lo ≤ V ∧ V ≤ hi then v = nI V ∧ CX n B g (padv n B r) else CX n B g (pfail 2 (tst n B p) r)) := by
      intro V
      have c0 : h.1 1 5 ≤ nI (ten n B p) := by rw [e5]; exact nI_le (Nat.le_refl _) (by omega)
      by_cases h1 : min 1000000 V < lo
      · obtain ⟨g', k0, k1, k2⟩ := c_fail (L := L) (xs := xs) (d := d) (c := 2) (l := tst n B p) (Or.inr (Or.inl rfl)) hc0
        rw [← e4] at k0
        refine ⟨_, g', s_X6_number_16_0 (d := d + 1) c0 (nI_lt h1 (by omega)) k0, k1, ?_⟩
        rw [if_neg (by omega)]
        exact k2
      · by_cases h2 : min 1000000 V ≤ hi
        · obtain ⟨g', k0, k1, k2⟩ := c_adv (L := L) (xs := xs) (d := d) hR ht hn hc0
          refine ⟨_, g', s_X6_number_16_1 (d := d + 1) c0 (nI_nlt (by omega) (by omega)) (nI_le h2 (by omega)) k0, k1, ?_⟩
          rw [if_pos (by omega)]
          refine ⟨?_, k2⟩
          congr 1
          omega
        · obtain ⟨g', k0, k1, k2⟩ := c_fail (L := L) (xs := xs) (d := d) (c := 2) (l := tst n B p) (Or.inr (Or.inl rfl)) hc0
          rw [← e4] at k0
          refine ⟨_, g', s_X6_number_16_2 (d := d + 1) c0 (nI_nlt (by omega) (by omega)) (nI_ge (by omega) (by omega)) k0, k1, ?_⟩
          rw [if_neg (by omega)]
          exact k2
    have loop : ∀ m i v0, i + m = ten n B p → tst n B p ≤ i → ∃ v g, xm_E (xm_X0 L xs) xm_P (d + 8) co_X6_number 16 [some (.ref 1), some (.int (nI lo)), some (.int (nI hi)), some (.int (nI (min 1000000 v0))), some (.int (nI i))] [] h (some (.int v)) g ∧ XF h g ∧ (if lo ≤ tvn B m i v0 ∧ tvn B m i v0 ≤ hi then v = nI (tvn B m i v0) ∧ CX n B g (padv n B r) else CX n B g (pfail 2 (tst n B p) r)) := by
      intro m
      induction m with
      | zero =>
        intro i v0 hi0 hi1
        have : i = ten n B p := by omega
        subst this
        exact fin v0
      | succ m ih =>
        intro i v0 hi0 hi1
        have hdi := hd2 i hi1 (by omega)
        have hdg := kd_dig hdi.1
        have hbn := hB i hdi.2
        have ev : h.1 2 (nI i).toNatClampNeg = nI (B i) := by
          rw [nI_clamp (by omega), hbn.2]
          exact (x8_dg _ (by omega)).1
        obtain ⟨v, g, g0, g1, g2⟩ := ih (i + 1) (10 * v0 + (B i - 48)) (by omega) (by omega)
        refine ⟨v, g, ?_, g1, g2⟩
        refine s_X6_number_16_6 (d := d + 1) hR ht (by rw [e5]; exact nI_ge (by omega) (by omega)) (nI_ge (b := 1000) (by omega) (by omega)) (nI_in (by omega) (by omega)) ?_
        rw [ev, show (1000000 : Int32) = nI 1000000 from rfl, min_step (by decide) (by decide) hdg.1 hdg.2, nI_1]
        exact g0
    obtain ⟨v, g, g0, g1, g2⟩ := loop (ten n B p - tst n B p) (tst n B p) 0 (by omega) (Nat.le_refl _)
    have ek : h.1 1 6 = (2 : Int32) := by rw [e6, hk]; rfl
    have V := v_X6_number (d := d + 8) (s_X6_number_0_0 (d := d + 1) (l1 := nI lo) (l2 := nI hi) ek (by rw [e4]; exact g0))
    refine ⟨v, g, V, g1, ?_⟩
    have et : tvn B (ten n B p - tst n B p) (tst n B p) 0 = tvl n B p := rfl
    rw [et] at g2
    cases r with
    | ok q =>
      have := hrp q rfl
      subst this
      show CX n B g (er2 (pn n B lo hi p)) ∧ ev1 v (pn n B lo hi p)
      unfold pn
      rw [if_pos hk]
      by_cases hin : lo ≤ tvl n B p ∧ tvl n B p ≤ hi
      · rw [if_pos hin] at g2
        rw [if_pos hin]
        exact ⟨g2.2, g2.1⟩
      · rw [if_neg hin] at g2
        rw [if_neg hin]
        exact ⟨g2, trivial⟩
    | error e =>
      refine ⟨?_, trivial⟩
      by_cases hin : lo ≤ tvl n B p ∧ tvl n B p ≤ hi
      · rw [if_pos hin] at g2
        exact g2.2
      · rw [if_neg hin] at g2
        exact g2
  · obtain ⟨g', k0, k1, k2⟩ := c_fail (L := L) (xs := xs) (d := d) (c := 1) (l := tst n B p) (Or.inl rfl) hc0
    rw [← e4] at k0
    have ek : ¬ (h.1 1 6 = (2 : Int32)) := by rw [e6]; exact fun e => hk ((nI_eq (b := 2) (by omega) (by omega)).mp e)
    refine ⟨_, g', v_X6_number (d := d + 8) (s_X6_number_0_1 (d := d + 1) (l2 := nI hi) ek k0), k1, ?_⟩
    cases r with
    | ok q =>
      have := hrp q rfl
      subst this
      show CX n B g' (er2 (pn n B lo hi p)) ∧ ev1 _ (pn n B lo hi p)
      unfold pn
      rw [if_neg hk]
      exact ⟨k2, trivial⟩
    | error e => exact ⟨k2, trivial⟩
end OPS
