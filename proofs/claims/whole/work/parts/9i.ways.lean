/-! In how many ways: counts by length, pure and the class's. -/
def wv (nx : Nat → St → Option St) (f : St → Nat) (s : St) (k : Nat) : Nat :=
  match nx k s with
  | none => 0
  | some u => f u
def wS (nx : Nat → St → Option St) (G : St) : Nat → St → Nat
  | 0, s => if s = G then 1 else 0
  | l + 1, s => sm (wv nx (wS nx G l) s) 10
theorem wv_n {nx : Nat → St → Option St} {f : St → Nat} {s : St} {k : Nat} (h : nx k s = none) : wv nx f s k = 0 := by
  unfold wv
  rw [h]
theorem wv_s {nx : Nat → St → Option St} {f : St → Nat} {s u : St} {k : Nat} (h : nx k s = some u) : wv nx f s k = f u := by
  unfold wv
  rw [h]
theorem sm_b {f : Nat → Nat} {b : Nat} : ∀ n, (∀ x, x < n → f x ≤ b) → sm f n ≤ n * b
  | 0, _ => by simp only [sm]; omega
  | n + 1, h => by
    have a := sm_b n (fun x hx => h x (by omega))
    have c := h n (by omega)
    simp only [sm]
    rw [Nat.add_mul]
    omega
theorem wS_b {nx : Nat → St → Option St} {G : St} : ∀ l s, wS nx G l s ≤ 10 ^ l
  | 0, s => by
    simp only [wS]
    split <;> omega
  | l + 1, s => by
    simp only [wS]
    rw [Nat.pow_succ, Nat.mul_comm]
    refine sm_b 10 (fun k _ => ?_)
    cases h : nx k s with
    | none => rw [wv_n h]; exact Nat.zero_le _
    | some u => rw [wv_s h]; exact wS_b l u
theorem wv_b {nx : Nat → St → Option St} {G s : St} {l k : Nat} : wv nx (wS nx G l) s k ≤ 10 ^ l := by
  cases h : nx k s with
  | none => rw [wv_n h]; exact Nat.zero_le _
  | some u => rw [wv_s h]; exact wS_b l u
theorem ten12 {l : Nat} (h : l ≤ 12) : 10 ^ l ≤ 1000000000000 := by
  have := Nat.pow_le_pow_right (n := 10) (by omega) h
  exact this
theorem wS_pos {nx : Nat → St → Option St} {G s : St} {l : Nat} (h : 0 < wS nx G (l + 1) s) : ∃ k u, k < 10 ∧ nx k s = some u ∧ 0 < wS nx G l u := by
  have key : ∀ n (f : Nat → Nat), 0 < sm f n → ∃ k, k < n ∧ 0 < f k := by
    intro n
    induction n with
    | zero => intro f hf; exact absurd hf (Nat.lt_irrefl _)
    | succ n ih =>
      intro f hf
      simp only [sm] at hf
      by_cases q : 0 < f n
      · exact ⟨n, by omega, q⟩
      · obtain ⟨k, k1, k2⟩ := ih f (by omega)
        exact ⟨k, by omega, k2⟩
  obtain ⟨k, k1, k2⟩ := key 10 _ h
  cases hn : nx k s with
  | none => rw [wv_n hn] at k2; omega
  | some u => rw [wv_s hn] at k2; exact ⟨k, u, k1, hn, k2⟩
theorem wS_tw {rm : Nat} {G : St} (hG : ¬ G.2.2.2.2 = 2) : ∀ l s, s.2.2.2.2 = 2 → wS (nx10 1023 rm 60) G l s = 0
  | 0, s, hs => by
    simp only [wS]
    exact if_neg (fun e => hG (by rw [← e]; exact hs))
  | l + 1, s, hs => by
    rcases Nat.eq_zero_or_pos (wS (nx10 1023 rm 60) G (l + 1) s) with q | q
    · exact q
    · obtain ⟨k, u, k1, k2, k3⟩ := wS_pos q
      rw [nx10_e k1] at k2
      have hd := nxC_do k2
      have hu : u.2.2.2.2 = 2 := by
        by_cases z : u.2.2.2.2 = 2
        · exact z
        · have := st_do_tw (by omega) hd z
          omega
      rw [wS_tw hG l u hu] at k3
      omega
/-- the i-th move of the first way of l + 1 moves -/
def HW (nx : Nat → St → Option St) (G : St) : Nat → Nat → St → Nat → Prop
  | 0, l, s, r => ∃ u, r < 10 ∧ nx r s = some u ∧ 0 < wS nx G l u ∧ ∀ k, k < r → ∀ u', nx k s = some u' → wS nx G l u' = 0
  | i + 1, l, s, r => ∃ k u, k < 10 ∧ nx k s = some u ∧ 0 < wS nx G l u ∧ (∀ k', k' < k → ∀ u', nx k' s = some u' → wS nx G l u' = 0) ∧ HW nx G i (l - 1) u r
theorem HW.uniq {nx : Nat → St → Option St} {G : St} : ∀ i l s r r', HW nx G i l s r → HW nx G i l s r' → r = r'
  | 0, l, s, r, r', h, h' => by
    obtain ⟨u, a1, a2, a3, a4⟩ := h
    obtain ⟨u', b1, b2, b3, b4⟩ := h'
    rcases Nat.lt_trichotomy r r' with q | q | q
    · have := b4 r q u a2; omega
    · exact q
    · have := a4 r' q u' b2; omega
  | i + 1, l, s, r, r', h, h' => by
    obtain ⟨k, u, a1, a2, a3, a4, a5⟩ := h
    obtain ⟨k', u', b1, b2, b3, b4, b5⟩ := h'
    have e : k = k' := by
      rcases Nat.lt_trichotomy k k' with q | q | q
      · have := b4 k q u a2; omega
      · exact q
      · have := a4 k' q u' b2; omega
    subst e
    rw [a2] at b2
    have e := Option.some.inj b2
    subst e
    exact HW.uniq i (l - 1) u r r' a5 b5
/-- bits -/
def bs (p : Nat → Bool) : Nat → Nat
  | 0 => 0
  | n + 1 => bs p n + (if p n = true then 2 ^ n else 0)
theorem bs_lt {p : Nat → Bool} : ∀ n, bs p n < 2 ^ n
  | 0 => by simp only [bs]; decide
  | n + 1 => by
    have := bs_lt (p := p) n
    simp only [bs]
    rw [Nat.pow_succ]
    split <;> omega
theorem bs_tb {p : Nat → Bool} {l : Nat} : ∀ n, l < n → (bs p n).testBit l = p l
  | 0, h => absurd h (Nat.not_lt_zero _)
  | n + 1, h => by
    have hb := bs_lt (p := p) n
    simp only [bs]
    by_cases e : l = n
    · subst e
      cases hp : p l with
      | true =>
        rw [if_pos rfl, Nat.add_comm, Nat.testBit_two_pow_add_eq, Nat.testBit_lt_two_pow hb]
        rfl
      | false =>
        rw [if_neg (by decide), Nat.add_zero, Nat.testBit_lt_two_pow hb]
    · have ih := bs_tb (p := p) (l := l) n (by omega)
      split
      · rw [Nat.add_comm, Nat.testBit_two_pow_add_gt (by omega)]
        exact ih
      · rw [Nat.add_zero]; exact ih
theorem bs_bit {p : Nat → Bool} {l n : Nat} (h : l < n) : (bs p n >>> l) % 2 = 1 ↔ p l = true := by
  have e := bs_tb (p := p) n h
  rw [Nat.testBit_eq_decide_div_mod_eq] at e
  rw [Nat.shiftRight_eq_div_pow, ← e, decide_eq_true_eq]
theorem lv_z {v : Nat} (hv : v < 4611686018427387904) : (lg_cmp (lN v) (0 : Int64) ≤ (0 : Int32)) ↔ v = 0 := by
  rw [show (0 : Int64) = lN 0 from rfl, lg_cmp_le, lj_le hv (by decide)]
  omega
theorem lv_e {v : Nat} (hv : v < 4611686018427387904) : (lg_cmp (lN v) (0 : Int64) = (0 : Int32)) ↔ v = 0 := by
  rw [lg_cmp_eq]
  constructor
  · intro e
    rcases Nat.eq_zero_or_pos v with q | q
    · exact q
    · exact absurd e (lj_n0 q hv)
  · intro e
    rw [e]
    rfl
def frC (g h : xm_H) : Prop := g.2.2 = h.2.2 ∧ (∀ q, q ≠ 70 → g.1 q = h.1 q) ∧ (∀ q, q ≠ 71 → q ≠ 72 → g.2.1 q = h.2.1 q)
theorem frC.tr {a b e : xm_H} (h1 : frC a b) (h2 : frC b e) : frC a e := ⟨h1.1.trans h2.1, fun q hq => (h1.2.1 q hq).trans (h2.2.1 q hq), fun q q1 q2 => (h1.2.2 q q1 q2).trans (h2.2.2 q q1 q2)⟩
theorem frC.fc {nx : Nat → St → Option St} {s0 : St} {N : Nat} {Q : Nat → St} {par mv dep : Nat → Nat} {g h : xm_H} (a : frC g h) (hF : FC nx s0 N Q par mv dep h.1) : FC nx s0 N Q par mv dep g.1 := hF.frame (fun q h1 h2 => a.2.1 q (by omega))
theorem Rel.frC {g h : xm_H} (hr : Rel SIs h) (a : frC g h) : Rel SIs g := hr.put a.1 (fun q hq => a.2.1 q (by omega)) (fun q hq => a.2.2 q (by omega) (by omega)) (hr.srch.fr (fun q h1 h2 => a.2.1 q (by omega)))
def CW (nx : Nat → St → Option St) (G : St) (l N : Nat) (Q : Nat → St) (f : Nat → Nat → Int64) : Prop := ∀ j, j < N → f 71 j = lN (wS nx G l (Q j))
def pW (nx : Nat → St → Option St) (G s : St) (m : Nat) : Bool := decide (0 < wS nx G m s)
def CB (nx : Nat → St → Option St) (G : St) (l N : Nat) (Q : Nat → St) (f : Nat → Nat → Int32) : Prop := ∀ j, j < N → f 70 j = nI (bs (pW nx G (Q j)) (l + 1))
theorem vp_fu {f : Nat → Int64} {k : Nat} {x : Int64} : vp_updL f k x = fu f k x := by
  funext j
  unfold fu
  rfl
theorem xm_lf {h : xm_H} {p k : Nat} {x : Int64} : (xm_sl h p k x).2.1 p = fu (h.2.1 p) k x := by
  funext j
  by_cases e : j = k
  · rw [e, xm_la, fu_a]
  · rw [xm_lj e, fu_k e]
section OPS
variable {L : Nat} {xs : Nat → Int32} {d : Nat} {t : Nat} {nx : Nat → St → Option St} {s0 G : St} {N : Nat} {Q : Nat → St} {par mv dep : Nat → Nat}
theorem v_lengthen {h : xm_H} {l : Nat} (hR : h.2.2 = xm_R0 t) (ht : t = 5 ∨ t = 13) (hF : FC nx s0 N Q par mv dep h.1) (hl : l < 12) (hW : CW nx G l N Q h.2.1) (hB : CB nx G l N Q h.1) : ∃ g, xm_V (xm_X0 L xs) xm_P (d + 8) 119 [.ref 61, .int (nI (l + 1))] h none g ∧ frC g h ∧ CW nx G (l + 1) N Q g.2.1 ∧ CB nx G (l + 1) N Q g.1 := by
  have hN := hF.2.1
  have t12 := ten12 (show l ≤ 12 by omega)
  have t13 := ten12 (show l + 1 ≤ 12 by omega)
  have row : ∀ i, i < N → ∀ m k (g : xm_H), m + k = 10 → frC g h → g.2.1 71 = h.2.1 71 → g.1 70 = h.1 70 ∨ True → g.2.1 72 i = lN (sm (wv nx (wS nx G l) (Q i)) k) → ∃ g', frC g' g ∧ g'.2.1 71 = h.2.1 71 ∧ g'.1 70 = g.1 70 ∧ (∀ j, j ≠ i → g'.2.1 72 j = g.2.1 72 j) ∧ g'.2.1 72 i = lN (wS nx G (l + 1) (Q i)) ∧ ∀ ro ho, (∀ l4, xm_E (xm_X0 L xs) xm_P (d + 7) co_X3_lengthen 16 [some (.ref 61), some (.int (nI (l + 1))), some (.int (nI i)), some (.int (nI 10)), l4] [] g' ro ho) → ∀ l4, xm_E (xm_X0 L xs) xm_P (d + 7) co_X3_lengthen 16 [some (.ref 61), some (.int (nI (l + 1))), some (.int (nI i)), some (.int (nI k)), l4] [] g ro ho := by
    intro i hi m
    induction m with
    | zero =>
      intro k g hm hg g71 _ g72
      have hk : k = 10 := by omega
      subst hk
      exact ⟨g, ⟨rfl, fun _ _ => rfl, fun _ _ _ => rfl⟩, g71, rfl, fun _ _ => rfl, g72, fun ro ho K => K⟩
    | succ m ih =>
      intro k g hm hg g71 _ g72
      have hk : k < 10 := by omega
      have gR : g.2.2 = xm_R0 t := by rw [hg.1]; exact hR
      have c0 : ¬ ((10 : Int32) ≤ nI k) := nI_ge (b := 10) hk (by decide)
      rcases x_next (t := t) (hg.fc hF) hi hk with ⟨a1, a2⟩ | ⟨x, a1, a2, a3⟩
      · obtain ⟨g', r1, r2, r3, r4, r5, r6⟩ := ih (k + 1) g (by omega) hg g71 (Or.inr trivial) (by
          simp only [sm]
          rw [wv_n a1, Nat.add_zero]
          exact g72)
        refine ⟨g', r1, r2, r3, r4, r5, fun ro ho K l4 => s_X3_lengthen_16_2 (d := d) gR ht c0 (by rw [a2]; decide) ?_⟩
        rw [nI_1]
        exact r6 ro ho K _
      · have ei : (nI i).toNatClampNeg = i := nI_clamp (by omega)
        have ex : (nI x).toNatClampNeg = x := nI_clamp (by omega)
        have ev : g.2.1 72 i + g.2.1 71 x = lN (sm (wv nx (wS nx G l) (Q i)) (k + 1)) := by
          rw [g72, g71, hW x a1, lN_add]
          simp only [sm]
          rw [wv_s a2]
        obtain ⟨g', r1, r2, r3, r4, r5, r6⟩ := ih (k + 1) (xm_sl g 72 i (lN (sm (wv nx (wS nx G l) (Q i)) (k + 1)))) (by omega) ⟨hg.1, hg.2.1, fun q q1 q2 => by rw [xm_ln q2]; exact hg.2.2 q q1 q2⟩ (by rw [xm_ln (by decide)]; exact g71) (Or.inr trivial) xm_la
        refine ⟨g', r1.tr ⟨rfl, fun _ _ => rfl, fun q q1 q2 => xm_ln q2⟩, r2, r3, fun j hj => (r4 j hj).trans (xm_lj hj), r5, fun ro ho K l4 => s_X3_lengthen_16_4 (d := d) gR ht c0 (by rw [a3]; exact nI_pos (by omega)) (by rw [a3]; exact nI_ge (b := 640) (by omega) (by decide)) (nI_in (by omega) (by decide)) (by rw [a3]; exact nI_in (by omega) (by decide)) ?_⟩
        rw [a3, ei, ex, ev, nI_1]
        exact r6 ro ho K _
  have loop : ∀ m i (g : xm_H), m + i = N → frC g h → g.2.1 71 = h.2.1 71 → (∀ j, j < i → g.2.1 72 j = lN (wS nx G (l + 1) (Q j)) ∧ g.1 70 j = nI (bs (pW nx G (Q j)) (l + 2))) → (∀ j, i ≤ j → j < N → g.1 70 j = nI (bs (pW nx G (Q j)) (l + 1))) → ∃ g', frC g' h ∧ CW nx G (l + 1) N Q g'.2.1 ∧ CB nx G (l + 1) N Q g'.1 ∧ ∀ l3 l4, xm_E (xm_X0 L xs) xm_P (d + 7) co_X3_lengthen 2 [some (.ref 61), some (.int (nI (l + 1))), some (.int (nI i)), l3, l4] [] g none g' := by
    intro m
    induction m with
    | zero =>
      intro i g hm hg g71 hz hy
      have hi : i = N := by omega
      subst hi
      have gR : g.2.2 = xm_R0 t := by rw [hg.1]; exact hR
      refine ⟨xm_cl_cpy g 72 71 (0 : Int32).toNatClampNeg (0 : Int32).toNatClampNeg (640 : Int32).toNatClampNeg, ⟨hg.1, hg.2.1, fun q q1 q2 => by rw [cl_n q1]; exact hg.2.2 q q1 q2⟩, fun j hj => ?_, fun j hj => (hz j hj).2, fun l3 l4 => s_X3_lengthen_2_0 (d := d) gR ht (by rw [hg.2.1 61 (by decide), hF.2.2.2.1]; exact nI_le (Nat.le_refl _) (by omega)) (by decide)⟩
      rw [cl_q, show (0 : Int32).toNatClampNeg = 0 from rfl, show (640 : Int32).toNatClampNeg = 640 from rfl, if_pos (by omega), show 0 + (j - 0) = j by omega]
      exact (hz j hj).1
    | succ m ih =>
      intro i g hm hg g71 hz hy
      have hi : i < N := by omega
      have gR : g.2.2 = xm_R0 t := by rw [hg.1]; exact hR
      have ei : (nI i).toNatClampNeg = i := nI_clamp (by omega)
      obtain ⟨g1, r1, r2, r3, r4, r5, r6⟩ := row i hi 10 0 (xm_sl g 72 i (0 : Int64)) rfl ⟨hg.1, hg.2.1, fun q q1 q2 => by rw [xm_ln q2]; exact hg.2.2 q q1 q2⟩ (by rw [xm_ln (by decide)]; exact g71) (Or.inr trivial) xm_la
      have g1R : g1.2.2 = xm_R0 t := by rw [r1.1]; exact gR
      have h1 : frC g1 h := r1.tr ⟨hg.1, hg.2.1, fun q q1 q2 => by rw [xm_ln q2]; exact hg.2.2 q q1 q2⟩
      have g170 : g1.1 70 = g.1 70 := r3
      have wb := wS_b (nx := nx) (G := G) (l + 1) (Q i)
      have c0 : ¬ (g.1 61 14 ≤ nI i) := by rw [hg.2.1 61 (by decide), hF.2.2.2.1]; exact nI_ge hi (by omega)
      have c1 : ¬ ((640 : Int32) ≤ nI i) := nI_ge (b := 640) (by omega) (by decide)
      have c2 : ¬ (nI i < 0 ∨ 640 ≤ (nI i).toNatClampNeg) := nI_in (by omega) (by decide)
      have z72 : ∀ j, j < i → g1.2.1 72 j = lN (wS nx G (l + 1) (Q j)) := fun j hj => by
        rw [r4 j (by omega), xm_lj (by omega)]
        exact (hz j hj).1
      by_cases q : wS nx G (l + 1) (Q i) = 0
      · have eb : bs (pW nx G (Q i)) (l + 2) = bs (pW nx G (Q i)) (l + 1) := by
          show bs (pW nx G (Q i)) (l + 1) + _ = _
          rw [if_neg (fun e => by
            have := of_decide_eq_true e
            omega)]
          rfl
        obtain ⟨g', p1, p2, p3, p4⟩ := ih (i + 1) g1 (by omega) h1 r2 (fun j hj => by
          by_cases e : j = i
          · rw [e, r5, g170, hy i (by omega) hi, eb]
            exact ⟨rfl, rfl⟩
          · rw [g170]
            exact ⟨z72 j (by omega), (hz j (by omega)).2⟩) (fun j hj hjN => by rw [g170]; exact hy j (by omega) hjN)
        refine ⟨g', p1, p2, p3, fun l3 l4 => s_X3_lengthen_2_2 (d := d) gR ht c0 c1 c2 ?_⟩
        rw [ei]
        refine r6 _ _ (fun l4 => s_X3_lengthen_16_0 (d := d) g1R ht (by decide) c2 (by rw [ei, r5]; exact (lv_z (by omega)).mpr q) ?_) _
        rw [nI_1]
        exact p4 _ _
      · have eb : bs (pW nx G (Q i)) (l + 2) = bs (pW nx G (Q i)) (l + 1) + 2 ^ (l + 1) := by
          show bs (pW nx G (Q i)) (l + 1) + _ = _
          rw [if_pos (show pW nx G (Q i) (l + 1) = true from decide_eq_true (by omega))]
        have ev : g1.1 70 i ||| ((1 : Int32) <<< (nI (l + 1) &&& 31)) = nI (bs (pW nx G (Q i)) (l + 2)) := by
          rw [g170, hy i (by omega) hi, show (1 : Int32) = nI 1 from rfl, nm_shl 1 (by omega), nm_or, nm_ors (bs_lt _), eb, Nat.one_mul]
        obtain ⟨g', p1, p2, p3, p4⟩ := ih (i + 1) (xm_si g1 70 i (nI (bs (pW nx G (Q i)) (l + 2)))) (by omega) ⟨h1.1, fun q hq => by rw [xm_rn hq]; exact h1.2.1 q hq, h1.2.2⟩ r2 (fun j hj => by
          rw [xm_rf]
          by_cases e : j = i
          · rw [e, fu_a]
            exact ⟨r5, rfl⟩
          · rw [fu_k e, g170]
            exact ⟨z72 j (by omega), (hz j (by omega)).2⟩) (fun j hj hjN => by rw [xm_rf, fu_k (by omega), g170]; exact hy j (by omega) hjN)
        refine ⟨g', p1, p2, p3, fun l3 l4 => s_X3_lengthen_2_2 (d := d) gR ht c0 c1 c2 ?_⟩
        rw [ei]
        refine r6 _ _ (fun l4 => s_X3_lengthen_16_1 (d := d) g1R ht (by decide) c2 (by rw [ei, r5]; exact fun z => q ((lv_z (by omega)).mp z)) ?_) _
        rw [ei, ev, nI_1]
        exact p4 _ _
  obtain ⟨g', p1, p2, p3, p4⟩ := loop N 0 h rfl ⟨rfl, fun _ _ => rfl, fun _ _ _ => rfl⟩ rfl (fun j hj => absurd hj (Nat.not_lt_zero _)) (fun j _ hjN => hB j hjN)
  exact ⟨g', v_X3_lengthen (d := d + 7) (s_X3_lengthen_0_0 (d := d) (p4 _ _)), p1, p2, p3⟩
theorem v_waysTo {h : xm_H} {n : Nat} (hR : h.2.2 = xm_R0 t) (ht : t = 5 ∨ t = 13) (hF : FC nx s0 N Q par mv dep h.1) (hK : st_K G) (hn : n ≤ 12) : ∃ g, xm_V (xm_X0 L xs) xm_P (d + 9) 118 [.ref 61, .int (st_P G), .int (nI n)] h (some (.long (lN (wS nx G n (Q 0))))) g ∧ frC g h ∧ CB nx G n N Q g.1 := by
  have hN := hF.2.1
  have hN1 := hF.1.1
  have init : ∀ m i (g : xm_H), m + i = N → frC g h → (∀ j, j < i → g.2.1 71 j = lN (wS nx G 0 (Q j)) ∧ g.1 70 j = nI (bs (pW nx G (Q j)) 1)) → ∃ g', frC g' h ∧ CW nx G 0 N Q g'.2.1 ∧ CB nx G 0 N Q g'.1 ∧ ∀ ro ho, (∀ l4, xm_E (xm_X0 L xs) xm_P (d + 8) co_X3_waysTo 41 [some (.ref 61), some (.int (st_P G)), some (.int (nI n)), some (.int (1 : Int32)), l4] [] g' ro ho) → ∀ l4, xm_E (xm_X0 L xs) xm_P (d + 8) co_X3_waysTo 2 [some (.ref 61), some (.int (st_P G)), some (.int (nI n)), some (.int (nI i)), l4] [] g ro ho := by
    intro m
    induction m with
    | zero =>
      intro i g hm hg hz
      have hi : i = N := by omega
      subst hi
      exact ⟨g, hg, fun j hj => (hz j hj).1, fun j hj => (hz j hj).2, fun ro ho K l4 => s_X3_waysTo_2_0 (d := d + 1) (by rw [hg.2.1 61 (by decide), hF.2.2.2.1]; exact nI_le (Nat.le_refl _) (by omega)) (K _)⟩
    | succ m ih =>
      intro i g hm hg hz
      have hi : i < N := by omega
      have gR : g.2.2 = xm_R0 t := by rw [hg.1]; exact hR
      have ei : (nI i).toNatClampNeg = i := nI_clamp (by omega)
      have c0 : ¬ (g.1 61 14 ≤ nI i) := by rw [hg.2.1 61 (by decide), hF.2.2.2.1]; exact nI_ge hi (by omega)
      have c1 : ¬ ((640 : Int32) ≤ nI i) := nI_ge (b := 640) (by omega) (by decide)
      have c2 : ¬ (nI i < 0 ∨ 640 ≤ (nI i).toNatClampNeg) := nI_in (by omega) (by decide)
      have e64 : g.1 64 (nI i).toNatClampNeg = st_P (Q i) := by rw [ei, hg.2.1 64 (by decide), (hF.2.2.2.2.1 i hi).1]
      have step : ∀ v : Nat, wS nx G 0 (Q i) = v → bs (pW nx G (Q i)) 1 = v → ∃ g', frC g' h ∧ CW nx G 0 N Q g'.2.1 ∧ CB nx G 0 N Q g'.1 ∧ ∀ ro ho, (∀ l4, xm_E (xm_X0 L xs) xm_P (d + 8) co_X3_waysTo 41 [some (.ref 61), some (.int (st_P G)), some (.int (nI n)), some (.int (1 : Int32)), l4] [] g' ro ho) → ∀ l4, xm_E (xm_X0 L xs) xm_P (d + 8) co_X3_waysTo 2 [some (.ref 61), some (.int (st_P G)), some (.int (nI n)), some (.int (nI (i + 1))), l4] [] (xm_si (xm_sl g 71 i (lN v)) 70 i (nI v)) ro ho := by
        intro v w1 w2
        refine ih (i + 1) (xm_si (xm_sl g 71 i (lN v)) 70 i (nI v)) (by omega) ⟨hg.1, fun q hq => by rw [xm_rn hq]; exact hg.2.1 q hq, fun q q1 q2 => (xm_ln q1).trans (hg.2.2 q q1 q2)⟩ (fun j hj => ?_)
        rw [xm_rf]
        show (xm_sl g 71 i (lN v)).2.1 71 j = _ ∧ _
        rw [xm_lf]
        by_cases e : j = i
        · rw [e, fu_a, fu_a, w1, w2]
          exact ⟨rfl, rfl⟩
        · rw [fu_k e, fu_k e]
          exact hz j (by omega)
      by_cases q : Q i = G
      · have w1 : wS nx G 0 (Q i) = 1 := if_pos q
        obtain ⟨g', r1, r2, r3, r4⟩ := step 1 w1 (by
          show 0 + (if pW nx G (Q i) 0 = true then 2 ^ 0 else 0) = 1
          rw [if_pos (show pW nx G (Q i) 0 = true from decide_eq_true (by omega))])
        refine ⟨g', r1, r2, r3, fun ro ho K l4 => s_X3_waysTo_2_2 (d := d + 1) gR ht c0 c1 c2 (by rw [e64, q]) ?_⟩
        rw [ei, nI_1]
        exact r4 ro ho K _
      · have w1 : wS nx G 0 (Q i) = 0 := if_neg q
        obtain ⟨g', r1, r2, r3, r4⟩ := step 0 w1 (by
          show 0 + (if pW nx G (Q i) 0 = true then 2 ^ 0 else 0) = 0
          rw [if_neg (fun e => by
            have := of_decide_eq_true e
            omega)])
        refine ⟨g', r1, r2, r3, fun ro ho K l4 => s_X3_waysTo_2_3 (d := d + 1) gR ht c0 c1 c2 (by rw [e64]; exact fun e => q (st_P_inj (hF.2.2.1 i hi) hK e)) ?_⟩
        rw [ei, nI_1]
        exact r4 ro ho K _
  have loop : ∀ m l (g : xm_H), m + l = n → frC g h → CW nx G l N Q g.2.1 → CB nx G l N Q g.1 → ∃ g', frC g' h ∧ CB nx G n N Q g'.1 ∧ ∀ l4, xm_E (xm_X0 L xs) xm_P (d + 8) co_X3_waysTo 41 [some (.ref 61), some (.int (st_P G)), some (.int (nI n)), some (.int (nI (l + 1))), l4] [] g (some (.long (lN (wS nx G n (Q 0))))) g' := by
    intro m
    induction m with
    | zero =>
      intro l g hm hg hW hB
      have hl : l = n := by omega
      subst hl
      have gR : g.2.2 = xm_R0 t := by rw [hg.1]; exact hR
      refine ⟨g, hg, hB, fun l4 => ?_⟩
      rw [← hW 0 (by omega)]
      exact s_X3_waysTo_41_1 (d := d + 1) gR ht (nI_lt (by omega) (by omega)) (by
        rw [hg.2.1 61 (by decide), hF.2.2.2.1]
        intro e
        have := (nI_eq (b := 0) (by omega) (by omega)).mp e
        omega)
    | succ m ih =>
      intro l g hm hg hW hB
      have gR : g.2.2 = xm_R0 t := by rw [hg.1]; exact hR
      obtain ⟨g1, V, a1, a2, a3⟩ := v_lengthen (L := L) (xs := xs) (d := d) gR ht (hg.fc hF) (by omega) hW hB
      obtain ⟨g', r1, r2, r3⟩ := ih (l + 1) g1 (by omega) (a1.tr hg) a2 a3
      refine ⟨g', r1, r2, fun l4 => s_X3_waysTo_41_4 (d := d + 1) (nI_nlt (by omega) (by omega)) (nI_nlt (a := 12) (by omega) (by decide)) V ?_⟩
      rw [nI_1]
      exact r3 _
  obtain ⟨g1, a1, a2, a3, a4⟩ := init N 0 h rfl ⟨rfl, fun _ _ => rfl, fun _ _ _ => rfl⟩ (fun j hj => absurd hj (Nat.not_lt_zero _))
  obtain ⟨g', r1, r2, r3⟩ := loop n 0 g1 (by omega) a1 a2 a3
  exact ⟨g', v_X3_waysTo (d := d + 8) (s_X3_waysTo_0_0 (d := d + 1) (a4 _ _ (fun l4 => r3 l4) _)), r1, r2⟩
theorem v_firstMoveIn {g : xm_H} {n lf : Nat} (hR : g.2.2 = xm_R0 t) (ht : t = 5 ∨ t = 13) (hF : FC nx s0 N Q par mv dep g.1) (hn : n ≤ 12) (hlf : lf ≤ n) (hB : CB nx G n N Q g.1) {j : Nat} (hj : j < N) (hp : 0 < wS nx G (lf + 1) (Q j)) : ∃ k x, k < 10 ∧ x < N ∧ nx k (Q j) = some (Q x) ∧ 0 < wS nx G lf (Q x) ∧ F_X3_nextOf g t (nI j) (nI k) = nI x ∧ (∀ k', k' < k → ∀ u', nx k' (Q j) = some u' → wS nx G lf u' = 0) ∧ xm_V (xm_X0 L xs) xm_P (d + 8) 122 [.ref 61, .int (nI j), .int (nI lf)] g (some (.int (nI k))) g := by
  have hN := hF.2.1
  obtain ⟨kk, uu, e1, e2, e3⟩ := wS_pos hp
  obtain ⟨k, ⟨k1, u, k2, k3⟩, k4⟩ := least_of (p := fun k => k < 10 ∧ ∃ u, nx k (Q j) = some u ∧ 0 < wS nx G lf u) kk ⟨e1, uu, e2, e3⟩
  have hno : ∀ k', k' < k → ∀ u', nx k' (Q j) = some u' → wS nx G lf u' = 0 := fun k' hk' u' hu => by
    rcases Nat.eq_zero_or_pos (wS nx G lf u') with q | q
    · exact q
    · have := k4 k' ⟨by omega, u', hu, q⟩
      omega
  have bit : ∀ x, x < N → (((g.1 70 (nI x).toNatClampNeg) >>> (nI lf &&& 31)) &&& (1 : Int32) = (1 : Int32) ↔ 0 < wS nx G lf (Q x)) := fun x hx => by
    have hb := bs_lt (p := pW nx G (Q x)) (n + 1)
    have h13 : 2 ^ (n + 1) ≤ 2 ^ 13 := Nat.pow_le_pow_right (by omega) (by omega)
    have : (2 : Nat) ^ 13 = 8192 := by decide
    rw [nI_clamp (by omega), hB x hx, bit_1 (by omega) (by omega), bs_bit (by omega)]
    unfold pW
    rw [decide_eq_true_eq]
  have loop : ∀ m i, m + i = k → ∃ x, x < N ∧ nx k (Q j) = some (Q x) ∧ F_X3_nextOf g t (nI j) (nI k) = nI x ∧ 0 < wS nx G lf (Q x) ∧ ∀ l4, xm_E (xm_X0 L xs) xm_P (d + 7) co_X3_firstMoveIn 2 [some (.ref 61), some (.int (nI j)), some (.int (nI lf)), some (.int (nI i)), l4] [] g (some (.int (nI k))) g := by
    intro m
    induction m with
    | zero =>
      intro i hm
      have hi : i = k := by omega
      subst hi
      rcases x_next (t := t) hF hj k1 with ⟨a1, a2⟩ | ⟨x, a1, a2, a3⟩
      · rw [k2] at a1; cases a1
      · have eu : Q x = u := by
          rw [k2] at a2
          exact (Option.some.inj a2).symm
        have wx : 0 < wS nx G lf (Q x) := by rw [eu]; exact k3
        exact ⟨x, a1, a2, a3, wx, fun l4 => s_X3_firstMoveIn_2_3 (d := d) hR ht (nI_ge (b := 10) k1 (by decide)) (by rw [a3]; exact nI_pos (by omega)) (by rw [a3]; exact nI_ge (b := 640) (by omega) (by decide)) (by rw [a3]; exact nI_in (by omega) (by decide)) (by rw [a3]; exact (bit x a1).mpr wx)⟩
    | succ m ih =>
      intro i hm
      obtain ⟨x, y1, y2, y3, y4, E⟩ := ih (i + 1) (by omega)
      have hi : i < 10 := by omega
      have c0 : ¬ ((10 : Int32) ≤ nI i) := nI_ge (b := 10) hi (by decide)
      refine ⟨x, y1, y2, y3, y4, fun l4 => ?_⟩
      rw [← nI_1] at E
      rcases x_next (t := t) hF hj hi with ⟨a1, a2⟩ | ⟨z, a1, a2, a3⟩
      · exact s_X3_firstMoveIn_2_1 (d := d) hR ht c0 (by rw [a2]; decide) (E _)
      · exact s_X3_firstMoveIn_2_4 (d := d) hR ht c0 (by rw [a3]; exact nI_pos (by omega)) (by rw [a3]; exact nI_ge (b := 640) (by omega) (by decide)) (by rw [a3]; exact nI_in (by omega) (by decide)) (by
          rw [a3]
          intro e
          have := (bit z a1).mp e
          have := hno i (by omega) _ a2
          omega) (E _)
  obtain ⟨x, y1, y2, y3, y4, E⟩ := loop k 0 rfl
  exact ⟨k, x, k1, y1, y2, y4, y3, hno, v_X3_firstMoveIn (d := d + 7) (s_X3_firstMoveIn_0_0 (d := d) (E _))⟩
theorem v_wayMove {h : xm_H} {n : Nat} {l3 : Int32} (hR : h.2.2 = xm_R0 t) (ht : t = 5 ∨ t = 13) (hF : FC nx s0 N Q par mv dep h.1) (hK : st_K G) (hn : n ≤ 12) : ∃ g r, xm_V (xm_X0 L xs) xm_P (d + 10) 121 [.ref 61, .int (st_P G), .int (nI n), .int l3] h (some (.int r)) g ∧ frC g h ∧ ((r = -1 ∧ (l3 < 0 ∨ nI n ≤ l3 ∨ wS nx G n (Q 0) = 0)) ∨ (∃ i k, i < n ∧ l3 = nI i ∧ r = nI k ∧ 0 < wS nx G n (Q 0) ∧ HW nx G i (n - 1) (Q 0) k)) := by
  have hN := hF.2.1
  by_cases q : l3 < 0
  · exact ⟨h, -1, v_X3_wayMove (d := d + 9) (s_X3_wayMove_0_0 (d := d + 2) q), ⟨rfl, fun _ _ => rfl, fun _ _ _ => rfl⟩, Or.inl ⟨rfl, Or.inl q⟩⟩
  · by_cases q2 : nI n ≤ l3
    · exact ⟨h, -1, v_X3_wayMove (d := d + 9) (s_X3_wayMove_0_1 (d := d + 2) q q2), ⟨rfl, fun _ _ => rfl, fun _ _ _ => rfl⟩, Or.inl ⟨rfl, Or.inr (Or.inl q2)⟩⟩
    · obtain ⟨i, hi31, rfl⟩ := nI_of q
      have hin : i < n := by
        rw [nI_leI (by omega) hi31] at q2
        omega
      obtain ⟨g, V, a1, a2⟩ := v_waysTo (L := L) (xs := xs) (d := d) hR ht hF hK hn
      have wb := wS_b (nx := nx) (G := G) n (Q 0)
      have t12 := ten12 hn
      by_cases z : wS nx G n (Q 0) = 0
      · exact ⟨g, -1, v_X3_wayMove (d := d + 9) (s_X3_wayMove_0_2 (d := d + 2) q q2 V ((lv_e (by omega)).mpr z)), a1, Or.inl ⟨rfl, Or.inr (Or.inr z)⟩⟩
      · have gR : g.2.2 = xm_R0 t := by rw [a1.1]; exact hR
        have walk : ∀ m a lf j, a + m = i → a + lf + 1 = n → j < N → 0 < wS nx G (lf + 1) (Q j) → ∃ k, HW nx G m lf (Q j) k ∧ ∀ l6, xm_E (xm_X0 L xs) xm_P (d + 9) co_X3_wayMove 20 [some (.ref 61), some (.int (st_P G)), some (.int (nI n)), some (.int (nI i)), some (.int (nI j)), some (.int (nI lf)), l6] [] g (some (.int (nI k))) g := by
          intro m
          induction m with
          | zero =>
            intro a lf j ha hlf hj hp
            obtain ⟨k, x, k1, x1, x2, x3, x4, x5, Vf⟩ := v_firstMoveIn (L := L) (xs := xs) (d := d + 1) gR ht (a1.fc hF) hn (by omega) a2 hj hp
            refine ⟨k, ⟨Q x, k1, x2, x3, x5⟩, fun l6 => s_X3_wayMove_20_4 (d := d + 2) (nI_pos (by omega)) (nI_pos (by omega)) (nI_ge (b := 640) (by omega) (by decide)) Vf (n1_ne (by omega)) ?_⟩
            rw [show (1 : Int32) = nI 1 from rfl, nm_sub (by omega), nm_sub (by omega), show n - 1 - lf = i by omega]
          | succ m ih =>
            intro a lf j ha hlf hj hp
            obtain ⟨k, x, k1, x1, x2, x3, x4, x5, Vf⟩ := v_firstMoveIn (L := L) (xs := xs) (d := d + 1) gR ht (a1.fc hF) hn (by omega) a2 hj hp
            obtain ⟨k2, y1, y2⟩ := ih (a + 1) (lf - 1) x (by omega) (by omega) x1 (by rw [show lf - 1 + 1 = lf by omega]; exact x3)
            refine ⟨k2, ⟨k, Q x, k1, x2, x3, x5, y1⟩, fun l6 => s_X3_wayMove_20_5 (d := d + 2) ht (nI_pos (by omega)) (nI_pos (by omega)) (nI_ge (b := 640) (by omega) (by decide)) Vf (n1_ne (by omega)) ?_ gR ?_⟩
            · rw [show (1 : Int32) = nI 1 from rfl, nm_sub (by omega), nm_sub (by omega)]
              intro e
              have := (nI_eq (by omega) (by omega)).mp e
              omega
            · rw [x4, show lf = (lf - 1) + 1 by omega, nI_m1]
              exact y2 _
        obtain ⟨k, y1, y2⟩ := walk i 0 (n - 1) 0 (by omega) (by omega) hF.1.1 (by rw [show n - 1 + 1 = n by omega]; omega)
        refine ⟨g, nI k, v_X3_wayMove (d := d + 9) (s_X3_wayMove_0_3 (d := d + 2) q q2 V (fun e => z ((lv_e (by omega)).mp e)) ?_), a1, Or.inr ⟨i, k, hin, rfl, rfl, by omega, y1⟩⟩
        rw [show (1 : Int32) = nI 1 from rfl, nm_sub (by omega)]
        exact y2 _
end OPS
