/-! The class's least seconds: quickest, quick. -/
theorem fr69.fc {nx : Nat → St → Option St} {s0 : St} {N : Nat} {Q : Nat → St} {par mv dep : Nat → Nat} {g h : xm_H} (a : fr69 g h) (hF : FC nx s0 N Q par mv dep h.1) : FC nx s0 N Q par mv dep g.1 := hF.frame (fun q h1 h2 => a.2 q (by omega))
theorem Rel.fr69 {g h : xm_H} (hr : Rel SIs h) (a : fr69 g h) : Rel SIs g := hr.put (by rw [a.1]) (fun q hq => a.2 q (by omega)) (fun q _ => by rw [a.1]) (hr.srch.fr (fun q h1 h2 => a.2 q (by omega)))
def CK (N : Nat) (C : Nat → Nat) (f : Nat → Nat → Int32) : Prop := ∀ j, j < N → f 69 j = nI (C j)
section OPS
variable {L : Nat} {xs : Nat → Int32} {d : Nat} {t : Nat} {nx : Nat → St → Option St} {c : Nat → Nat} {s0 : St} {N : Nat} {Q : Nat → St} {par mv dep F : Nat → Nat} {W : St → Bool}
theorem x_next {g : xm_H} (hF : FC nx s0 N Q par mv dep g.1) {j k : Nat} (hj : j < N) (hk : k < 10) : (nx k (Q j) = none ∧ F_X3_nextOf g t (nI j) (nI k) = -1) ∨ (∃ x, x < N ∧ nx k (Q j) = some (Q x) ∧ F_X3_nextOf g t (nI j) (nI k) = nI x) := by
  obtain ⟨s1, s2, s3, s4, s5, s6, s7⟩ := hF
  have e : F_X3_nextOf g t (nI j) (nI k) = g.1 65 (j * 10 + k) := by
    unfold F_X3_nextOf
    rw [show (10 : Int32) = nI 10 from rfl, nm_mul, nI_add, if_neg (nI_pos (by omega)), if_neg (show ¬ Int32.ofNat 6400 ≤ nI (j * 10 + k) from nI_ge (b := 6400) (by omega) (by decide)), nI_clamp (by omega)]
  rcases s7 j k hj hk with ⟨a1, a2⟩ | ⟨x, a1, a2, a3⟩
  · exact Or.inl ⟨a1, e.trans a2⟩
  · exact Or.inr ⟨x, a1, a2, e.trans a3⟩
theorem v_cheapest {g : xm_H} {C : Nat → Nat} (hR : g.2.2 = xm_R0 t) (ht : t = 5 ∨ t = 13) (hF : FC nx s0 N Q par mv dep g.1) (hc : ∀ k, k < 10 → c k ≤ 99 ∧ F_X0_secondsOf g t (nI k) = nI (c k)) (hC : CK N C g.1) (hb : ∀ j, j < N → C j ≤ 1000000) {j : Nat} (hj : j < N) : ∃ v, xm_V (xm_X0 L xs) xm_P (d + 8) 95 [.ref 61, .ref t, .int (nI j)] g (some (.int (nI v))) g ∧ v ≤ C j ∧ (v = C j ∨ ∃ k x, k < 10 ∧ x < N ∧ nx k (Q j) = some (Q x) ∧ v = C x + c k) ∧ (∀ k x, k < 10 → x < N → nx k (Q j) = some (Q x) → v ≤ C x + c k) := by
  have hN := hF.2.1
  have loop : ∀ m k v, m + k = 10 → v ≤ C j → (v = C j ∨ ∃ k x, k < 10 ∧ x < N ∧ nx k (Q j) = some (Q x) ∧ v = C x + c k) → (∀ k' x, k' < k → x < N → nx k' (Q j) = some (Q x) → v ≤ C x + c k') → ∃ v', (∀ l5, xm_E (xm_X0 L xs) xm_P (d + 7) co_X3_cheapest 7 [some (.ref 61), some (.ref t), some (.int (nI j)), some (.int (nI v)), some (.int (nI k)), l5] [] g (some (.int (nI v'))) g) ∧ v' ≤ C j ∧ (v' = C j ∨ ∃ k x, k < 10 ∧ x < N ∧ nx k (Q j) = some (Q x) ∧ v' = C x + c k) ∧ (∀ k x, k < 10 → x < N → nx k (Q j) = some (Q x) → v' ≤ C x + c k) := by
    intro m
    induction m with
    | zero =>
      intro k v hm h1 h2 h3
      have hk : k = 10 := by omega
      subst hk
      exact ⟨v, fun l5 => s_X3_cheapest_7_0 (d := d) ht (by decide), h1, h2, h3⟩
    | succ m ih =>
      intro k v hm h1 h2 h3
      have hk : k < 10 := by omega
      have c0 : ¬ ((10 : Int32) ≤ nI k) := nI_ge (b := 10) hk (by decide)
      rcases x_next (t := t) hF hj hk with ⟨a1, a2⟩ | ⟨x, a1, a2, a3⟩
      · obtain ⟨v', E, r⟩ := ih (k + 1) v (by omega) h1 h2 (fun k' x hk' hx e => by
          by_cases ek : k' = k
          · rw [ek, a1] at e; cases e
          · exact h3 k' x (by omega) hx e)
        refine ⟨v', fun l5 => s_X3_cheapest_7_1 (d := d) hR ht c0 (by rw [a2]; decide) ?_, r⟩
        rw [nI_1]
        exact E _
      · obtain ⟨hc1, hc2⟩ := hc k hk
        have hbx := hb x a1
        have hbj := hb j hj
        obtain ⟨v', E, r⟩ := ih (k + 1) (if C x + c k < v then C x + c k else v) (by omega) (by split <;> omega) (by
          split
          · exact Or.inr ⟨k, x, hk, a1, a2, rfl⟩
          · exact h2) (fun k' y hk' hy e => by
          by_cases ek : k' = k
          · subst ek
            rw [a2] at e
            have := hF.1.2.2.2.1 x y a1 hy (Option.some.inj e)
            subst this
            split <;> omega
          · have := h3 k' y (by omega) hy e
            split <;> omega)
        refine ⟨v', fun l5 => s_X3_cheapest_7_3 (d := d) hR ht c0 (by rw [a3]; exact nI_pos (by omega)) (by rw [a3]; exact nI_ge (b := 640) (by omega) (by decide)) (by rw [a3]; exact nI_in (by omega) (by decide)) ?_, r⟩
        rw [a3, nI_clamp (show x < 2 ^ 31 by omega), hC x a1, hc2, nI_add, nI_1]
        have ev : (if nI (C x + c k) < nI v then nI (C x + c k) else nI v) = nI (if C x + c k < v then C x + c k else v) := by
          by_cases q : C x + c k < v
          · rw [if_pos q, if_pos (nI_lt q (by omega))]
          · rw [if_neg q, if_neg (nI_nlt (by omega) (by omega))]
        rw [ev]
        exact E _
  obtain ⟨v, E, r⟩ := loop 10 0 (C j) rfl (Nat.le_refl _) (Or.inl rfl) (fun k' x hk' => absurd hk' (Nat.not_lt_zero _))
  refine ⟨v, v_X3_cheapest (d := d + 7) (s_X3_cheapest_0_0 (d := d) hR ht (nI_in (by omega) (by decide)) ?_), r⟩
  rw [nI_clamp (by omega), hC j hj]
  exact E _
theorem x_lpass {h : xm_H} {p : Nat} {C : Nat → Nat} (hR : h.2.2 = xm_R0 t) (ht : t = 5 ∨ t = 13) (hF : FC nx s0 N Q par mv dep h.1) (hc : ∀ k, k < 10 → c k ≤ 99 ∧ ∀ g : xm_H, fr69 g h → F_X0_secondsOf g t (nI k) = nI (c k)) : ∀ i (g : xm_H) (C1 : Nat → Nat) (b : Bool), i ≤ N → fr69 g h → CK N C1 g.1 → Sd nx c (fun s => W s = true) N Q C1 → (∀ j, j < N → Bn nx c (fun s => W s = true) Q C1 p j) → (∀ j, i ≤ j → j < N → Bn nx c (fun s => W s = true) Q C1 (p + 1) j) → (b = false → C1 = C ∧ ∀ j, i ≤ j → j < N → fxC nx c N Q C j) → ∃ (g' : xm_H) (C' : Nat → Nat) (b' : Bool), fr69 g' h ∧ CK N C' g'.1 ∧ Sd nx c (fun s => W s = true) N Q C' ∧ (∀ j, j < N → Bn nx c (fun s => W s = true) Q C' (p + 1) j) ∧ (b' = false → ∀ j, j < N → fxC nx c N Q C' j) ∧ ∀ ro ho, (∀ l4 l5, xm_E (xm_X0 L xs) xm_P (d + 8) co_X3_leastSeconds 30 [some (.ref 61), some (.ref t), some (.int (bI b')), some (.int (nI (p + 1))), l4, l5] [] g' ro ho) → ∀ l5, xm_E (xm_X0 L xs) xm_P (d + 8) co_X3_leastSeconds 44 [some (.ref 61), some (.ref t), some (.int (bI b)), some (.int (nI p)), some (.int (pm i)), l5] [] g ro ho := by
  have hN := hF.2.1
  intro i
  induction i with
  | zero =>
    intro g C1 b hi hg hC hs h1 h2 h3
    refine ⟨g, C1, b, hg, hC, hs, fun j hj => h2 j (Nat.zero_le _) hj, fun q j hj => ?_, fun ro ho K l5 => s_X3_leastSeconds_44_0 (d := d + 1) ht (by decide) ?_⟩
    · obtain ⟨e, f⟩ := h3 q
      rw [e]
      exact f j (Nat.zero_le _) hj
    · rw [nI_1]
      exact K _ _
  | succ i ih =>
    intro g C1 b hi hg hC hs h1 h2 h3
    have gR : g.2.2 = xm_R0 t := by rw [hg.1]; exact hR
    have hiN : i < N := by omega
    have hb1 : ∀ j, j < N → C1 j ≤ 1000000 := fun j hj => by
      rcases hs j hj with q | ⟨q, -⟩ <;> omega
    obtain ⟨v, V, v1, v2, v3⟩ := v_cheapest (L := L) (xs := xs) (d := d) gR ht (hg.fc hF) (fun k hk => ⟨(hc k hk).1, (hc k hk).2 g hg⟩) hC hb1 hiN
    have c0 : ¬ (nI i < (0 : Int32)) := nI_pos (by omega)
    have c2 : ¬ (nI i < 0 ∨ 640 ≤ (nI i).toNatClampNeg) := nI_in (by omega) (by decide)
    have hbi := hb1 i hiN
    by_cases q : v = C1 i
    · obtain ⟨g', C', b', r1, r2, r3, r4, r5, r6⟩ := ih g C1 b (by omega) hg hC hs h1 (fun j hj hjN => by
        by_cases e : j = i
        · rw [e]
          exact Bn.up hF.1 hiN h1 (Nat.le_refl _) (fun k x a1 a2 a3 => by rw [← q]; exact v3 k x a1 a2 a3)
        · exact h2 j (by omega) hjN) (fun z => ⟨(h3 z).1, fun j hj hjN => by
        by_cases e : j = i
        · rw [e]
          intro k x a1 a2 a3
          rw [← (h3 z).1, ← q]
          exact v3 k x a1 a2 a3
        · exact (h3 z).2 j (by omega) hjN⟩)
      refine ⟨g', C', b', r1, r2, r3, r4, r5, fun ro ho K l5 => ?_⟩
      rw [pm_s]
      refine s_X3_leastSeconds_44_1 (d := d + 1) ht c0 V gR c2 (by rw [nI_clamp (by omega), hC i hiN, q]; exact nI_le (Nat.le_refl _) (by omega)) ?_
      rw [pm_p i (by omega)]
      exact r6 ro ho K _
    · have ck : CK N (fu C1 i v) (xm_si g 69 i (nI v)).1 := fun j hj => by
        rw [xm_rf]
        by_cases e : j = i
        · rw [e, fu_a, fu_a]
        · rw [fu_k e, fu_k e]; exact hC j hj
      have sd : Sd nx c (fun s => W s = true) N Q (fu C1 i v) := fun j hj => by
        by_cases e : j = i
        · rw [e, fu_a]
          rcases v2 with v2 | ⟨k, x, a1, a2, a3, a4⟩
          · exact absurd v2 q
          · rcases hs x a2 with z | ⟨z1, n, w, z2, z3⟩
            · omega
            · exact Or.inr ⟨by omega, n + 1, w, ⟨k, Q x, C1 x, a1, a3, z2, by omega⟩, z3⟩
        · rw [fu_k e]; exact hs j hj
      have up : Bn nx c (fun s => W s = true) Q (fu C1 i v) (p + 1) i := Bn.up hF.1 hiN h1 (by rw [fu_a]; exact v1) (fun k x a1 a2 a3 => by rw [fu_a]; exact v3 k x a1 a2 a3)
      obtain ⟨g', C', b', r1, r2, r3, r4, r5, r6⟩ := ih (xm_si g 69 i (nI v)) (fu C1 i v) true (by omega) ⟨hg.1, fun z hz => by rw [xm_rn hz]; exact hg.2 z hz⟩ ck sd (fun j hj => by
        by_cases e : j = i
        · rw [e]; exact fun n hn => up n (by omega)
        · exact (h1 j hj).le (by rw [fu_k e]; exact Nat.le_refl _)) (fun j hj hjN => by
        by_cases e : j = i
        · rw [e]; exact up
        · exact (h2 j (by omega) hjN).le (by rw [fu_k e]; exact Nat.le_refl _)) (fun z => by cases z)
      refine ⟨g', C', b', r1, r2, r3, r4, r5, fun ro ho K l5 => ?_⟩
      rw [pm_s]
      refine s_X3_leastSeconds_44_2 (d := d + 1) ht c0 V gR c2 (by rw [nI_clamp (by omega), hC i hiN]; exact nI_ge (by omega) (by omega)) ?_
      rw [pm_p i (by omega), nI_clamp (by omega)]
      exact r6 ro ho K _
theorem v_leastSeconds {h : xm_H} (hR : h.2.2 = xm_R0 t) (ht : t = 5 ∨ t = 13) (hF : FC nx s0 N Q par mv dep h.1) (hc : ∀ k, k < 10 → (1 ≤ c k ∧ c k ≤ 99) ∧ ∀ g : xm_H, fr69 g h → F_X0_secondsOf g t (nI k) = nI (c k)) (hW : ∀ s, st_K s → F_X8_isMetBy h t (st_P s) = if W s = true then 1 else 0) : ∃ (g : xm_H) (C : Nat → Nat), xm_V (xm_X0 L xs) xm_P (d + 9) 94 [.ref 61, .ref t] h (some (.int (if C 0 = 1000000 then -1 else nI (C 0)))) g ∧ fr69 g h ∧ CK N C g.1 ∧ CT nx c (fun s => W s = true) N Q C := by
  have hN := hF.2.1
  have hN1 := hF.1.1
  have ct : ∀ C, Sd nx c (fun s => W s = true) N Q C → (∀ j, j < N → Bn nx c (fun s => W s = true) Q C 640 j) → CT nx c (fun s => W s = true) N Q C := fun C h1 h2 => CT.of hF.1 hN (fun k hk => (hc k hk).1) h1 (fun j hj n hn m w a b => h2 j hj n hn m w a b)
  have n0 : ∀ g : xm_H, fr69 g h → ¬ g.1 61 14 = (0 : Int32) := fun g hg => by
    rw [hg.2 61 (by decide), hF.2.2.2.1]
    intro e
    have := (nI_eq (b := 0) (by omega) (by omega)).mp e
    omega
  have outer : ∀ m p (g : xm_H) (C : Nat → Nat) (b : Bool), m + p = 640 → fr69 g h → CK N C g.1 → Sd nx c (fun s => W s = true) N Q C → (∀ j, j < N → Bn nx c (fun s => W s = true) Q C p j) → (b = false → ∀ j, j < N → fxC nx c N Q C j) → ∃ (g' : xm_H) (C' : Nat → Nat), fr69 g' h ∧ CK N C' g'.1 ∧ CT nx c (fun s => W s = true) N Q C' ∧ ∀ l4 l5, xm_E (xm_X0 L xs) xm_P (d + 8) co_X3_leastSeconds 30 [some (.ref 61), some (.ref t), some (.int (bI b)), some (.int (nI p)), l4, l5] [] g (some (.int (if C' 0 = 1000000 then -1 else nI (C' 0)))) g' := by
    intro m
    induction m with
    | zero =>
      intro p g C b hm hg hC hs h1 h2
      have hp : p = 640 := by omega
      subst hp
      have gR : g.2.2 = xm_R0 t := by rw [hg.1]; exact hR
      refine ⟨g, C, hg, hC, ct C hs h1, fun l4 l5 => ?_⟩
      rcases hs 0 (by omega) with q | ⟨q, -⟩
      · rw [if_pos q]
        exact s_X3_leastSeconds_30_2 (d := d + 1) gR ht (by decide) (n0 g hg) (by rw [hC 0 (by omega), q]; decide)
      · rw [if_neg (by omega), ← hC 0 (by omega)]
        exact s_X3_leastSeconds_30_1 (d := d + 1) gR ht (by decide) (n0 g hg) (by rw [hC 0 (by omega)]; exact nI_lt (b := 1000000) q (by decide))
    | succ m ih =>
      intro p g C b hm hg hC hs h1 h2
      have gR : g.2.2 = xm_R0 t := by rw [hg.1]; exact hR
      have c0 : ¬ ((640 : Int32) ≤ nI p) := nI_ge (b := 640) (by omega) (by decide)
      cases hb : b with
      | false =>
        refine ⟨g, C, hg, hC, ct C hs (fun j hj => Bn.all hF.1 (fun j hj n hn => h1 j hj n (by omega)) (h2 hb) 640 j hj), fun l4 l5 => ?_⟩
        rcases hs 0 (by omega) with q | ⟨q, -⟩
        · rw [if_pos q]
          exact s_X3_leastSeconds_30_5 (d := d + 1) gR ht c0 rfl (n0 g hg) (by rw [hC 0 (by omega), q]; decide)
        · rw [if_neg (by omega), ← hC 0 (by omega)]
          exact s_X3_leastSeconds_30_4 (d := d + 1) gR ht c0 rfl (n0 g hg) (by rw [hC 0 (by omega)]; exact nI_lt (b := 1000000) q (by decide))
      | true =>
        obtain ⟨g1, C1, b1, r1, r2, r3, r4, r5, r6⟩ := x_lpass (L := L) (xs := xs) (d := d) (p := p) (C := C) hR ht hF (fun k hk => ⟨(hc k hk).1.2, (hc k hk).2⟩) N g C false (Nat.le_refl _) hg hC hs h1 (fun j h1 h2 => by omega) (fun _ => ⟨rfl, fun j h1 h2 => by omega⟩)
        obtain ⟨g', C', q1, q2, q3, q4⟩ := ih (p + 1) g1 C1 b1 (by omega) r1 r2 r3 r4 r5
        refine ⟨g', C', q1, q2, q3, fun l4 l5 => s_X3_leastSeconds_30_6 (d := d + 1) ht c0 (by decide) ?_⟩
        have e4 : (if (640 : Int32) < g.1 61 14 then (640 : Int32) else g.1 61 14) - (1 : Int32) = pm N := by
          rw [hg.2 61 (by decide), hF.2.2.2.1, if_neg (show ¬ (640 : Int32) < nI N from nI_nlt (a := 640) hN (by decide)), show (1 : Int32) = nI 1 from rfl, nm_sub hN1]
          unfold pm
          rw [if_neg (by omega)]
        rw [e4]
        exact r6 _ _ q4 _
  have init : ∀ m i (g : xm_H), m + i = N → fr69 g h → (∀ j, j < i → g.1 69 j = nI (if W (Q j) = true then 0 else 1000000)) → ∃ (g' : xm_H), fr69 g' h ∧ CK N (fun j => if W (Q j) = true then 0 else 1000000) g'.1 ∧ ∀ ro ho, xm_E (xm_X0 L xs) xm_P (d + 8) co_X3_leastSeconds 30 [some (.ref 61), some (.ref t), some (.int (1 : Int32)), some (.int (0 : Int32)), none, none] [] g' ro ho → xm_E (xm_X0 L xs) xm_P (d + 8) co_X3_leastSeconds 2 [some (.ref 61), some (.ref t), some (.int (nI i)), none, none, none] [] g ro ho := by
    intro m
    induction m with
    | zero =>
      intro i g hm hg hz
      have hi : i = N := by omega
      subst hi
      exact ⟨g, hg, hz, fun ro ho K => s_X3_leastSeconds_2_0 (d := d + 1) ht (by rw [hg.2 61 (by decide), hF.2.2.2.1]; exact nI_le (Nat.le_refl _) (by omega)) K⟩
    | succ m ih =>
      intro i g hm hg hz
      have hi : i < N := by omega
      have gR : g.2.2 = xm_R0 t := by rw [hg.1]; exact hR
      have c0 : ¬ (g.1 61 14 ≤ nI i) := by rw [hg.2 61 (by decide), hF.2.2.2.1]; exact nI_ge hi (by omega)
      have c1 : ¬ ((640 : Int32) ≤ nI i) := nI_ge (b := 640) (by omega) (by decide)
      have c2 : ¬ (nI i < 0 ∨ 640 ≤ (nI i).toNatClampNeg) := nI_in (by omega) (by decide)
      have ei : (nI i).toNatClampNeg = i := nI_clamp (by omega)
      have em : F_X8_isMetBy g t (g.1 64 (nI i).toNatClampNeg) = if W (Q i) = true then 1 else 0 := by
        rw [met_fr (hg.2 (t + 1) (by omega)), ei, hg.2 64 (by decide), (hF.2.2.2.2.1 i hi).1]
        exact hW _ (hF.2.2.1 i hi)
      obtain ⟨g', r1, r2, r3⟩ := ih (i + 1) (xm_si g 69 i (nI (if W (Q i) = true then 0 else 1000000))) (by omega) ⟨hg.1, fun z hz => by rw [xm_rn hz]; exact hg.2 z hz⟩ (fun j hj => by
        rw [xm_rf]
        by_cases e : j = i
        · rw [e, fu_a]
        · rw [fu_k e]; exact hz j (by omega))
      refine ⟨g', r1, r2, fun ro ho K => ?_⟩
      have E := r3 ro ho K
      rw [← nI_1] at E
      by_cases q : W (Q i) = true
      · rw [if_pos q] at em E
        refine s_X3_leastSeconds_2_3 (d := d + 1) gR ht c0 c1 c2 (by rw [em]; exact one_ne0) ?_
        rw [ei]
        exact E
      · rw [if_neg q] at em E
        refine s_X3_leastSeconds_2_2 (d := d + 1) gR ht c0 c1 c2 em ?_
        rw [ei]
        exact E
  obtain ⟨g1, a1, a2, a3⟩ := init N 0 h rfl ⟨rfl, fun _ _ => rfl⟩ (fun j hj => absurd hj (Nat.not_lt_zero _))
  obtain ⟨g', C', q1, q2, q3, q4⟩ := outer 640 0 g1 _ true rfl a1 a2 (fun j hj => by
    by_cases q : W (Q j) = true
    · right
      show (if W (Q j) = true then 0 else 1000000) < 1000000 ∧ ∃ n w, wk nx c n (Q j) (if W (Q j) = true then 0 else 1000000) w ∧ W w = true
      rw [if_pos q]
      exact ⟨by omega, 0, Q j, ⟨rfl, rfl⟩, q⟩
    · left
      exact if_neg q) (fun j hj n hn m w h1 h2 => by
    have : n = 0 := by omega
    subst this
    obtain ⟨rfl, rfl⟩ := h1
    show (if W (Q j) = true then 0 else 1000000) ≤ 0
    rw [if_pos h2]
    exact Nat.le_refl _) (fun z => by cases z)
  exact ⟨g', C', v_X3_leastSeconds (d := d + 8) (s_X3_leastSeconds_0_0 (d := d + 1) ht (a3 _ _ (q4 _ _))), q1, q2, q3⟩
theorem v_firstCheap {g : xm_H} {C : Nat → Nat} (hR : g.2.2 = xm_R0 t) (ht : t = 5 ∨ t = 13) (hF : FC nx s0 N Q par mv dep g.1) (hc : ∀ k, k < 10 → c k ≤ 99 ∧ F_X0_secondsOf g t (nI k) = nI (c k)) (hC : CK N C g.1) (hb : ∀ j, j < N → C j ≤ 1000000) {j : Nat} (hj : j < N) : ∃ r, xm_V (xm_X0 L xs) xm_P (d + 8) 99 [.ref 61, .ref t, .int (nI j)] g (some (.int r)) g ∧ ((r = -1 ∧ ∀ k x, k < 10 → x < N → nx k (Q j) = some (Q x) → ¬ C x + c k = C j) ∨ (∃ k x, k < 10 ∧ x < N ∧ nx k (Q j) = some (Q x) ∧ C x + c k = C j ∧ r = nI k ∧ F_X3_nextOf g t (nI j) (nI k) = nI x ∧ ∀ k' x', k' < k → x' < N → nx k' (Q j) = some (Q x') → ¬ C x' + c k' = C j)) := by
  have hN := hF.2.1
  have loop : ∀ m k, m + k = 10 → (∀ k' x, k' < k → x < N → nx k' (Q j) = some (Q x) → ¬ C x + c k' = C j) → ∃ r, (∀ l4, xm_E (xm_X0 L xs) xm_P (d + 7) co_X3_firstCheapMove 2 [some (.ref 61), some (.ref t), some (.int (nI j)), some (.int (nI k)), l4] [] g (some (.int r)) g) ∧ ((r = -1 ∧ ∀ k x, k < 10 → x < N → nx k (Q j) = some (Q x) → ¬ C x + c k = C j) ∨ (∃ k x, k < 10 ∧ x < N ∧ nx k (Q j) = some (Q x) ∧ C x + c k = C j ∧ r = nI k ∧ F_X3_nextOf g t (nI j) (nI k) = nI x ∧ ∀ k' x', k' < k → x' < N → nx k' (Q j) = some (Q x') → ¬ C x' + c k' = C j)) := by
    intro m
    induction m with
    | zero =>
      intro k hm hno
      have hk : k = 10 := by omega
      subst hk
      exact ⟨-1, fun l4 => s_X3_firstCheapMove_2_0 (d := d) ht (by decide), Or.inl ⟨rfl, hno⟩⟩
    | succ m ih =>
      intro k hm hno
      have hk : k < 10 := by omega
      have c0 : ¬ ((10 : Int32) ≤ nI k) := nI_ge (b := 10) hk (by decide)
      rcases x_next (t := t) hF hj hk with ⟨a1, a2⟩ | ⟨x, a1, a2, a3⟩
      · obtain ⟨r, E, q⟩ := ih (k + 1) (by omega) (fun k' x hk' hx e => by
          by_cases ek : k' = k
          · rw [ek, a1] at e; cases e
          · exact hno k' x (by omega) hx e)
        refine ⟨r, fun l4 => s_X3_firstCheapMove_2_1 (d := d) hR ht c0 (by rw [a2]; decide) ?_, q⟩
        rw [nI_1]
        exact E _
      · obtain ⟨hc1, hc2⟩ := hc k hk
        have hbx := hb x a1
        have hbj := hb j hj
        have k1 : ¬ (F_X3_nextOf g t (nI j) (nI k) < (0 : Int32)) := by rw [a3]; exact nI_pos (by omega)
        have k2 : ¬ ((640 : Int32) ≤ F_X3_nextOf g t (nI j) (nI k)) := by rw [a3]; exact nI_ge (b := 640) (by omega) (by decide)
        have k3 : ¬ (F_X3_nextOf g t (nI j) (nI k) < 0 ∨ 640 ≤ (F_X3_nextOf g t (nI j) (nI k)).toNatClampNeg) := by rw [a3]; exact nI_in (by omega) (by decide)
        have k4 : ¬ (nI j < 0 ∨ 640 ≤ (nI j).toNatClampNeg) := nI_in (by omega) (by decide)
        have es : g.1 69 (F_X3_nextOf g t (nI j) (nI k)).toNatClampNeg + F_X0_secondsOf g t (nI k) = nI (C x + c k) := by rw [a3, nI_clamp (show x < 2 ^ 31 by omega), hC x a1, hc2, nI_add]
        have ej : g.1 69 (nI j).toNatClampNeg = nI (C j) := by rw [nI_clamp (by omega), hC j hj]
        by_cases q : C x + c k = C j
        · exact ⟨nI k, fun l4 => s_X3_firstCheapMove_2_3 (d := d) hR ht c0 k1 k2 k3 k4 (by rw [es, ej, q]), Or.inr ⟨k, x, hk, a1, a2, q, rfl, a3, hno⟩⟩
        · obtain ⟨r, E, z⟩ := ih (k + 1) (by omega) (fun k' y hk' hy e => by
            by_cases ek : k' = k
            · subst ek
              rw [a2] at e
              have := hF.1.2.2.2.1 x y a1 hy (Option.some.inj e)
              subst this
              exact q
            · exact hno k' y (by omega) hy e)
          refine ⟨r, fun l4 => s_X3_firstCheapMove_2_4 (d := d) hR ht c0 k1 k2 k3 k4 (by rw [es, ej]; exact fun z => q ((nI_eq (by omega) (by omega)).mp z)) ?_, z⟩
          rw [nI_1]
          exact E _
  obtain ⟨r, E, q⟩ := loop 10 0 rfl (fun k' x hk' => absurd hk' (Nat.not_lt_zero _))
  exact ⟨r, v_X3_firstCheapMove (d := d + 7) (s_X3_firstCheapMove_0_0 (d := d) ht (E _)), q⟩
theorem x_qwalk {g : xm_H} {C : Nat → Nat} {e en : Nat} (hR : g.2.2 = xm_R0 t) (ht : t = 5 ∨ t = 13) (hFC : FC nx s0 N Q par mv dep g.1) (hc : ∀ k, k < 10 → (1 ≤ c k ∧ c k ≤ 99) ∧ F_X0_secondsOf g t (nI k) = nI (c k)) (hC : CK N C g.1) (hT : CT nx c (fun s => W s = true) N Q C) (hF : PF nx c s0 N Q F) (hmin : ∀ y, y < N → W (Q y) = true → en ≤ F y) (he : e < 2147483648) : ∀ n a j, a + n = e → j < N → F j + C j = en → C j < 1000000 → a + cq (fun x => decide (C x < C j)) N ≤ 639 → ∃ r, GA nx c (fun s => W s = true) N Q F en n j r ∧ ∀ l5, xm_E (xm_X0 L xs) xm_P (d + 8) co_X3_quickMove 13 [some (.ref 61), some (.ref t), some (.int (nI e)), some (.int (nI j)), some (.int (nI a)), l5] [] g (some (.int r)) g := by
  have hN := hFC.2.1
  have hb : ∀ j, j < N → C j ≤ 1000000 := fun j hj => by
    rcases hT j hj with ⟨q, -⟩ | ⟨q, -⟩ <;> omega
  have cheap : ∀ j, j < N → C j < 1000000 → 0 < C j → ∃ k x, k < 10 ∧ x < N ∧ nx k (Q j) = some (Q x) ∧ C x + c k = C j := by
    intro j hj h1 h2
    rcases hT j hj with ⟨q, -⟩ | ⟨q, ⟨n, w, w1, w2⟩, w3⟩
    · omega
    · cases n with
      | zero => have := w1.1; omega
      | succ n =>
        obtain ⟨k, u, b, k1, k2, k3, k4⟩ := w1
        obtain ⟨x, x1, x2, -⟩ := hFC.1.edge hj k1 k2
        rw [← x2] at k2 k3
        refine ⟨k, x, k1, x1, k2, ?_⟩
        rcases hT x x1 with ⟨z1, z2⟩ | ⟨z1, ⟨n', w', z2, z3⟩, z4⟩
        · exact absurd w2 (z2 n b w k3)
        · have a := z4 n b w k3 w2
          have b := w3 (n' + 1) (c k + C x) w' ⟨k, Q x, C x, k1, k2, z2, rfl⟩ z3
          omega
  intro n
  induction n with
  | zero =>
    intro a j ha hj hl hCj hrk
    have c0 : ¬ ((640 : Int32) ≤ nI a) := nI_ge (b := 640) (by omega) (by decide)
    have c1 : ¬ (nI j < (0 : Int32)) := nI_pos (by omega)
    have c2 : ¬ ((640 : Int32) ≤ nI j) := nI_ge (b := 640) (by omega) (by decide)
    obtain ⟨r, V, q⟩ := v_firstCheap (L := L) (xs := xs) (d := d) hR ht hFC (fun k hk => ⟨(hc k hk).1.2, (hc k hk).2⟩) hC hb hj
    rcases q with ⟨q1, q2⟩ | ⟨k, x, q1, q2, q3, q4, q5, q6, q7⟩
    · have z : C j = 0 := by
        rcases Nat.eq_zero_or_pos (C j) with z | z
        · exact z
        · obtain ⟨k, x, y1, y2, y3, y4⟩ := cheap j hj hCj z
          exact absurd y4 (q2 k x y1 y2 y3)
      subst q1
      exact ⟨-1, Or.inl ⟨by omega, rfl⟩, fun l5 => s_X3_quickMove_13_3 (d := d + 1) ht c0 c1 c2 V rfl⟩
    · have ck := (hc k q1).1.1
      have ed := CT.edge hFC.1 hF hT hmin hj hl hCj q1 q2 q3
      refine ⟨r, Or.inr ⟨by omega, k, x, q1, ed.1.mp q4, fun k' hk' x' hle => ?_, q5⟩, fun l5 => s_X3_quickMove_13_4 (d := d + 1) ht c0 c1 c2 V (by rw [q5]; exact n1_ne (by omega)) (by rw [show a = e by omega])⟩
      have ed' := CT.edge hFC.1 hF hT hmin hj hl hCj (k := k') (by omega) hle.1 hle.2.1
      exact q7 k' x' hk' hle.1 hle.2.1 (ed'.1.mpr hle)
  | succ n ih =>
    intro a j ha hj hl hCj hrk
    have c0 : ¬ ((640 : Int32) ≤ nI a) := nI_ge (b := 640) (by omega) (by decide)
    have c1 : ¬ (nI j < (0 : Int32)) := nI_pos (by omega)
    have c2 : ¬ ((640 : Int32) ≤ nI j) := nI_ge (b := 640) (by omega) (by decide)
    obtain ⟨r, V, q⟩ := v_firstCheap (L := L) (xs := xs) (d := d) hR ht hFC (fun k hk => ⟨(hc k hk).1.2, (hc k hk).2⟩) hC hb hj
    rcases q with ⟨q1, q2⟩ | ⟨k, x, q1, q2, q3, q4, q5, q6, q7⟩
    · have z : C j = 0 := by
        rcases Nat.eq_zero_or_pos (C j) with z | z
        · exact z
        · obtain ⟨k, x, y1, y2, y3, y4⟩ := cheap j hj hCj z
          exact absurd y4 (q2 k x y1 y2 y3)
      subst q1
      exact ⟨-1, Or.inl ⟨by omega, rfl⟩, fun l5 => s_X3_quickMove_13_3 (d := d + 1) ht c0 c1 c2 V rfl⟩
    · have ck := (hc k q1).1.1
      have ed := CT.edge hFC.1 hF hT hmin hj hl hCj q1 q2 q3
      have nx2 := ed.2 q4
      have lt : cq (fun y => decide (C y < C x)) N < cq (fun y => decide (C y < C j)) N := by
        refine cq_lt N (fun y hy q => ?_) q2 (decide_eq_false (Nat.lt_irrefl _)) (decide_eq_true (by omega))
        have := of_decide_eq_true q
        exact decide_eq_true (by omega)
      obtain ⟨r', G, E⟩ := ih (a + 1) x (by omega) q2 nx2.1 nx2.2 (by omega)
      refine ⟨r', Or.inr ⟨by omega, k, x, q1, ed.1.mp q4, fun k' hk' x' hle => ?_, G⟩, fun l5 => s_X3_quickMove_13_5 (d := d + 1) ht c0 c1 c2 V (by rw [q5]; exact n1_ne (by omega)) (fun z => by
        have := (nI_eq (by omega) (by omega)).mp z
        omega) hR ?_⟩
      · have ed' := CT.edge hFC.1 hF hT hmin hj hl hCj (k := k') (by omega) hle.1 hle.2.1
        exact q7 k' x' hk' hle.1 hle.2.1 (ed'.1.mpr hle)
      · rw [q5, q6, nI_1]
        exact E _
theorem sec_fr {h g : xm_H} {cn : Nat} {s : St} (ht : t = 5 ∨ t = 13) (hN : NOW h cn s) (h14 : ∀ k, k < 6 → h.1 (t + 2) k = h.1 83 (5 + k)) (e1 : g.1 83 = h.1 83) (e2 : g.1 (t + 2) = h.1 (t + 2)) {k : Nat} (hk : k < 10) : F_X0_secondsOf g t (nI k) = nI (cs (h.1 83) true k) := by
  rw [xk_of (by omega) (fun k hk => by rw [e1, e2]; exact h14 k hk), e1]
  exact cs_v hN.2.2.2.2.2.2.2.1 (by omega)
theorem op_quickest : xm_opi (xm_X0 L xs) (d + 20) (Rel SIs) 93 272 [] := by
  intro h hr
  obtain ⟨t, ht, hR, hw, hli, hwk⟩ := hr.opn
  rcases wish_of hw hli with ⟨q1, q2⟩ | ⟨q1, q2, hn, hW⟩
  · exact ⟨-2, h, h, v_X10_quickest (d := d + 19) (s_X10_quickest_0_0 (d := d + 12) hR ht q1), v_X11_quickest (d := d + 19) (s_X11_quickest_0_0 (d := d + 12) hR ht q2), hr⟩
  · obtain ⟨cn, s, rm, ar, hN, e3, hrm, er, e4, -, -, -, h14⟩ := now_of hw hli hwk hn
    obtain ⟨g, N, P, Q, par, mv, dep, D, V, g2, gq, hF, hrg, -⟩ := x_ahead (L := L) (xs := xs) (d := d + 7) hr hR ht hN e3 hrm e4
    have gR : g.2.2 = xm_R0 t := by rw [g2]; exact hR
    have e83 : g.1 83 = h.1 83 := gq 83 (by omega)
    have c2 : ∀ z : xm_H, z.1 83 = h.1 83 → ¬ F_X11_canWish z t = 0 := fun z ez => by
      unfold F_X11_canWish F_X11_isLinen F_X11_isWished at q2 ⊢
      rw [ez]
      exact q2
    have hcs : ∀ k, k < 10 → (1 ≤ cs (h.1 83) true k ∧ cs (h.1 83) true k ≤ 99) ∧ ∀ y : xm_H, fr69 y g → F_X0_secondsOf y t (nI k) = nI (cs (h.1 83) true k) := fun k hk => ⟨cs_in hN.2.2.2.2.2.2.2.1 true (by omega), fun y hy => sec_fr ht hN h14 ((hy.2 83 (by decide)).trans e83) ((hy.2 (t + 2) (by omega)).trans (gq (t + 2) (by omega))) hk⟩
    obtain ⟨y, C, Vl, y1, y2, y3⟩ := v_leastSeconds (L := L) (xs := xs) (d := d + 10) (W := wsh (h.1 83)) gR ht hF hcs (fun s hs => by rw [met_fr (gq (t + 1) (by omega))]; exact hW s hs)
    have yR : y.2.2 = xm_R0 t := by rw [y1.1]; exact gR
    have y83 : y.1 83 = h.1 83 := (y1.2 83 (by decide)).trans e83
    obtain ⟨z, r, N', Q', par', mv', dep', F, V', b1, b2, b3, b4⟩ := r_search (L := L) (xs := xs) (d := d + 9) (b := true) yR ht (hN.fr y83) hrm
    rw [y83] at b4
    have e := (y3.near hF.1).uniq b4
    rw [e] at Vl
    exact ⟨r, y, z, v_X10_quickest (d := d + 19) (s_X10_quickest_0_1 (d := d + 12) hR ht q1 V gR Vl), v_X11_quickest (d := d + 19) (s_X11_quickest_0_1 (d := d + 12) yR ht (c2 _ y83) (by rw [y83, er]; exact V')), (hrg.fr69 y1).srF b1⟩
theorem op_quick (a : Int32) : xm_opi (xm_X0 L xs) (d + 20) (Rel SIs) 97 273 [.int a] := by
  intro h hr
  obtain ⟨t, ht, hR, hw, hli, hwk⟩ := hr.opn
  rcases wish_of hw hli with ⟨q1, q2⟩ | ⟨q1, q2, hn, hW⟩
  · exact ⟨-2, h, h, v_X10_quick (d := d + 19) (s_X10_quick_0_0 (d := d + 12) hR ht q1), v_X11_quick (d := d + 19) (s_X11_quick_0_0 (d := d + 12) hR ht q2), hr⟩
  · obtain ⟨cn, s, rm, ar, hN, e3, hrm, er, e4, -, -, -, h14⟩ := now_of hw hli hwk hn
    obtain ⟨g, N, P, Q, par, mv, dep, D, V, g2, gq, hF, hrg, -⟩ := x_ahead (L := L) (xs := xs) (d := d + 7) hr hR ht hN e3 hrm e4
    have gR : g.2.2 = xm_R0 t := by rw [g2]; exact hR
    have e83 : g.1 83 = h.1 83 := gq 83 (by omega)
    have c2 : ∀ z : xm_H, z.1 83 = h.1 83 → ¬ F_X11_canWish z t = 0 := fun z ez => by
      unfold F_X11_canWish F_X11_isLinen F_X11_isWished at q2 ⊢
      rw [ez]
      exact q2
    have ref : ∀ y : xm_H, fr69 y g → ∃ (z : xm_H) (r : Int32) (F : Nat → Nat), xm_V (xm_X0 L xs) xm_P (d + 20) 273 [.ref 82, .int a] y (some (.int r)) z ∧ Rel SIs z ∧ PF (nx10 1023 rm 60) (cs (h.1 83) true) s N Q F ∧ (((∀ j, j < N → ¬ wsh (h.1 83) (Q j) = true) ∧ r = -1) ∨ (a < 0 ∧ r = -1) ∨ (∃ e y, e < 2147483648 ∧ a = nI e ∧ y < N ∧ wsh (h.1 83) (Q y) = true ∧ (∀ j, j < N → wsh (h.1 83) (Q j) = true → F y ≤ F j) ∧ GA (nx10 1023 rm 60) (cs (h.1 83) true) (fun s => wsh (h.1 83) s = true) N Q F (F y) e 0 r)) := by
      intro y y1
      have yR : y.2.2 = xm_R0 t := by rw [y1.1]; exact gR
      have y83 : y.1 83 = h.1 83 := (y1.2 83 (by decide)).trans e83
      obtain ⟨z, r, N', Q', par', mv', dep', F, V', b1, b2, b3, b4⟩ := r_search (L := L) (xs := xs) (d := d + 9) (b := true) yR ht (hN.fr y83) hrm
      have b3' := b3.to hF.1
      have zR : z.2.2 = xm_R0 t := by rw [b1.1]; exact yR
      obtain ⟨x, r', Vc, x1, x2⟩ := v_chosenAt (L := L) (xs := xs) (d := d + 10) (l1 := a) ht zR b2 b3'
      rw [b1.2.1 83 (by decide) (by decide) (by decide)] at x2
      rw [y83] at x2 b3'
      exact ⟨x, r', F, v_X11_quick (d := d + 19) (s_X11_quick_0_1 (d := d + 12) yR ht (c2 _ y83) (by rw [y83, er]; exact V') Vc), ((hrg.fr69 y1).srF b1).fr90 x1, b3'.2.2.2.1, x2⟩
    by_cases qa : a < 0
    · obtain ⟨z, r, F, Vz, hz, -, hd⟩ := ref g ⟨rfl, fun _ _ => rfl⟩
      have er : r = -1 := by
        rcases hd with ⟨-, q⟩ | ⟨-, q⟩ | ⟨e, -, q, q', -⟩
        · exact q
        · exact q
        · rw [q'] at qa
          exact absurd qa (nI_pos q)
      subst er
      exact ⟨-1, g, z, v_X10_quick (d := d + 19) (s_X10_quick_0_1 (d := d + 12) hR ht q1 V gR (v_X3_quickMove (d := d + 18) (s_X3_quickMove_0_0 (d := d + 11) ht qa))), Vz, hz⟩
    · have hcs : ∀ k, k < 10 → (1 ≤ cs (h.1 83) true k ∧ cs (h.1 83) true k ≤ 99) ∧ ∀ y : xm_H, fr69 y g → F_X0_secondsOf y t (nI k) = nI (cs (h.1 83) true k) := fun k hk => ⟨cs_in hN.2.2.2.2.2.2.2.1 true (by omega), fun y hy => sec_fr ht hN h14 ((hy.2 83 (by decide)).trans e83) ((hy.2 (t + 2) (by omega)).trans (gq (t + 2) (by omega))) hk⟩
      obtain ⟨y, C, Vl, y1, y2, y3⟩ := v_leastSeconds (L := L) (xs := xs) (d := d + 9) (W := wsh (h.1 83)) gR ht hF hcs (fun s hs => by rw [met_fr (gq (t + 1) (by omega))]; exact hW s hs)
      have yR : y.2.2 = xm_R0 t := by rw [y1.1]; exact gR
      obtain ⟨z, r, F, Vz, hz, hPF, hd⟩ := ref y y1
      rcases y3 0 hF.1.1 with ⟨c0, cno⟩ | ⟨c0, ⟨n, w, w1, w2⟩, w3⟩
      · rw [if_pos c0] at Vl
        have er : r = -1 := by
          rcases hd with ⟨-, q⟩ | ⟨-, q⟩ | ⟨e, x, x1, x2, x3, x4, -⟩
          · exact q
          · exact q
          · obtain ⟨n, hn⟩ := hPF.2.2 x x3
            rw [← hF.1.2.1] at hn
            exact absurd x4 (cno n _ _ hn)
        subst er
        exact ⟨-1, y, z, v_X10_quick (d := d + 19) (s_X10_quick_0_1 (d := d + 12) hR ht q1 V gR (v_X3_quickMove (d := d + 18) (s_X3_quickMove_0_1 (d := d + 11) ht qa Vl rfl))), Vz, hz⟩
      · rw [if_neg (by omega)] at Vl
        obtain ⟨x', x'1, x'2⟩ := hF.1.reach n 0 (C 0) w hF.1.1 w1
        rcases hd with ⟨q, -⟩ | ⟨q, -⟩ | ⟨e, x, x1, x2, x3, x4, x5, x6⟩
        · rw [← x'2] at w2
          exact absurd w2 (q x' x'1)
        · exact absurd q qa
        · subst x2
          have f0 : F 0 + C 0 = F x := by
            rw [hPF.1]
            obtain ⟨n', hn'⟩ := hPF.2.2 x x3
            rw [← hF.1.2.1] at hn'
            have a1 := w3 n' (F x) (Q x) hn' x4
            rw [← x'2] at w1 w2
            have a2 := hF.1.pot hPF.2.1 n 0 (C 0) x' hF.1.1 x'1 w1
            have a3 := x5 x' x'1 w2
            rw [hPF.1] at a2
            omega
          have rk0 : 0 + cq (fun y => decide (C y < C 0)) N ≤ 639 := by
            have := cq_ltn (p := fun y => decide (C y < C 0)) hF.1.1 (decide_eq_false (Nat.lt_irrefl _))
            have := hF.2.1
            omega
          obtain ⟨r', G, E⟩ := x_qwalk (L := L) (xs := xs) (d := d + 10) (W := wsh (h.1 83)) (e := e) (en := F x) yR ht (y1.fc hF) (fun k hk => ⟨(hcs k hk).1, (hcs k hk).2 y y1⟩) y2 y3 hPF x5 x1 e 0 0 (by omega) hF.1.1 f0 c0 rk0
          have er := GA.uniq hF.1.2.2.2.1 e 0 _ _ x6 G
          subst er
          exact ⟨r, y, z, v_X10_quick (d := d + 19) (s_X10_quick_0_1 (d := d + 12) hR ht q1 V gR (v_X3_quickMove (d := d + 18) (s_X3_quickMove_0_2 (d := d + 11) ht qa Vl (n1_ne (by omega)) (E _)))), Vz, hz⟩
end OPS
