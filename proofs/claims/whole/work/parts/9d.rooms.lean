/-! How much room is wanted: room, best. -/
theorem st_do_mono {R R' k : Nat} {s s' : St} (hR : R ≤ R') (h : st_do R k s = some s') : st_do R' k s = some s' := by
  unfold st_do at h ⊢
  repeat' split at h
  all_goals first | cases h | skip
  all_goals simp_all
  all_goals omega
theorem nx10_mono {al R R' ar k : Nat} {s s' : St} (hR : R ≤ R') (h : nx10 al R ar k s = some s') : nx10 al R' ar k s = some s' := by
  unfold nx10 nxC at h ⊢
  split at h
  · split at h
    · rename_i h1 h2
      rw [if_pos h1, if_pos h2]
      exact st_do_mono hR h
    · cases h
  · cases h
theorem wk_mono {R R' : Nat} {c : Nat → Nat} (hR : R ≤ R') : ∀ n s m w, wk (nx10 1023 R 60) c n s m w → wk (nx10 1023 R' 60) c n s m w
  | 0, s, m, w, h => h
  | n + 1, s, m, w, h => by
    obtain ⟨k, u, b, h1, h2, h3, h4⟩ := h
    exact ⟨k, u, b, h1, nx10_mono hR h2, wk_mono hR n u b w h3, h4⟩
def okR (W : St → Bool) (s : St) (R m : Nat) : Prop := ∃ n w, wk (nx10 1023 R 60) (fun _ => 1) n s m w ∧ W w = true
theorem okR_mono {W : St → Bool} {s : St} {R R' m : Nat} (hR : R ≤ R') (h : okR W s R m) : okR W s R' m := by
  obtain ⟨n, w, h1, h2⟩ := h
  exact ⟨n, w, wk_mono hR n s m w h1, h2⟩
theorem okR_of {W : St → Bool} {s : St} {R : Nat} {r : Int32} (h : Near (nx10 1023 R 60) (fun _ => 1) (fun s => W s = true) s r) : (∃ m, okR W s R m ∧ m < 100000000 ∧ r = nI m ∧ ∀ m', okR W s R m' → m ≤ m') ∨ (r = -1 ∧ ∀ m, ¬ okR W s R m) := by
  rcases h with ⟨n, m, w, a1, a2, a3, a4, a5⟩ | ⟨a1, a2⟩
  · exact Or.inl ⟨m, ⟨n, w, a1, a2⟩, a3, a4, fun m' hm => by
      obtain ⟨n', w', b1, b2⟩ := hm
      exact a5 n' m' w' b1 b2⟩
  · exact Or.inr ⟨a1, fun m hm => by
      obtain ⟨n', w', b1, b2⟩ := hm
      exact a2 n' m w' b1 b2⟩
/-- too small: not so few moves -/
def tooS (W : St → Bool) (s : St) (M R : Nat) : Prop := ∀ m, okR W s R m → M < m
theorem tooS_anti {W : St → Bool} {s : St} {M R R' : Nat} (hR : R ≤ R') (h : tooS W s M R') : tooS W s M R := fun m hm => h m (okR_mono hR hm)
def lstR (W : St → Bool) (s : St) (M R : Nat) : Prop := 1 ≤ R ∧ R ≤ 60 ∧ ¬ tooS W s M R ∧ ∀ R', 1 ≤ R' → R' < R → tooS W s M R'
theorem lstR_uniq {W : St → Bool} {s : St} {M R R' : Nat} (h : lstR W s M R) (h' : lstR W s M R') : R = R' := by
  rcases Nat.lt_trichotomy R R' with q | q | q
  · exact absurd (h'.2.2.2 R h.1 q) h.2.2.1
  · exact q
  · exact absurd (h.2.2.2 R' h'.1 q) h'.2.2.1
def pw2 : Nat → Nat
  | 0 => 0
  | e + 1 => 2 ^ e
theorem pw2_d : ∀ e, pw2 (e + 1) / 2 = pw2 e
  | 0 => rfl
  | e + 1 => by
    show 2 ^ (e + 1) / 2 = 2 ^ e
    rw [Nat.pow_succ]
    omega
section OPS
variable {L : Nat} {xs : Nat → Int32} {d : Nat} {t : Nat}
theorem v_leastR {h : xm_H} {M cn : Nat} {s : St} {W : St → Bool} (hr : Rel SIs h) (hR : h.2.2 = xm_R0 t) (ht : t = 5 ∨ t = 13) (hN : NOW h cn s) (e3 : h.1 3 3 = st_P s) (hM : M < 2147483648) (hW : ∀ s, st_K s → F_X8_isMetBy h t (st_P s) = if W s = true then 1 else 0) (h60 : ¬ tooS W s M 60) : ∃ (g : xm_H) (R : Nat), xm_V (xm_X0 L xs) xm_P (d + 13) 105 [.ref 0, .int (nI M)] h (some (.int (nI R))) g ∧ lstR W s M R ∧ g.2 = h.2 ∧ (∀ q, (q < 61 ∨ 68 < q) → g.1 q = h.1 q) ∧ Rel SIs g := by
  have loop : ∀ e (g : xm_H) (lo : Nat), e ≤ 6 → lo < 60 → g.2 = h.2 → (∀ q, (q < 61 ∨ 68 < q) → g.1 q = h.1 q) → Rel SIs g → (lo = 0 ∨ tooS W s M lo) → (∀ R, lo + 2 ^ e ≤ R → R ≤ 60 → ¬ tooS W s M R) → ∃ (g' : xm_H) (R : Nat), (∀ l4 l5, xm_E (xm_X0 L xs) xm_P (d + 12) co_X10_leastRoomFor 4 [some (.ref 0), some (.int (nI M)), some (.int (nI lo)), some (.int (nI (pw2 e))), l4, l5] [] g (some (.int (nI R))) g') ∧ lstR W s M R ∧ g'.2 = h.2 ∧ (∀ q, (q < 61 ∨ 68 < q) → g'.1 q = h.1 q) ∧ Rel SIs g' := by
    intro e
    induction e with
    | zero =>
      intro g lo he hlo g2 gq hrg h1 h2
      refine ⟨g, lo + 1, fun l4 l5 => ?_, ⟨by omega, by omega, h2 (lo + 1) (Nat.le_refl _) (by omega), fun R' hR1 hR2 => ?_⟩, g2, gq, hrg⟩
      · rw [← nI_1]
        exact s_X10_leastRoomFor_4_0 (d := d + 5) (by decide)
      · rcases h1 with h1 | h1
        · omega
        · exact tooS_anti (by omega) h1
    | succ e ih =>
      intro g lo he hlo g2 gq hrg h1 h2
      have p32 : 2 ^ e ≤ 32 := by
        have : e = 0 ∨ e = 1 ∨ e = 2 ∨ e = 3 ∨ e = 4 ∨ e = 5 := by omega
        rcases this with rfl | rfl | rfl | rfl | rfl | rfl <;> decide
      have ppos : 0 < 2 ^ e := Nat.pos_of_ne_zero (by
        have : e = 0 ∨ e = 1 ∨ e = 2 ∨ e = 3 ∨ e = 4 ∨ e = 5 := by omega
        rcases this with rfl | rfl | rfl | rfl | rfl | rfl <;> decide)
      have epw : pw2 (e + 1) = 2 ^ e := rfl
      have esucc : 2 ^ (e + 1) = 2 * 2 ^ e := by rw [Nat.pow_succ]; omega
      have c0 : ¬ (nI (pw2 (e + 1)) ≤ (0 : Int32)) := by rw [epw]; exact nI_nle ppos (by omega)
      have esum : nI lo + nI (pw2 (e + 1)) = nI (lo + 2 ^ e) := by rw [nI_add, epw]
      have edv : nI (pw2 (e + 1)) / (2 : Int32) = nI (pw2 e) := by rw [show (2 : Int32) = nI 2 from rfl, nm_div (by rw [epw]; omega) (by decide), pw2_d]
      by_cases hsp : 60 < lo + 2 ^ e
      · obtain ⟨g', R, E, q⟩ := ih g lo (by omega) hlo g2 gq hrg h1 (fun R a b => by omega)
        refine ⟨g', R, fun l4 l5 => s_X10_leastRoomFor_4_1 (d := d + 5) c0 (by rw [esum]; exact nI_lt (a := 60) hsp (by omega)) ?_, q⟩
        rw [edv]
        exact E _ _
      · have c1 : ¬ ((60 : Int32) < nI lo + nI (pw2 (e + 1))) := by rw [esum]; exact nI_nlt (a := 60) (by omega) (by decide)
        have gR : g.2.2 = xm_R0 t := by rw [g2]; exact hR
        obtain ⟨g1, r, V, b2, bq, hr1, hnr⟩ := v_fewIn (L := L) (xs := xs) (d := d) (R := lo + 2 ^ e) (W := W) hrg gR ht (hN.fr (gq 83 (by omega))) (by rw [gq 3 (by omega)]; exact e3) (by omega) (fun s hs => by rw [met_fr (gq (t + 1) (by omega))]; exact hW s hs)
        rw [← esum] at V
        rcases okR_of hnr with ⟨m, a1, a2, a3, a4⟩ | ⟨a1, a2⟩
        · by_cases hm : m ≤ M
          · have nt : ¬ tooS W s M (lo + 2 ^ e) := fun q => by
              have := q m a1
              omega
            obtain ⟨g', R, E, q⟩ := ih g1 lo (by omega) hlo (b2.trans g2) (fun q hq => (bq q hq).trans (gq q hq)) hr1 h1 (fun R a b hT => nt (tooS_anti a hT))
            refine ⟨g', R, fun l4 l5 => s_X10_leastRoomFor_4_3 (d := d + 5) c0 c1 V (by rw [a3]; exact n1_ne (by omega)) (by rw [a3]; exact nI_le hm (by omega)) ?_, q⟩
            rw [edv]
            exact E _ _
          · have ts : tooS W s M (lo + 2 ^ e) := fun m' hm' => by
              have := a4 m' hm'
              omega
            have hlo' : lo + 2 ^ e < 60 := by
              by_cases q : lo + 2 ^ e < 60
              · exact q
              · rw [show lo + 2 ^ e = 60 by omega] at ts
                exact absurd ts h60
            obtain ⟨g', R, E, q⟩ := ih g1 (lo + 2 ^ e) (by omega) hlo' (b2.trans g2) (fun q hq => (bq q hq).trans (gq q hq)) hr1 (Or.inr ts) (fun R a b => h2 R (by omega) b)
            refine ⟨g', R, fun l4 l5 => s_X10_leastRoomFor_4_4 (d := d + 5) c0 c1 V (by rw [a3]; exact n1_ne (by omega)) (by rw [a3]; exact nI_ge (by omega) (by omega)) ?_, q⟩
            rw [edv, esum]
            exact E _ _
        · have ts : tooS W s M (lo + 2 ^ e) := fun m' hm' => absurd hm' (a2 m')
          have hlo' : lo + 2 ^ e < 60 := by
            by_cases q : lo + 2 ^ e < 60
            · exact q
            · rw [show lo + 2 ^ e = 60 by omega] at ts
              exact absurd ts h60
          obtain ⟨g', R, E, q⟩ := ih g1 (lo + 2 ^ e) (by omega) hlo' (b2.trans g2) (fun q hq => (bq q hq).trans (gq q hq)) hr1 (Or.inr ts) (fun R a b => h2 R (by omega) b)
          refine ⟨g', R, fun l4 l5 => s_X10_leastRoomFor_4_2 (d := d + 5) c0 c1 V a1 ?_, q⟩
          rw [edv, esum]
          exact E _ _
  obtain ⟨g', R, E, q⟩ := loop 6 h 0 (by omega) (by omega) rfl (fun _ _ => rfl) hr (Or.inl rfl) (fun R a b => by omega)
  exact ⟨g', R, v_X10_leastRoomFor (d := d + 12) (s_X10_leastRoomFor_0_0 (d := d + 5) (E _ _)), q⟩
theorem r_room {h : xm_H} {cn : Nat} {s : St} (hR : h.2.2 = xm_R0 t) (ht : t = 5 ∨ t = 13) (hN : NOW h cn s) : ∃ (g : xm_H), srF g h ∧ ((∃ R, lstR (wsh (h.1 83)) s 2147483647 R ∧ xm_E (xm_X0 L xs) xm_P (d + 10) co_X11_room 7 [some (.ref 82), some (.int (1 : Int32))] [] h (some (.int (nI R))) g) ∨ ((∀ m, ¬ okR (wsh (h.1 83)) s 60 m) ∧ xm_E (xm_X0 L xs) xm_P (d + 10) co_X11_room 7 [some (.ref 82), some (.int (1 : Int32))] [] h (some (.int (-1))) g)) := by
  have loop : ∀ k i (z : xm_H), k + i = 61 → 1 ≤ i → srF z h → (∀ R, 1 ≤ R → R < i → ∀ m, ¬ okR (wsh (h.1 83)) s R m) → ∃ (g : xm_H), srF g h ∧ ((∃ R, lstR (wsh (h.1 83)) s 2147483647 R ∧ xm_E (xm_X0 L xs) xm_P (d + 10) co_X11_room 7 [some (.ref 82), some (.int (nI i))] [] z (some (.int (nI R))) g) ∨ ((∀ m, ¬ okR (wsh (h.1 83)) s 60 m) ∧ xm_E (xm_X0 L xs) xm_P (d + 10) co_X11_room 7 [some (.ref 82), some (.int (nI i))] [] z (some (.int (-1))) g)) := by
    intro k
    induction k with
    | zero =>
      intro i z hk hi hz hno
      exact ⟨z, hz, Or.inr ⟨hno 60 (by omega) (by omega), s_X11_room_7_0 (d := d + 3) (nI_lt (a := 60) (by omega) (by omega))⟩⟩
    | succ k ih =>
      intro i z hk hi hz hno
      have e83 : z.1 83 = h.1 83 := hz.2.1 83 (by decide) (by decide) (by decide)
      have c0 : ¬ ((60 : Int32) < nI i) := nI_nlt (a := 60) (by omega) (by decide)
      obtain ⟨g, r, N, Q, par, mv, dep, F, V, b1, -, -, b4⟩ := r_search (L := L) (xs := xs) (d := d) (R := i) (b := false) (by rw [hz.1]; exact hR) ht (hN.fr e83) (by omega)
      rw [e83, cs_f] at b4
      rcases okR_of b4 with ⟨m, a1, a2, a3, a4⟩ | ⟨a1, a2⟩
      · refine ⟨g, b1.tr hz, Or.inl ⟨i, ⟨hi, by omega, fun q => ?_, fun R' h1 h2 m hm => absurd hm (hno R' h1 h2 m)⟩, s_X11_room_7_2 (d := d + 3) c0 V (by rw [a3]; exact n1_ne (by omega))⟩⟩
        have := q m a1
        omega
      · obtain ⟨g', r1, r2⟩ := ih (i + 1) g (by omega) (by omega) (b1.tr hz) (fun R h1 h2 => by
          by_cases e : R = i
          · rw [e]; exact a2
          · exact hno R h1 (by omega))
        rw [← nI_1] at r2
        refine ⟨g', r1, ?_⟩
        rcases r2 with ⟨R, p, E⟩ | ⟨p, E⟩
        · exact Or.inl ⟨R, p, s_X11_room_7_1 (d := d + 3) c0 V a1 E⟩
        · exact Or.inr ⟨p, s_X11_room_7_1 (d := d + 3) c0 V a1 E⟩
  exact loop 60 1 h rfl (Nat.le_refl _) ⟨rfl, fun _ _ _ _ => rfl, fun _ _ _ _ _ _ => rfl⟩ (fun R h1 h2 => by omega)
theorem r_best {h : xm_H} {cn : Nat} {s : St} (hR : h.2.2 = xm_R0 t) (ht : t = 5 ∨ t = 13) (hN : NOW h cn s) : ∃ (g : xm_H), srF g h ∧ ((∃ R lm, 1 ≤ R ∧ R ≤ 60 ∧ okR (wsh (h.1 83)) s R lm ∧ (∀ m, okR (wsh (h.1 83)) s 60 m → lm ≤ m) ∧ (∀ R', 1 ≤ R' → R' < R → ∀ m, okR (wsh (h.1 83)) s R' m → lm < m) ∧ xm_E (xm_X0 L xs) xm_P (d + 10) co_X11_best 11 [some (.ref 82), some (.int (-1 : Int32)), some (.int (1000000000 : Int32)), some (.int (1 : Int32)), none] [] h (some (.int (nI R))) g) ∨ ((∀ m, ¬ okR (wsh (h.1 83)) s 60 m) ∧ xm_E (xm_X0 L xs) xm_P (d + 10) co_X11_best 11 [some (.ref 82), some (.int (-1 : Int32)), some (.int (1000000000 : Int32)), some (.int (1 : Int32)), none] [] h (some (.int (-1))) g)) := by
  have loop : ∀ k i (z : xm_H) (l1 l2 : Int32), k + i = 61 → 1 ≤ i → srF z h → ((l1 = -1 ∧ l2 = nI 1000000000 ∧ ∀ R, 1 ≤ R → R < i → ∀ m, ¬ okR (wsh (h.1 83)) s R m) ∨ (∃ B lm, 1 ≤ B ∧ B < i ∧ l1 = nI B ∧ l2 = nI lm ∧ lm < 100000000 ∧ okR (wsh (h.1 83)) s B lm ∧ (∀ R, R < i → 1 ≤ R → ∀ m, okR (wsh (h.1 83)) s R m → lm ≤ m) ∧ (∀ R', 1 ≤ R' → R' < B → ∀ m, okR (wsh (h.1 83)) s R' m → lm < m))) → ∃ (g : xm_H) (r : Int32), srF g h ∧ ((∃ B lm, 1 ≤ B ∧ B < 61 ∧ r = nI B ∧ okR (wsh (h.1 83)) s B lm ∧ (∀ R, R < 61 → 1 ≤ R → ∀ m, okR (wsh (h.1 83)) s R m → lm ≤ m) ∧ (∀ R', 1 ≤ R' → R' < B → ∀ m, okR (wsh (h.1 83)) s R' m → lm < m)) ∨ (r = -1 ∧ ∀ m, ¬ okR (wsh (h.1 83)) s 60 m)) ∧ ∀ l4, xm_E (xm_X0 L xs) xm_P (d + 10) co_X11_best 11 [some (.ref 82), some (.int l1), some (.int l2), some (.int (nI i)), l4] [] z (some (.int r)) g := by
    intro k
    induction k with
    | zero =>
      intro i z l1 l2 hk hi hz hb
      have e61 : i = 61 := by omega
      subst e61
      refine ⟨z, l1, hz, ?_, fun l4 => s_X11_best_11_0 (d := d + 3) (by decide)⟩
      rcases hb with ⟨a1, -, a3⟩ | ⟨B, lm, a1, a2, a3, a4, a5, a6, a7, a8⟩
      · exact Or.inr ⟨a1, a3 60 (by omega) (by omega)⟩
      · exact Or.inl ⟨B, lm, a1, a2, a3, a6, a7, a8⟩
    | succ k ih =>
      intro i z l1 l2 hk hi hz hb
      have e83 : z.1 83 = h.1 83 := hz.2.1 83 (by decide) (by decide) (by decide)
      have c0 : ¬ ((60 : Int32) < nI i) := nI_nlt (a := 60) (by omega) (by decide)
      obtain ⟨g, r, N, Q, par, mv, dep, F, V, b1, -, -, b4⟩ := r_search (L := L) (xs := xs) (d := d) (R := i) (b := false) (by rw [hz.1]; exact hR) ht (hN.fr e83) (by omega)
      rw [e83, cs_f] at b4
      rcases okR_of b4 with ⟨m, a1, a2, a3, a4⟩ | ⟨a1, a2⟩
      · have rne : ¬ r = -1 := by rw [a3]; exact n1_ne (by omega)
        by_cases hlt : r < l2
        · obtain ⟨g', r', p1, p2, p3⟩ := ih (i + 1) g (nI i) r (by omega) (by omega) (b1.tr hz) (Or.inr ⟨i, m, hi, by omega, rfl, a3, a2, a1, fun R hR1 hR2 m' hm' => by
            by_cases e : R = i
            · rw [e] at hm'; exact a4 m' hm'
            · exact a4 m' (okR_mono (by omega) hm'), fun R' h1 h2 m' hm' => by
            rcases hb with ⟨-, -, q3⟩ | ⟨B, lm, q1, q2, q3, q4, q5, q6, q7, q8⟩
            · exact absurd hm' (q3 R' h1 h2 m')
            · have := q7 R' h2 h1 m' hm'
              rw [a3, q4, nI_ltI (by omega) (by omega)] at hlt
              omega⟩)
          refine ⟨g', r', p1, p2, fun l4 => s_X11_best_11_2 (d := d + 3) c0 V rne hlt ?_⟩
          rw [nI_1]
          exact p3 _
        · obtain ⟨g', r', p1, p2, p3⟩ := ih (i + 1) g l1 l2 (by omega) (by omega) (b1.tr hz) (by
            rcases hb with ⟨q1, q2, q3⟩ | ⟨B, lm, q1, q2, q3, q4, q5, q6, q7, q8⟩
            · exfalso
              apply hlt
              rw [a3, q2]
              exact nI_lt (by omega) (by decide)
            · rw [a3, q4, nI_ltI (by omega) (by omega)] at hlt
              refine Or.inr ⟨B, lm, q1, by omega, q3, q4, q5, q6, fun R hR1 hR2 m' hm' => ?_, q8⟩
              by_cases e : R = i
              · rw [e] at hm'
                have := a4 m' hm'
                omega
              · exact q7 R (by omega) hR2 m' hm')
          refine ⟨g', r', p1, p2, fun l4 => s_X11_best_11_3 (d := d + 3) c0 V rne hlt ?_⟩
          rw [nI_1]
          exact p3 _
      · obtain ⟨g', r', p1, p2, p3⟩ := ih (i + 1) g l1 l2 (by omega) (by omega) (b1.tr hz) (by
          rcases hb with ⟨q1, q2, q3⟩ | ⟨B, lm, q1, q2, q3, q4, q5, q6, q7, q8⟩
          · refine Or.inl ⟨q1, q2, fun R h1 h2 => ?_⟩
            by_cases e : R = i
            · rw [e]; exact a2
            · exact q3 R h1 (by omega)
          · refine Or.inr ⟨B, lm, q1, by omega, q3, q4, q5, q6, fun R hR1 hR2 m' hm' => ?_, q8⟩
            by_cases e : R = i
            · rw [e] at hm'
              exact absurd hm' (a2 m')
            · exact q7 R (by omega) hR2 m' hm')
        refine ⟨g', r', p1, p2, fun l4 => s_X11_best_11_1 (d := d + 3) c0 V a1 ?_⟩
        rw [nI_1]
        exact p3 _
  obtain ⟨g, r, p1, p2, p3⟩ := loop 60 1 h (-1) (nI 1000000000) rfl (Nat.le_refl _) ⟨rfl, fun _ _ _ _ => rfl, fun _ _ _ _ _ _ => rfl⟩ (Or.inl ⟨rfl, rfl, fun R h1 h2 => by omega⟩)
  refine ⟨g, p1, ?_⟩
  rcases p2 with ⟨B, lm, q1, q2, q3, q4, q5, q6⟩ | ⟨q1, q2⟩
  · rw [q3] at p3
    exact Or.inl ⟨B, lm, q1, by omega, q4, q5 60 (by omega) (by omega), q6, p3 _⟩
  · rw [q1] at p3
    exact Or.inr ⟨q2, p3 _⟩
theorem op_room : xm_opi (xm_X0 L xs) (d + 20) (Rel SIs) 104 277 [] := by
  intro h hr
  obtain ⟨t, ht, hR, hw, hli, hwk⟩ := hr.opn
  rcases wish_of hw hli with ⟨q1, q2⟩ | ⟨q1, q2, hn, hW⟩
  · exact ⟨-2, h, h, v_X10_room (d := d + 19) (s_X10_room_0_0 (d := d + 12) hR ht q1), v_X11_room (d := d + 19) (s_X11_room_0_0 (d := d + 12) hR ht q2), hr⟩
  · obtain ⟨cn, s, rm, ar, hN, e3, hrm, er, e4, -⟩ := now_of hw hli hwk hn
    have cw : ∀ g : xm_H, g.1 83 = h.1 83 → ¬ F_X11_canWish g t = 0 := fun g e83 => by
      unfold F_X11_canWish F_X11_isLinen F_X11_isWished at q2 ⊢
      rw [e83]
      exact q2
    obtain ⟨g, r, V, g2, gq, hrg, hnr⟩ := v_fewIn (L := L) (xs := xs) (d := d + 7) (R := 60) hr hR ht hN e3 (Nat.le_refl _) hW
    have gR : g.2.2 = xm_R0 t := by rw [g2]; exact hR
    have e83 : g.1 83 = h.1 83 := gq 83 (by omega)
    rcases okR_of hnr with ⟨m, a1, a2, a3, a4⟩ | ⟨a1, a2⟩
    · obtain ⟨g', R, V1, hl, b2, bq, hr'⟩ := v_leastR (L := L) (xs := xs) (d := d + 6) (M := 2147483647) (W := wsh (h.1 83)) hrg gR ht (hN.fr e83) (by rw [gq 3 (by omega)]; exact e3) (by decide) (fun s hs => by rw [met_fr (gq (t + 1) (by omega))]; exact hW s hs) (fun q => by
        have := q m a1
        omega)
      have gR' : g'.2.2 = xm_R0 t := by rw [b2]; exact gR
      have e83' : g'.1 83 = h.1 83 := (bq 83 (by omega)).trans e83
      obtain ⟨z, c1, c2⟩ := r_room (L := L) (xs := xs) (d := d + 9) gR' ht (hN.fr e83')
      rw [e83'] at c2
      rcases c2 with ⟨R', p, E⟩ | ⟨p, E⟩
      · have e := lstR_uniq hl p
        subst e
        exact ⟨nI R, g', z, v_X10_room (d := d + 19) (s_X10_room_0_2 (d := d + 12) hR ht q1 V (by rw [a3]; exact n1_ne (by omega)) V1), v_X11_room (d := d + 19) (s_X11_room_0_1 (d := d + 12) gR' ht (cw _ e83') E), hr'.srF c1⟩
      · exact absurd a1 (p m)
    · obtain ⟨z, c1, c2⟩ := r_room (L := L) (xs := xs) (d := d + 9) gR ht (hN.fr e83)
      rw [e83] at c2
      rcases c2 with ⟨R', p, E⟩ | ⟨p, E⟩
      · exact absurd (fun m hm => absurd (okR_mono p.2.1 hm) (a2 m)) p.2.2.1
      · exact ⟨-1, g, z, v_X10_room (d := d + 19) (s_X10_room_0_1 (d := d + 12) hR ht q1 V a1), v_X11_room (d := d + 19) (s_X11_room_0_1 (d := d + 12) gR ht (cw _ e83) E), hrg.srF c1⟩
theorem op_best : xm_opi (xm_X0 L xs) (d + 20) (Rel SIs) 106 278 [] := by
  intro h hr
  obtain ⟨t, ht, hR, hw, hli, hwk⟩ := hr.opn
  rcases wish_of hw hli with ⟨q1, q2⟩ | ⟨q1, q2, hn, hW⟩
  · exact ⟨-2, h, h, v_X10_best (d := d + 19) (s_X10_best_0_0 (d := d + 12) hR ht q1), v_X11_best (d := d + 19) (s_X11_best_0_0 (d := d + 12) hR ht q2), hr⟩
  · obtain ⟨cn, s, rm, ar, hN, e3, hrm, er, e4, -⟩ := now_of hw hli hwk hn
    have cw : ∀ g : xm_H, g.1 83 = h.1 83 → ¬ F_X11_canWish g t = 0 := fun g e83 => by
      unfold F_X11_canWish F_X11_isLinen F_X11_isWished at q2 ⊢
      rw [e83]
      exact q2
    obtain ⟨g, r, V, g2, gq, hrg, hnr⟩ := v_fewIn (L := L) (xs := xs) (d := d + 7) (R := 60) hr hR ht hN e3 (Nat.le_refl _) hW
    have gR : g.2.2 = xm_R0 t := by rw [g2]; exact hR
    have e83 : g.1 83 = h.1 83 := gq 83 (by omega)
    rcases okR_of hnr with ⟨m, a1, a2, a3, a4⟩ | ⟨a1, a2⟩
    · obtain ⟨g', R, V1, hl, b2, bq, hr'⟩ := v_leastR (L := L) (xs := xs) (d := d + 6) (M := m) (W := wsh (h.1 83)) hrg gR ht (hN.fr e83) (by rw [gq 3 (by omega)]; exact e3) (by omega) (fun s hs => by rw [met_fr (gq (t + 1) (by omega))]; exact hW s hs) (fun q => by
        have := q m a1
        omega)
      rw [← a3] at V1
      have gR' : g'.2.2 = xm_R0 t := by rw [b2]; exact gR
      have e83' : g'.1 83 = h.1 83 := (bq 83 (by omega)).trans e83
      obtain ⟨z, c1, c2⟩ := r_best (L := L) (xs := xs) (d := d + 9) gR' ht (hN.fr e83')
      rw [e83'] at c2
      rcases c2 with ⟨R', lm, p1, p2, p3, p4, p5, E⟩ | ⟨p, E⟩
      · have elm : lm = m := by
          have x1 := p4 m a1
          have x2 := a4 lm (okR_mono p2 p3)
          omega
        have e := lstR_uniq hl ⟨p1, p2, fun q => by
          have := q lm p3
          omega, fun R'' h1 h2 m' hm' => by
          have := p5 R'' h1 h2 m' hm'
          omega⟩
        subst e
        exact ⟨nI R, g', z, v_X10_best (d := d + 19) (s_X10_best_0_2 (d := d + 12) hR ht q1 V (by rw [a3]; exact n1_ne (by omega)) V1), v_X11_best (d := d + 19) (s_X11_best_0_1 (d := d + 12) gR' ht (cw _ e83') E), hr'.srF c1⟩
      · exact absurd a1 (p m)
    · obtain ⟨z, c1, c2⟩ := r_best (L := L) (xs := xs) (d := d + 9) gR ht (hN.fr e83)
      rw [e83] at c2
      rcases c2 with ⟨R', lm, p1, p2, p3, p4, p5, E⟩ | ⟨p, E⟩
      · exact absurd (okR_mono p2 p3) (a2 lm)
      · exact ⟨-1, g, z, v_X10_best (d := d + 19) (s_X10_best_0_1 (d := d + 12) hR ht q1 V a1), v_X11_best (d := d + 19) (s_X11_best_0_1 (d := d + 12) gR ht (cw _ e83) E), hrg.srF c1⟩
end OPS
