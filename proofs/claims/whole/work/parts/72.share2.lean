/-! Who folds which pile: the class. -/
section OPS
variable {L : Nat} {xs : Nat → Int32} {d : Nat} {SI : (Nat → Nat → Int32) → (Nat → Nat → Int64) → Prop}
/-- what holds while the class shares: k piles are given, as g says -/
def shI (h : xm_H) (T : Nat → Nat → Nat) (w : Nat → Nat) (n K : Nat) (z : xm_H) (g : Nat → Nat) (k : Nat) (x : Nat × (Nat → Nat)) : Prop :=
  z.2 = h.2 ∧ (∀ q, q ≠ 74 → q ≠ 76 → q ≠ 77 → q ≠ 78 → z.1 q = h.1 q) ∧ z.1 74 4 = nI n ∧ z.1 74 5 = nI x.1 ∧ x.1 ≤ 2147483647 ∧ (∀ p, p < n → z.1 76 p = nI (ldN w g p k)) ∧ (∀ j, j < k → z.1 77 j = nI (g j)) ∧ (x.1 = 2147483647 ∨ ∀ j, j < K → z.1 78 j = nI (x.2 j))
theorem v_share {h : xm_H} {t n K : Nat} {T : Nat → Nat → Nat} {w : Nat → Nat} (hR : h.2.2 = xm_R0 t) (ht : t = 5 ∨ t = 13) (hK : K ≤ 6) (hn : n ≤ 5) (e11 : h.1 t 11 = nI K) (hw : ∀ k, w k ≤ 60) (ew : ∀ k, k < K → h.1 (t + 7) k = nI (w k)) (hT : ∀ p i j, i ≤ j → T p i ≤ T p j) (hTb : ∀ p i, p < n → i ≤ 360 → T p i < 1000000) (eT : ∀ p i, p < n → i ≤ 360 → h.1 75 (p * 361 + i) = nI (T p i)) : ∀ dd k g x z, k + dd = K → shI h T w n K z g k x → mxN T w g k n < x.1 → ∃ z', xm_V (xm_X0 L xs) xm_P (d + dd + 8) 162 [.ref 74, .ref t, .int (nI k), .int (nI (mxN T w g k n))] z none z' ∧ shI h T w n K z' g k (shS T w n K dd g x) := by
  have mxb : ∀ g k, k ≤ K → mxN T w g k n < 1000000 := fun g k hk => by
    have : mxN T w g k n ≤ 999999 := mxN_le (fun p hp => by
      have h1 := ldN_le (g := g) (p := p) hw k
      have := hTb p (ldN w g p k) hp (by omega)
      omega)
    omega
  intro dd
  induction dd with
  | zero =>
    intro k g x z hk hI hlt
    have hkK : k = K := by omega
    subst hkK
    obtain ⟨a1, a2, a3, a4, a5, a6, a7, a8⟩ := hI
    have zR : z.2.2 = xm_R0 t := by rw [a1]; exact hR
    have hmb := mxb g k (Nat.le_refl _)
    have e60 : ((6 : Int32).toNatClampNeg) = 6 := by decide
    have e0 : ((0 : Int32).toNatClampNeg) = 0 := by decide
    have V := v_X4_share (d := d + 7) (s_X4_share_0_0 (L := L) (xs := xs) (d := d) (h := z) (t := t) (l2 := nI k) (l3 := nI (mxN T w g k n)) zR ht (by rw [a2 t (by omega) (by omega) (by omega) (by omega), e11]; exact nI_le (Nat.le_refl _) (by omega)) (by rw [e60, e0]; decide))
    rw [e60, e0] at V
    refine ⟨_, V, ?_, fun q q1 q2 q3 q4 => ?_, ?_, ?_, ?_, fun p hp => ?_, fun j hj => ?_, Or.inr (fun j hj => ?_)⟩
    · exact a1
    · rw [ci_n q4, xm_rn q1]
      exact a2 q q1 q2 q3 q4
    · rw [ci_n (by decide), xm_rk (by decide)]
      exact a3
    · rw [ci_n (by decide), xm_ra]
      rfl
    · show mxN T w g k n ≤ 2147483647
      omega
    · rw [ci_n (by decide), xm_rn (by decide)]
      exact a6 p hp
    · rw [ci_n (by decide), xm_rn (by decide)]
      exact a7 j hj
    · rw [ci_q (by omega), xm_rn (by decide)]
      exact a7 j hj
  | succ dd ih =>
    intro k g x z hk hI hlt
    have hkK : k < K := by omega
    have hmb := mxb g k (by omega)
    have loop : ∀ m p y (z : xm_H) (o5 : Option Value), m + p = n → shI h T w n K z g k y → ∃ z', xm_E (xm_X0 L xs) xm_P (d + dd + 1 + 7) co_X4_share 21 [some (.ref 74), some (.ref t), some (.int (nI k)), some (.int (nI (mxN T w g k n))), some (.int (nI p)), o5] [] z none z' ∧ shI h T w n K z' g k (lpF (fun p y => if mxN T w (sg g (K - (dd + 1)) p) (K - dd) n < y.1 then shS T w n K dd (sg g (K - (dd + 1)) p) y else y) m p y) := by
      intro m
      induction m with
      | zero =>
        intro p y z o5 hm hI
        have hpn : p = n := by omega
        subst hpn
        exact ⟨z, s_X4_share_21_0 (d := d + dd + 1) ht (by rw [hI.2.2.1]; exact nI_le (Nat.le_refl _) (by omega)), hI⟩
      | succ m ihm =>
        intro p y z o5 hm hI
        have hI0 := hI
        obtain ⟨a1, a2, a3, a4, a5, a6, a7, a8⟩ := hI
        have zR : z.2.2 = xm_R0 t := by rw [a1]; exact hR
        have hp : p < n := by omega
        have hld := ldN_le (g := g) (p := p) hw k
        have hwk := hw k
        have ek : K - (dd + 1) = k := by omega
        have ek1 : K - dd = k + 1 := by omega
        have cp : (nI p).toNatClampNeg = p := nI_clamp (by omega)
        have ck : (nI k).toNatClampNeg = k := nI_clamp (by omega)
        have zw : z.1 (t + 7) k = nI (w k) := by rw [a2 (t + 7) (by omega) (by omega) (by omega) (by omega)]; exact ew k hkK
        have eld : z.1 76 p + z.1 (t + 7) k = nI (ldN w g p k + w k) := by rw [a6 p hp, zw, nI_add]
        have hTp := hTb p (ldN w g p k + w k) hp (by omega)
        have etm : F_X4_timeOf (xm_si z 76 p (nI (ldN w g p k + w k))) t (nI p) = nI (T p (ldN w g p k + w k)) := by
          unfold F_X4_timeOf
          rw [cp, xm_ra, if_neg (nI_pos (by omega)), if_neg (show ¬ (361 : Int32) ≤ nI (ldN w g p k + w k) from nI_ge (b := 361) (by omega) (by omega)), xm_rn (by decide), show (361 : Int32) = nI 361 from rfl, nm_mul, nI_add, nI_clamp (by omega), a2 75 (by decide) (by decide) (by decide) (by decide), eT p _ hp (by omega)]
        have emx : (if nI (mxN T w g k n) < nI (T p (ldN w g p k + w k)) then nI (T p (ldN w g p k + w k)) else nI (mxN T w g k n)) = nI (mxN T w (sg g k p) (k + 1) n) := by
          rw [mxN_step hT hp]
          by_cases hc : mxN T w g k n < T p (ldN w g p k + w k)
          · rw [if_pos (nI_lt hc (by omega)), Nat.max_eq_right (Nat.le_of_lt hc)]
          · rw [if_neg (nI_nlt (by omega) (by omega)), Nat.max_eq_left (by omega)]
        have hmb' := mxb (sg g k p) (k + 1) (by omega)
        have gd : (¬ (xm_si z 76 p (nI (ldN w g p k + w k))).1 76 p < (0 : Int32)) → (¬ ((361 : Int32) ≤ (xm_si z 76 p (nI (ldN w g p k + w k))).1 76 p)) → ¬ ((nI p * (361 : Int32)) + ((xm_si z 76 p (nI (ldN w g p k + w k))).1 76 p) < 0 ∨ 1805 ≤ ((nI p * (361 : Int32)) + ((xm_si z 76 p (nI (ldN w g p k + w k))).1 76 p)).toNatClampNeg) := fun _ _ => by
          rw [xm_ra, show (361 : Int32) = nI 361 from rfl, nm_mul, nI_add]
          exact nI_in (by omega) (by omega)
        have b0 : ¬ z.1 74 4 ≤ nI p := by rw [a3]; exact nI_ge hp (by omega)
        have b1 : ¬ (5 : Int32) ≤ nI p := nI_ge (b := 5) (by omega) (by omega)
        have b2 : ¬ (nI p < 0 ∨ 5 ≤ (nI p).toNatClampNeg) := nI_in (by omega) (by omega)
        have b3 : ¬ (nI k < 0 ∨ 6 ≤ (nI k).toNatClampNeg) := nI_in (by omega) (by omega)
        have e745 : (xm_si z 76 p (nI (ldN w g p k + w k))).1 74 5 = nI y.1 := by rw [xm_rn (by decide)]; exact a4
        have esub : nI (ldN w g p k + w k) - nI (w k) = nI (ldN w g p k) := by rw [nm_sub (by omega), Nat.add_sub_cancel]
        show ∃ z', _ ∧ shI h T w n K z' g k (lpF (fun p y => if mxN T w (sg g (K - (dd + 1)) p) (K - dd) n < y.1 then shS T w n K dd (sg g (K - (dd + 1)) p) y else y) m (p + 1) (if mxN T w (sg g (K - (dd + 1)) p) (K - dd) n < y.1 then shS T w n K dd (sg g (K - (dd + 1)) p) y else y))
        by_cases hc : mxN T w (sg g k p) (k + 1) n < y.1
        · have I2 : shI h T w n K (xm_si (xm_si z 76 p (nI (ldN w g p k + w k))) 77 k (nI p)) (sg g k p) (k + 1) y := by
            refine ⟨a1, fun q q1 q2 q3 q4 => by rw [xm_rn q3, xm_rn q2]; exact a2 q q1 q2 q3 q4, by rw [xm_rn (by decide), xm_rn (by decide)]; exact a3, by rw [xm_rn (by decide), xm_rn (by decide)]; exact a4, a5, fun r hr => ?_, fun j hj => ?_, ?_⟩
            · rw [xm_rn (by decide)]
              show _ = nI (ldN w (sg g k p) r k + (if sg g k p k = r then w k else 0))
              rw [ldN_sg k (Nat.le_refl _), sg_a]
              by_cases hrp : r = p
              · subst hrp
                rw [xm_ra, if_pos rfl]
              · rw [xm_rk hrp, if_neg (Ne.symm hrp)]
                exact a6 r hr
            · by_cases hjk : j = k
              · subst hjk
                rw [xm_ra, sg_a]
              · rw [xm_rk hjk, xm_rn (by decide), sg_n g hjk]
                exact a7 j (by omega)
            · rcases a8 with a8 | a8
              · exact Or.inl a8
              · exact Or.inr (fun j hj => by rw [xm_rn (by decide), xm_rn (by decide)]; exact a8 j hj)
          obtain ⟨z7, V7, J⟩ := ih (k + 1) (sg g k p) y _ (by omega) I2 hc
          have J0 := J
          obtain ⟨c1, c2, c3, c4, c5, c6, c7, c8⟩ := J
          have z7R : z7.2.2 = xm_R0 t := by rw [c1]; exact hR
          have e7p : z7.1 76 p = nI (ldN w g p k + w k) := by
            rw [c6 p hp]
            show nI (ldN w (sg g k p) p k + (if sg g k p k = p then w k else 0)) = _
            rw [ldN_sg k (Nat.le_refl _), sg_a, if_pos rfl]
          have e7w : z7.1 (t + 7) k = nI (w k) := by rw [c2 (t + 7) (by omega) (by omega) (by omega) (by omega)]; exact ew k hkK
          have I3 : shI h T w n K (xm_si z7 76 p (nI (ldN w g p k))) g k (shS T w n K dd (sg g k p) y) := by
            refine ⟨c1, fun q q1 q2 q3 q4 => by rw [xm_rn q2]; exact c2 q q1 q2 q3 q4, by rw [xm_rn (by decide)]; exact c3, by rw [xm_rn (by decide)]; exact c4, c5, fun r hr => ?_, fun j hj => ?_, ?_⟩
            · by_cases hrp : r = p
              · subst hrp
                exact xm_ra
              · rw [xm_rk hrp, c6 r hr]
                show nI (ldN w (sg g k p) r k + (if sg g k p k = r then w k else 0)) = _
                rw [ldN_sg k (Nat.le_refl _), sg_a, if_neg (Ne.symm hrp)]
                rfl
            · rw [xm_rn (by decide), c7 j (by omega), sg_n g (by omega)]
            · rcases c8 with c8 | c8
              · exact Or.inl c8
              · exact Or.inr (fun j hj => by rw [xm_rn (by decide)]; exact c8 j hj)
          rw [ek, ek1, if_pos hc]
          obtain ⟨z', E, J'⟩ := ihm (p + 1) _ _ (some (.int (nI (mxN T w (sg g k p) (k + 1) n)))) (by omega) I3
          rw [ek, ek1] at J'
          refine ⟨z', ?_, J'⟩
          refine s_X4_share_21_3 (d := d + dd + 1) (h7 := z7) zR ht b0 b1 b2 b3 (by rw [cp, ck, eld]; exact gd) ?_ ?_ z7R ?_
          · rw [cp, ck, eld, etm, emx, e745]
            exact nI_ge hc (by omega)
          · rw [cp, ck, eld, etm, emx, nI_1]
            exact V7
          · rw [cp, ck, eld, etm, emx, e7p, e7w, esub, nI_1]
            exact E
        · have I3 : shI h T w n K (xm_si (xm_si z 76 p (nI (ldN w g p k + w k))) 76 p (nI (ldN w g p k))) g k y := by
            refine ⟨a1, fun q q1 q2 q3 q4 => by rw [xm_rn q2, xm_rn q2]; exact a2 q q1 q2 q3 q4, by rw [xm_rn (by decide), xm_rn (by decide)]; exact a3, by rw [xm_rn (by decide), xm_rn (by decide)]; exact a4, a5, fun r hr => ?_, fun j hj => ?_, ?_⟩
            · by_cases hrp : r = p
              · subst hrp
                exact xm_ra
              · rw [xm_rk hrp, xm_rk hrp]
                exact a6 r hr
            · rw [xm_rn (by decide), xm_rn (by decide)]
              exact a7 j hj
            · rcases a8 with a8 | a8
              · exact Or.inl a8
              · exact Or.inr (fun j hj => by rw [xm_rn (by decide), xm_rn (by decide)]; exact a8 j hj)
          rw [ek, ek1, if_neg hc]
          obtain ⟨z', E, J'⟩ := ihm (p + 1) _ _ (some (.int (nI (mxN T w (sg g k p) (k + 1) n)))) (by omega) I3
          rw [ek, ek1] at J'
          refine ⟨z', ?_, J'⟩
          refine s_X4_share_21_2 (d := d + dd + 1) zR ht b0 b1 b2 b3 (by rw [cp, ck, eld]; exact gd) ?_ ?_
          · rw [cp, ck, eld, etm, emx, e745]
            exact nI_le (by omega) (by omega)
          · rw [cp, ck, eld, etm, emx, xm_ra, xm_rn (show t + 7 ≠ 76 by omega), zw, esub, nI_1]
            exact E
    obtain ⟨z', E, J⟩ := loop n 0 x z none (by omega) hI
    refine ⟨z', v_X4_share (d := d + dd + 1 + 7) (s_X4_share_0_1 (d := d + dd + 1) ht ?_ (nI_lt (b := 6) (by omega) (by omega)) E), J⟩
    rw [hI.2.1 t (by omega) (by omega) (by omega) (by omega), e11]
    exact nI_ge hkK (by omega)
end OPS
