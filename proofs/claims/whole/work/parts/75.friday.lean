/-! friday, given, helps. -/
section OPS
variable {L : Nat} {xs : Nat → Int32} {d : Nat} {SI : (Nat → Nat → Int32) → (Nat → Nat → Int64) → Prop}
/-- from what least it begins doesn't matter -/
theorem alS_eq {T : Nat → Nat → Nat} {w : Nat → Nat} {n K M M' : Nat} {b b' : Nat → Nat} (hn : 0 < n) (h : mxN T w (fun _ => 0) K n < M) (h' : mxN T w (fun _ => 0) K n < M') : alS T w n K K (fun _ => 0) (M, b) = alS T w n K K (fun _ => 0) (M', b') := by
  have e : ∀ M b, mxN T w (fun _ => 0) K n < M → alS T w n K K (fun _ => 0) (M, b) = alS T w n K K (fun _ => 0) (mxN T w (fun _ => 0) K n, fun _ => 0) := by
    intro M b hM
    rw [alS_first hn K (fun _ => 0) (M, b) (Nat.le_refl _) (fun _ _ => rfl)]
    unfold upS
    rw [if_pos hM]
  rw [e M b h, e M' b' h']
theorem lpF_inv {α : Type} {f : Nat → α → α} {P : α → Prop} (hf : ∀ p x, P x → P (f p x)) : ∀ k p x, P x → P (lpF f k p x)
  | 0, _, _, h => h
  | k + 1, p, x, h => lpF_inv hf k (p + 1) _ (hf p x h)
theorem alS_le {T : Nat → Nat → Nat} {w : Nat → Nat} {n K B : Nat} : ∀ d g x, x.1 ≤ B → (alS T w n K d g x).1 ≤ B
  | 0, g, x, h => by
    show (upS T w n K x g).1 ≤ B
    unfold upS
    split
    · rename_i q
      show mxN T w g K n ≤ B
      omega
    · exact h
  | d + 1, g, x, h => lpF_inv (P := fun y => y.1 ≤ B) (fun p y hy => alS_le d _ y hy) n 0 x h
/-- both, one behind the other: as many seconds, the same pairs -/
theorem op_least {h : xm_H} {t c K : Nat} {w : Nat → Nat} {ano : Int32} (hr : Rel SI h) (ht : t = 5 ∨ t = 13) (hR : h.2.2 = xm_R0 t) (hw : rl_wf (h.1 83)) (hli : rl_lin (h.1 t) (h.1 (t + 1)) (h.1 (t + 2)) (h.1 (t + 3)) (h.1 (t + 4)) (h.1 (t + 5)) (h.1 (t + 6)) (h.1 (t + 7)) (h.1 83)) (hK : K ≤ 6) (e11 : h.1 t 11 = nI K) (e21 : h.1 83 21 = nI K) (hwk : ∀ k, w k ≤ 60) (ew : ∀ k, k < K → h.1 (t + 7) k = nI (w k) ∧ h.1 83 (44 + k) = nI (w k)) (hc : c ≤ 4) (e10 : h.1 t 10 = nI c) (e20 : h.1 83 20 = nI c) (hcs : ∀ j, j < c → h.1 (t + 5) j = h.1 83 (36 + 2 * j) ∧ h.1 (t + 6) j = h.1 83 (37 + 2 * j) ∧ ∃ a b, a ≤ 99 ∧ b ≤ 999 ∧ h.1 83 (36 + 2 * j) = nI a ∧ h.1 83 (37 + 2 * j) = nI b) (hano : ano = -1 ∨ ∃ q, q < c ∧ ano = nI q) : ∃ (r : Int32) (g : xm_H), xm_V (xm_X0 L xs) xm_P (d + 20) 160 [.ref 74, .ref t, .int ano] h (some (.int r)) g ∧ g.2 = h.2 ∧ (∀ q, (q < 74 ∨ 78 < q) → g.1 q = h.1 q) ∧ (∀ y : xm_H, y.2 = h.2 → y.1 83 = h.1 83 → ∃ z, xm_V (xm_X0 L xs) xm_P (d + 20) 317 [.ref 82, .int ano] y (some (.int r)) z ∧ z.2 = h.2 ∧ (∀ q, q ≠ 97 → q ≠ 98 → z.1 q = y.1 q) ∧ (¬ r = -1 → ∀ j, j < K → g.1 78 j = z.1 98 j)) := by
  by_cases hK0 : K = 0
  · subst hK0
    refine ⟨0, h, v_X4_leastSeconds (d := d + 19) (s_X4_leastSeconds_0_0 (d := d + 12) ht e11), rfl, fun _ _ => rfl, fun y y2 y83 => ?_⟩
    have yR : y.2.2 = xm_R0 t := by rw [y2]; exact hR
    let as : Nat → Nat := fun p => if p < c then (h.1 83 (36 + 2 * p)).toNatClampNeg else (h.1 83 (36 + 2 * ano.toNatClampNeg)).toNatClampNeg
    let bs : Nat → Nat := fun p => if p < c then (h.1 83 (37 + 2 * p)).toNatClampNeg else (h.1 83 (37 + 2 * ano.toNatClampNeg)).toNatClampNeg
    have hp : ∀ p, p < c → as p ≤ 99 ∧ bs p ≤ 999 ∧ h.1 83 (36 + 2 * p) = nI (as p) ∧ h.1 83 (37 + 2 * p) = nI (bs p) := fun p hpc => by
      obtain ⟨-, -, a, b, ha, hb, ea, eb⟩ := hcs p hpc
      have e1 : as p = a := by show (if p < c then _ else _) = a; rw [if_pos hpc, ea, nI_clamp (by omega)]
      have e2 : bs p = b := by show (if p < c then _ else _) = b; rw [if_pos hpc, eb, nI_clamp (by omega)]
      rw [e1, e2]
      exact ⟨ha, hb, ea, eb⟩
    have zero : ∀ n, (alS (fun p => lsN (as p) (bs p)) w n 0 0 (fun _ => 0) (1000000000, fun _ => 0)).1 = 0 := by
      intro n
      show (upS (fun p => lsN (as p) (bs p)) w n 0 (1000000000, fun _ => 0) (fun _ => 0)).1 = 0
      have m0 : mxN (fun p => lsN (as p) (bs p)) w (fun _ => 0) 0 n = 0 := Nat.le_antisymm (mxN_le (fun p _ => Nat.le_refl _)) (Nat.zero_le _)
      unfold upS
      rw [m0, if_pos (by show 0 < 1000000000; omega)]
    rcases hano with rfl | ⟨q, hq, rfl⟩
    · obtain ⟨z, V, z2, zq, -⟩ := v_fridayM (L := L) (xs := xs) (d := d + 7) (h := y) (t := t) (c := c) (K := 0) (n := c) (w := w) (as := as) (bs := bs) (ano := -1) yR ht hc (by omega) (by rw [y83]; exact e20) (by rw [y83]; exact e21) hwk (fun k hk => absurd hk (by omega)) (fun p hp' => ⟨(hp p hp').1, (hp p hp').2.1⟩) (fun p hp' => by rw [y83]; exact ⟨(hp p hp').2.2.1, (hp p hp').2.2.2⟩) (Or.inl ⟨rfl, rfl⟩) (Or.inr rfl)
      rw [zero c] at V
      exact ⟨z, V, z2.trans y2, zq, fun _ j hj => absurd hj (by omega)⟩
    · have eq1 : as c = as q := by
        show (if c < c then _ else _) = (if q < c then _ else _)
        rw [if_neg (Nat.lt_irrefl _), if_pos hq, nI_clamp (by omega)]
      have eq2 : bs c = bs q := by
        show (if c < c then _ else _) = (if q < c then _ else _)
        rw [if_neg (Nat.lt_irrefl _), if_pos hq, nI_clamp (by omega)]
      obtain ⟨z, V, z2, zq, -⟩ := v_fridayM (L := L) (xs := xs) (d := d + 7) (h := y) (t := t) (c := c) (K := 0) (n := c + 1) (w := w) (as := as) (bs := bs) (ano := nI q) yR ht hc (by omega) (by rw [y83]; exact e20) (by rw [y83]; exact e21) hwk (fun k hk => absurd hk (by omega)) (fun p hp' => by
        by_cases e : p < c
        · exact ⟨(hp p e).1, (hp p e).2.1⟩
        · rw [show p = c by omega, eq1, eq2]
          exact ⟨(hp q hq).1, (hp q hq).2.1⟩) (fun p hp' => by rw [y83]; exact ⟨(hp p hp').2.2.1, (hp p hp').2.2.2⟩) (Or.inr ⟨q, hq, rfl, rfl, eq1, eq2⟩) (Or.inr rfl)
      rw [zero (c + 1)] at V
      exact ⟨z, V, z2.trans y2, zq, fun _ j hj => absurd hj (by omega)⟩
  · by_cases hc0 : c = 0
    · subst hc0
      rcases hano with rfl | ⟨q, hq, -⟩
      · refine ⟨-1, h, v_X4_leastSeconds (d := d + 19) (s_X4_leastSeconds_0_1 (d := d + 12) ht (by rw [e11]; exact nI_ne0 (by omega) (by omega)) e10), rfl, fun _ _ => rfl, fun y y2 y83 => ?_⟩
        have yR : y.2.2 = xm_R0 t := by rw [y2]; exact hR
        exact ⟨y, v_X11_fridayWith (d := d + 19) (s_X11_fridayWith_0_1 (d := d + 12) yR ht rfl (by rw [y83, e21]; exact nI_nle (by omega) (by omega)) (by rw [y83, e20]; rfl)), y2, fun _ _ _ => rfl, fun hz => absurd rfl hz⟩
      · exact absurd hq (by omega)
    · let as : Nat → Nat := fun p => if p < c then (h.1 83 (36 + 2 * p)).toNatClampNeg else (h.1 83 (36 + 2 * ano.toNatClampNeg)).toNatClampNeg
      let bs : Nat → Nat := fun p => if p < c then (h.1 83 (37 + 2 * p)).toNatClampNeg else (h.1 83 (37 + 2 * ano.toNatClampNeg)).toNatClampNeg
      have hp : ∀ p, p < c → as p ≤ 99 ∧ bs p ≤ 999 ∧ h.1 83 (36 + 2 * p) = nI (as p) ∧ h.1 83 (37 + 2 * p) = nI (bs p) := fun p hpc => by
        obtain ⟨-, -, a, b, ha, hb, ea, eb⟩ := hcs p hpc
        have e1 : as p = a := by show (if p < c then _ else _) = a; rw [if_pos hpc, ea, nI_clamp (by omega)]
        have e2 : bs p = b := by show (if p < c then _ else _) = b; rw [if_pos hpc, eb, nI_clamp (by omega)]
        rw [e1, e2]
        exact ⟨ha, hb, ea, eb⟩
      have hx : ∃ n, c ≤ n ∧ (∀ p, p < n → as p ≤ 99 ∧ bs p ≤ 999) ∧ ((ano = -1 ∧ n = c) ∨ (∃ q, q < c ∧ ano = nI q ∧ n = c + 1 ∧ as c = as q ∧ bs c = bs q)) := by
        rcases hano with rfl | ⟨q, hq, rfl⟩
        · exact ⟨c, Nat.le_refl _, fun p hp' => ⟨(hp p hp').1, (hp p hp').2.1⟩, Or.inl ⟨rfl, rfl⟩⟩
        · have eq1 : as c = as q := by
            show (if c < c then _ else _) = (if q < c then _ else _)
            rw [if_neg (Nat.lt_irrefl _), if_pos hq, nI_clamp (by omega)]
          have eq2 : bs c = bs q := by
            show (if c < c then _ else _) = (if q < c then _ else _)
            rw [if_neg (Nat.lt_irrefl _), if_pos hq, nI_clamp (by omega)]
          refine ⟨c + 1, by omega, fun p hp' => ?_, Or.inr ⟨q, hq, rfl, rfl, eq1, eq2⟩⟩
          by_cases e : p < c
          · exact ⟨(hp p e).1, (hp p e).2.1⟩
          · rw [show p = c by omega, eq1, eq2]
            exact ⟨(hp q hq).1, (hp q hq).2.1⟩
      obtain ⟨n, hcn, hab, hano'⟩ := hx
      obtain ⟨g, VX, g2, gq, gb⟩ := v_leastX (L := L) (xs := xs) (d := d) (h := h) (t := t) (c := c) (K := K) (n := n) (w := w) (as := as) (bs := bs) (ano := ano) hR ht (by omega) hc (by omega) hK e10 e11 hwk (fun k hk => (ew k hk).1) hab (fun p hp' => by rw [(hcs p hp').1, (hcs p hp').2.1]; exact ⟨(hp p hp').2.2.1, (hp p hp').2.2.2⟩) hano'
      have hmx : mxN (fun p => lsN (as p) (bs p)) w (fun _ => 0) K n ≤ 999999 := mxN_le (fun p hpn => by
        have h1 := ldN_le (g := fun _ => 0) (p := p) hwk K
        have h2 := (lsN_lsm (hab p hpn).1 (hab p hpn).2 (ldN w (fun _ => 0) p K) (by omega)).2
        show lsN (as p) (bs p) (ldN w (fun _ => 0) p K) ≤ 999999
        omega)
      have ee := alS_eq (T := fun p => lsN (as p) (bs p)) (w := w) (n := n) (K := K) (M := 2147483647) (M' := 1000000000) (b := fun _ => 0) (b' := fun _ => 0) (Nat.lt_of_lt_of_le (Nat.pos_of_ne_zero hc0) hcn) (Nat.lt_of_le_of_lt hmx (by decide)) (Nat.lt_of_le_of_lt hmx (by decide))
      have el := alS_eq (T := fun p => lsN (as p) (bs p)) (w := w) (n := n) (K := K) (M := 1000000000) (M' := 1000000) (b := fun _ => 0) (b' := fun _ => 0) (Nat.lt_of_lt_of_le (Nat.pos_of_ne_zero hc0) hcn) (Nat.lt_of_le_of_lt hmx (by decide)) (Nat.lt_of_le_of_lt hmx (by decide))
      have hle := alS_le (T := fun p => lsN (as p) (bs p)) (w := w) (n := n) (K := K) (B := 1000000) K (fun _ => 0) (1000000, fun _ => 0) (Nat.le_refl _)
      rw [← el] at hle
      rw [ee] at VX gb
      refine ⟨_, g, VX, g2, gq, fun y y2 y83 => ?_⟩
      have yR : y.2.2 = xm_R0 t := by rw [y2]; exact hR
      obtain ⟨z, VM, z2, zq, zb⟩ := v_fridayM (L := L) (xs := xs) (d := d + 7) (h := y) (t := t) (c := c) (K := K) (n := n) (w := w) (as := as) (bs := bs) (ano := ano) yR ht hc hK (by rw [y83]; exact e20) (by rw [y83]; exact e21) hwk (fun k hk => by rw [y83]; exact (ew k hk).2) hab (fun p hp' => by rw [y83]; exact ⟨(hp p hp').2.2.1, (hp p hp').2.2.2⟩) hano' (Or.inl (by omega))
      refine ⟨z, VM, z2.trans y2, zq, fun _ j hj => ?_⟩
      rcases gb with gb | gb
      · exact absurd gb (by omega)
      · rcases zb with zb | zb
        · exact absurd zb (by omega)
        · rw [gb j hj, zb j hj]
theorem Rel.fri {h y : xm_H} (hr : Rel SI h) (y2 : y.2 = h.2) (yq : ∀ q, (q < 74 ∨ 78 < q) → q ≠ 97 → q ≠ 98 → y.1 q = h.1 q) : Rel SI y :=
  hr.frame (by rw [y2]) (fun q hq => yq q (by unfold rl_cell at hq; omega) (by unfold rl_cell at hq; omega) (by unfold rl_cell at hq; omega)) (fun q _ => by rw [y2]) (fun j _ => by rw [yq 1 (by decide) (by decide) (by decide)]) (fun j _ => by rw [yq 82 (by decide) (by decide) (by decide)])
theorem op_friday : xm_opi (xm_X0 L xs) (d + 21) (Rel SI) 159 316 [] := by
  intro h hr
  obtain ⟨t, ht, hR, hw, hli, hwk⟩ := hr.opn
  have n0 : ¬ (1 : Int32) = 0 := by decide
  by_cases hn : h.1 83 22 = 0
  · have q := ln_0 (t := t) hli.1 hn
    exact ⟨-2, h, h, v_X10_friday (d := d + 20) (s_X10_friday_0_1 (d := d + 13) hR ht (by rw [q.1]; exact n0)), v_X11_friday (d := d + 20) (s_X11_friday_0_0 (d := d + 13) hR ht q.2), hr⟩
  · have q := ln_1 (t := t) hli.1 hw.1 hn
    obtain ⟨K, w, hK, e11, e21, -, hw60, ew⟩ := piles_of hw hli
    obtain ⟨c, hc, e10, e20, -, hcs⟩ := pairs_of hw hli
    obtain ⟨r, g, VX, g2, gq, hy⟩ := op_least (L := L) (xs := xs) (d := d) (ano := -1) hr ht hR hw hli hK e11 e21 hw60 ew hc e10 e20 hcs (Or.inl rfl)
    obtain ⟨z, VM, z2, zq, -⟩ := hy g g2 (gq 83 (by omega))
    have gR : g.2.2 = xm_R0 t := by rw [g2]; exact hR
    have ql : ¬ F_X11_isLinen g t = 0 := by
      have := q.2
      unfold F_X11_isLinen at this ⊢
      rw [gq 83 (by omega), this]
      exact n0
    exact ⟨r, g, z, v_X10_friday (d := d + 20) (s_X10_friday_0_0 (d := d + 13) hR ht q.1 VX), v_X11_friday (d := d + 20) (s_X11_friday_0_1 (d := d + 13) gR ht ql VM), hr.fri z2 (fun q' q1 q2 q3 => by rw [zq q' q2 q3, gq q' q1])⟩
theorem op_given (a : Int32) : xm_opi (xm_X0 L xs) (d + 21) (Rel SI) 164 319 [.int a] := by
  intro h hr
  obtain ⟨t, ht, hR, hw, hli, hwk⟩ := hr.opn
  have n0 : ¬ (1 : Int32) = 0 := by decide
  obtain ⟨K, w, hK, e11, e21, -, hw60, ew⟩ := piles_of hw hli
  obtain ⟨c, hc, e10, e20, -, hcs⟩ := pairs_of hw hli
  by_cases hj : ∃ j, j < K ∧ a = nI j
  · obtain ⟨j, hj, rfl⟩ := hj
    obtain ⟨r, g, VX, g2, gq, hy⟩ := op_least (L := L) (xs := xs) (d := d) (ano := -1) hr ht hR hw hli hK e11 e21 hw60 ew hc e10 e20 hcs (Or.inl rfl)
    obtain ⟨z, VM, z2, zq, zb⟩ := hy g g2 (gq 83 (by omega))
    have gR : g.2.2 = xm_R0 t := by rw [g2]; exact hR
    have zR : z.2.2 = xm_R0 t := by rw [z2]; exact hR
    have hrz := hr.fri z2 (fun q' q1 q2 q3 => by rw [zq q' q2 q3, gq q' q1])
    have c1 : nI j < h.1 t 11 := by rw [e11]; exact nI_lt hj (by omega)
    have c2 : ¬ F_X11_in (nI j).toInt64 (0 : Int64) (((g.1 83 21) - (1 : Int32)).toInt64) = 0 := by
      rw [gq 83 (by omega), e21, cnt_y hj (by omega)]
      exact n0
    by_cases hr1 : r = -1
    · exact ⟨-1, g, z, v_X10_given (d := d + 20) (s_X10_given_0_1 (d := d + 13) hR ht (nI_pos (by omega)) c1 VX hr1), v_X11_given (d := d + 20) (s_X11_given_0_1 (d := d + 13) gR ht c2 VM hr1), hrz⟩
    · have W1 := v_X10_given (d := d + 20) (s_X10_given_0_2 (L := L) (xs := xs) (d := d + 13) hR ht (nI_pos (by omega)) c1 VX hr1 gR)
      have W2 := v_X11_given (d := d + 20) (s_X11_given_0_2 (L := L) (xs := xs) (d := d + 13) gR ht c2 VM hr1 zR (nI_in (by omega) (by omega)))
      have e : F_X4_pairOf g t (nI j) = z.1 98 (nI j).toNatClampNeg := by
        unfold F_X4_pairOf
        rw [if_neg (nI_pos (by omega)), if_neg (show ¬ (6 : Int32) ≤ nI j from nI_ge (b := 6) (by omega) (by omega)), nI_clamp (by omega)]
        exact zb hr1 j hj
      rw [e] at W1
      exact ⟨_, _, _, W1, W2, hrz⟩
  · have V2 := v_X11_given (d := d + 20) (s_X11_given_0_0 (L := L) (xs := xs) (d := d + 13) (h := h) (t := t) (l1 := a) hR ht (by rw [e21]; exact cnt_n (by omega) hj))
    by_cases h0 : a < 0
    · exact ⟨_, _, _, v_X10_given (d := d + 20) (s_X10_given_0_0 (d := d + 13) h0), V2, hr⟩
    · refine ⟨_, _, _, v_X10_given (d := d + 20) (s_X10_given_0_3 (d := d + 13) hR ht h0 ?_), V2, hr⟩
      obtain ⟨j, hj2, rfl⟩ := nI_of h0
      rw [e11]
      apply nI_nlt _ hj2
      by_cases z : K ≤ j
      · exact z
      · exact absurd ⟨j, by omega, rfl⟩ hj
theorem op_helps (a : Int32) : xm_opi (xm_X0 L xs) (d + 21) (Rel SI) 166 320 [.int a] := by
  intro h hr
  obtain ⟨t, ht, hR, hw, hli, hwk⟩ := hr.opn
  have n0 : ¬ (1 : Int32) = 0 := by decide
  obtain ⟨K, w, hK, e11, e21, -, hw60, ew⟩ := piles_of hw hli
  obtain ⟨c, hc, e10, e20, -, hcs⟩ := pairs_of hw hli
  have hi := isPair_x (h := h) (t := t) (a := a) hc e10 e20
  by_cases hb : ∃ j, j < c ∧ a = nI j
  · have m := hi.1 hb
    obtain ⟨r, g, VX, g2, gq, hy⟩ := op_least (L := L) (xs := xs) (d := d) (ano := -1) hr ht hR hw hli hK e11 e21 hw60 ew hc e10 e20 hcs (Or.inl rfl)
    have gR : g.2.2 = xm_R0 t := by rw [g2]; exact hR
    have hrg := hr.fri g2 (fun q' q1 q2 q3 => gq q' q1)
    have g83 : g.1 83 = h.1 83 := gq 83 (by omega)
    have gl : rl_lin (g.1 t) (g.1 (t + 1)) (g.1 (t + 2)) (g.1 (t + 3)) (g.1 (t + 4)) (g.1 (t + 5)) (g.1 (t + 6)) (g.1 (t + 7)) (g.1 83) := by
      rw [g83, gq t (by omega), gq (t + 1) (by omega), gq (t + 2) (by omega), gq (t + 3) (by omega), gq (t + 4) (by omega), gq (t + 5) (by omega), gq (t + 6) (by omega), gq (t + 7) (by omega)]
      exact hli
    obtain ⟨r2, g', VX2, g2', gq', hy'⟩ := op_least (L := L) (xs := xs) (d := d) (h := g) (t := t) (c := c) (K := K) (w := w) (ano := a) hrg ht gR (by rw [g83]; exact hw) gl hK (by rw [gq t (by omega)]; exact e11) (by rw [g83]; exact e21) hw60 (fun k hk => by rw [gq (t + 7) (by omega), g83]; exact ew k hk) hc (by rw [gq t (by omega)]; exact e10) (by rw [g83]; exact e20) (fun j hj => by rw [gq (t + 5) (by omega), gq (t + 6) (by omega), g83]; exact hcs j hj) (Or.inr hb)
    have g'83 : g'.1 83 = h.1 83 := by rw [gq' 83 (by omega), g83]
    have g'R : g'.2.2 = xm_R0 t := by rw [g2']; exact gR
    obtain ⟨z, VM, z2, zq, -⟩ := hy g' (g2'.trans g2) g'83
    obtain ⟨z', VM', z2', zq', -⟩ := hy' z (by rw [z2, g2]) (by rw [zq 83 (by decide) (by decide), g'83, g83])
    have ql : ¬ F_X11_isPair g' t a = 0 := by
      have := m.2
      unfold F_X11_isPair at this ⊢
      rw [g'83, this]
      exact n0
    refine ⟨_, _, _, v_X10_helps (d := d + 20) (s_X10_helps_0_1 (d := d + 13) hR ht (by rw [m.1]; exact n0) VX gR VX2), v_X11_helps (d := d + 20) (s_X11_helps_0_1 (d := d + 13) g'R ht ql VM VM'), hr.fri (by rw [z2', g2]) (fun q' q1 q2 q3 => by rw [zq' q' q2 q3, zq q' q2 q3, gq' q' q1, gq q' q1])⟩
  · have m := hi.2 hb
    exact ⟨_, _, _, v_X10_helps (d := d + 20) (s_X10_helps_0_0 (d := d + 13) hR ht m.1), v_X11_helps (d := d + 20) (s_X11_helps_0_0 (d := d + 13) hR ht m.2), hr⟩
end OPS
