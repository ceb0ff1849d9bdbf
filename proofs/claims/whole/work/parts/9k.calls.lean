/-! By calls: called, words. -/
def acs (h : xm_H) (t k : Nat) : Nat := (F_X11_meaning (F_X11_her h t (nI k)) (F_X11_his h t (nI k))).toNatClampNeg
def nxR (ac : Nat → Nat) (S rm k : Nat) (s : St) : Option St := if k = 6 then st_do rm 9 s else if k < 6 ∧ (S >>> k) % 2 = 1 then st_do rm (ac k) s else none
def alf (ac : Nat → Nat) (S : Nat) : Nat → Nat
  | 0 => 512
  | k + 1 => if (S >>> k) % 2 = 1 ∧ ac k < 10 then alf ac S k ||| (1 <<< ac k) else alf ac S k
theorem alf_lt {ac : Nat → Nat} {S : Nat} : ∀ c, alf ac S c < 2 ^ 10
  | 0 => by show 512 < 2 ^ 10; decide
  | k + 1 => by
    simp only [alf]
    split
    · rename_i q
      refine Nat.or_lt_two_pow (alf_lt k) ?_
      rw [Nat.one_shiftLeft]
      exact Nat.pow_lt_pow_right (by omega) q.2
    · exact alf_lt k
theorem alf_tb {ac : Nat → Nat} {S m : Nat} (hm : m < 10) : ∀ c, (alf ac S c).testBit m = true ↔ (m = 9 ∨ ∃ k, k < c ∧ (S >>> k) % 2 = 1 ∧ ac k = m)
  | 0 => by
    show Nat.testBit (2 ^ 9) m = true ↔ _
    rw [Nat.testBit_two_pow, decide_eq_true_eq]
    constructor
    · intro e
      exact Or.inl e.symm
    · intro e
      rcases e with e | ⟨k, hk, -⟩
      · exact e.symm
      · exact absurd hk (Nat.not_lt_zero _)
  | c + 1 => by
    have ih := alf_tb (ac := ac) (S := S) hm c
    simp only [alf]
    by_cases q : (S >>> c) % 2 = 1 ∧ ac c < 10
    · rw [if_pos q, Nat.testBit_or, Bool.or_eq_true, ih, Nat.one_shiftLeft, Nat.testBit_two_pow, decide_eq_true_eq]
      constructor
      · intro e
        rcases e with (e | ⟨k, k1, k2, k3⟩) | e
        · exact Or.inl e
        · exact Or.inr ⟨k, by omega, k2, k3⟩
        · exact Or.inr ⟨c, by omega, q.1, e⟩
      · intro e
        rcases e with e | ⟨k, k1, k2, k3⟩
        · exact Or.inl (Or.inl e)
        · by_cases kc : k = c
          · rw [kc] at k3
            exact Or.inr k3
          · exact Or.inl (Or.inr ⟨k, by omega, k2, k3⟩)
    · rw [if_neg q, ih]
      constructor
      · intro e
        rcases e with e | ⟨k, k1, k2, k3⟩
        · exact Or.inl e
        · exact Or.inr ⟨k, by omega, k2, k3⟩
      · intro e
        rcases e with e | ⟨k, k1, k2, k3⟩
        · exact Or.inl e
        · by_cases kc : k = c
          · rw [kc] at k2 k3
            exact absurd ⟨k2, by omega⟩ q
          · exact Or.inr ⟨k, by omega, k2, k3⟩
theorem alf_bit {ac : Nat → Nat} {S m c : Nat} (hm : m < 10) : (alf ac S c >>> m) % 2 = 1 ↔ (m = 9 ∨ ∃ k, k < c ∧ (S >>> k) % 2 = 1 ∧ ac k = m) := by
  rw [← alf_tb hm c, Nat.testBit_eq_decide_div_mod_eq, decide_eq_true_eq, Nat.shiftRight_eq_div_pow]
/-! twists never help -/
def az (s : St) : Nat := if 2 ≤ s.2.2.2.2 then s.2.2.2.2 - 2 else 2 - s.2.2.2.2
def un (s : St) : St := (s.1, s.2.1, s.2.2.1, s.2.2.2.1, 2)
theorem st_tw9 {rm k : Nat} {s u : St} (hk : k < 10) (hz : ¬ s.2.2.2.2 = 2) (h : st_do rm k s = some u) : un u = un s ∧ az s = az u + 1 := by
  unfold st_do at h
  rw [if_neg (by omega)] at h
  by_cases h9 : k = 9
  · rw [if_pos h9, if_neg hz] at h
    cases h
    refine ⟨rfl, ?_⟩
    unfold az
    simp only
    split <;> split <;> split <;> omega
  · rw [if_neg h9] at h
    by_cases h8 : k = 8
    · rw [if_pos h8, if_neg (fun q => hz q.1)] at h
      cases h
    · rw [if_neg h8, if_neg (by omega), if_neg (by omega), if_neg (fun q => hz q.1)] at h
      cases h
theorem st_to9 {rm : Nat} {s : St} (hz : ¬ s.2.2.2.2 = 2) : ∃ u, st_do rm 9 s = some u := by
  unfold st_do
  rw [if_neg (by omega), if_pos rfl, if_neg hz]
  exact ⟨_, rfl⟩
theorem st_t10 {rm a : Nat} {s u : St} (ha : a = 10 ∨ a = 11) (h : st_do rm a s = some u) : un u = un s ∧ az s ≤ az u + 1 := by
  unfold st_do at h
  rcases ha with rfl | rfl
  · rw [if_neg (by omega), if_neg (by omega), if_neg (by omega), if_pos rfl] at h
    split at h
    · cases h
      refine ⟨rfl, ?_⟩
      unfold az
      simp only
      split <;> split <;> omega
    · cases h
  · rw [if_neg (by omega), if_neg (by omega), if_neg (by omega), if_neg (by omega), if_pos rfl] at h
    split at h
    · rename_i q
      cases h
      refine ⟨rfl, ?_⟩
      unfold az
      simp only
      split <;> split <;> omega
    · cases h
theorem wk_1 {nx : Nat → St → Option St} : ∀ n s m w, wk nx (fun _ => 1) n s m w → m = n
  | 0, s, m, w, h => h.1
  | n + 1, s, m, w, h => by
    obtain ⟨k, u, b, h1, h2, h3, h4⟩ := h
    have := wk_1 n u b w h3
    have h4 : m = 1 + b := h4
    omega
section PURE
variable {ac : Nat → Nat} {S rm c al : Nat}
theorem nx9 (h9 : (al >>> 9) % 2 = 1) {s : St} : nx10 al rm 60 9 s = st_do rm 9 s := by
  rw [nx10_e (by omega)]
  unfold nxC
  rw [if_pos ⟨h9, by omega⟩]
theorem untw : ∀ a s n w, az s = a → wk (nx10 al rm 60) (fun _ => 1) n s n w → w.2.2.2.2 = 2 → a ≤ n ∧ wk (nx10 al rm 60) (fun _ => 1) (n - a) (un s) (n - a) w := by
  intro a
  induction a with
  | zero =>
    intro s n w ha hw hW
    have hz : s.2.2.2.2 = 2 := by
      unfold az at ha
      split at ha <;> omega
    have e : un s = s := by
      unfold un
      rw [← hz]
    rw [e]
    exact ⟨Nat.zero_le _, hw⟩
  | succ a ih =>
    intro s n w ha hw hW
    have hz : ¬ s.2.2.2.2 = 2 := fun q => by
      unfold az at ha
      rw [q] at ha
      simp at ha
    cases n with
    | zero =>
      have e := hw.2
      rw [e] at hz
      exact absurd hW hz
    | succ n =>
      obtain ⟨k, u, b, h1, h2, h3, h4⟩ := hw
      have eb := wk_1 n u b w h3
      subst eb
      rw [nx10_e h1] at h2
      obtain ⟨e1, e2⟩ := st_tw9 h1 hz (nxC_do h2)
      obtain ⟨i1, i2⟩ := ih u b w (by omega) h3 hW
      rw [e1] at i2
      rw [show b + 1 - (a + 1) = b - a by omega]
      exact ⟨by omega, i2⟩
theorem tw_upw (h9 : (al >>> 9) % 2 = 1) : ∀ a s n w, az s = a → wk (nx10 al rm 60) (fun _ => 1) n (un s) n w → wk (nx10 al rm 60) (fun _ => 1) (n + a) s (n + a) w := by
  intro a
  induction a with
  | zero =>
    intro s n w ha hw
    have hz : s.2.2.2.2 = 2 := by
      unfold az at ha
      split at ha <;> omega
    have e : un s = s := by
      unfold un
      rw [← hz]
    rw [e] at hw
    exact hw
  | succ a ih =>
    intro s n w ha hw
    have hz : ¬ s.2.2.2.2 = 2 := fun q => by
      unfold az at ha
      rw [q] at ha
      simp at ha
    obtain ⟨u, hu⟩ := st_to9 (rm := rm) hz
    obtain ⟨e1, e2⟩ := st_tw9 (by omega) hz hu
    have i := ih u n w (by omega) (by rw [e1]; exact hw)
    exact ⟨9, u, n + a, by omega, by rw [nx9 h9]; exact hu, i, by show n + (a + 1) = 1 + (n + a); omega⟩
theorem sim_c (hal : ∀ m, m < 10 → ((al >>> m) % 2 = 1 ↔ (m = 9 ∨ ∃ k, k < c ∧ (S >>> k) % 2 = 1 ∧ ac k = m))) (hac : ∀ k, k < 6 → (S >>> k) % 2 = 1 → k < c ∧ ac k ≤ 12) : ∀ n s w, st_K s → wk (nxR ac S rm) (fun _ => 1) n s n w → w.2.2.2.2 = 2 → ∃ n', n' ≤ n ∧ wk (nx10 al rm 60) (fun _ => 1) n' s n' w := by
  have h9 : (al >>> 9) % 2 = 1 := (hal 9 (by omega)).mpr (Or.inl rfl)
  intro n
  induction n with
  | zero => intro s w hK hw hW; exact ⟨0, Nat.le_refl _, rfl, hw.2⟩
  | succ n ih =>
    intro s w hK hw hW
    obtain ⟨k, u, b, h1, h2, h3, h4⟩ := hw
    have eb := wk_1 n u b w h3
    subst eb
    unfold nxR at h2
    by_cases k6 : k = 6
    · rw [if_pos k6] at h2
      obtain ⟨n', i1, i2⟩ := ih u w (st_do_K hK h2 (by omega)) h3 hW
      exact ⟨n' + 1, by omega, 9, u, n', by omega, by rw [nx9 h9]; exact h2, i2, by show n' + 1 = 1 + n'; omega⟩
    · rw [if_neg k6] at h2
      by_cases q : k < 6 ∧ (S >>> k) % 2 = 1
      · rw [if_pos q] at h2
        obtain ⟨kc, a12⟩ := hac k q.1 q.2
        obtain ⟨n', i1, i2⟩ := ih u w (st_do_K hK h2 a12) h3 hW
        by_cases a10 : ac k < 10
        · refine ⟨n' + 1, by omega, ac k, u, n', a10, ?_, i2, by show n' + 1 = 1 + n'; omega⟩
          rw [nx10_e a10]
          unfold nxC
          have := hK.1.2
          rw [if_pos ⟨(hal (ac k) a10).mpr (Or.inr ⟨k, kc, q.2, rfl⟩), by omega⟩]
          exact h2
        · by_cases a12' : ac k = 12
          · rw [a12'] at h2
            unfold st_do at h2
            rw [if_pos rfl] at h2
            cases h2
            exact ⟨n', by omega, i2⟩
          · obtain ⟨e1, e2⟩ := st_t10 (by omega) h2
            obtain ⟨j1, j2⟩ := untw (az u) u n' w rfl i2 hW
            rw [e1] at j2
            have := tw_upw (rm := rm) h9 (az s) s (n' - az u) w rfl j2
            exact ⟨n' - az u + az s, by omega, this⟩
      · rw [if_neg q] at h2
        cases h2
theorem sim_r (hal : ∀ m, m < 10 → ((al >>> m) % 2 = 1 ↔ (m = 9 ∨ ∃ k, k < c ∧ (S >>> k) % 2 = 1 ∧ ac k = m))) (hc : c ≤ 6) : ∀ n s w, wk (nx10 al rm 60) (fun _ => 1) n s n w → wk (nxR ac S rm) (fun _ => 1) n s n w := by
  intro n
  induction n with
  | zero => intro s w hw; exact hw
  | succ n ih =>
    intro s w hw
    obtain ⟨k, u, b, h1, h2, h3, h4⟩ := hw
    have eb := wk_1 n u b w h3
    subst eb
    rw [nx10_e h1] at h2
    have hd := nxC_do h2
    unfold nxC at h2
    split at h2
    · rename_i q
      rcases (hal k h1).mp q.1 with e | ⟨j, j1, j2, j3⟩
      · refine ⟨6, u, b, by omega, ?_, ih u w h3, h4⟩
        unfold nxR
        rw [if_pos rfl, ← e]
        exact hd
      · refine ⟨j, u, b, by omega, ?_, ih u w h3, h4⟩
        unfold nxR
        rw [if_neg (by omega), if_pos ⟨by omega, j2⟩, j3]
        exact hd
    · cases h2
theorem Near.conv {W : St → Prop} {s : St} {r : Int32} (hW : ∀ s, W s → s.2.2.2.2 = 2) (hK : st_K s) (hal : ∀ m, m < 10 → ((al >>> m) % 2 = 1 ↔ (m = 9 ∨ ∃ k, k < c ∧ (S >>> k) % 2 = 1 ∧ ac k = m))) (hac : ∀ k, k < 6 → (S >>> k) % 2 = 1 → k < c ∧ ac k ≤ 12) (hc : c ≤ 6) (h : Near (nx10 al rm 60) (fun _ => 1) W s r) : Near (nxR ac S rm) (fun _ => 1) W s r := by
  rcases h with ⟨n, m, w, a1, a2, a3, a4, a5⟩ | ⟨a1, a2⟩
  · have em := wk_1 n s m w a1
    subst em
    refine Or.inl ⟨m, m, w, sim_r hal hc m s w a1, a2, a3, a4, fun n' m' w' b1 b2 => ?_⟩
    have em := wk_1 n' s m' w' b1
    subst em
    obtain ⟨n'', c1, c2⟩ := sim_c hal hac m' s w' hK b1 (hW w' b2)
    have := a5 n'' n'' w' c2 b2
    omega
  · refine Or.inr ⟨a1, fun n m w b1 b2 => ?_⟩
    have em := wk_1 n s m w b1
    subst em
    obtain ⟨n'', c1, c2⟩ := sim_c hal hac m s w hK b1 (hW w b2)
    exact a2 n'' n'' w c2 b2
end PURE
theorem wsh_2 {w : Nat → Int32} {s : St} (h : wsh w s = true) : s.2.2.2.2 = 2 := (of_decide_eq_true h).1
theorem bit_2 {al k : Nat} (ha : al < 2147483648) (hk : k < 32) : (nI al >>> (nI k &&& 31)) &&& (1 : Int32) = nI ((al >>> k) % 2) := by
  rw [nm_shr (by omega) hk, show (1 : Int32) = nI (2 ^ 1 - 1) from rfl, nm_and, nm_andm]
def pcs (S : Nat) : Nat → Nat
  | 0 => 0
  | k + 1 => pcs S k + (S >>> k) % 2
theorem pc_tab : ∀ S, S < 64 → F_J6_bitCount_0f7a4 (nI S) = nI (pcs S 6) := by decide +kernel
theorem pc_le : ∀ c, c ≤ 6 → ∀ S, S < 64 → S < 2 ^ c → pcs S 6 ≤ c := by decide +kernel
theorem sh_cl : ∀ c, c ≤ 6 → ∀ S, S < 64 → S < 2 ^ c → ∀ k, k < 6 → (S >>> k) % 2 = 1 → k < c := by decide +kernel
theorem p2_64 : ∀ c, c ≤ 6 → 2 ^ c ≤ 64 ∧ 1 ≤ 2 ^ c := by decide
/-- the calls, as both read them -/
def CLS (h : xm_H) (t c : Nat) : Prop := c ≤ 6 ∧ h.1 t 6 = nI c ∧ h.1 83 19 = nI c ∧ ∀ k, k < c → F_X0_actOf h t (nI k) = nI (acs h t k) ∧ acs h t k ≤ 12 ∧ F_X11_meaning (F_X11_her h t (nI k)) (F_X11_his h t (nI k)) = nI (acs h t k)
theorem cls_of {h : xm_H} {t : Nat} (hw : rl_wf (h.1 83)) (hli : rl_lin (h.1 t) (h.1 (t + 1)) (h.1 (t + 2)) (h.1 (t + 3)) (h.1 (t + 4)) (h.1 (t + 5)) (h.1 (t + 6)) (h.1 (t + 7)) (h.1 83)) : ∃ c, CLS h t c := by
  obtain ⟨c, hc, e6, e19, -, hj⟩ := calls_of hw hli
  refine ⟨c, hc, e6, e19, fun k hk => ?_⟩
  obtain ⟨p, q, hp, hq, a1, a2, a3, a4⟩ := hj k hk
  obtain ⟨b1, b2, b3⟩ := mg_tab p hp q hq
  have e : acs h t k = mg p q := by
    unfold acs
    rw [a3, a4, b2, nI_clamp (by omega)]
  rw [e]
  refine ⟨?_, b3, by rw [a3, a4, b2]⟩
  unfold F_X0_actOf
  rw [a1, a2, b1]
theorem acs_fr {g h : xm_H} {t k : Nat} (e : g.1 83 = h.1 83) : acs g t k = acs h t k := by
  unfold acs F_X11_her F_X11_his
  rw [e]
theorem CLS.fr {g h : xm_H} {t c : Nat} (a : CLS h t c) (e0 : g.1 t = h.1 t) (e3 : g.1 (t + 3) = h.1 (t + 3)) (e4 : g.1 (t + 4) = h.1 (t + 4)) (e : g.1 83 = h.1 83) : CLS g t c := by
  obtain ⟨a1, a2, a3, a4⟩ := a
  refine ⟨a1, by rw [e0]; exact a2, by rw [e]; exact a3, fun k hk => ?_⟩
  have q := a4 k hk
  rw [acs_fr e]
  unfold F_X0_actOf F_X0_herAct F_X0_hisAct F_X11_her F_X11_his at q ⊢
  rw [e3, e4, e]
  exact q
section OPS
variable {L : Nat} {xs : Nat → Int32} {d : Nat} {t : Nat}
theorem v_byCalls {h : xm_H} {cn rm c S : Nat} {s : St} {W : St → Bool} (hr : Rel SIs h) (hR : h.2.2 = xm_R0 t) (ht : t = 5 ∨ t = 13) (hN : NOW h cn s) (e3 : h.1 3 3 = st_P s) (hrm : rm ≤ 60) (e4 : h.1 t 4 = nI rm) (hc : CLS h t c) (hS : S < 2 ^ c) (hW : ∀ s, st_K s → F_X8_isMetBy h t (st_P s) = if W s = true then 1 else 0) (hW2 : ∀ s, W s = true → s.2.2.2.2 = 2) : ∃ (g : xm_H) (r : Int32), xm_V (xm_X0 L xs) xm_P (d + 12) 125 [.ref 0, .int (nI S)] h (some (.int r)) g ∧ g.2 = h.2 ∧ (∀ q, (q < 61 ∨ 68 < q) → g.1 q = h.1 q) ∧ Rel SIs g ∧ Near (nxR (acs h t) S rm) (fun _ => 1) (fun s => W s = true) s r := by
  obtain ⟨c6, k6, k19, kj⟩ := hc
  have hp2 := p2_64 c c6
  obtain ⟨A, B, hA, hB, hK, hU, -⟩ := hN.uS
  have hal := alf_lt (ac := acs h t) (S := S) c
  obtain ⟨g, N, P, Q, par, mv, dep, D, V, g2, gq, hF, hrg, -⟩ := x_explore (L := L) (xs := xs) (d := d) hr hR ht hA hB hK hU (al := alf (acs h t) S c) (by omega) hrm (ar := 60) (Nat.le_refl _)
  have gR : g.2.2 = xm_R0 t := by rw [g2]; exact hR
  have hN640 := hF.2.1
  have fin : ∃ r, Near (nxR (acs h t) S rm) (fun _ => 1) (fun s => W s = true) s r ∧ ∀ l4, xm_E (xm_X0 L xs) xm_P (d + 11) co_X10_fewestByCalls 4 [some (.ref 0), some (.int (nI S)), some (.int (nI (alf (acs h t) S c))), some (.int (nI c)), l4] [] h (some (.int r)) g := by
    have V0 : xm_V (xm_X0 L xs) xm_P (d + 11) 81 [.ref 61, .int (h.1 3 3), .int (nI (alf (acs h t) S c)), .int (h.1 t 4), .int (60 : Int32)] h none g := by rw [e3, e4]; exact V
    have cv := fun {r : Int32} (hn : Near (nx10 (alf (acs h t) S c) rm 60) (fun _ => 1) (fun s => W s = true) s r) => Near.conv (ac := acs h t) (S := S) (c := c) hW2 hK (fun m hm => alf_bit hm) (fun k hk hb => by
      have hkc := sh_cl c c6 S (by omega) hS k hk hb
      exact ⟨hkc, (kj k hkc).2.1⟩) c6 hn
    have c0 : h.1 t 6 ≤ nI c := by rw [k6]; exact nI_le (Nat.le_refl _) (by omega)
    rcases v_first (L := L) (xs := xs) (d := d + 3) (W := W) gR ht hF (fun s hs => by rw [met_fr (gq (t + 1) (by omega))]; exact hW s hs) with ⟨j, hj, hjw, hno, W1⟩ | ⟨hno, W1⟩
    · refine ⟨nI (dep j), cv (hF.1.near (W := fun s => W s = true) (by omega) hj hjw hno), fun l4 => ?_⟩
      have K := s_X10_fewestByCalls_4_0 (L := L) (xs := xs) (d := d + 4) (l1 := nI S) (l4 := l4) hR ht c0 V0 gR W1 gR
      rw [depth_y hF hj] at K
      exact K
    · refine ⟨-1, cv (hF.1.nearN hno), fun l4 => ?_⟩
      have K := s_X10_fewestByCalls_4_0 (L := L) (xs := xs) (d := d + 4) (l1 := nI S) (l4 := l4) hR ht c0 V0 gR W1 gR
      rw [depth_n] at K
      exact K
  obtain ⟨r, hnr, E⟩ := fin
  have loop : ∀ m i, m + i = c → ∀ l4, xm_E (xm_X0 L xs) xm_P (d + 11) co_X10_fewestByCalls 4 [some (.ref 0), some (.int (nI S)), some (.int (nI (alf (acs h t) S i))), some (.int (nI i)), l4] [] h (some (.int r)) g := by
    intro m
    induction m with
    | zero =>
      intro i hm
      have hi : i = c := by omega
      subst hi
      exact E
    | succ m ih =>
      intro i hm l4
      have hi : i < c := by omega
      obtain ⟨q1, q2, q3⟩ := kj i hi
      have c0 : ¬ (h.1 t 6 ≤ nI i) := by rw [k6]; exact nI_ge hi (by omega)
      have F := ih (i + 1) (by omega)
      rw [← nI_1] at F
      have cb := bit_1 (al := S) (k := i) (by omega) (by omega)
      by_cases hb : (S >>> i) % 2 = 1
      · by_cases ha : acs h t i < 10
        · have ea : alf (acs h t) S (i + 1) = alf (acs h t) S i ||| (1 <<< acs h t i) := if_pos ⟨hb, ha⟩
          refine s_X10_fewestByCalls_4_2 (d := d + 4) hR ht c0 (cb.mpr hb) (by rw [q1, (x_isMove _).1 ⟨acs h t i, by omega, by omega, rfl⟩]; exact one_ne0) ?_
          rw [q1, show (1 : Int32) <<< (nI (acs h t i) &&& 31) = nI (1 <<< acs h t i) from nm_shl 1 (by omega), nm_or, ← ea]
          exact F _
        · have ea : alf (acs h t) S (i + 1) = alf (acs h t) S i := if_neg (fun z => ha z.2)
          refine s_X10_fewestByCalls_4_1 (d := d + 4) hR ht c0 (cb.mpr hb) (by
            rw [q1]
            exact (x_isMove _).2 (fun z => by
              obtain ⟨j, -, j2, j3⟩ := z
              have := (nI_eq (by omega) (by omega)).mp j3
              omega)) ?_
          rw [← ea]
          exact F _
      · have ea : alf (acs h t) S (i + 1) = alf (acs h t) S i := if_neg (fun z => hb z.1)
        refine s_X10_fewestByCalls_4_3 (d := d + 4) hR ht c0 (fun z => hb (cb.mp z)) ?_
        rw [← ea]
        exact F _
  exact ⟨g, r, v_X10_fewestByCalls (d := d + 11) (s_X10_fewestByCalls_0_0 (d := d + 4) (loop c 0 rfl _)), g2, gq, hrg, hnr⟩
theorem MD_calls {h : xm_H} {c S rm : Nat} (hc : CLS h t c) (hS : S < 2 ^ c) (hrm : rm ≤ 60) : MD t 7 (nxR (acs h t) S rm) (fun _ => 1) (srH h (nI rm) 0 (nI S) 0) := by
  obtain ⟨c6, k6, k19, kj⟩ := hc
  have hp2 := p2_64 c c6
  have hbit : ∀ k, k < 6 → (S >>> k) % 2 = 1 → k < c := sh_cl c c6 S (by omega) hS
  refine ⟨by omega, fun s k s' hK e => ?_, fun s k h1 h2 => ?_, fun k hk => ⟨Nat.le_refl _, show 1 ≤ 99 by omega⟩, fun g hg => ?_⟩
  · unfold nxR at e
    split at e
    · exact st_do_K hK e (by omega)
    · split at e
      · rename_i q
        exact st_do_K hK e (kj k (hbit k q.1 q.2)).2.1
      · cases e
  · unfold nxR
    rw [if_neg (by omega), if_neg (by omega)]
  · obtain ⟨a1, a2⟩ := hg
    obtain ⟨e15, e16, e24, e25⟩ := srH_82 (h := h) (l1 := nI rm) (l2 := 0) (l3 := nI S) (l4 := 0)
    have f83 : g.1 83 = h.1 83 := a1.trans srH_83
    have f15 := (a2 15 (by omega)).trans e15
    have f16 := (a2 16 (by omega)).trans e16
    have f24 := (a2 24 (by omega)).trans e24
    have f25 := (a2 25 (by omega)).trans e25
    have n24 : ¬ g.1 82 24 = (-1 : Int32) := by rw [f24]; exact n1_ne (by omega)
    refine ⟨?_, fun k hk => ⟨⟨fun _ q6 _ => ?_, fun _ q6 _ => ?_⟩, ?_⟩, fun s k hK hk => ?_⟩
    · unfold F_X11_choices
      rw [if_neg n24]
      rfl
    · rw [show (24 : Int32) = nI 24 from rfl, show (2 : Int32) = nI 2 from rfl, nm_mul, nI_add]
      exact nI_in (by omega) (by decide)
    · rw [show (24 : Int32) = nI 24 from rfl, show (2 : Int32) = nI 2 from rfl, show (1 : Int32) = nI 1 from rfl, nm_mul, nI_add, nI_add]
      exact nI_in (by omega) (by decide)
    · unfold F_X11_costOf
      rw [if_pos f25]
      rfl
    · unfold F_X11_chosen
      rw [if_neg n24]
      by_cases k6' : k = 6
      · subst k6'
        rw [if_pos (show nI 6 = (6 : Int32) from rfl)]
        show F_X11_moved g t (st_M s) (nI 9) = _
        rw [cm_opM hK (by omega) f16 f15 (by omega)]
        unfold nxR
        rw [if_pos rfl]
      · have hk6 : ¬ nI k = (6 : Int32) := fun e => k6' ((nI_eq (b := 6) (by omega) (by omega)).mp e)
        rw [if_neg hk6, f24, bit_2 (by omega) (by omega)]
        unfold nxR
        rw [if_neg k6']
        by_cases hb : (S >>> k) % 2 = 1
        · rw [hb, if_neg (show ¬ nI 1 = (0 : Int32) by decide), if_pos ⟨by omega, rfl⟩]
          have hkc := hbit k (by omega) hb
          obtain ⟨q1, q2, q3⟩ := kj k hkc
          have em : F_X11_meaning (F_X11_her g t (nI k)) (F_X11_his g t (nI k)) = nI (acs h t k) := by
            unfold F_X11_her F_X11_his at q3 ⊢
            rw [f83]
            exact q3
          rw [em]
          have cd := cm_done (t := t) (room := rm) (a := acs h t k) hK q2 f16 f15 (by omega)
          cases hd : st_do rm (acs h t k) s with
          | none => exact cd.2 hd
          | some s' => exact cd.1 s' hd
        · have z : (S >>> k) % 2 = 0 := by omega
          rw [z, if_pos (show nI 0 = (0 : Int32) from rfl), if_neg (by omega)]
          rfl
theorem r_calls {h : xm_H} {cn rm c S : Nat} {s : St} (hR : h.2.2 = xm_R0 t) (ht : t = 5 ∨ t = 13) (hN : NOW h cn s) (hrm : rm ≤ 60) (hc : CLS h t c) (hS : S < 2 ^ c) : ∃ (g : xm_H) (r : Int32), xm_V (xm_X0 L xs) xm_P (d + 10) 260 [.ref 82, .int (nI rm), .int (0 : Int32), .int (nI S), .int (0 : Int32)] h (some (.int r)) g ∧ srF g h ∧ Near (nxR (acs h t) S rm) (fun _ => 1) (fun s => wsh (h.1 83) s = true) s r := by
  obtain ⟨a1, a2, a3, a4, a5, a6, a7, a8, a9⟩ := hN
  obtain ⟨g, r, N, Q, par, mv, dep, F, V, b1, b2, b3, b4⟩ := v_searches (L := L) (xs := xs) (d := d) hR ht a1 a2 a3 a4 a5 a6 a7 (MD_calls hc hS hrm) (Or.inl rfl) (Or.inl rfl)
  exact ⟨g, r, V, b1, b4⟩
theorem all_c {c : Nat} (hc : c ≤ 6) : ((1 : Int32) <<< (nI c &&& 31)) - (1 : Int32) = nI (2 ^ c - 1) ∧ (1 : Int32) <<< (nI c &&& 31) = nI (2 ^ c) := by
  have e : (1 : Int32) <<< (nI c &&& 31) = nI (2 ^ c) := by
    rw [show (1 : Int32) = nI 1 from rfl, nm_shl 1 (by omega), Nat.one_shiftLeft]
  have := p2_64 c hc
  exact ⟨by rw [e, show (1 : Int32) = nI 1 from rfl, nm_sub (by omega)], e⟩
theorem op_called : xm_opi (xm_X0 L xs) (d + 20) (Rel SIs) 124 288 [] := by
  intro h hr
  obtain ⟨t, ht, hR, hw, hli, hwk⟩ := hr.opn
  rcases wish_of hw hli with ⟨q1, q2⟩ | ⟨q1, q2, hn, hW⟩
  · exact ⟨-2, h, h, v_X10_called (d := d + 19) (s_X10_called_0_0 (d := d + 12) hR ht q1), v_X11_called (d := d + 19) (s_X11_called_0_0 (d := d + 12) hR ht q2), hr⟩
  · obtain ⟨cn, s, rm, ar, hN, e3, hrm, er, e4, -⟩ := now_of hw hli hwk hn
    obtain ⟨c, hc⟩ := cls_of hw hli
    have hp2 := p2_64 c hc.1
    have hS : 2 ^ c - 1 < 2 ^ c := by omega
    obtain ⟨g, r, V, g2, gq, hrg, hnr⟩ := v_byCalls (L := L) (xs := xs) (d := d + 7) hr hR ht hN e3 hrm e4 hc hS hW (fun s => wsh_2)
    have gR : g.2.2 = xm_R0 t := by rw [g2]; exact hR
    have e83 : g.1 83 = h.1 83 := gq 83 (by omega)
    have hcg : CLS g t c := hc.fr (gq t (by omega)) (gq (t + 3) (by omega)) (gq (t + 4) (by omega)) e83
    obtain ⟨z, r', V', b1, b4⟩ := r_calls (L := L) (xs := xs) (d := d + 9) gR ht (hN.fr e83) hrm hcg hS
    have ea : acs g t = acs h t := by
      funext k
      exact acs_fr e83
    rw [ea, e83] at b4
    have e := hnr.uniq b4
    subst e
    have c2 : ¬ F_X11_canWish g t = 0 := by
      unfold F_X11_canWish F_X11_isLinen F_X11_isWished at q2 ⊢
      rw [e83]
      exact q2
    have eall : F_X11_allCalls g t = nI (2 ^ c - 1) := by
      unfold F_X11_allCalls
      rw [hcg.2.2.1]
      exact (all_c hc.1).1
    exact ⟨r, g, z, v_X10_called (d := d + 19) (s_X10_called_0_1 (d := d + 12) hR ht q1 (by rw [hc.2.1, (all_c hc.1).1]; exact V)), v_X11_called (d := d + 19) (s_X11_called_0_1 (d := d + 12) gR ht c2 (by rw [eall, e83, er]; exact V')), hrg.srF b1⟩
theorem v_bits {h : xm_H} {S : Nat} (hS : S < 64) : xm_V (xm_X0 L xs) xm_P (d + 8) 291 [.int (nI S)] h (some (.int (nI (pcs S 6)))) h := by
  have loop : ∀ m k, m + k = 6 → xm_E (xm_X0 L xs) xm_P (d + 7) co_X11_bits 4 [some (.int (nI S)), some (.int (nI (pcs S k))), some (.int (nI k))] [] h (some (.int (nI (pcs S 6)))) h := by
    intro m
    induction m with
    | zero =>
      intro k hm
      have hk : k = 6 := by omega
      subst hk
      exact s_X11_bits_4_0 (d := d) (by decide)
    | succ m ih =>
      intro k hm
      refine s_X11_bits_4_1 (d := d) (nI_ge (b := 6) (by omega) (by decide)) ?_
      rw [bit_2 (by omega) (by omega), nI_add, nI_1]
      exact ih (k + 1) (by omega)
  exact v_X11_bits (d := d + 7) (s_X11_bits_0_0 (d := d) (loop 6 0 rfl))
/-- some way by the calls of S -/
def OKs (ac : Nat → Nat) (rm : Nat) (W : St → Prop) (s : St) (S : Nat) : Prop := ∃ n m w, wk (nxR ac S rm) (fun _ => 1) n s m w ∧ W w
theorem OKs.of {ac : Nat → Nat} {rm S : Nat} {W : St → Prop} {s : St} {r : Int32} (h : Near (nxR ac S rm) (fun _ => 1) W s r) : (OKs ac rm W s S ∧ ¬ r = -1) ∨ (¬ OKs ac rm W s S ∧ r = -1) := by
  rcases h with ⟨n, m, w, a1, a2, a3, a4, a5⟩ | ⟨a1, a2⟩
  · exact Or.inl ⟨⟨n, m, w, a1, a2⟩, by rw [a4]; exact n1_ne (by omega)⟩
  · refine Or.inr ⟨fun q => ?_, a1⟩
    obtain ⟨n, m, w, b1, b2⟩ := q
    exact a2 n m w b1 b2
def bestS (OK : Nat → Prop) (c S : Nat) : Prop := S < 2 ^ c ∧ OK S ∧ ∀ S', S' < 2 ^ c → OK S' → pcs S 6 < pcs S' 6 ∨ (pcs S 6 = pcs S' 6 ∧ S ≤ S')
theorem bestS.uniq {OK : Nat → Prop} {c S S' : Nat} (h : bestS OK c S) (h' : bestS OK c S') : S = S' := by
  have a := h.2.2 S' h'.1 h'.2.1
  have b := h'.2.2 S h.1 h.2.1
  omega
theorem v_unlike {h : xm_H} {cn rm c : Nat} {s : St} {W : St → Bool} (hr : Rel SIs h) (hR : h.2.2 = xm_R0 t) (ht : t = 5 ∨ t = 13) (hN : NOW h cn s) (e3 : h.1 3 3 = st_P s) (hrm : rm ≤ 60) (e4 : h.1 t 4 = nI rm) (hc : CLS h t c) (hW : ∀ s, st_K s → F_X8_isMetBy h t (st_P s) = if W s = true then 1 else 0) (hW2 : ∀ s, W s = true → s.2.2.2.2 = 2) : ∃ (g : xm_H) (r : Int32), xm_V (xm_X0 L xs) xm_P (d + 13) 128 [.ref 0] h (some (.int r)) g ∧ g.2 = h.2 ∧ (∀ q, (q < 61 ∨ 68 < q) → g.1 q = h.1 q) ∧ Rel SIs g ∧ ((r = -1 ∧ ∀ S, S < 2 ^ c → ¬ OKs (acs h t) rm (fun s => W s = true) s S) ∨ (∃ S, r = nI S ∧ bestS (OKs (acs h t) rm (fun s => W s = true) s) c S)) := by
  have hc' := hc
  obtain ⟨c6, k6, k19, kj⟩ := hc'
  have hp2 := p2_64 c c6
  have inner : ∀ b, (∀ S, S < 2 ^ c → pcs S 6 < b → ¬ OKs (acs h t) rm (fun s => W s = true) s S) → ∀ m i (g : xm_H), m + i = 2 ^ c → g.2 = h.2 → (∀ q, (q < 61 ∨ 68 < q) → g.1 q = h.1 q) → Rel SIs g → b ≤ 6 → (∀ S, S < i → pcs S 6 = b → ¬ OKs (acs h t) rm (fun s => W s = true) s S) → ∃ g', g'.2 = h.2 ∧ (∀ q, (q < 61 ∨ 68 < q) → g'.1 q = h.1 q) ∧ Rel SIs g' ∧ ((∃ S, bestS (OKs (acs h t) rm (fun s => W s = true) s) c S ∧ xm_E (xm_X0 L xs) xm_P (d + 12) co_X10_fewestUnlikeCalls 17 [some (.ref 0), some (.int (nI (2 ^ c))), some (.int (nI b)), some (.int (nI i))] [] g (some (.int (nI S))) g') ∨ ((∀ S, S < 2 ^ c → pcs S 6 < b + 1 → ¬ OKs (acs h t) rm (fun s => W s = true) s S) ∧ ∀ ro ho, (∀ l3, xm_E (xm_X0 L xs) xm_P (d + 12) co_X10_fewestUnlikeCalls 9 [some (.ref 0), some (.int (nI (2 ^ c))), some (.int (nI (b + 1))), l3] [] g' ro ho) → xm_E (xm_X0 L xs) xm_P (d + 12) co_X10_fewestUnlikeCalls 17 [some (.ref 0), some (.int (nI (2 ^ c))), some (.int (nI b)), some (.int (nI i))] [] g ro ho)) := by
    intro b hb m
    induction m with
    | zero =>
      intro i g hm g2 gq hrg b6 hi
      have e : i = 2 ^ c := by omega
      refine ⟨g, g2, gq, hrg, Or.inr ⟨fun S hS hp => ?_, fun ro ho K => s_X10_fewestUnlikeCalls_17_0 (d := d + 5) (nI_le (by omega) (by omega)) ?_⟩⟩
      · by_cases q : pcs S 6 = b
        · exact hi S (by omega) q
        · exact hb S hS (by omega)
      · rw [nI_1]
        exact K _
    | succ m ih =>
      intro i g hm g2 gq hrg b6 hi
      have hiS : i < 2 ^ c := by omega
      have c0 : ¬ (nI (2 ^ c) ≤ nI i) := nI_ge hiS (by omega)
      have gR : g.2.2 = xm_R0 t := by rw [g2]; exact hR
      have ebc := pc_tab i (by omega)
      have pl := pc_le c c6 i (by omega) hiS
      by_cases q : pcs i 6 = b
      · have e83 : g.1 83 = h.1 83 := gq 83 (by omega)
        obtain ⟨g1, r, V, a2, aq, hr1, hnr⟩ := v_byCalls (L := L) (xs := xs) (d := d) (W := W) hrg gR ht (hN.fr e83) (by rw [gq 3 (by omega)]; exact e3) hrm (by rw [gq t (by omega)]; exact e4) (hc.fr (gq t (by omega)) (gq (t + 3) (by omega)) (gq (t + 4) (by omega)) e83) hiS (fun s hs => by rw [met_fr (gq (t + 1) (by omega))]; exact hW s hs) hW2
        have ea : acs g t = acs h t := by
          funext k
          exact acs_fr e83
        rw [ea] at hnr
        have c1 : F_J6_bitCount_0f7a4 (nI i) = nI b := by rw [ebc, q]
        rcases OKs.of hnr with ⟨o1, o2⟩ | ⟨o1, o2⟩
        · refine ⟨g1, a2.trans g2, fun q hq => (aq q hq).trans (gq q hq), hr1, Or.inl ⟨i, ⟨hiS, o1, fun S' hS' hO => ?_⟩, s_X10_fewestUnlikeCalls_17_2 (d := d + 5) c0 c1 V o2⟩⟩
          by_cases z : pcs S' 6 < b
          · exact absurd hO (hb S' hS' z)
          · by_cases z2 : pcs S' 6 = b
            · right
              refine ⟨by omega, ?_⟩
              by_cases z3 : i ≤ S'
              · exact z3
              · exact absurd hO (hi S' (by omega) z2)
            · left
              omega
        · obtain ⟨g', p1, p2, p3, p4⟩ := ih (i + 1) g1 (by omega) (a2.trans g2) (fun q hq => (aq q hq).trans (gq q hq)) hr1 b6 (fun S hS hp => by
            by_cases e : S = i
            · rw [e]; exact o1
            · exact hi S (by omega) hp)
          rw [← nI_1] at p4
          refine ⟨g', p1, p2, p3, ?_⟩
          rcases p4 with ⟨S, y1, E⟩ | ⟨y1, y2⟩
          · exact Or.inl ⟨S, y1, s_X10_fewestUnlikeCalls_17_1 (d := d + 5) c0 c1 V o2 E⟩
          · exact Or.inr ⟨y1, fun ro ho K => s_X10_fewestUnlikeCalls_17_1 (d := d + 5) c0 c1 V o2 (y2 ro ho K)⟩
      · have c1 : ¬ F_J6_bitCount_0f7a4 (nI i) = nI b := by
          rw [ebc]
          intro e
          exact q ((nI_eq (by omega) (by omega)).mp e)
        obtain ⟨g', p1, p2, p3, p4⟩ := ih (i + 1) g (by omega) g2 gq hrg b6 (fun S hS hp => by
          by_cases e : S = i
          · rw [e] at hp; exact absurd hp q
          · exact hi S (by omega) hp)
        rw [← nI_1] at p4
        refine ⟨g', p1, p2, p3, ?_⟩
        rcases p4 with ⟨S, y1, E⟩ | ⟨y1, y2⟩
        · exact Or.inl ⟨S, y1, s_X10_fewestUnlikeCalls_17_3 (d := d + 5) c0 c1 E⟩
        · exact Or.inr ⟨y1, fun ro ho K => s_X10_fewestUnlikeCalls_17_3 (d := d + 5) c0 c1 (y2 ro ho K)⟩
  have outer : ∀ m b (g : xm_H), m + b = c + 1 → g.2 = h.2 → (∀ q, (q < 61 ∨ 68 < q) → g.1 q = h.1 q) → Rel SIs g → (∀ S, S < 2 ^ c → pcs S 6 < b → ¬ OKs (acs h t) rm (fun s => W s = true) s S) → ∃ g' r, g'.2 = h.2 ∧ (∀ q, (q < 61 ∨ 68 < q) → g'.1 q = h.1 q) ∧ Rel SIs g' ∧ ((r = -1 ∧ ∀ S, S < 2 ^ c → ¬ OKs (acs h t) rm (fun s => W s = true) s S) ∨ (∃ S, r = nI S ∧ bestS (OKs (acs h t) rm (fun s => W s = true) s) c S)) ∧ ∀ l3, xm_E (xm_X0 L xs) xm_P (d + 12) co_X10_fewestUnlikeCalls 9 [some (.ref 0), some (.int (nI (2 ^ c))), some (.int (nI b)), l3] [] g (some (.int r)) g' := by
    intro m
    induction m with
    | zero =>
      intro b g hm g2 gq hrg hb
      have gR : g.2.2 = xm_R0 t := by rw [g2]; exact hR
      refine ⟨g, -1, g2, gq, hrg, Or.inl ⟨rfl, fun S hS => hb S hS ?_⟩, fun l3 => s_X10_fewestUnlikeCalls_9_0 (d := d + 5) gR ht (by rw [gq t (by omega), k6]; exact nI_lt (by omega) (by omega))⟩
      have := pc_le c c6 S (by omega) hS
      omega
    | succ m ih =>
      intro b g hm g2 gq hrg hb
      have gR : g.2.2 = xm_R0 t := by rw [g2]; exact hR
      have c0 : ¬ (g.1 t 6 < nI b) := by rw [gq t (by omega), k6]; exact nI_nlt (by omega) (by omega)
      obtain ⟨g1, a1, a2, a3, a4⟩ := inner b hb (2 ^ c) 0 g (by omega) g2 gq hrg (by omega) (fun S hS => absurd hS (Nat.not_lt_zero _))
      rcases a4 with ⟨S, y1, E⟩ | ⟨y1, y2⟩
      · exact ⟨g1, nI S, a1, a2, a3, Or.inr ⟨S, rfl, y1⟩, fun l3 => s_X10_fewestUnlikeCalls_9_1 (d := d + 5) gR ht c0 E⟩
      · obtain ⟨g', r, p1, p2, p3, p4, p5⟩ := ih (b + 1) g1 (by omega) a1 a2 a3 y1
        exact ⟨g', r, p1, p2, p3, p4, fun l3 => s_X10_fewestUnlikeCalls_9_1 (d := d + 5) gR ht c0 (y2 _ _ (fun l3 => p5 l3))⟩
  obtain ⟨g', r, p1, p2, p3, p4, p5⟩ := outer (c + 1) 0 h (by omega) rfl (fun _ _ => rfl) hr (fun S _ hp => absurd hp (Nat.not_lt_zero _))
  refine ⟨g', r, v_X10_fewestUnlikeCalls (d := d + 12) (s_X10_fewestUnlikeCalls_0_0 (d := d + 5) hR ht ?_), p1, p2, p3, p4⟩
  rw [k6, (all_c c6).2]
  exact p5 _
theorem r_words {h : xm_H} {cn rm c : Nat} {s : St} (hR : h.2.2 = xm_R0 t) (ht : t = 5 ∨ t = 13) (hN : NOW h cn s) (hrm : rm ≤ 60) (er : h.1 83 3 = nI rm) (hc : CLS h t c) (p : Int32) : ∃ (g : xm_H) (r : Int32), xm_E (xm_X0 L xs) xm_P (d + 10) co_X11_words 15 [some (.ref 82), some (.int p), some (.int (-1 : Int32)), some (.int (0 : Int32))] [] h (some (.int r)) g ∧ srF g h ∧ ((r = -1 ∧ ∀ S, S < 2 ^ c → ¬ OKs (acs h t) rm (fun s => wsh (h.1 83) s = true) s S) ∨ (∃ S, r = (if p = 1 then nI S else nI (pcs S 6)) ∧ bestS (OKs (acs h t) rm (fun s => wsh (h.1 83) s = true) s) c S)) := by
  have hc' := hc
  obtain ⟨c6, k6, k19, kj⟩ := hc'
  have hp2 := p2_64 c c6
  have loop : ∀ m i (z : xm_H) (l2 : Int32), m + i = 2 ^ c → srF z h → ((l2 = -1 ∧ ∀ S, S < i → ¬ OKs (acs h t) rm (fun s => wsh (h.1 83) s = true) s S) ∨ (∃ B, l2 = nI B ∧ B < i ∧ OKs (acs h t) rm (fun s => wsh (h.1 83) s = true) s B ∧ ∀ S', S' < i → OKs (acs h t) rm (fun s => wsh (h.1 83) s = true) s S' → pcs B 6 < pcs S' 6 ∨ (pcs B 6 = pcs S' 6 ∧ B ≤ S'))) → ∃ (g : xm_H) (r : Int32), srF g h ∧ ((r = -1 ∧ ∀ S, S < 2 ^ c → ¬ OKs (acs h t) rm (fun s => wsh (h.1 83) s = true) s S) ∨ (∃ S, r = (if p = 1 then nI S else nI (pcs S 6)) ∧ bestS (OKs (acs h t) rm (fun s => wsh (h.1 83) s = true) s) c S)) ∧ xm_E (xm_X0 L xs) xm_P (d + 10) co_X11_words 15 [some (.ref 82), some (.int p), some (.int l2), some (.int (nI i))] [] z (some (.int r)) g := by
    intro m
    induction m with
    | zero =>
      intro i z l2 hm hz hb
      have hi : i = 2 ^ c := by omega
      have zR : z.2.2 = xm_R0 t := by rw [hz.1]; exact hR
      have e83 : z.1 83 = h.1 83 := hz.2.1 83 (by decide) (by decide) (by decide)
      have eall : F_X11_allCalls z t = nI (2 ^ c - 1) := by
        unfold F_X11_allCalls
        rw [e83, k19]
        exact (all_c c6).1
      have c0 : F_X11_allCalls z t < nI i := by rw [eall]; exact nI_lt (by omega) (by omega)
      rcases hb with ⟨a1, a2⟩ | ⟨B, a1, a2, a3, a4⟩
      · exact ⟨z, l2, hz, Or.inl ⟨a1, fun S hS => a2 S (by omega)⟩, s_X11_words_15_0 (d := d + 3) zR ht c0 a1⟩
      · have ne : ¬ l2 = -1 := by rw [a1]; exact n1_ne (by omega)
        have bb : bestS (OKs (acs h t) rm (fun s => wsh (h.1 83) s = true) s) c B := ⟨by omega, a3, fun S' hS' hO => a4 S' (by omega) hO⟩
        by_cases hp : p = 1
        · exact ⟨z, l2, hz, Or.inr ⟨B, by rw [if_pos hp]; exact a1, bb⟩, s_X11_words_15_1 (d := d + 3) zR ht c0 ne hp⟩
        · refine ⟨z, nI (pcs B 6), hz, Or.inr ⟨B, by rw [if_neg hp], bb⟩, s_X11_words_15_2 (d := d + 3) zR ht c0 ne hp ?_⟩
          rw [a1]
          exact v_bits (d := d + 2) (by omega)
    | succ m ih =>
      intro i z l2 hm hz hb
      have hiS : i < 2 ^ c := by omega
      have zR : z.2.2 = xm_R0 t := by rw [hz.1]; exact hR
      have e83 : z.1 83 = h.1 83 := hz.2.1 83 (by decide) (by decide) (by decide)
      have eall : F_X11_allCalls z t = nI (2 ^ c - 1) := by
        unfold F_X11_allCalls
        rw [e83, k19]
        exact (all_c c6).1
      have c0 : ¬ (F_X11_allCalls z t < nI i) := by rw [eall]; exact nI_nlt (by omega) (by omega)
      have hcz : CLS z t c := hc.fr (hz.2.1 t (by omega) (by omega) (by omega)) (hz.2.1 (t + 3) (by omega) (by omega) (by omega)) (hz.2.1 (t + 4) (by omega) (by omega) (by omega)) e83
      obtain ⟨g, r3, V, b1, b4⟩ := r_calls (L := L) (xs := xs) (d := d) zR ht (hN.fr e83) hrm hcz hiS
      have ea : acs z t = acs h t := by
        funext k
        exact acs_fr e83
      rw [ea, e83] at b4
      have V0 : xm_V (xm_X0 L xs) xm_P (d + 10) 260 [.ref 82, .int (z.1 83 3), .int (0 : Int32), .int (nI i), .int (0 : Int32)] z (some (.int r3)) g := by rw [e83, er]; exact V
      have pl := pc_le c c6 i (by omega) hiS
      rcases hb with ⟨a1, a2⟩ | ⟨B, a1, a2, a3, a4⟩
      · rcases OKs.of b4 with ⟨o1, o2⟩ | ⟨o1, o2⟩
        · obtain ⟨g', r, p1, p2, E⟩ := ih (i + 1) g (nI i) (by omega) (b1.tr hz) (Or.inr ⟨i, rfl, by omega, o1, fun S' hS' hO => by
            by_cases e : S' = i
            · rw [e]; exact Or.inr ⟨rfl, Nat.le_refl _⟩
            · exact absurd hO (a2 S' (by omega))⟩)
          rw [← nI_1] at E
          exact ⟨g', r, p1, p2, s_X11_words_15_4 (d := d + 3) zR ht c0 a1 V0 o2 E⟩
        · obtain ⟨g', r, p1, p2, E⟩ := ih (i + 1) g l2 (by omega) (b1.tr hz) (Or.inl ⟨a1, fun S hS => by
            by_cases e : S = i
            · rw [e]; exact o1
            · exact a2 S (by omega)⟩)
          rw [← nI_1] at E
          exact ⟨g', r, p1, p2, s_X11_words_15_3 (d := d + 3) zR ht c0 a1 V0 o2 E⟩
      · have ne : ¬ l2 = -1 := by rw [a1]; exact n1_ne (by omega)
        have plB := pc_le c c6 B (by omega) (by omega)
        have Vi := v_bits (L := L) (xs := xs) (d := d + 2) (h := z) (S := i) (by omega)
        have VB := v_bits (L := L) (xs := xs) (d := d + 2) (h := z) (S := B) (by omega)
        rw [← a1] at VB
        by_cases hlt : pcs i 6 < pcs B 6
        · have c4 : nI (pcs i 6) < nI (pcs B 6) := nI_lt hlt (by omega)
          rcases OKs.of b4 with ⟨o1, o2⟩ | ⟨o1, o2⟩
          · obtain ⟨g', r, p1, p2, E⟩ := ih (i + 1) g (nI i) (by omega) (b1.tr hz) (Or.inr ⟨i, rfl, by omega, o1, fun S' hS' hO => by
              by_cases e : S' = i
              · rw [e]; exact Or.inr ⟨rfl, Nat.le_refl _⟩
              · have := a4 S' (by omega) hO
                left
                omega⟩)
            rw [← nI_1] at E
            exact ⟨g', r, p1, p2, s_X11_words_15_6 (d := d + 3) zR ht c0 ne Vi VB c4 zR V0 o2 E⟩
          · obtain ⟨g', r, p1, p2, E⟩ := ih (i + 1) g l2 (by omega) (b1.tr hz) (Or.inr ⟨B, a1, by omega, a3, fun S' hS' hO => by
              by_cases e : S' = i
              · rw [e] at hO; exact absurd hO o1
              · exact a4 S' (by omega) hO⟩)
            rw [← nI_1] at E
            exact ⟨g', r, p1, p2, s_X11_words_15_5 (d := d + 3) zR ht c0 ne Vi VB c4 zR V0 o2 E⟩
        · obtain ⟨g', r, p1, p2, E⟩ := ih (i + 1) z l2 (by omega) hz (Or.inr ⟨B, a1, by omega, a3, fun S' hS' hO => by
            by_cases e : S' = i
            · rw [e]; omega
            · exact a4 S' (by omega) hO⟩)
          rw [← nI_1] at E
          exact ⟨g', r, p1, p2, s_X11_words_15_7 (d := d + 3) zR ht c0 ne Vi VB (nI_nlt (by omega) (by omega)) E⟩
  obtain ⟨g, r, p1, p2, E⟩ := loop (2 ^ c) 0 h (-1) (by omega) ⟨rfl, fun _ _ _ _ => rfl, fun _ _ _ _ _ _ => rfl⟩ (Or.inl ⟨rfl, fun S hS => absurd hS (Nat.not_lt_zero _)⟩)
  exact ⟨g, r, E, p1, p2⟩
theorem op_words (a : Int32) : xm_opi (xm_X0 L xs) (d + 20) (Rel SIs) 126 290 [.int a] := by
  intro h hr
  obtain ⟨t, ht, hR, hw, hli, hwk⟩ := hr.opn
  rcases wish_of hw hli with ⟨q1, q2⟩ | ⟨q1, q2, hn, hW⟩
  · exact ⟨-2, h, h, v_X10_words (d := d + 19) (s_X10_words_0_0 (d := d + 12) hR ht q1), v_X11_words (d := d + 19) (s_X11_words_0_0 (d := d + 12) hR ht q2), hr⟩
  · by_cases ha : nb a 0 1
    · have ca : ¬ F_X10_isPart a = 0 := by rw [(x_isPart a).1 ha]; exact one_ne0
      have ma : ¬ F_X11_in a.toInt64 (0 : Int64) (1 : Int64) = 0 := by rw [(in_0_1 a).1 ha]; exact one_ne0
      obtain ⟨cn, s, rm, ar, hN, e3, hrm, er, e4, -⟩ := now_of hw hli hwk hn
      obtain ⟨c, hc⟩ := cls_of hw hli
      have hp2 := p2_64 c hc.1
      obtain ⟨g, r, V, g2, gq, hrg, hd⟩ := v_unlike (L := L) (xs := xs) (d := d + 6) hr hR ht hN e3 hrm e4 hc hW (fun s => wsh_2)
      have gR : g.2.2 = xm_R0 t := by rw [g2]; exact hR
      have e83 : g.1 83 = h.1 83 := gq 83 (by omega)
      have hcg : CLS g t c := hc.fr (gq t (by omega)) (gq (t + 3) (by omega)) (gq (t + 4) (by omega)) e83
      obtain ⟨z, r', E, z1, hd'⟩ := r_words (L := L) (xs := xs) (d := d + 9) gR ht (hN.fr e83) hrm (by rw [e83]; exact er) hcg a
      have ea : acs g t = acs h t := by
        funext k
        exact acs_fr e83
      rw [ea, e83] at hd'
      have c2 : ¬ F_X11_canWish g t = 0 := by
        unfold F_X11_canWish F_X11_isLinen F_X11_isWished at q2 ⊢
        rw [e83]
        exact q2
      have VM := v_X11_words (d := d + 19) (s_X11_words_0_2 (L := L) (xs := xs) (d := d + 12) gR ht c2 ma E)
      rcases hd with ⟨d1, d2⟩ | ⟨S, d1, d2⟩
      · rcases hd' with ⟨f1, f2⟩ | ⟨S', f1, f2⟩
        · subst f1
          have VX := v_X10_words (d := d + 19) (s_X10_words_0_2 (L := L) (xs := xs) (d := d + 12) hR ht q1 ca V d1)
          rw [d1] at VX
          exact ⟨-1, g, z, VX, VM, hrg.srF z1⟩
        · exact absurd f2.2.1 (d2 S' f2.1)
      · rcases hd' with ⟨f1, f2⟩ | ⟨S', f1, f2⟩
        · exact absurd d2.2.1 (f2 S d2.1)
        · have eS := d2.uniq f2
          subst eS
          have hSl := d2.1
          have ne : ¬ r = -1 := by rw [d1]; exact n1_ne (by omega)
          subst f1
          by_cases hp : a = 1
          · rw [if_pos hp] at VM
            have VX := v_X10_words (d := d + 19) (s_X10_words_0_3 (L := L) (xs := xs) (d := d + 12) hR ht q1 ca V ne hp)
            rw [d1] at VX
            exact ⟨nI S, g, z, VX, VM, hrg.srF z1⟩
          · rw [if_neg hp] at VM
            have VX := v_X10_words (d := d + 19) (s_X10_words_0_4 (L := L) (xs := xs) (d := d + 12) hR ht q1 ca V ne hp)
            rw [d1, pc_tab S (by omega)] at VX
            exact ⟨nI (pcs S 6), g, z, VX, VM, hrg.srF z1⟩
    · exact ⟨-2, h, h, v_X10_words (d := d + 19) (s_X10_words_0_1 (d := d + 12) hR ht q1 ((x_isPart a).2 ha)), v_X11_words (d := d + 19) (s_X11_words_0_1 (d := d + 12) hR ht q2 ((in_0_1 a).2 ha)), hr⟩
end OPS
