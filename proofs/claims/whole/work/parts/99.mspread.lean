/-! The reference's search: all states that can be come to. -/
def mdn (s : St) : Nat := st_md s.1 s.2.1 s.2.2.1 s.2.2.2.1 s.2.2.2.2
theorem mdn_lt {s : St} (h : st_K s) : mdn s < 120050 := st_md_lt h.ok
theorem mdn_cl {s : St} (h : st_K s) : (st_M s).toNatClampNeg = mdn s := nI_clamp (Nat.lt_trans (mdn_lt h) (by decide))
theorem mdn_in {s : St} (h : st_K s) : ¬ (st_M s < 0 ∨ 120050 ≤ (st_M s).toNatClampNeg) := nI_in (mdn_lt h) (by decide)
theorem mdn_inj {s s' : St} (h : st_K s) (h' : st_K s') (e : mdn s = mdn s') : s = s' := by
  obtain ⟨l, w, a, b, z⟩ := s
  obtain ⟨l', w', a', b', z'⟩ := s'
  obtain ⟨⟨-, q1⟩, ⟨-, q2⟩, q3, q4, q5⟩ := h
  obtain ⟨⟨-, r1⟩, ⟨-, r2⟩, r3, r4, r5⟩ := h'
  simp only at q1 q2 q3 q4 q5 r1 r2 r3 r4 r5
  have e' : st_md l w a b z = st_md l' w' a' b' z' := e
  unfold st_md at e'
  have e5 : z = z' := by omega
  have e4 : b = b' := by omega
  have e3 : a = a' := by omega
  have e2 : w = w' := by omega
  have e1 : l = l' := by omega
  rw [e1, e2, e3, e4, e5]
def opM : Option St → Int32
  | none => -1
  | some s => st_M s
def GD (g : xm_H) (x : Int32) : Prop := ((¬ (g.1 82 24 = (-1 : Int32))) → (¬ (x = (6 : Int32))) → (¬ (((g.1 82 24) >>> (x &&& 31)) &&& (1 : Int32) = (0 : Int32))) → ¬ ((24 : Int32) + ((2 : Int32) * x) < 0 ∨ 110 ≤ ((24 : Int32) + ((2 : Int32) * x)).toNatClampNeg)) ∧ ((¬ (g.1 82 24 = (-1 : Int32))) → (¬ (x = (6 : Int32))) → (¬ (((g.1 82 24) >>> (x &&& 31)) &&& (1 : Int32) = (0 : Int32))) → ¬ (((24 : Int32) + ((2 : Int32) * x)) + (1 : Int32) < 0 ∨ 110 ≤ (((24 : Int32) + ((2 : Int32) * x)) + (1 : Int32)).toNatClampNeg))
def agr (g h : xm_H) : Prop := g.1 83 = h.1 83 ∧ ∀ j, j = 15 ∨ j = 16 ∨ j = 24 ∨ j = 25 → g.1 82 j = h.1 82 j
/-- how the reference goes on from a state now: by nx, at the cost c, of C choices -/
def MD (t C : Nat) (nx : Nat → St → Option St) (c : Nat → Nat) (h : xm_H) : Prop := C ≤ 10 ∧ (∀ s k s', st_K s → nx k s = some s' → st_K s') ∧ (∀ s k, C ≤ k → k < 10 → nx k s = none) ∧ (∀ k, k < C → 1 ≤ c k ∧ c k ≤ 99) ∧ ∀ g, agr g h → F_X11_choices g t = nI C ∧ (∀ k, k < C → GD g (nI k) ∧ F_X11_costOf g t (nI k) = nI (c k)) ∧ (∀ s k, st_K s → k < C → F_X11_chosen g t (st_M s) (nI k) = opM (nx k s))
theorem MD.go {t C : Nat} {nx : Nat → St → Option St} {c : Nat → Nat} {g h : xm_H} (hM : MD t C nx c h) (ha : agr g h) : MD t C nx c g := by
  obtain ⟨h1, h2, h3, h4, h5⟩ := hM
  exact ⟨h1, h2, h3, h4, fun g' hg => h5 g' ⟨hg.1.trans ha.1, fun j hj => (hg.2 j hj).trans (ha.2 j hj)⟩⟩
theorem PB.skips {nx : Nat → St → Option St} {s0 : St} {i N : Nat} {Q : Nat → St} {par mv dep : Nat → Nat} : ∀ m k, m + k = 10 → PB nx s0 i k N Q par mv dep → (∀ k', k ≤ k' → k' < 10 → nx k' (Q i) = none) → PB nx s0 i 10 N Q par mv dep
  | 0, k, hm, h, _ => by
    have : k = 10 := by omega
    rw [this] at h
    exact h
  | m + 1, k, hm, h, hn => PB.skips m (k + 1) (by omega) (h.skip (hn k (Nat.le_refl _) (by omega))) (fun k' h1 h2 => hn k' (by omega) h2)
def RB (nx : Nat → St → Option St) (s0 : St) (i k N : Nat) (Q : Nat → St) (par mv dep : Nat → Nat) (f : Nat → Nat → Int32) : Prop := PB nx s0 i k N Q par mv dep ∧ (∀ j, j < N → st_K (Q j)) ∧ f 82 23 = nI N ∧ (∀ j, j < N → f 91 j = st_M (Q j)) ∧ (∀ s, st_K s → (f 89 (mdn s) = 0 ∧ ∃ j, j < N ∧ Q j = s) ∨ (f 89 (mdn s) = nI 1000000000 ∧ ∀ j, j < N → Q j ≠ s))
theorem md_len {N : Nat} {Q : Nat → St} (hK : ∀ j, j < N → st_K (Q j)) (hi : ∀ a b, a < N → b < N → Q a = Q b → a = b) : N ≤ 120050 := pigeon 120050 N (fun j => mdn (Q j)) (fun i hi => mdn_lt (hK i hi)) (fun i j h1 h2 e => hi i j h1 h2 (mdn_inj (hK i h1) (hK j h2) e))
def spF (g h : xm_H) : Prop := g.2 = h.2 ∧ (∀ q, q ≠ 82 → q ≠ 89 → q ≠ 91 → g.1 q = h.1 q) ∧ (∀ x, x ≠ 23 → g.1 82 x = h.1 82 x)
theorem spF.agr {g h : xm_H} (a : spF g h) : agr g h := ⟨a.2.1 83 (by decide) (by decide) (by decide), fun j hj => a.2.2 j (by omega)⟩
theorem spF.rfl' {h : xm_H} : spF h h := ⟨rfl, fun _ _ _ _ => rfl, fun _ _ => rfl⟩
theorem spF.tr {a b e : xm_H} (h1 : spF a b) (h2 : spF b e) : spF a e := ⟨h1.1.trans h2.1, fun q a1 a2 a3 => (h1.2.1 q a1 a2 a3).trans (h2.2.1 q a1 a2 a3), fun x hx => (h1.2.2 x hx).trans (h2.2.2 x hx)⟩
section OPS
variable {L : Nat} {xs : Nat → Int32} {d : Nat} {nx : Nat → St → Option St} {c : Nat → Nat} {s0 : St} {t C : Nat}
theorem sp_inner {h : xm_H} {l1 : Int32} (ht : t = 5 ∨ t = 13) (hR : h.2.2 = xm_R0 t) (hM : MD t C nx c h) (i : Nat) (s : St) : ∀ m k (g : xm_H) (N : Nat) (Q : Nat → St) (par mv dep : Nat → Nat), m + k = C → spF g h → i < N → Q i = s → RB nx s0 i k N Q par mv dep g.1 → ∃ (g' : xm_H) (N' : Nat) (Q' : Nat → St) (par' mv' dep' : Nat → Nat), spF g' h ∧ i < N' ∧ RB nx s0 (i + 1) 0 N' Q' par' mv' dep' g'.1 ∧ ∀ ro ho, (∀ l3 l4 l5, xm_E (xm_X0 L xs) xm_P (d + 7) co_X11_spreads 27 [some (.ref 82), some (.int l1), some (.int (nI (i + 1))), l3, l4, l5] [] g' ro ho) → ∀ l5, xm_E (xm_X0 L xs) xm_P (d + 7) co_X11_spreads 38 [some (.ref 82), some (.int l1), some (.int (nI i)), some (.int (st_M s)), some (.int (nI k)), l5] [] g ro ho := by
  intro m
  induction m with
  | zero =>
    intro k g N Q par mv dep hm hg hi hs hB
    have gR : g.2.2 = xm_R0 t := by rw [hg.1]; exact hR
    obtain ⟨m1, m2, m3, m4, m5⟩ := hM
    obtain ⟨n1, n2, n3⟩ := m5 g hg.agr
    obtain ⟨b1, b2, b3, b4, b5⟩ := hB
    have b1' := (PB.skips (10 - k) k (by omega) b1 (fun k' h1 h2 => m3 _ k' (by omega) h2)).next
    refine ⟨g, N, Q, par, mv, dep, hg, hi, ⟨b1', b2, b3, b4, b5⟩, fun ro ho K l5 => ?_⟩
    refine s_X11_spreads_38_0 (d := d) gR ht (by rw [n1]; exact nI_le (by omega) (by omega)) ?_
    rw [nI_1]
    exact K _ _ _
  | succ m ih =>
    intro k g N Q par mv dep hm hg hi hs hB
    have gR : g.2.2 = xm_R0 t := by rw [hg.1]; exact hR
    have hM' := hM
    obtain ⟨m1, m2, m3, m4, m5⟩ := hM
    obtain ⟨n1, n2, n3⟩ := m5 g hg.agr
    have hB' := hB
    obtain ⟨b1, b2, b3, b4, b5⟩ := hB
    have hk : k < C := by omega
    have hKs : st_K s := by rw [← hs]; exact b2 i hi
    have hc0 : ¬ (F_X11_choices g t ≤ nI k) := by rw [n1]; exact nI_ge hk (by omega)
    have gd := (n2 k hk).1
    have ec := n3 s k hKs hk
    have hN := md_len b2 b1.2.2.2.1
    cases hn : nx k s with
    | none =>
      rw [hn] at ec
      have hn' : nx k (Q i) = none := by rw [hs]; exact hn
      obtain ⟨g', N', Q', par', mv', dep', r1, r2, r3, r4⟩ := ih (k + 1) g N Q par mv dep (by omega) hg hi hs ⟨b1.skip hn', b2, b3, b4, b5⟩
      refine ⟨g', N', Q', par', mv', dep', r1, r2, r3, fun ro ho K l5 => s_X11_spreads_38_1 (d := d) gR ht hc0 gd.1 gd.2 ec ?_⟩
      rw [nI_1]
      exact r4 ro ho K _
    | some s' =>
      rw [hn] at ec
      have ec' : F_X11_chosen g t (st_M s) (nI k) = st_M s' := ec
      have hn' : nx k (Q i) = some s' := by rw [hs]; exact hn
      have hK' := m2 s k s' hKs hn
      have c3 : ¬ (F_X11_chosen g t (st_M s) (nI k) = (-1 : Int32)) := by rw [ec']; exact st_M_n1 hK'
      have c4 : ¬ (F_X11_chosen g t (st_M s) (nI k) < 0 ∨ 120050 ≤ (F_X11_chosen g t (st_M s) (nI k)).toNatClampNeg) := by rw [ec']; exact mdn_in hK'
      have ecl := mdn_cl hK'
      rcases b5 s' hK' with ⟨z, j, hj, hjs⟩ | ⟨z, hne⟩
      · obtain ⟨g', N', Q', par', mv', dep', r1, r2, r3, r4⟩ := ih (k + 1) g N Q par mv dep (by omega) hg hi hs ⟨b1.seen hn' hj hjs, b2, b3, b4, b5⟩
        refine ⟨g', N', Q', par', mv', dep', r1, r2, r3, fun ro ho K l5 => s_X11_spreads_38_3 (d := d) gR ht hc0 gd.1 gd.2 c3 c4 (by rw [ec', ecl, z]; decide) ?_⟩
        rw [nI_1]
        exact r4 ro ho K _
      · have hlen : N + 1 ≤ 120050 := md_len (N := N + 1) (Q := fu Q N s') (fun j hj => by
          by_cases jN : j = N
          · rw [jN, fu_a]; exact hK'
          · rw [fu_k jN]; exact b2 j (by omega)) (fun a b ha hb hab => by
          by_cases aN : a = N
          · by_cases bN : b = N
            · omega
            · rw [aN, fu_a, fu_k bN] at hab
              exact absurd hab.symm (hne b (by omega))
          · by_cases bN : b = N
            · rw [bN, fu_a, fu_k aN] at hab
              exact absurd hab (hne a (by omega))
            · rw [fu_k aN, fu_k bN] at hab
              exact b1.2.2.2.1 a b (by omega) (by omega) hab)
        have e23 : (xm_si g 89 (mdn s') (0 : Int32)).1 82 23 = nI N := by rw [xm_rn (by decide)]; exact b3
        obtain ⟨g', N', Q', par', mv', dep', r1, r2, r3, r4⟩ := ih (k + 1) (xm_si (xm_si (xm_si g 89 (mdn s') (0 : Int32)) 91 N (st_M s')) 82 23 (nI (N + 1))) (N + 1) (fu Q N s') (fu par N i) (fu mv N k) (fu dep N (dep i + 1)) (by omega) ⟨hg.1, fun q h1 h2 h3 => by rw [xm_rn h1, xm_rn h3, xm_rn h2]; exact hg.2.1 q h1 h2 h3, fun x hx => by rw [xm_rk hx, xm_rn (by decide), xm_rn (by decide)]; exact hg.2.2 x hx⟩ (by omega) (by rw [fu_k (by omega)]; exact hs) (by
          refine ⟨b1.add hn' hi (by omega) hne, fun j hj => ?_, xm_ra, fun j hj => ?_, fun s2 hs2 => ?_⟩
          · by_cases jN : j = N
            · rw [jN, fu_a]; exact hK'
            · rw [fu_k jN]; exact b2 j (by omega)
          · rw [xm_rn (by decide), xm_rf, xm_rn (by decide)]
            by_cases jN : j = N
            · rw [jN, fu_a, fu_a]
            · rw [fu_k jN, fu_k jN]; exact b4 j (by omega)
          · rw [xm_rn (by decide), xm_rn (by decide), xm_rf]
            by_cases e : mdn s2 = mdn s'
            · rw [e, fu_a]
              exact Or.inl ⟨rfl, N, by omega, by rw [fu_a]; exact (mdn_inj hs2 hK' e).symm⟩
            · rw [fu_k e]
              rcases b5 s2 hs2 with ⟨z2, j, hj, hjs⟩ | ⟨z2, hne2⟩
              · exact Or.inl ⟨z2, j, by omega, by rw [fu_k (by omega)]; exact hjs⟩
              · refine Or.inr ⟨z2, fun j hj hjs => ?_⟩
                by_cases jN : j = N
                · rw [jN, fu_a] at hjs
                  exact e (by rw [hjs])
                · rw [fu_k jN] at hjs
                  exact hne2 j (by omega) hjs)
        refine ⟨g', N', Q', par', mv', dep', r1, r2, r3, fun ro ho K l5 => s_X11_spreads_38_2 (d := d) gR ht hc0 gd.1 gd.2 c3 c4 (by rw [ec', ecl, z]; decide) (by rw [ec', ecl, e23]; exact nI_in (by omega) (by decide)) ?_⟩
        rw [ec', ecl, e23, nI_clamp (show N < 2 ^ 31 by omega), xm_rn (p := 91) (q := 82) (by decide), e23, nI_1, nI_1]
        exact r4 ro ho K _
theorem sp_outer {h : xm_H} {l1 : Int32} (ht : t = 5 ∨ t = 13) (hR : h.2.2 = xm_R0 t) (hM : MD t C nx c h) : ∀ m i (g : xm_H) (N : Nat) (Q : Nat → St) (par mv dep : Nat → Nat), m + i = 120050 → spF g h → i ≤ N → RB nx s0 i 0 N Q par mv dep g.1 → ∃ (g' : xm_H) (N' : Nat) (Q' : Nat → St) (par' mv' dep' : Nat → Nat), spF g' h ∧ RB nx s0 N' 0 N' Q' par' mv' dep' g'.1 ∧ ∀ ro ho, (∀ l3 l4 l5, xm_E (xm_X0 L xs) xm_P (d + 7) co_X11_spreads 80 [some (.ref 82), some (.int l1), some (.int 1), l3, l4, l5] [] g' ro ho) → ∀ l3 l4 l5, xm_E (xm_X0 L xs) xm_P (d + 7) co_X11_spreads 27 [some (.ref 82), some (.int l1), some (.int (nI i)), l3, l4, l5] [] g ro ho := by
  intro m
  induction m with
  | zero =>
    intro i g N Q par mv dep hm hg hi hB
    have hN := md_len hB.2.1 hB.1.2.2.2.1
    have hiN : i = N := by omega
    subst hiN
    exact ⟨g, i, Q, par, mv, dep, hg, hB, fun ro ho K l3 l4 l5 => s_X11_spreads_27_0 (d := d) (by rw [hB.2.2.1]; exact nI_le (Nat.le_refl _) (by omega)) (K _ _ _)⟩
  | succ m ih =>
    intro i g N Q par mv dep hm hg hi hB
    have hN := md_len hB.2.1 hB.1.2.2.2.1
    by_cases hiN : i = N
    · subst hiN
      exact ⟨g, i, Q, par, mv, dep, hg, hB, fun ro ho K l3 l4 l5 => s_X11_spreads_27_0 (d := d) (by rw [hB.2.2.1]; exact nI_le (Nat.le_refl _) (by omega)) (K _ _ _)⟩
    · obtain ⟨g1, N1, Q1, par1, mv1, dep1, a1, a2, a3, a4⟩ := sp_inner (L := L) (xs := xs) (d := d) (l1 := l1) ht hR hM i (Q i) C 0 g N Q par mv dep rfl hg (by omega) rfl hB
      obtain ⟨g', N', Q', par', mv', dep', r1, r2, r3⟩ := ih (i + 1) g1 N1 Q1 par1 mv1 dep1 (by omega) a1 (by omega) a3
      refine ⟨g', N', Q', par', mv', dep', r1, r2, fun ro ho K l3 l4 l5 => s_X11_spreads_27_1 (d := d) (by rw [hg.1]; exact hR) ht (by rw [hB.2.2.1]; exact nI_ge (by omega) (by omega)) (nI_in (by omega) (by decide)) ?_⟩
      rw [nI_clamp (by omega), hB.2.2.2.1 i (by omega)]
      exact a4 ro ho (r3 ro ho K) _
theorem sp_begin {h : xm_H} (ht : t = 5 ∨ t = 13) (hR : h.2.2 = xm_R0 t) (hK0 : st_K s0) : ∃ g, spF g h ∧ RB nx s0 0 0 1 (fun _ => s0) (fun _ => 0) (fun _ => 0) (fun _ => 0) g.1 ∧ ∀ ro ho, (∀ l3 l4 l5, xm_E (xm_X0 L xs) xm_P (d + 7) co_X11_spreads 27 [some (.ref 82), some (.int (st_M s0)), some (.int (nI 0)), l3, l4, l5] [] g ro ho) → xm_E (xm_X0 L xs) xm_P (d + 7) co_X11_spreads 0 [some (.ref 82), some (.int (st_M s0)), none, none, none, none] [] h ro ho := by
  have loop : ∀ m i (g : xm_H), m + i = 120050 → g.2 = h.2 → (∀ q, q ≠ 89 → g.1 q = h.1 q) → (∀ x, x < i → g.1 89 x = nI 1000000000) → ∃ g', g'.2 = h.2 ∧ (∀ q, q ≠ 89 → g'.1 q = h.1 q) ∧ (∀ x, x < 120050 → g'.1 89 x = nI 1000000000) ∧ ∀ ro ho, xm_E (xm_X0 L xs) xm_P (d + 7) co_X11_spreads 2 [some (.ref 82), some (.int (st_M s0)), some (.int (nI 120050)), none, none, none] [] g' ro ho → xm_E (xm_X0 L xs) xm_P (d + 7) co_X11_spreads 2 [some (.ref 82), some (.int (st_M s0)), some (.int (nI i)), none, none, none] [] g ro ho := by
    intro m
    induction m with
    | zero =>
      intro i g hm g2 gq gz
      have hi : i = 120050 := by omega
      subst hi
      exact ⟨g, g2, gq, gz, fun _ _ K => K⟩
    | succ m ih =>
      intro i g hm g2 gq gz
      obtain ⟨g', r1, r2, r3, r4⟩ := ih (i + 1) (xm_si g 89 i (nI 1000000000)) (by omega) g2 (fun q hq => by rw [xm_rn hq]; exact gq q hq) (fun x hx => by
        by_cases e : x = i
        · rw [e, xm_ra]
        · rw [xm_rk e]; exact gz x (by omega))
      refine ⟨g', r1, r2, r3, fun ro ho K => s_X11_spreads_2_1 (d := d) (by rw [g2]; exact hR) ht (nI_ge (b := 120050) (by omega) (by decide)) (nI_in (by omega) (by decide)) ?_⟩
      rw [nI_clamp (by omega), nI_1]
      exact r4 ro ho K
  obtain ⟨g, r1, r2, r3, r4⟩ := loop 120050 0 h rfl rfl (fun _ _ => rfl) (fun x hx => absurd hx (Nat.not_lt_zero _))
  have hlt := mdn_lt hK0
  refine ⟨xm_si (xm_si (xm_si g 89 (mdn s0) (0 : Int32)) 91 0 (st_M s0)) 82 23 (1 : Int32), ⟨r1, fun q h1 h2 h3 => by rw [xm_rn h1, xm_rn h3, xm_rn h2, r2 q h2], fun x hx => by rw [xm_rk hx, xm_rn (by decide), xm_rn (by decide), r2 82 (by decide)]⟩, ⟨PB.start, fun _ _ => hK0, xm_ra, fun j hj => ?_, fun s hs => ?_⟩, fun ro ho K => ?_⟩
  · have : j = 0 := by omega
    rw [this, xm_rn (by decide), xm_ra]
  · rw [xm_rn (by decide), xm_rn (by decide), xm_rf]
    by_cases e : mdn s = mdn s0
    · rw [e, fu_a]
      exact Or.inl ⟨rfl, 0, by omega, (mdn_inj hs hK0 e).symm⟩
    · rw [fu_k e]
      exact Or.inr ⟨r3 _ (mdn_lt hs), fun j _ hjs => e (congrArg mdn hjs).symm⟩
  · refine s_X11_spreads_0_0 (d := d) (r4 ro ho ?_)
    refine s_X11_spreads_2_0 (d := d) (by rw [r1]; exact hR) ht (by decide) (mdn_in hK0) ?_
    rw [mdn_cl hK0]
    exact K _ _ _
end OPS
