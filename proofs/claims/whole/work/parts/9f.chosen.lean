/-! The first of the nearest ways, as the reference walks it. -/
def fr90 (g h : xm_H) : Prop := g.2 = h.2 ∧ ∀ q, q ≠ 90 → g.1 q = h.1 q
theorem fr90.tr {a b e : xm_H} (h1 : fr90 a b) (h2 : fr90 b e) : fr90 a e := ⟨h1.1.trans h2.1, fun q hq => (h1.2 q hq).trans (h2.2 q hq)⟩
theorem fr90.agr {g h : xm_H} (a : fr90 g h) : agr g h := ⟨a.2 83 (by decide), fun j _ => by rw [a.2 82 (by decide)]⟩
theorem fr90.put {g h : xm_H} (a : fr90 g h) {x : Nat} {v : Int32} : fr90 (xm_si g 90 x v) h := ⟨a.1, fun q hq => by rw [xm_rn hq]; exact a.2 q hq⟩
theorem fr90.rq {g h : xm_H} {N : Nat} {Q : Nat → St} {F : Nat → Nat} (a : fr90 g h) (hQ : RQ N Q F h.1) : RQ N Q F g.1 := ⟨by rw [a.2 82 (by decide)]; exact hQ.1, fun j hj => by rw [a.2 91 (by decide)]; exact hQ.2.1 j hj, fun j hj => by rw [a.2 89 (by decide)]; exact hQ.2.2 j hj⟩
def LF (N : Nat) (Q : Nat → St) (LD : Nat → Bool) (f : Nat → Nat → Int32) : Prop := ∀ j, j < N → f 90 (mdn (Q j)) = bI (LD j)
theorem bI_ne {b : Bool} (h : b = true) : ¬ bI b = 0 := by rw [h]; exact one_ne0
theorem bI_z {b : Bool} (h : b = false) : bI b = 0 := by rw [h]; rfl
theorem LF.put {g : xm_H} {N : Nat} {Q : Nat → St} {LD : Nat → Bool} (hK : ∀ j, j < N → st_K (Q j)) (hi : ∀ a b, a < N → b < N → Q a = Q b → a = b) (h : LF N Q LD g.1) {i : Nat} {b : Bool} (hiN : i < N) : LF N Q (fu LD i b) (xm_si g 90 (mdn (Q i)) (bI b)).1 := by
  intro j hj
  rw [xm_rf]
  by_cases e : j = i
  · rw [e, fu_a, fu_a]
  · rw [fu_k e, fu_k (fun q => e (hi j i hj hiN (mdn_inj (hK j hj) (hK i hiN) q)))]
    exact h j hj
section OPS
variable {L : Nat} {xs : Nat → Int32} {d : Nat} {nx : Nat → St → Option St} {c : Nat → Nat} {s0 : St} {t C N : Nat} {Q : Nat → St} {par mv dep F : Nat → Nat} {W : St → Bool} {en : Nat}
theorem ld_by {g : xm_H} {LD : Nat → Bool} (hM : MD t C nx c g) (hB : BF nx s0 N Q par mv dep) (hK : ∀ j, j < N → st_K (Q j)) (hQ : RQ N Q F g.1) (hb : ∀ j, j < N → F j < 100000000) (hL : LF N Q LD g.1) {j k : Nat} (hj : j < N) (hk : k < C) : (F_X11_leadsBy g t (st_M (Q j)) (nI k) = 0 ∧ ∀ x, x < N → nx k (Q j) = some (Q x) → F x = F j + c k → LD x = false) ∨ (F_X11_leadsBy g t (st_M (Q j)) (nI k) = 1 ∧ ∃ x, x < N ∧ nx k (Q j) = some (Q x) ∧ F x = F j + c k ∧ LD x = true) := by
  obtain ⟨m1, m2, m3, m4, m5⟩ := hM
  obtain ⟨n1, n2, n3⟩ := m5 g ⟨rfl, fun _ _ => rfl⟩
  have mc := m4 k hk
  unfold F_X11_leadsBy
  rw [n3 (Q j) k (hK j hj) hk, (n2 k hk).2, mdn_cl (hK j hj), hQ.2.2 j hj, nI_add]
  cases hn : nx k (Q j) with
  | none =>
    left
    refine ⟨if_pos rfl, fun x _ e => ?_⟩
    cases e
  | some s' =>
    obtain ⟨x, x1, x2, -⟩ := hB.edge hj (by omega) hn
    have hx := hb x x1
    have hj' := hb j hj
    have eo : opM (some s') = st_M (Q x) := by rw [x2]; rfl
    have ne : ¬ st_M (Q x) = -1 := n1_ne (Nat.lt_trans (mdn_lt (hK x x1)) (by decide))
    rw [eo, if_neg ne, mdn_cl (hK x x1), hQ.2.2 x x1, hL x x1]
    have un : ∀ y, y < N → some s' = some (Q y) → y = x := fun y hy e => hB.2.2.2.1 y x hy x1 ((Option.some.inj e).symm.trans x2.symm)
    by_cases q : F x = F j + c k
    · rw [if_pos (by rw [q])]
      cases hl : LD x with
      | false =>
        left
        refine ⟨if_pos rfl, fun y hy e _ => ?_⟩
        rw [un y hy e]
        exact hl
      | true =>
        right
        exact ⟨if_neg (by decide), x, x1, by rw [x2], q, hl⟩
    · left
      rw [if_neg (fun e => q ((nI_eq (by omega) (by omega)).mp e))]
      refine ⟨rfl, fun y hy e hf => ?_⟩
      rw [un y hy e] at hf
      exact absurd hf q
theorem ld_gd {g : xm_H} (hM : MD t C nx c g) (hB : BF nx s0 N Q par mv dep) (hK : ∀ j, j < N → st_K (Q j)) {j k : Nat} (hj : j < N) (hk : k < C) : ¬ (F_X11_chosen g t (st_M (Q j)) (nI k)) = (-1 : Int32) → ¬ ((F_X11_chosen g t (st_M (Q j)) (nI k)) < 0 ∨ 120050 ≤ (F_X11_chosen g t (st_M (Q j)) (nI k)).toNatClampNeg) := by
  obtain ⟨m1, m2, m3, m4, m5⟩ := hM
  obtain ⟨n1, n2, n3⟩ := m5 g ⟨rfl, fun _ _ => rfl⟩
  rw [n3 (Q j) k (hK j hj) hk]
  intro hne
  cases hn : nx k (Q j) with
  | none => rw [hn] at hne; exact absurd rfl hne
  | some s' => exact mdn_in (m2 _ _ _ (hK j hj) hn)
theorem v_leadsOn {g : xm_H} {LD : Nat → Bool} (ht : t = 5 ∨ t = 13) (hR : g.2.2 = xm_R0 t) (hM : MD t C nx c g) (hB : BF nx s0 N Q par mv dep) (hK : ∀ j, j < N → st_K (Q j)) (hQ : RQ N Q F g.1) (hb : ∀ j, j < N → F j < 100000000) (hL : LF N Q LD g.1) {j : Nat} (hj : j < N) : ∃ b, xm_V (xm_X0 L xs) xm_P (d + 8) 270 [.ref 82, .int (st_M (Q j))] g (some (.int (bI b))) g ∧ (b = true → ∃ k x, k < C ∧ x < N ∧ nx k (Q j) = some (Q x) ∧ F x = F j + c k ∧ LD x = true) ∧ (b = false → ∀ k x, k < C → x < N → nx k (Q j) = some (Q x) → F x = F j + c k → LD x = false) := by
  have hM' := hM
  obtain ⟨m1, m2, m3, m4, m5⟩ := hM'
  obtain ⟨n1, n2, n3⟩ := m5 g ⟨rfl, fun _ _ => rfl⟩
  have loop : ∀ m k, m + k = C → (∀ k' x, k' < k → x < N → nx k' (Q j) = some (Q x) → F x = F j + c k' → LD x = false) → ∃ b, xm_E (xm_X0 L xs) xm_P (d + 7) co_X11_leadsOn 2 [some (.ref 82), some (.int (st_M (Q j))), some (.int (nI k))] [] g (some (.int (bI b))) g ∧ (b = true → ∃ k x, k < C ∧ x < N ∧ nx k (Q j) = some (Q x) ∧ F x = F j + c k ∧ LD x = true) ∧ (b = false → ∀ k x, k < C → x < N → nx k (Q j) = some (Q x) → F x = F j + c k → LD x = false) := by
    intro m
    induction m with
    | zero =>
      intro k hm hno
      have hk : k = C := by omega
      subst hk
      exact ⟨false, s_X11_leadsOn_2_0 (d := d) hR ht (by rw [n1]; exact nI_le (Nat.le_refl _) (by omega)), fun q => (by cases q), fun _ => hno⟩
    | succ m ih =>
      intro k hm hno
      have hk : k < C := by omega
      have c0 : ¬ (F_X11_choices g t ≤ nI k) := by rw [n1]; exact nI_ge hk (by omega)
      obtain ⟨gd1, gd2⟩ := (n2 k hk).1
      have gd3 := ld_gd hM hB hK hj hk
      rcases ld_by hM hB hK hQ hb hL hj hk with ⟨a1, a2⟩ | ⟨a1, x, a2, a3, a4, a5⟩
      · obtain ⟨b, E, r⟩ := ih (k + 1) (by omega) (fun k' x hk' hx => by
          by_cases e : k' = k
          · rw [e]; exact a2 x hx
          · exact hno k' x (by omega) hx)
        rw [← nI_1] at E
        exact ⟨b, s_X11_leadsOn_2_1 (d := d) hR ht c0 gd1 gd2 gd3 (fun _ => mdn_in (hK j hj)) (fun a _ => gd3 a) a1 E, r⟩
      · exact ⟨true, s_X11_leadsOn_2_2 (d := d) hR ht c0 gd1 gd2 gd3 (fun _ => mdn_in (hK j hj)) (fun a _ => gd3 a) (by rw [a1]; exact one_ne0), fun _ => ⟨k, x, hk, a2, a3, a4, a5⟩, fun q => by cases q⟩
  obtain ⟨b, E, r⟩ := loop C 0 rfl (fun k' x hk' => absurd hk' (Nat.not_lt_zero _))
  exact ⟨b, v_X11_leadsOn (d := d + 7) (s_X11_leadsOn_0_0 (d := d) E), r⟩
theorem r_walk {h : xm_H} {LD : Nat → Bool} {l3 : Int32} {e : Nat} (ht : t = 5 ∨ t = 13) (hR : h.2.2 = xm_R0 t) (hM : MD t C nx c h) (hB : BF nx s0 N Q par mv dep) (hK : ∀ j, j < N → st_K (Q j)) (hQ : RQ N Q F h.1) (hF : PF nx c s0 N Q F) (hb : ∀ j, j < N → F j < 100000000) (hL : LF N Q LD h.1) (hen : en < 100000000) (hmin : ∀ y, y < N → W (Q y) = true → en ≤ F y) (hLD : ∀ j, j < N → (LD j = true ↔ LDs nx c (fun s => W s = true) Q F en j)) (he : e < 2147483648) : ∀ n a j, a + n = e → j < N → LDs nx c (fun s => W s = true) Q F en j → ∃ r, GA nx c (fun s => W s = true) N Q F en n j r ∧ ∀ l6, xm_E (xm_X0 L xs) xm_P (d + 8) co_X11_chosenAt 101 [some (.ref 82), some (.int (nI e)), some (.int (nI en)), some (.int l3), some (.int (st_M (Q j))), some (.int (nI a)), l6] [] h (some (.int r)) h := by
  have hM' := hM
  obtain ⟨m1, m2, m3, m4, m5⟩ := hM'
  obtain ⟨n1, n2, n3⟩ := m5 h ⟨rfl, fun _ _ => rfl⟩
  have one : ∀ j, j < N → LDs nx c (fun s => W s = true) Q F en j → F j < en → ∃ k x, k < C ∧ LEg nx c (fun s => W s = true) N Q F en j k x ∧ (∀ k', k' < k → ∀ x', ¬ LEg nx c (fun s => W s = true) N Q F en j k' x') := by
    intro j hj hl hlt
    have ex : ∃ k x, LEg nx c (fun s => W s = true) N Q F en j k x ∧ k < 10 := by
      obtain ⟨n, m, w, w1, w2, w3⟩ := hl
      cases n with
      | zero => have := w1.1; omega
      | succ n =>
        obtain ⟨k, u, b, h1, h2, h3, h4⟩ := w1
        obtain ⟨x, x1, x2, -⟩ := hB.edge hj h1 h2
        rw [← x2] at h2 h3
        have f1 := hF.2.1 j k x hj h1 x1 h2
        obtain ⟨z, z1, z2⟩ := hB.reach n x b w x1 h3
        have h3' := h3
        rw [← z2] at h3' w2
        have f2 := hB.pot hF.2.1 n x b z x1 z1 h3'
        have f3 := hmin z z1 w2
        rw [z2] at w2
        exact ⟨k, x, ⟨x1, h2, by omega, n, b, w, h3, w2, by omega⟩, h1⟩
    obtain ⟨k, x, hk, hk10⟩ := ex
    obtain ⟨k0, ⟨k1, x0, k2⟩, k3⟩ := least_of (p := fun k => k < 10 ∧ ∃ x, LEg nx c (fun s => W s = true) N Q F en j k x) k ⟨hk10, x, hk⟩
    refine ⟨k0, x0, ?_, k2, fun k' hk' x' q => ?_⟩
    · by_cases q : k0 < C
      · exact q
      · have := m3 (Q j) k0 (by omega) k1
        rw [k2.2.1] at this
        cases this
    · have := k3 k' ⟨by omega, x', q⟩
      omega
  intro n
  induction n with
  | zero =>
    intro a j ha hj hl
    have ej : h.1 89 (st_M (Q j)).toNatClampNeg = nI (F j) := by rw [mdn_cl (hK j hj), hQ.2.2 j hj]
    have hle : F j ≤ en := by
      obtain ⟨n, m, w, w1, w2, w3⟩ := hl
      omega
    by_cases q : F j = en
    · exact ⟨-1, Or.inl ⟨q, rfl⟩, fun l6 => s_X11_chosenAt_101_0 (d := d + 1) hR ht (mdn_in (hK j hj)) (by rw [ej, q]; exact nI_le (Nat.le_refl _) (by omega))⟩
    · obtain ⟨k0, x0, k1, k2, k3⟩ := one j hj hl (by omega)
      have lp : ∀ m k, m + k = k0 → xm_E (xm_X0 L xs) xm_P (d + 8) co_X11_chosenAt 109 [some (.ref 82), some (.int (nI e)), some (.int (nI en)), some (.int l3), some (.int (st_M (Q j))), some (.int (nI a)), some (.int (nI k))] [] h (some (.int (nI k0))) h := by
        intro m
        induction m with
        | zero =>
          intro k hm
          have ek : k = k0 := by omega
          subst ek
          have gd3 := ld_gd hM hB hK hj k1
          have lb : F_X11_leadsBy h t (st_M (Q j)) (nI k) = 1 := by
            rcases ld_by hM hB hK hQ hb hL hj k1 with ⟨a1, a2⟩ | ⟨a1, -⟩
            · have := a2 x0 k2.1 k2.2.1 k2.2.2.1
              rw [(hLD x0 k2.1).mpr k2.2.2.2] at this
              cases this
            · exact a1
          exact s_X11_chosenAt_109_1 (d := d + 1) hR ht (n2 k k1).1.1 (n2 k k1).1.2 gd3 (fun _ => mdn_in (hK j hj)) (fun a _ => gd3 a) (by rw [lb]; exact one_ne0) (by rw [show a = e by omega])
        | succ m ih =>
          intro k hm
          have hk : k < C := by omega
          have gd3 := ld_gd hM hB hK hj hk
          have lb : F_X11_leadsBy h t (st_M (Q j)) (nI k) = 0 := by
            rcases ld_by hM hB hK hQ hb hL hj hk with ⟨a1, -⟩ | ⟨-, x, a2, a3, a4, a5⟩
            · exact a1
            · exact absurd ⟨a2, a3, a4, (hLD x a2).mp a5⟩ (k3 k (by omega) x)
          have E := ih (k + 1) (by omega)
          rw [← nI_1] at E
          exact s_X11_chosenAt_109_0 (d := d + 1) hR ht (n2 k hk).1.1 (n2 k hk).1.2 gd3 (fun _ => mdn_in (hK j hj)) (fun a _ => gd3 a) lb E
      exact ⟨nI k0, Or.inr ⟨by omega, k0, x0, by omega, k2, k3, rfl⟩, fun l6 => s_X11_chosenAt_101_1 (d := d + 1) hR ht (mdn_in (hK j hj)) (by rw [ej]; exact nI_ge (by omega) (by omega)) (lp k0 0 rfl)⟩
  | succ n ihn =>
    intro a j ha hj hl
    have ej : h.1 89 (st_M (Q j)).toNatClampNeg = nI (F j) := by rw [mdn_cl (hK j hj), hQ.2.2 j hj]
    have hle : F j ≤ en := by
      obtain ⟨n, m, w, w1, w2, w3⟩ := hl
      omega
    by_cases q : F j = en
    · exact ⟨-1, Or.inl ⟨q, rfl⟩, fun l6 => s_X11_chosenAt_101_0 (d := d + 1) hR ht (mdn_in (hK j hj)) (by rw [ej, q]; exact nI_le (Nat.le_refl _) (by omega))⟩
    · obtain ⟨k0, x0, k1, k2, k3⟩ := one j hj hl (by omega)
      obtain ⟨r, hga, Er⟩ := ihn (a + 1) x0 (by omega) k2.1 k2.2.2.2
      rw [← nI_1] at Er
      have lp : ∀ m k, m + k = k0 → xm_E (xm_X0 L xs) xm_P (d + 8) co_X11_chosenAt 109 [some (.ref 82), some (.int (nI e)), some (.int (nI en)), some (.int l3), some (.int (st_M (Q j))), some (.int (nI a)), some (.int (nI k))] [] h (some (.int r)) h := by
        intro m
        induction m with
        | zero =>
          intro k hm
          have ek : k = k0 := by omega
          subst ek
          have gd3 := ld_gd hM hB hK hj k1
          have lb : F_X11_leadsBy h t (st_M (Q j)) (nI k) = 1 := by
            rcases ld_by hM hB hK hQ hb hL hj k1 with ⟨a1, a2⟩ | ⟨a1, -⟩
            · have := a2 x0 k2.1 k2.2.1 k2.2.2.1
              rw [(hLD x0 k2.1).mpr k2.2.2.2] at this
              cases this
            · exact a1
          refine s_X11_chosenAt_109_2 (d := d + 1) hR ht (n2 k k1).1.1 (n2 k k1).1.2 gd3 (fun _ => mdn_in (hK j hj)) (fun a _ => gd3 a) (by rw [lb]; exact one_ne0) (fun q => by
            have := (nI_eq (by omega) (by omega)).mp q
            omega) ?_
          rw [n3 (Q j) k (hK j hj) k1, k2.2.1]
          exact Er _
        | succ m ih =>
          intro k hm
          have hk : k < C := by omega
          have gd3 := ld_gd hM hB hK hj hk
          have lb : F_X11_leadsBy h t (st_M (Q j)) (nI k) = 0 := by
            rcases ld_by hM hB hK hQ hb hL hj hk with ⟨a1, -⟩ | ⟨-, x, a2, a3, a4, a5⟩
            · exact a1
            · exact absurd ⟨a2, a3, a4, (hLD x a2).mp a5⟩ (k3 k (by omega) x)
          have E := ih (k + 1) (by omega)
          rw [← nI_1] at E
          exact s_X11_chosenAt_109_0 (d := d + 1) hR ht (n2 k hk).1.1 (n2 k hk).1.2 gd3 (fun _ => mdn_in (hK j hj)) (fun a _ => gd3 a) lb E
      exact ⟨r, Or.inr ⟨by omega, k0, x0, by omega, k2, k3, hga⟩, fun l6 => s_X11_chosenAt_101_1 (d := d + 1) hR ht (mdn_in (hK j hj)) (by rw [ej]; exact nI_ge (by omega) (by omega)) (lp k0 0 rfl)⟩
/-- nothing more leads on from j -/
def fxl (nx : Nat → St → Option St) (c : Nat → Nat) (C N : Nat) (Q : Nat → St) (F : Nat → Nat) (en : Nat) (LD : Nat → Bool) (j : Nat) : Prop := LD j = false → F j < en → ∀ k x, k < C → x < N → nx k (Q j) = some (Q x) → F x = F j + c k → LD x = false
theorem r_pass {h : xm_H} {l1 : Int32} {LDa : Nat → Bool} (ht : t = 5 ∨ t = 13) (hR : h.2.2 = xm_R0 t) (hM : MD t C nx c h) (hB : BF nx s0 N Q par mv dep) (hK : ∀ j, j < N → st_K (Q j)) (hQ : RQ N Q F h.1) (hb : ∀ j, j < N → F j < 100000000) (hen : en < 100000000) : ∀ m i (g : xm_H) (LD : Nat → Bool) (b : Bool), m + i = N → fr90 g h → LF N Q LD g.1 → (∀ j, j < N → LD j = true → LDs nx c (fun s => W s = true) Q F en j) → (∀ j, LDa j = true → LD j = true) → (b = false → LD = LDa ∧ ∀ j, j < i → fxl nx c C N Q F en LDa j) → (b = true → ∃ y, y < N ∧ LD y = true ∧ LDa y = false) → ∃ (g' : xm_H) (LD' : Nat → Bool) (b' : Bool), fr90 g' h ∧ LF N Q LD' g'.1 ∧ (∀ j, j < N → LD' j = true → LDs nx c (fun s => W s = true) Q F en j) ∧ (∀ j, LDa j = true → LD' j = true) ∧ (b' = false → LD' = LDa ∧ ∀ j, j < N → fxl nx c C N Q F en LDa j) ∧ (b' = true → ∃ y, y < N ∧ LD' y = true ∧ LDa y = false) ∧ ∀ ro ho, (∀ l4, xm_E (xm_X0 L xs) xm_P (d + 8) co_X11_chosenAt 46 [some (.ref 82), some (.int l1), some (.int (nI en)), some (.int (bI b')), l4, none, none] [] g' ro ho) → xm_E (xm_X0 L xs) xm_P (d + 8) co_X11_chosenAt 52 [some (.ref 82), some (.int l1), some (.int (nI en)), some (.int (bI b)), some (.int (nI i)), none, none] [] g ro ho := by
  have hN := md_len hK hB.2.2.2.1
  intro m
  induction m with
  | zero =>
    intro i g LD b hm hg hL hs hle h0 h1
    have hi : i = N := by omega
    subst hi
    exact ⟨g, LD, b, hg, hL, hs, hle, h0, h1, fun ro ho K => s_X11_chosenAt_52_0 (d := d + 1) (by rw [(hg.rq hQ).1]; exact nI_le (Nat.le_refl _) (by omega)) (K _)⟩
  | succ m ih =>
    intro i g LD b hm hg hL hs hle h0 h1
    have hi : i < N := by omega
    have gR : g.2.2 = xm_R0 t := by rw [hg.1]; exact hR
    have gQ := hg.rq hQ
    have c0 : ¬ (g.1 82 23 ≤ nI i) := by rw [gQ.1]; exact nI_ge hi (by omega)
    have c1 : ¬ (nI i < 0 ∨ 120050 ≤ (nI i).toNatClampNeg) := nI_in (by omega) (by decide)
    have e91 : g.1 91 (nI i).toNatClampNeg = st_M (Q i) := by rw [nI_clamp (by omega)]; exact gQ.2.1 i hi
    have c2 : ¬ (g.1 91 (nI i).toNatClampNeg < 0 ∨ 120050 ≤ (g.1 91 (nI i).toNatClampNeg).toNatClampNeg) := by rw [e91]; exact mdn_in (hK i hi)
    have e90 : g.1 90 ((g.1 91 (nI i).toNatClampNeg).toNatClampNeg) = bI (LD i) := by rw [e91, mdn_cl (hK i hi)]; exact hL i hi
    have e89 : g.1 89 ((g.1 91 (nI i).toNatClampNeg).toNatClampNeg) = nI (F i) := by rw [e91, mdn_cl (hK i hi)]; exact gQ.2.2 i hi
    have hbi := hb i hi
    have same : (LD = LDa → fxl nx c C N Q F en LDa i) → (∀ ro ho, xm_E (xm_X0 L xs) xm_P (d + 8) co_X11_chosenAt 52 [some (.ref 82), some (.int l1), some (.int (nI en)), some (.int (bI b)), some (.int (nI (i + 1))), none, none] [] g ro ho → xm_E (xm_X0 L xs) xm_P (d + 8) co_X11_chosenAt 52 [some (.ref 82), some (.int l1), some (.int (nI en)), some (.int (bI b)), some (.int (nI i)), none, none] [] g ro ho) → ∃ (g' : xm_H) (LD' : Nat → Bool) (b' : Bool), fr90 g' h ∧ LF N Q LD' g'.1 ∧ (∀ j, j < N → LD' j = true → LDs nx c (fun s => W s = true) Q F en j) ∧ (∀ j, LDa j = true → LD' j = true) ∧ (b' = false → LD' = LDa ∧ ∀ j, j < N → fxl nx c C N Q F en LDa j) ∧ (b' = true → ∃ y, y < N ∧ LD' y = true ∧ LDa y = false) ∧ ∀ ro ho, (∀ l4, xm_E (xm_X0 L xs) xm_P (d + 8) co_X11_chosenAt 46 [some (.ref 82), some (.int l1), some (.int (nI en)), some (.int (bI b')), l4, none, none] [] g' ro ho) → xm_E (xm_X0 L xs) xm_P (d + 8) co_X11_chosenAt 52 [some (.ref 82), some (.int l1), some (.int (nI en)), some (.int (bI b)), some (.int (nI i)), none, none] [] g ro ho := by
      intro hf go
      obtain ⟨g', LD', b', r1, r2, r3, r4, r5, r6, r7⟩ := ih (i + 1) g LD b (by omega) hg hL hs hle (fun q => ⟨(h0 q).1, fun j hj => by
        by_cases e : j = i
        · rw [e]; exact hf (h0 q).1
        · exact (h0 q).2 j (by omega)⟩) h1
      exact ⟨g', LD', b', r1, r2, r3, r4, r5, r6, fun ro ho K => go ro ho (r7 ro ho K)⟩
    cases hl : LD i with
    | true =>
      refine same (fun e q => ?_) (fun ro ho E => ?_)
      · rw [← e, hl] at q; cases q
      · rw [← nI_1] at E
        exact s_X11_chosenAt_52_4 (d := d + 1) gR ht c0 c1 c2 (by rw [e90]; exact bI_ne hl) E
    | false =>
      have c3 : g.1 90 ((g.1 91 (nI i).toNatClampNeg).toNatClampNeg) = 0 := by rw [e90]; exact bI_z hl
      by_cases hf : F i < en
      · have c4 : ¬ (nI en ≤ g.1 89 ((g.1 91 (nI i).toNatClampNeg).toNatClampNeg)) := by rw [e89]; exact nI_ge hf (by omega)
        obtain ⟨r, V, a1, a2⟩ := v_leadsOn (L := L) (xs := xs) (d := d) ht gR (hM.go hg.agr) hB hK gQ hb hL hi
        rw [← e91] at V
        cases hr : r with
        | false =>
          refine same (fun e q qf => ?_) (fun ro ho E => ?_)
          · rw [← e]
            exact a2 hr
          · rw [← nI_1] at E
            exact s_X11_chosenAt_52_2 (d := d + 1) gR ht c0 c1 c2 c3 c4 V (bI_z hr) E
        | true =>
          obtain ⟨k, x, x1, x2, x3, x4, x5⟩ := a1 hr
          have hC := hM.1
          obtain ⟨g', LD', b', r1, r2, r3, r4, r5, r6, r7⟩ := ih (i + 1) (xm_si g 90 (mdn (Q i)) (bI true)) (fu LD i true) true (by omega) hg.put (hL.put hK hB.2.2.2.1 hi) (fun j hj hj1 => by
            by_cases e : j = i
            · rw [e]
              obtain ⟨n, m, w, w1, w2, w3⟩ := hs x x2 x5
              exact ⟨n + 1, c k + m, w, ⟨k, Q x, m, by omega, x3, w1, rfl⟩, w2, by omega⟩
            · rw [fu_k e] at hj1
              exact hs j hj hj1) (fun j hj1 => by
            by_cases e : j = i
            · rw [e, fu_a]
            · rw [fu_k e]; exact hle j hj1) (fun q => by cases q) (fun _ => ⟨i, hi, fu_a, by
            cases hq : LDa i with
            | false => rfl
            | true => rw [hle i hq] at hl; cases hl⟩)
          refine ⟨g', LD', b', r1, r2, r3, r4, r5, r6, fun ro ho K => ?_⟩
          have E := r7 ro ho K
          refine s_X11_chosenAt_52_3 (d := d + 1) gR ht c0 c1 c2 c3 c4 V (bI_ne hr) gR c2 ?_
          rw [e91, mdn_cl (hK i hi), nI_1]
          exact E
      · refine same (fun e q qf => absurd qf hf) (fun ro ho E => ?_)
        rw [← nI_1] at E
        exact s_X11_chosenAt_52_1 (d := d + 1) gR ht c0 c1 c2 c3 (by rw [e89]; exact nI_le (by omega) (by omega)) E
theorem r_leads {h : xm_H} {l1 : Int32} (ht : t = 5 ∨ t = 13) (hR : h.2.2 = xm_R0 t) (hM : MD t C nx c h) (hB : BF nx s0 N Q par mv dep) (hK : ∀ j, j < N → st_K (Q j)) (hQ : RQ N Q F h.1) (hF : PF nx c s0 N Q F) (hb : ∀ j, j < N → F j < 100000000) (hen : en < 100000000) (hmin : ∀ y, y < N → wsh (h.1 83) (Q y) = true → en ≤ F y) : ∃ (g : xm_H) (LD : Nat → Bool), fr90 g h ∧ LF N Q LD g.1 ∧ (∀ j, j < N → (LD j = true ↔ LDs nx c (fun s => wsh (h.1 83) s = true) Q F en j)) ∧ ∀ ro ho, xm_E (xm_X0 L xs) xm_P (d + 8) co_X11_chosenAt 101 [some (.ref 82), some (.int l1), some (.int (nI en)), some (.int (0 : Int32)), some (.int (st_M (Q 0))), some (.int (0 : Int32)), none] [] g ro ho → xm_E (xm_X0 L xs) xm_P (d + 8) co_X11_chosenAt 12 [some (.ref 82), some (.int l1), some (.int (nI en)), some (.int (0 : Int32)), none, none, none] [] h ro ho := by
  have hN := md_len hK hB.2.2.2.1
  have outer : ∀ M (g : xm_H) (LD : Nat → Bool), cq (fun j => !LD j) N = M → fr90 g h → LF N Q LD g.1 → (∀ j, j < N → LD j = true → LDs nx c (fun s => wsh (h.1 83) s = true) Q F en j) → (∀ j, j < N → wsh (h.1 83) (Q j) = true → F j = en → LD j = true) → ∃ (g' : xm_H) (LD' : Nat → Bool), fr90 g' h ∧ LF N Q LD' g'.1 ∧ (∀ j, j < N → (LD' j = true ↔ LDs nx c (fun s => wsh (h.1 83) s = true) Q F en j)) ∧ ∀ ro ho, xm_E (xm_X0 L xs) xm_P (d + 8) co_X11_chosenAt 101 [some (.ref 82), some (.int l1), some (.int (nI en)), some (.int (0 : Int32)), some (.int (st_M (Q 0))), some (.int (0 : Int32)), none] [] g' ro ho → ∀ l4, xm_E (xm_X0 L xs) xm_P (d + 8) co_X11_chosenAt 46 [some (.ref 82), some (.int l1), some (.int (nI en)), some (.int (bI true)), l4, none, none] [] g ro ho := by
    intro M
    induction M using Nat.strongRecOn with
    | _ M ih =>
      intro g LD hm hg hL hs hw
      obtain ⟨g', LD', b', r1, r2, r3, r4, r5, r6, r7⟩ := r_pass (L := L) (xs := xs) (d := d) (l1 := l1) (LDa := LD) (W := wsh (h.1 83)) (en := en) ht hR hM hB hK hQ hb hen N 0 g LD false rfl hg hL hs (fun _ q => q) (fun _ => ⟨rfl, fun j hj => absurd hj (Nat.not_lt_zero _)⟩) (fun q => by cases q)
      cases hb' : b' with
      | false =>
        obtain ⟨eL, fx⟩ := r5 hb'
        subst eL
        refine ⟨g', LD', r1, r2, fun j hj => ⟨hs j hj, fun hl => ?_⟩, fun ro ho K l4 => s_X11_chosenAt_46_1 (d := d + 1) (by decide) (r7 ro ho (fun l4 => ?_))⟩
        · obtain ⟨n, m, w, w1, w2, w3⟩ := hl
          have comp : ∀ n j m w, j < N → wk nx c n (Q j) m w → wsh (h.1 83) w = true → F j + m = en → LD' j = true := by
            intro n
            induction n with
            | zero =>
              intro j m w hj w1 w2 w3
              obtain ⟨rfl, rfl⟩ := w1
              exact hw j hj w2 w3
            | succ n ihn =>
              intro j m w hj w1 w2 w3
              obtain ⟨k, u, b, h1, h2, h3, h4⟩ := w1
              obtain ⟨x, x1, x2, -⟩ := hB.edge hj h1 h2
              rw [← x2] at h2 h3
              have f1 := hF.2.1 j k x hj h1 x1 h2
              obtain ⟨z, z1, z2⟩ := hB.reach n x b w x1 h3
              have h3' := h3
              rw [← z2] at h3'
              have f2 := hB.pot hF.2.1 n x b z x1 z1 h3'
              have f3 := hmin z z1 (by rw [z2]; exact w2)
              have lx1 := ihn x b w x1 h3 w2 (by omega)
              have hkC : k < C := by
                by_cases q : k < C
                · exact q
                · have := hM.2.2.1 (Q j) k (by omega) h1
                  rw [h2] at this
                  cases this
              have ck := (hM.2.2.2.1 k hkC).1
              cases hq : LD' j with
              | true => rfl
              | false =>
                have := fx j hj hq (by omega) k x hkC x1 h2 (by omega)
                rw [lx1] at this
                cases this
          exact comp n j m w hj w1 w2 w3
        · rw [hb']
          refine s_X11_chosenAt_46_0 (d := d + 1) (by rw [r1.1]; exact hR) ht rfl ?_
          rw [(r1.rq hQ).2.1 0 hB.1]
          exact K
      | true =>
        obtain ⟨y, y1, y2, y3⟩ := r6 hb'
        have lt : cq (fun j => !LD' j) N < M := by
          rw [← hm]
          refine cq_lt N (fun x _ q => ?_) y1 (by simp only [y2]; rfl) (by simp only [y3]; rfl)
          cases hq : LD x with
          | false => rfl
          | true =>
            simp only [r4 x hq] at q
            cases q
        obtain ⟨g2, LD2, q1, q2, q3, q4⟩ := ih _ lt g' LD' rfl r1 r2 r3 (fun j hj a b => r4 j (hw j hj a b))
        refine ⟨g2, LD2, q1, q2, q3, fun ro ho K l4 => s_X11_chosenAt_46_1 (d := d + 1) (by decide) (r7 ro ho (fun l4 => ?_))⟩
        rw [hb']
        exact q4 ro ho K l4
  have init : ∀ m i (g : xm_H), m + i = N → fr90 g h → (∀ j, j < i → g.1 90 (mdn (Q j)) = bI (wsh (h.1 83) (Q j) && decide (F j = en))) → ∃ (g' : xm_H), fr90 g' h ∧ LF N Q (fun j => wsh (h.1 83) (Q j) && decide (F j = en)) g'.1 ∧ ∀ ro ho, xm_E (xm_X0 L xs) xm_P (d + 8) co_X11_chosenAt 46 [some (.ref 82), some (.int l1), some (.int (nI en)), some (.int (bI true)), none, none, none] [] g' ro ho → xm_E (xm_X0 L xs) xm_P (d + 8) co_X11_chosenAt 12 [some (.ref 82), some (.int l1), some (.int (nI en)), some (.int (nI i)), none, none, none] [] g ro ho := by
    intro m
    induction m with
    | zero =>
      intro i g hm hg hz
      have hi : i = N := by omega
      subst hi
      exact ⟨g, hg, hz, fun ro ho K => s_X11_chosenAt_12_0 (d := d + 1) (by rw [(hg.rq hQ).1]; exact nI_le (Nat.le_refl _) (by omega)) K⟩
    | succ m ih =>
      intro i g hm hg hz
      have hi : i < N := by omega
      have gR : g.2.2 = xm_R0 t := by rw [hg.1]; exact hR
      have gQ := hg.rq hQ
      have c0 : ¬ (g.1 82 23 ≤ nI i) := by rw [gQ.1]; exact nI_ge hi (by omega)
      have c1 : ¬ (nI i < 0 ∨ 120050 ≤ (nI i).toNatClampNeg) := nI_in (by omega) (by decide)
      have e91 : g.1 91 (nI i).toNatClampNeg = st_M (Q i) := by rw [nI_clamp (by omega)]; exact gQ.2.1 i hi
      have c2 : ¬ (g.1 91 (nI i).toNatClampNeg < 0 ∨ 120050 ≤ (g.1 91 (nI i).toNatClampNeg).toNatClampNeg) := by rw [e91]; exact mdn_in (hK i hi)
      have e89 : g.1 89 ((g.1 91 (nI i).toNatClampNeg).toNatClampNeg) = nI (F i) := by rw [e91, mdn_cl (hK i hi)]; exact gQ.2.2 i hi
      have em := met_m (h := g) (t := t) (hK i hi)
      rw [← e91, hg.2 83 (by decide)] at em
      have hbi := hb i hi
      obtain ⟨g', r1, r2, r3⟩ := ih (i + 1) (xm_si g 90 (mdn (Q i)) (bI (wsh (h.1 83) (Q i) && decide (F i = en)))) (by omega) hg.put (fun j hj => by
        rw [xm_rf]
        by_cases e : j = i
        · rw [e, fu_a]
        · rw [fu_k (fun q => e (hB.2.2.2.1 j i (by omega) hi (mdn_inj (hK j (by omega)) (hK i hi) q)))]
          exact hz j (by omega))
      refine ⟨g', r1, r2, fun ro ho K => ?_⟩
      have E := r3 ro ho K
      rw [← nI_1] at E
      cases hw : wsh (h.1 83) (Q i) with
      | false =>
        rw [hw] at em E
        refine s_X11_chosenAt_12_1 (d := d + 1) gR ht c0 c1 em c2 ?_
        rw [e91, mdn_cl (hK i hi)]
        exact E
      | true =>
        rw [hw] at em E
        have cm : ¬ F_X11_isAsWished g t (g.1 91 (nI i).toNatClampNeg) = 0 := by rw [em]; exact one_ne0
        by_cases q : F i = en
        · rw [decide_eq_true q] at E
          refine s_X11_chosenAt_12_2 (d := d + 1) gR ht c0 c1 cm c2 (by rw [e89, q]) ?_
          rw [e91, mdn_cl (hK i hi)]
          exact E
        · rw [decide_eq_false q] at E
          refine s_X11_chosenAt_12_3 (d := d + 1) gR ht c0 c1 cm c2 (by rw [e89]; exact fun z => q ((nI_eq (by omega) (by omega)).mp z)) ?_
          rw [e91, mdn_cl (hK i hi)]
          exact E
  obtain ⟨g1, a1, a2, a3⟩ := init N 0 h rfl ⟨rfl, fun _ _ => rfl⟩ (fun j hj => absurd hj (Nat.not_lt_zero _))
  obtain ⟨g2, LD, b1, b2, b3, b4⟩ := outer _ g1 _ rfl a1 a2 (fun j hj q => by
    rw [Bool.and_eq_true, decide_eq_true_eq] at q
    exact ⟨0, 0, Q j, ⟨rfl, rfl⟩, q.1, q.2⟩) (fun j hj q1 q2 => by
    rw [Bool.and_eq_true, decide_eq_true_eq]
    exact ⟨q1, q2⟩)
  exact ⟨g2, LD, b1, b2, b3, fun ro ho K => a3 ro ho (b4 ro ho K none)⟩
theorem v_chosenAt {h : xm_H} {l1 : Int32} (ht : t = 5 ∨ t = 13) (hR : h.2.2 = xm_R0 t) (hM : MD t C nx c h) (hS : SR nx c s0 N Q par mv dep F h.1) : ∃ (g : xm_H) (r : Int32), xm_V (xm_X0 L xs) xm_P (d + 9) 269 [.ref 82, .int l1] h (some (.int r)) g ∧ fr90 g h ∧ (((∀ j, j < N → ¬ wsh (h.1 83) (Q j) = true) ∧ r = -1) ∨ (l1 < 0 ∧ r = -1) ∨ (∃ e y, e < 2147483648 ∧ l1 = nI e ∧ y < N ∧ wsh (h.1 83) (Q y) = true ∧ (∀ j, j < N → wsh (h.1 83) (Q j) = true → F y ≤ F j) ∧ GA nx c (fun s => wsh (h.1 83) s = true) N Q F (F y) e 0 r)) := by
  have hS' := hS
  obtain ⟨s1, s2, s3, s4, s5⟩ := hS'
  rcases v_nearest (L := L) (xs := xs) (d := d) ht hR hS with ⟨y, y1, y2, y3, V⟩ | ⟨hno, V⟩
  · have hy := s5 y y1
    have ne : ¬ nI (F y) = (1000000000 : Int32) := fun q => by
      have := (nI_eq (a := F y) (b := 1000000000) (by omega) (by decide)).mp q
      omega
    by_cases q : l1 < 0
    · exact ⟨h, -1, v_X11_chosenAt (d := d + 8) (s_X11_chosenAt_0_2 (d := d + 1) V ne (fun z => absurd q (Int32.not_lt.mpr z))), ⟨rfl, fun _ _ => rfl⟩, Or.inr (Or.inl ⟨q, rfl⟩)⟩
    · obtain ⟨e, he, rfl⟩ := nI_of q
      obtain ⟨g, LD, b1, b2, b3, b4⟩ := r_leads (L := L) (xs := xs) (d := d) (l1 := nI e) (en := F y) ht hR hM s1 s2 s3 s4 s5 hy y3
      have ld0 : LDs nx c (fun s => wsh (h.1 83) s = true) Q F (F y) 0 := by
        obtain ⟨n, hn⟩ := s4.2.2 y y1
        rw [← s1.2.1] at hn
        exact ⟨n, F y, Q y, hn, y2, by rw [s4.1]; omega⟩
      obtain ⟨r, hga, E⟩ := r_walk (L := L) (xs := xs) (d := d) (l3 := 0) (W := wsh (h.1 83)) (en := F y) ht (by rw [b1.1]; exact hR) (hM.go b1.agr) s1 s2 (b1.rq s3) s4 s5 b2 hy y3 b3 he e 0 0 (by omega) s1.1 ld0
      exact ⟨g, r, v_X11_chosenAt (d := d + 8) (s_X11_chosenAt_0_1 (d := d + 1) V ne (Int32.not_lt.mp q) (b4 _ _ (E none))), b1, Or.inr (Or.inr ⟨e, y, he, rfl, y1, y2, y3, hga⟩)⟩
  · exact ⟨h, -1, v_X11_chosenAt (d := d + 8) (s_X11_chosenAt_0_0 (d := d + 1) V rfl), ⟨rfl, fun _ _ => rfl⟩, Or.inl ⟨hno, rfl⟩⟩
end OPS
