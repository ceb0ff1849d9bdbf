/-! The reference's search: how far each state is. -/
def FARN : Nat := 1000000000
def INV (nx : Nat → St → Option St) (c : Nat → Nat) (s0 : St) (N : Nat) (Q : Nat → St) (F : Nat → Nat) : Prop := F 0 = 0 ∧ ∀ j, j < N → F j ≤ 1000000000 ∧ (F j < 1000000000 → ∃ n, wk nx c n s0 (F j) (Q j))
/-- the queue, and far by F -/
def RQ (N : Nat) (Q : Nat → St) (F : Nat → Nat) (f : Nat → Nat → Int32) : Prop := f 82 23 = nI N ∧ (∀ j, j < N → f 91 j = st_M (Q j)) ∧ (∀ j, j < N → f 89 (mdn (Q j)) = nI (F j))
def fr89 (g h : xm_H) : Prop := g.2 = h.2 ∧ ∀ q, q ≠ 89 → g.1 q = h.1 q
theorem fr89.tr {a b e : xm_H} (h1 : fr89 a b) (h2 : fr89 b e) : fr89 a e := ⟨h1.1.trans h2.1, fun q hq => (h1.2 q hq).trans (h2.2 q hq)⟩
theorem fr89.agr {g h : xm_H} (a : fr89 g h) : agr g h := ⟨a.2 83 (by decide), fun j _ => by rw [a.2 82 (by decide)]⟩
theorem fr89.sp {g h : xm_H} (a : fr89 g h) : spF g h := ⟨a.1, fun q _ h2 _ => a.2 q h2, fun x _ => by rw [a.2 82 (by decide)]⟩
section OPS
variable {L : Nat} {xs : Nat → Int32} {d : Nat} {nx : Nat → St → Option St} {c : Nat → Nat} {s0 : St} {t C N : Nat} {Q : Nat → St} {par mv dep : Nat → Nat}
theorem sp_reset {h : xm_H} {l1 : Int32} (ht : t = 5 ∨ t = 13) (hR : h.2.2 = xm_R0 t) (hB : RB nx s0 N 0 N Q par mv dep h.1) : ∃ g, fr89 g h ∧ RQ N Q (fun j => if j = 0 then 0 else 1000000000) g.1 ∧ ∀ ro ho, (∀ l3 l4 l5, xm_E (xm_X0 L xs) xm_P (d + 7) co_X11_spreads 96 [some (.ref 82), some (.int l1), some (.int 1), l3, l4, l5] [] g ro ho) → ∀ l3 l4 l5, xm_E (xm_X0 L xs) xm_P (d + 7) co_X11_spreads 80 [some (.ref 82), some (.int l1), some (.int 1), l3, l4, l5] [] h ro ho := by
  obtain ⟨b1, b2, b3, b4, b5⟩ := hB
  have hN := md_len b2 b1.2.2.2.1
  have loop : ∀ m i (g : xm_H), m + i = N → 1 ≤ i → fr89 g h → (∀ j, j < N → g.1 89 (mdn (Q j)) = nI (if 1 ≤ j ∧ j < i then 1000000000 else 0)) → ∃ g', fr89 g' h ∧ RQ N Q (fun j => if j = 0 then 0 else 1000000000) g'.1 ∧ ∀ ro ho, (∀ l3 l4 l5, xm_E (xm_X0 L xs) xm_P (d + 7) co_X11_spreads 96 [some (.ref 82), some (.int l1), some (.int 1), l3, l4, l5] [] g' ro ho) → ∀ l3 l4 l5, xm_E (xm_X0 L xs) xm_P (d + 7) co_X11_spreads 80 [some (.ref 82), some (.int l1), some (.int (nI i)), l3, l4, l5] [] g ro ho := by
    intro m
    induction m with
    | zero =>
      intro i g hm hi hg hz
      refine ⟨g, hg, ⟨by rw [hg.2 82 (by decide)]; exact b3, fun j hj => by rw [hg.2 91 (by decide)]; exact b4 j hj, fun j hj => ?_⟩, fun ro ho K l3 l4 l5 => s_X11_spreads_80_0 (d := d) (by rw [hg.2 82 (by decide), b3]; exact nI_le (by omega) (by omega)) (K _ _ _)⟩
      rw [hz j hj]
      show _ = nI (if j = 0 then 0 else 1000000000)
      by_cases j0 : j = 0
      · rw [if_neg (by omega), if_pos j0]
      · rw [if_pos (by omega), if_neg j0]
    | succ m ih =>
      intro i g hm hi hg hz
      have hKi := b2 i (by omega)
      have e91 : g.1 91 (nI i).toNatClampNeg = st_M (Q i) := by rw [nI_clamp (by omega), hg.2 91 (by decide)]; exact b4 i (by omega)
      obtain ⟨g', r1, r2, r3⟩ := ih (i + 1) (xm_si g 89 (mdn (Q i)) (nI 1000000000)) (by omega) (by omega) ⟨hg.1, fun q hq => by rw [xm_rn hq]; exact hg.2 q hq⟩ (fun j hj => by
        rw [xm_rf]
        by_cases ji : j = i
        · rw [ji, fu_a, if_pos (by omega)]
        · rw [fu_k (fun e => ji (b1.2.2.2.1 j i hj (by omega) (mdn_inj (b2 j hj) hKi e))), hz j hj]
          by_cases q : 1 ≤ j ∧ j < i
          · rw [if_pos q, if_pos (by omega)]
          · rw [if_neg q, if_neg (by omega)])
      refine ⟨g', r1, r2, fun ro ho K l3 l4 l5 => s_X11_spreads_80_1 (d := d) (by rw [hg.1]; exact hR) ht (by rw [hg.2 82 (by decide), b3]; exact nI_ge (by omega) (by omega)) (nI_in (by omega) (by decide)) (by rw [e91]; exact mdn_in hKi) ?_⟩
      rw [e91, mdn_cl hKi, nI_1]
      exact r3 ro ho K _ _ _
  have hN1 := b1.1
  exact loop (N - 1) 1 h (by omega) (Nat.le_refl _) ⟨rfl, fun _ _ => rfl⟩ (fun j hj => by
    rw [if_neg (by omega)]
    rcases b5 (Q j) (b2 j hj) with ⟨z, -⟩ | ⟨-, hne⟩
    · exact z
    · exact absurd rfl (hne j hj))
theorem v_goes {h : xm_H} (ht : t = 5 ∨ t = 13) (hR : h.2.2 = xm_R0 t) (hM : MD t C nx c h) (hB : BF nx s0 N Q par mv dep) (hK : ∀ j, j < N → st_K (Q j)) {F : Nat → Nat} (hI : INV nx c s0 N Q F) (hQ : RQ N Q F h.1) {i : Nat} (hi : i < N) : ∃ g F' r, xm_V (xm_X0 L xs) xm_P (d + 8) 264 [.ref 82, .int (st_M (Q i))] h (some (.int r)) g ∧ fr89 g h ∧ RQ N Q F' g.1 ∧ INV nx c s0 N Q F' ∧ (∀ j, F' j ≤ F j) ∧ ((r = 0 ∧ F' = F ∧ (F i < 1000000000 → ∀ k x, k < 10 → x < N → nx k (Q i) = some (Q x) → F x ≤ F i + c k)) ∨ (r = 1 ∧ ∃ y, y < N ∧ F' y < F y)) := by
  have hKi := hK i hi
  have hN := md_len hK hB.2.2.2.1
  by_cases hfar : F i < 1000000000
  · have loop : ∀ m k (g : xm_H) (F1 : Nat → Nat) (r : Int32), m + k = C → fr89 g h → RQ N Q F1 g.1 → INV nx c s0 N Q F1 → (∀ j, F1 j ≤ F j) → F1 i = F i → (∀ k' x, k' < k → x < N → nx k' (Q i) = some (Q x) → F1 x ≤ F i + c k') → ((r = 0 ∧ F1 = F) ∨ (r = 1 ∧ ∃ y, y < N ∧ F1 y < F y)) → ∃ g' F' r', (∀ l4, xm_E (xm_X0 L xs) xm_P (d + 7) co_X11_goesFrom 4 [some (.ref 82), some (.int (st_M (Q i))), some (.int r), some (.int (nI k)), l4] [] g (some (.int r')) g') ∧ fr89 g' h ∧ RQ N Q F' g'.1 ∧ INV nx c s0 N Q F' ∧ (∀ j, F' j ≤ F j) ∧ ((r' = 0 ∧ F' = F ∧ (∀ k' x, k' < C → x < N → nx k' (Q i) = some (Q x) → F x ≤ F i + c k')) ∨ (r' = 1 ∧ ∃ y, y < N ∧ F' y < F y)) := by
      intro m
      induction m with
      | zero =>
        intro k g F1 r hm hg hQ1 hI1 hle hii hed hr
        have hk : k = C := by omega
        subst hk
        obtain ⟨n1, n2, n3⟩ := hM.2.2.2.2 g hg.agr
        have gR : g.2.2 = xm_R0 t := by rw [hg.1]; exact hR
        have okr : xm_okr 3 r = true := by
          rcases hr with ⟨e, -⟩ | ⟨e, -⟩ <;> rw [e] <;> decide
        have hC := hM.1
        refine ⟨g, F1, r, fun l4 => s_X11_goesFrom_4_0 (d := d) gR ht (by rw [n1]; exact nI_le (Nat.le_refl _) (by omega)) okr, hg, hQ1, hI1, hle, ?_⟩
        rcases hr with ⟨e, e2⟩ | e
        · subst e2
          exact Or.inl ⟨e, rfl, hed⟩
        · exact Or.inr e
      | succ m ih =>
        intro k g F1 r hm hg hQ1 hI1 hle hii hed hr
        obtain ⟨n1, n2, n3⟩ := hM.2.2.2.2 g hg.agr
        have gR : g.2.2 = xm_R0 t := by rw [hg.1]; exact hR
        have hC := hM.1
        have hk : k < C := by omega
        have hc0 : ¬ (F_X11_choices g t ≤ nI k) := by rw [n1]; exact nI_ge hk (by omega)
        obtain ⟨gd, ecost⟩ := n2 k hk
        have hck := hM.2.2.2.1 k hk
        have ec := n3 (Q i) k hKi hk
        have ei : g.1 89 (st_M (Q i)).toNatClampNeg = nI (F i) := by rw [mdn_cl hKi, hQ1.2.2 i hi, hii]
        have c1 := mdn_in hKi
        have c2 : ¬ ((1000000000 : Int32) ≤ g.1 89 (st_M (Q i)).toNatClampNeg) := by rw [ei]; exact nI_ge (b := 1000000000) hfar (by decide)
        cases hn : nx k (Q i) with
        | none =>
          rw [hn] at ec
          obtain ⟨g', F', r', E, q⟩ := ih (k + 1) g F1 r (by omega) hg hQ1 hI1 hle hii (fun k' x hk' hx hh => by
            by_cases e : k' = k
            · rw [e, hn] at hh; cases hh
            · exact hed k' x (by omega) hx hh) hr
          refine ⟨g', F', r', fun l4 => s_X11_goesFrom_4_2 (d := d) gR ht hc0 c1 c2 gd.1 gd.2 ec ?_, q⟩
          rw [nI_1]
          exact E _
        | some s' =>
          rw [hn] at ec
          have ec' : F_X11_chosen g t (st_M (Q i)) (nI k) = st_M s' := ec
          obtain ⟨x, hx, hxs, -⟩ := hB.edge hi (show k < 10 by omega) hn
          have hKx := hK x hx
          have c5 : ¬ (F_X11_chosen g t (st_M (Q i)) (nI k) = (-1 : Int32)) := by rw [ec', ← hxs]; exact st_M_n1 hKx
          have c6 : ¬ (F_X11_chosen g t (st_M (Q i)) (nI k) < 0 ∨ 120050 ≤ (F_X11_chosen g t (st_M (Q i)) (nI k)).toNatClampNeg) := by rw [ec', ← hxs]; exact mdn_in hKx
          have ex : g.1 89 (F_X11_chosen g t (st_M (Q i)) (nI k)).toNatClampNeg = nI (F1 x) := by rw [ec', ← hxs, mdn_cl hKx, hQ1.2.2 x hx]
          have esum : g.1 89 (st_M (Q i)).toNatClampNeg + F_X11_costOf g t (nI k) = nI (F i + c k) := by rw [ei, ecost, nI_add]
          have hFx := (hI1.2 x hx).1
          rw [← hxs] at hn
          by_cases hlt : F i + c k < F1 x
          · have xi : x ≠ i := by
              intro e
              rw [e, hii] at hlt
              omega
            have x0 : x ≠ 0 := by
              intro e
              rw [e, hI1.1] at hlt
              omega
            obtain ⟨n, hw⟩ := (hI1.2 i hi).2 (by rw [hii]; exact hfar)
            rw [hii] at hw
            have hw' := wk_snoc (show k < 10 by omega) hn n s0 _ hw
            obtain ⟨g', F', r', E, q⟩ := ih (k + 1) (xm_si g 89 (mdn (Q x)) (nI (F i + c k))) (fu F1 x (F i + c k)) 1 (by omega) ⟨hg.1, fun q hq => by rw [xm_rn hq]; exact hg.2 q hq⟩ ⟨by rw [xm_rn (by decide)]; exact hQ1.1, fun j hj => by rw [xm_rn (by decide)]; exact hQ1.2.1 j hj, fun j hj => by
              rw [xm_rf]
              by_cases jx : j = x
              · rw [jx, fu_a, fu_a]
              · rw [fu_k jx, fu_k (fun e => jx (hB.2.2.2.1 j x hj hx (mdn_inj (hK j hj) hKx e)))]
                exact hQ1.2.2 j hj⟩ ⟨by rw [fu_k (Ne.symm x0)]; exact hI1.1, fun j hj => by
              by_cases jx : j = x
              · rw [jx, fu_a]
                exact ⟨by omega, fun _ => ⟨n + 1, hw'⟩⟩
              · rw [fu_k jx]
                exact hI1.2 j hj⟩ (fun j => by
              by_cases jx : j = x
              · rw [jx, fu_a]
                have := hle x
                omega
              · rw [fu_k jx]; exact hle j) (by rw [fu_k (Ne.symm xi)]; exact hii) (fun k' y hk' hy hh => by
              by_cases e : k' = k
              · rw [e, hn] at hh
                have : x = y := hB.2.2.2.1 x y hx hy (Option.some.inj hh)
                rw [← this, fu_a, e]
                exact Nat.le_refl _
              · have a := hed k' y (by omega) hy hh
                by_cases yx : y = x
                · rw [yx, fu_a]
                  rw [yx] at a
                  omega
                · rw [fu_k yx]; exact a) (Or.inr ⟨rfl, x, hx, by
              rw [fu_a]
              have := hle x
              omega⟩)
            refine ⟨g', F', r', fun l4 => s_X11_goesFrom_4_3 (d := d) gR ht hc0 c1 c2 gd.1 gd.2 c5 c6 (by rw [esum, ex]; exact nI_lt hlt (by omega)) ?_, q⟩
            rw [esum, ec', ← hxs, mdn_cl hKx, nI_1]
            exact E _
          · obtain ⟨g', F', r', E, q⟩ := ih (k + 1) g F1 r (by omega) hg hQ1 hI1 hle hii (fun k' y hk' hy hh => by
              by_cases e : k' = k
              · rw [e, hn] at hh
                have : x = y := hB.2.2.2.1 x y hx hy (Option.some.inj hh)
                rw [← this, e]
                omega
              · exact hed k' y (by omega) hy hh) hr
            refine ⟨g', F', r', fun l4 => s_X11_goesFrom_4_4 (d := d) gR ht hc0 c1 c2 gd.1 gd.2 c5 c6 (by rw [esum, ex]; exact nI_nlt (by omega) (by omega)) ?_, q⟩
            rw [nI_1]
            exact E _
    obtain ⟨g', F', r', E, q1, q2, q3, q4, q5⟩ := loop C 0 h F 0 rfl ⟨rfl, fun _ _ => rfl⟩ hQ hI (fun _ => Nat.le_refl _) rfl (fun k' _ hk' => absurd hk' (Nat.not_lt_zero _)) (Or.inl ⟨rfl, rfl⟩)
    refine ⟨g', F', r', v_X11_goesFrom (d := d + 7) (s_X11_goesFrom_0_0 (d := d) (E _)), q1, q2, q3, q4, ?_⟩
    rcases q5 with ⟨z1, z2, z3⟩ | z
    · refine Or.inl ⟨z1, z2, fun _ k x hk hx hh => ?_⟩
      by_cases hkC : k < C
      · exact z3 k x hkC hx hh
      · rw [hM.2.2.1 (Q i) k (by omega) hk] at hh
        cases hh
    · exact Or.inr z
  · refine ⟨h, F, 0, v_X11_goesFrom (d := d + 7) (s_X11_goesFrom_0_0 (d := d) ?_), ⟨rfl, fun _ _ => rfl⟩, hQ, hI, fun _ => Nat.le_refl _, Or.inl ⟨rfl, rfl, fun q => absurd q hfar⟩⟩
    obtain ⟨n1, n2, n3⟩ := hM.2.2.2.2 h ⟨rfl, fun _ _ => rfl⟩
    by_cases hC0 : C = 0
    · exact s_X11_goesFrom_4_0 (d := d) hR ht (by rw [n1, hC0]; decide) (by decide)
    · have hC := hM.1
      have h89 := (hI.2 i hi).1
      exact s_X11_goesFrom_4_1 (d := d) hR ht (by rw [n1]; exact nI_ge (b := C) (a := 0) (by omega) (by omega)) (mdn_in hKi) (by rw [mdn_cl hKi, hQ.2.2 i hi]; exact nI_le (a := 1000000000) (by omega) (by omega)) (by decide)
theorem sp_pass {h : xm_H} {l1 : Int32} (ht : t = 5 ∨ t = 13) (hR : h.2.2 = xm_R0 t) (hM : MD t C nx c h) (hB : BF nx s0 N Q par mv dep) (hK : ∀ j, j < N → st_K (Q j)) {F : Nat → Nat} : ∀ m i (g : xm_H) (F1 : Nat → Nat) (b : Int32), m + i = N → fr89 g h → RQ N Q F1 g.1 → INV nx c s0 N Q F1 → (∀ j, F1 j ≤ F j) → ((b = 0 ∧ F1 = F ∧ ∀ i' k x, i' < i → F i' < 1000000000 → k < 10 → x < N → nx k (Q i') = some (Q x) → F x ≤ F i' + c k) ∨ (b = 1 ∧ ∃ y, y < N ∧ F1 y < F y)) → ∃ g' F' b', fr89 g' h ∧ RQ N Q F' g'.1 ∧ INV nx c s0 N Q F' ∧ (∀ j, F' j ≤ F j) ∧ ((b' = 0 ∧ F' = F ∧ ∀ i' k x, i' < N → F i' < 1000000000 → k < 10 → x < N → nx k (Q i') = some (Q x) → F x ≤ F i' + c k) ∨ (b' = 1 ∧ ∃ y, y < N ∧ F' y < F y)) ∧ ∀ ro ho, (∀ l3 l4 l5, xm_E (xm_X0 L xs) xm_P (d + 8) co_X11_spreads 96 [some (.ref 82), some (.int l1), some (.int b'), l3, l4, l5] [] g' ro ho) → ∀ l4 l5, xm_E (xm_X0 L xs) xm_P (d + 8) co_X11_spreads 102 [some (.ref 82), some (.int l1), some (.int b), some (.int (nI i)), l4, l5] [] g ro ho := by
  have hN := md_len hK hB.2.2.2.1
  intro m
  induction m with
  | zero =>
    intro i g F1 b hm hg hQ hI hle hr
    have hi : i = N := by omega
    subst hi
    exact ⟨g, F1, b, hg, hQ, hI, hle, hr, fun ro ho K l4 l5 => s_X11_spreads_102_0 (d := d + 1) (by rw [hQ.1]; exact nI_le (Nat.le_refl _) (by omega)) (K _ _ _)⟩
  | succ m ih =>
    intro i g F1 b hm hg hQ hI hle hr
    have gR : g.2.2 = xm_R0 t := by rw [hg.1]; exact hR
    have hi : i < N := by omega
    obtain ⟨g1, F2, r, V, p1, p2, p3, p4, p5⟩ := v_goes (L := L) (xs := xs) (d := d) ht gR (hM.go hg.agr) hB hK hI hQ hi
    have e91 : g.1 91 (nI i).toNatClampNeg = st_M (Q i) := by rw [nI_clamp (by omega)]; exact hQ.2.1 i hi
    have c0 : ¬ (g.1 82 23 ≤ nI i) := by rw [hQ.1]; exact nI_ge hi (by omega)
    have c1 : ¬ (nI i < 0 ∨ 120050 ≤ (nI i).toNatClampNeg) := nI_in (by omega) (by decide)
    rw [← e91] at V
    rcases p5 with ⟨r0, eF, ed⟩ | ⟨r1, y, hy, hlt⟩
    · subst eF
      rcases hr with ⟨b0, eF, edo⟩ | ⟨b1, yy⟩
      · subst eF
        obtain ⟨g', F', b', q1, q2, q3, q4, q5, q6⟩ := ih (i + 1) g1 F2 0 (by omega) (p1.tr hg) p2 p3 hle (Or.inl ⟨rfl, rfl, fun i' k x hi' hf hk hx hh => by
          by_cases e : i' = i
          · rw [e] at hf hh ⊢
            exact ed hf k x hk hx hh
          · exact edo i' k x (by omega) hf hk hx hh⟩)
        refine ⟨g', F', b', q1, q2, q3, q4, q5, fun ro ho K l4 l5 => s_X11_spreads_102_1 (d := d + 1) gR ht c0 c1 V r0 b0 ?_⟩
        rw [nI_1]
        exact q6 ro ho K _ _
      · obtain ⟨g', F', b', q1, q2, q3, q4, q5, q6⟩ := ih (i + 1) g1 F2 1 (by omega) (p1.tr hg) p2 p3 hle (Or.inr ⟨rfl, yy⟩)
        refine ⟨g', F', b', q1, q2, q3, q4, q5, fun ro ho K l4 l5 => s_X11_spreads_102_2 (d := d + 1) gR ht c0 c1 V r0 (by rw [b1]; exact one_ne0) ?_⟩
        rw [nI_1]
        exact q6 ro ho K _ _
    · obtain ⟨g', F', b', q1, q2, q3, q4, q5, q6⟩ := ih (i + 1) g1 F2 1 (by omega) (p1.tr hg) p2 p3 (fun j => Nat.le_trans (p4 j) (hle j)) (Or.inr ⟨rfl, y, hy, Nat.lt_of_lt_of_le hlt (hle y)⟩)
      refine ⟨g', F', b', q1, q2, q3, q4, q5, fun ro ho K l4 l5 => s_X11_spreads_102_3 (d := d + 1) gR ht c0 c1 V (by rw [r1]; exact one_ne0) ?_⟩
      rw [nI_1]
      exact q6 ro ho K _ _
theorem sp_relax {h : xm_H} {l1 : Int32} (ht : t = 5 ∨ t = 13) (hR : h.2.2 = xm_R0 t) (hM : MD t C nx c h) (hB : BF nx s0 N Q par mv dep) (hK : ∀ j, j < N → st_K (Q j)) : ∀ S (g : xm_H) (F : Nat → Nat), sm F N = S → fr89 g h → RQ N Q F g.1 → INV nx c s0 N Q F → ∃ g' F', fr89 g' h ∧ RQ N Q F' g'.1 ∧ INV nx c s0 N Q F' ∧ (∀ i' k x, i' < N → F' i' < 1000000000 → k < 10 → x < N → nx k (Q i') = some (Q x) → F' x ≤ F' i' + c k) ∧ ∀ l3 l4 l5, xm_E (xm_X0 L xs) xm_P (d + 8) co_X11_spreads 96 [some (.ref 82), some (.int l1), some (.int 1), l3, l4, l5] [] g none g' := by
  intro S
  induction S using Nat.strongRecOn with
  | _ S ih =>
    intro g F hS hg hQ hI
    obtain ⟨g1, F1, b, q1, q2, q3, q4, q5, q6⟩ := sp_pass (L := L) (xs := xs) (d := d) (l1 := l1) ht hR hM hB hK (F := F) N 0 g F 0 rfl hg hQ hI (fun _ => Nat.le_refl _) (Or.inl ⟨rfl, rfl, fun i' _ _ hi' => absurd hi' (Nat.not_lt_zero _)⟩)
    rcases q5 with ⟨b0, eF, ed⟩ | ⟨b1, y, hy, hlt⟩
    · subst eF
      exact ⟨g1, F1, q1, q2, q3, ed, fun l3 l4 l5 => s_X11_spreads_96_1 (d := d + 1) one_ne0 (q6 none g1 (fun l3 l4 l5 => s_X11_spreads_96_0 (d := d + 1) b0) _ _)⟩
    · obtain ⟨g', F', r1, r2, r3, r4, r5⟩ := ih (sm F1 N) (by rw [← hS]; exact sm_lt N (fun x _ => q4 x) hy hlt) g1 F1 rfl q1 q2 q3
      refine ⟨g', F', r1, r2, r3, r4, fun l3 l4 l5 => s_X11_spreads_96_1 (d := d + 1) one_ne0 (q6 none g' (fun l3 l4 l5 => ?_) _ _)⟩
      rw [b1]
      exact r5 _ _ _
/-- a search of the reference, whole -/
theorem v_spreads {h : xm_H} (ht : t = 5 ∨ t = 13) (hR : h.2.2 = xm_R0 t) (hM : MD t C nx c h) (hK0 : st_K s0) : ∃ (g : xm_H) (N : Nat) (Q : Nat → St) (par mv dep F : Nat → Nat), xm_V (xm_X0 L xs) xm_P (d + 9) 261 [.ref 82, .int (st_M s0)] h none g ∧ spF g h ∧ BF nx s0 N Q par mv dep ∧ (∀ j, j < N → st_K (Q j)) ∧ RQ N Q F g.1 ∧ PF nx c s0 N Q F ∧ (∀ j, j < N → F j < 100000000) := by
  obtain ⟨g0, a1, a2, a3⟩ := sp_begin (L := L) (xs := xs) (d := d + 1) (nx := nx) ht hR hK0
  obtain ⟨g1, N, Q, par, mv, dep, b1, b2, b3⟩ := sp_outer (L := L) (xs := xs) (d := d + 1) (l1 := st_M s0) ht hR hM 120050 0 g0 1 _ _ _ _ rfl a1 (by omega) a2
  have g1R : g1.2.2 = xm_R0 t := by rw [b1.1]; exact hR
  have hB : BF nx s0 N Q par mv dep := b2.1
  have hK := b2.2.1
  have hN := md_len hK hB.2.2.2.1
  obtain ⟨g2, e1, e2, e3⟩ := sp_reset (L := L) (xs := xs) (d := d + 1) (l1 := st_M s0) ht g1R b2
  have g2R : g2.2.2 = xm_R0 t := by rw [e1.1]; exact g1R
  obtain ⟨g', F, f1, f2, f3, f4, f5⟩ := sp_relax (L := L) (xs := xs) (d := d) (l1 := st_M s0) ht g2R (hM.go (e1.sp.tr b1).agr) hB hK _ g2 _ rfl ⟨rfl, fun _ _ => rfl⟩ e2 ⟨rfl, fun j hj => by
    by_cases j0 : j = 0
    · subst j0
      exact ⟨by simp, fun _ => ⟨0, rfl, hB.2.1.symm⟩⟩
    · simp only [if_neg j0]
      exact ⟨Nat.le_refl _, fun q => absurd q (Nat.lt_irrefl _)⟩⟩
  have bound : ∀ j, j < N → F j ≤ 99 * j := by
    intro j
    induction j using Nat.strongRecOn with
    | _ j ih =>
      intro hj
      by_cases j0 : j = 0
      · rw [j0, f3.1]; omega
      · have p := hB.pr (j := j) (by omega) hj
        have ip := ih (par j) p.1 (by omega)
        have hm : mv j < C := by
          by_cases q : mv j < C
          · exact q
          · have := hM.2.2.1 (Q (par j)) (mv j) (by omega) p.2.1
            rw [p.2.2.1] at this
            cases this
        have hc := (hM.2.2.2.1 (mv j) hm).2
        have := f4 (par j) (mv j) j (by omega) (by omega) p.2.1 hj p.2.2.1
        omega
  have hlt : ∀ j, j < N → F j < 100000000 := fun j hj => by have := bound j hj; omega
  refine ⟨g', N, Q, par, mv, dep, F, v_X11_spreads (d := d + 8) (a3 none g' (b3 none g' (e3 none g' f5))), (f1.tr e1).sp.tr b1, hB, hK, f2, ⟨f3.1, fun a b j ha hb hj hh => f4 a b j ha (by have := hlt a ha; omega) hb hj hh, fun j hj => (f3.2 j hj).2 (by have := hlt j hj; omega)⟩, hlt⟩
end OPS
