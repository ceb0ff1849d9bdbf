/-! The reference's searches: with room, alone. -/
set_option maxHeartbeats 4000000 in
theorem cm_alone {hp hp' : xm_H} {t ar a : Nat} {s : St} (h : st_K s) (ha : a ≤ 9) (hal : hp.1 82 16 = 1) (har : hp.1 83 4 = nI ar) (hr : ar ≤ 60) (k16 : hp'.1 82 16 = 0) (k15 : hp'.1 82 15 = nI 60) : F_X11_moved hp t (st_M s) (nI a) = if (975 >>> a) % 2 = 1 ∧ (2 < a ∨ s.1 ≤ ar) then F_X11_moved hp' t (st_M s) (nI a) else -1 := by
  unfold F_X11_moved F_X11_fitsIn
  rw [cm_long h, cm_wide h, cm_twist h, cm_hem h, cm_face h, hal, har, k16, k15]
  obtain ⟨l, w, e, f, z⟩ := s
  obtain ⟨⟨l1, l2⟩, ⟨w1, w2⟩, he, hf, hz⟩ := h
  simp only at l1 l2 w1 w2 he hf hz ⊢
  have hA : ∀ k, k < 100 → (nI a = nI k ↔ a = k) := fun k hk => nI_eq (by omega) (by omega)
  have e0 : nI a = (0 : Int32) ↔ a = 0 := hA 0 (by omega)
  have e1 : nI a = (1 : Int32) ↔ a = 1 := hA 1 (by omega)
  have e2 : nI a = (2 : Int32) ↔ a = 2 := hA 2 (by omega)
  have e3 : nI a = (3 : Int32) ↔ a = 3 := hA 3 (by omega)
  have e4 : nI a = (4 : Int32) ↔ a = 4 := hA 4 (by omega)
  have e5 : nI a = (5 : Int32) ↔ a = 5 := hA 5 (by omega)
  have e6 : nI a = (6 : Int32) ↔ a = 6 := hA 6 (by omega)
  have e7 : nI a = (7 : Int32) ↔ a = 7 := hA 7 (by omega)
  have e8 : nI a = (8 : Int32) ↔ a = 8 := hA 8 (by omega)
  have e9 : nI a = (9 : Int32) ↔ a = 9 := hA 9 (by omega)
  have g2 : (2 : Int32) < nI a ↔ 2 < a := nI_ltI (a := 2) (by omega) (by omega)
  have q2 : nI ar < nI l ↔ ar < l := nI_ltI (by omega) (by omega)
  have q3 : nI 60 < nI l ↔ 60 < l := nI_ltI (by omega) (by omega)
  have q4 : nI 60 < nI w ↔ 60 < w := nI_ltI (by omega) (by omega)
  simp only [e0, e1, e2, e3, e4, e5, e6, e7, e8, e9, g2, q2, q3, q4, tw_eq hz, tw_le0 hz, one_ne0, if_false, if_true]
  have ha' : a = 0 ∨ a = 1 ∨ a = 2 ∨ a = 3 ∨ a = 4 ∨ a = 5 ∨ a = 6 ∨ a = 7 ∨ a = 8 ∨ a = 9 := by omega
  clear hA e0 e1 e2 e3 e4 e5 e6 e7 e8 e9 g2 q2 q3 q4 hal har k16 k15
  rcases ha' with rfl | rfl | rfl | rfl | rfl | rfl | rfl | rfl | rfl | rfl
  all_goals simp (decide := true) only [if_true, if_false, ite01, true_and, false_and, true_or, false_or]
  all_goals (repeat' split)
  all_goals first | rfl | (exfalso; omega)
theorem opM_s {s s' : St} {o : Option St} (h : o = some s') : opM o = st_M s' := by rw [h]; rfl
theorem opM_n {o : Option St} (h : o = none) : opM o = -1 := by rw [h]; rfl
theorem cm_opM {hp : xm_H} {t room a : Nat} {s : St} (h : st_K s) (ha : a ≤ 9) (hal : hp.1 82 16 = 0) (hro : hp.1 82 15 = nI room) (hr : room < 2 ^ 20) : F_X11_moved hp t (st_M s) (nI a) = opM (st_do room a s) := by
  cases hd : st_do room a s with
  | none => exact cm_movedN h ha hal hro hr hd
  | some s' => exact cm_moved h ha hal hro hr hd
theorem cm_opA {hp : xm_H} {t ar a : Nat} {s : St} (h : st_K s) (ha : a ≤ 9) (hal : hp.1 82 16 = 1) (har : hp.1 83 4 = nI ar) (hr : ar ≤ 60) : F_X11_moved hp t (st_M s) (nI a) = opM (nxC 975 60 ar a s) := by
  have k16 : (xm_si (xm_si hp 82 15 (nI 60)) 82 16 0).1 82 16 = 0 := xm_ra
  have k15 : (xm_si (xm_si hp 82 15 (nI 60)) 82 16 0).1 82 15 = nI 60 := by rw [xm_rk (by decide), xm_ra]
  rw [cm_alone h ha hal har hr k16 k15]
  unfold nxC
  by_cases q : (975 >>> a) % 2 = 1 ∧ (2 < a ∨ s.1 ≤ ar)
  · rw [if_pos q, if_pos q, cm_opM h ha k16 k15 (by decide)]
  · rw [if_neg q, if_neg q]
    rfl
theorem nx_1023 : ∀ k, k < 10 → (1023 >>> k) % 2 = 1 := by decide
theorem nxC_all {sp k : Nat} {s : St} (h : st_K s) (hk : k < 10) : nxC 1023 sp 60 k s = st_do sp k s := by
  unfold nxC
  have := h.1.2
  rw [if_pos ⟨nx_1023 k hk, Or.inr (by omega)⟩]
/-- what a move costs: seconds, or one -/
def cs (w : Nat → Int32) (b : Bool) (k : Nat) : Nat := if b = true then (sc1 w k).toNatClampNeg else 1
theorem cs_f {w : Nat → Int32} : cs w false = fun _ => 1 := by
  funext k
  rfl
theorem cs_in {w : Nat → Int32} (hw : ∀ k, k < 6 → rl_in (w (5 + k)) 1 99) (b : Bool) {k : Nat} (hk : k < 12) : 1 ≤ cs w b k ∧ cs w b k ≤ 99 := by
  unfold cs
  split
  · rw [← mv_sc hk]
    obtain ⟨n, h1, h2, e⟩ := hw _ (xk_tab k hk).2
    rw [e, nI_clamp (by omega)]
    exact ⟨h1, h2⟩
  · omega
theorem cs_v {w : Nat → Int32} (hw : ∀ k, k < 6 → rl_in (w (5 + k)) 1 99) {k : Nat} (hk : k < 12) : sc1 w k = nI (cs w true k) := by
  unfold cs
  rw [if_pos rfl, ← mv_sc hk]
  obtain ⟨n, h1, h2, e⟩ := hw _ (xk_tab k hk).2
  rw [e, nI_clamp (by omega)]
def bJ (b : Bool) : Int32 := if b = true then 1 else 0
theorem cost_v {g : xm_H} {t : Nat} {w : Nat → Int32} {b : Bool} (e83 : g.1 83 = w) (e25 : g.1 82 25 = bJ b) (hw : ∀ k, k < 6 → rl_in (w (5 + k)) 1 99) {k : Nat} (hk : k < 10) : F_X11_costOf g t (nI k) = nI (cs w b k) := by
  unfold F_X11_costOf
  rw [e25]
  cases b with
  | false => rfl
  | true =>
    rw [if_neg (by decide), sk_of hk, e83]
    exact cs_v hw (by omega)
def srH (h : xm_H) (l1 l2 l3 l4 : Int32) : xm_H := xm_si (xm_si (xm_si (xm_si (rf_n h) 82 15 l1) 82 16 l2) 82 24 l3) 82 25 l4
theorem srH_83 {h : xm_H} {l1 l2 l3 l4 : Int32} : (srH h l1 l2 l3 l4).1 83 = h.1 83 := by
  unfold srH
  rw [xm_rn (by decide), xm_rn (by decide), xm_rn (by decide), xm_rn (by decide), rf_n83]
theorem srH_82 {h : xm_H} {l1 l2 l3 l4 : Int32} : (srH h l1 l2 l3 l4).1 82 15 = l1 ∧ (srH h l1 l2 l3 l4).1 82 16 = l2 ∧ (srH h l1 l2 l3 l4).1 82 24 = l3 ∧ (srH h l1 l2 l3 l4).1 82 25 = l4 := by
  unfold srH
  refine ⟨?_, ?_, ?_, ?_⟩
  · rw [xm_rk (by decide), xm_rk (by decide), xm_rk (by decide), xm_ra]
  · rw [xm_rk (by decide), xm_rk (by decide), xm_ra]
  · rw [xm_rk (by decide), xm_ra]
  · rw [xm_ra]
theorem nxC_K {al sp ar k : Nat} {s s' : St} (hk : k < 10) (hK : st_K s) (h : nxC al sp ar k s = some s') : st_K s' := st_do_K hK (nxC_do h) (by omega)
/-- nx, moves alone -/
def nx10 (al sp ar k : Nat) (s : St) : Option St := if k < 10 then nxC al sp ar k s else none
theorem nx10_e {al sp ar k : Nat} {s : St} (hk : k < 10) : nx10 al sp ar k s = nxC al sp ar k s := if_pos hk
theorem nx10_K {al sp ar k : Nat} {s s' : St} (hK : st_K s) (h : nx10 al sp ar k s = some s') : st_K s' := by
  unfold nx10 at h
  split at h
  · rename_i hk
    exact nxC_K hk hK h
  · cases h
theorem MD_moves {h : xm_H} {t R : Nat} {b : Bool} (hR60 : R ≤ 60) (hw : ∀ k, k < 6 → rl_in (h.1 83 (5 + k)) 1 99) : MD t 10 (nx10 1023 R 60) (cs (h.1 83) b) (srH h (nI R) 0 (-1) (bJ b)) := by
  refine ⟨Nat.le_refl _, fun s k s' hK e => nx10_K hK e, fun s k h1 h2 => by omega, fun k hk => cs_in hw b (by omega), fun g hg => ?_⟩
  obtain ⟨a1, a2⟩ := hg
  obtain ⟨e15, e16, e24, e25⟩ := srH_82 (h := h) (l1 := nI R) (l2 := 0) (l3 := -1) (l4 := bJ b)
  have f83 : g.1 83 = h.1 83 := a1.trans srH_83
  have f15 := (a2 15 (by omega)).trans e15
  have f16 := (a2 16 (by omega)).trans e16
  have f24 := (a2 24 (by omega)).trans e24
  have f25 := (a2 25 (by omega)).trans e25
  refine ⟨?_, fun k hk => ⟨⟨fun q => absurd f24 q, fun q => absurd f24 q⟩, cost_v f83 f25 hw hk⟩, fun s k hK hk => ?_⟩
  · unfold F_X11_choices
    rw [if_pos f24]
    rfl
  · unfold F_X11_chosen
    rw [if_pos f24, cm_opM hK (by omega) f16 f15 (by omega), nx10_e hk, nxC_all hK hk]
theorem MD_alone {h : xm_H} {t ar : Nat} {l1 : Int32} (har : ar ≤ 60) (e4 : h.1 83 4 = nI ar) (hw : ∀ k, k < 6 → rl_in (h.1 83 (5 + k)) 1 99) : MD t 10 (nx10 975 60 ar) (cs (h.1 83) false) (srH h l1 1 (-1) 0) := by
  refine ⟨Nat.le_refl _, fun s k s' hK e => nx10_K hK e, fun s k h1 h2 => by omega, fun k hk => cs_in hw false (by omega), fun g hg => ?_⟩
  obtain ⟨a1, a2⟩ := hg
  obtain ⟨e15, e16, e24, e25⟩ := srH_82 (h := h) (l1 := l1) (l2 := 1) (l3 := -1) (l4 := 0)
  have f83 : g.1 83 = h.1 83 := a1.trans srH_83
  have f16 := (a2 16 (by omega)).trans e16
  have f24 := (a2 24 (by omega)).trans e24
  have f25 := (a2 25 (by omega)).trans e25
  refine ⟨?_, fun k hk => ⟨⟨fun q => absurd f24 q, fun q => absurd f24 q⟩, cost_v (b := false) f83 f25 hw hk⟩, fun s k hK hk => ?_⟩
  · unfold F_X11_choices
    rw [if_pos f24]
    rfl
  · unfold F_X11_chosen
    rw [if_pos f24, cm_opA hK (by omega) f16 (by rw [f83]; exact e4) har, nx10_e hk]
def SR (nx : Nat → St → Option St) (c : Nat → Nat) (s0 : St) (N : Nat) (Q : Nat → St) (par mv dep F : Nat → Nat) (f : Nat → Nat → Int32) : Prop := BF nx s0 N Q par mv dep ∧ (∀ j, j < N → st_K (Q j)) ∧ RQ N Q F f ∧ PF nx c s0 N Q F ∧ (∀ j, j < N → F j < 100000000)
def srF (g h : xm_H) : Prop := g.2 = h.2 ∧ (∀ q, q ≠ 82 → q ≠ 89 → q ≠ 91 → g.1 q = h.1 q) ∧ (∀ x, x ≠ 15 → x ≠ 16 → x ≠ 23 → x ≠ 24 → x ≠ 25 → g.1 82 x = h.1 82 x)
theorem srF.tr {a b e : xm_H} (h1 : srF a b) (h2 : srF b e) : srF a e := ⟨h1.1.trans h2.1, fun q a1 a2 a3 => (h1.2.1 q a1 a2 a3).trans (h2.2.1 q a1 a2 a3), fun x a1 a2 a3 a4 a5 => (h1.2.2 x a1 a2 a3 a4 a5).trans (h2.2.2 x a1 a2 a3 a4 a5)⟩
section OPS
variable {L : Nat} {xs : Nat → Int32} {d : Nat} {nx : Nat → St → Option St} {c : Nat → Nat} {s0 : St} {t C N : Nat} {Q : Nat → St} {par mv dep F : Nat → Nat} {SI : (Nat → Nat → Int32) → (Nat → Nat → Int64) → Prop}
theorem Rel.srF {g h : xm_H} (hr : Rel SI h) (a : srF g h) : Rel SI g :=
  hr.frame (by rw [a.1]) (fun q hq => a.2.1 q (by unfold rl_cell at hq; omega) (by unfold rl_cell at hq; omega) (by unfold rl_cell at hq; omega)) (fun q _ => by rw [a.1]) (fun j _ => by rw [a.2.1 1 (by decide) (by decide) (by decide)]) (fun j hj => a.2.2 j (by omega) (by omega) (by omega) (by omega) (by omega))
theorem v_nearest {h : xm_H} (ht : t = 5 ∨ t = 13) (hR : h.2.2 = xm_R0 t) (hS : SR nx c s0 N Q par mv dep F h.1) : (∃ g, g < N ∧ wsh (h.1 83) (Q g) = true ∧ (∀ j, j < N → wsh (h.1 83) (Q j) = true → F g ≤ F j) ∧ xm_V (xm_X0 L xs) xm_P (d + 8) 266 [.ref 82] h (some (.int (nI (F g)))) h) ∨ ((∀ j, j < N → ¬ wsh (h.1 83) (Q j) = true) ∧ xm_V (xm_X0 L xs) xm_P (d + 8) 266 [.ref 82] h (some (.int (nI 1000000000))) h) := by
  obtain ⟨s1, s2, s3, s4, s5⟩ := hS
  have hN := md_len s2 s1.2.2.2.1
  have loop : ∀ m i (b : Nat), m + i = N → ((b = 1000000000 ∧ ∀ j, j < i → ¬ wsh (h.1 83) (Q j) = true) ∨ (∃ g, g < i ∧ wsh (h.1 83) (Q g) = true ∧ b = F g ∧ ∀ j, j < i → wsh (h.1 83) (Q j) = true → F g ≤ F j)) → ∃ b', ((b' = 1000000000 ∧ ∀ j, j < N → ¬ wsh (h.1 83) (Q j) = true) ∨ (∃ g, g < N ∧ wsh (h.1 83) (Q g) = true ∧ b' = F g ∧ ∀ j, j < N → wsh (h.1 83) (Q j) = true → F g ≤ F j)) ∧ xm_E (xm_X0 L xs) xm_P (d + 7) co_X11_nearest 4 [some (.ref 82), some (.int (nI b)), some (.int (nI i))] [] h (some (.int (nI b'))) h := by
    intro m
    induction m with
    | zero =>
      intro i b hm hb
      have hi : i = N := by omega
      subst hi
      exact ⟨b, hb, s_X11_nearest_4_0 (d := d) (by rw [s3.1]; exact nI_le (Nat.le_refl _) (by omega))⟩
    | succ m ih =>
      intro i b hm hb
      have hi : i < N := by omega
      have c0 : ¬ (h.1 82 23 ≤ nI i) := by rw [s3.1]; exact nI_ge hi (by omega)
      have c1 : ¬ (nI i < 0 ∨ 120050 ≤ (nI i).toNatClampNeg) := nI_in (by omega) (by decide)
      have e91 : h.1 91 (nI i).toNatClampNeg = st_M (Q i) := by rw [nI_clamp (by omega)]; exact s3.2.1 i hi
      have em := met_m (h := h) (t := t) (s2 i hi)
      by_cases q : wsh (h.1 83) (Q i) = true
      · rw [if_pos q] at em
        have hF := s5 i hi
        have hb31 : b < 2147483648 := by
          rcases hb with ⟨e, -⟩ | ⟨g, hg, -, e, -⟩
          · omega
          · have := s5 g (by omega)
            omega
        obtain ⟨b', q1, E⟩ := ih (i + 1) (if F i < b then F i else b) (by omega) (Or.inr (by
          rcases hb with ⟨e, hno⟩ | ⟨g, hg, hgw, e, hmin⟩
          · refine ⟨i, by omega, q, by rw [if_pos (by omega)], fun j hj hjw => ?_⟩
            by_cases ji : j = i
            · rw [ji]; exact Nat.le_refl _
            · exact absurd hjw (hno j (by omega))
          · by_cases hlt : F i < b
            · refine ⟨i, by omega, q, by rw [if_pos hlt], fun j hj hjw => ?_⟩
              by_cases ji : j = i
              · rw [ji]; exact Nat.le_refl _
              · have := hmin j (by omega) hjw
                omega
            · refine ⟨g, by omega, hgw, by rw [if_neg hlt]; exact e, fun j hj hjw => ?_⟩
              by_cases ji : j = i
              · rw [ji]; omega
              · exact hmin j (by omega) hjw))
        refine ⟨b', q1, s_X11_nearest_4_2 (d := d) hR ht c0 c1 (by rw [e91, em]; exact one_ne0) (by rw [e91]; exact mdn_in (s2 i hi)) ?_⟩
        rw [e91, mdn_cl (s2 i hi), s3.2.2 i hi, nI_1]
        have ei : (if nI (F i) < nI b then nI (F i) else nI b) = nI (if F i < b then F i else b) := by
          by_cases hlt : F i < b
          · rw [if_pos hlt, if_pos (nI_lt hlt (by omega))]
          · rw [if_neg hlt, if_neg (nI_nlt (by omega) (by omega))]
        rw [ei]
        exact E
      · rw [if_neg q] at em
        obtain ⟨b', q1, E⟩ := ih (i + 1) b (by omega) (by
          rcases hb with ⟨e, hno⟩ | ⟨g, hg, hgw, e, hmin⟩
          · refine Or.inl ⟨e, fun j hj => ?_⟩
            by_cases ji : j = i
            · rw [ji]; exact q
            · exact hno j (by omega)
          · refine Or.inr ⟨g, by omega, hgw, e, fun j hj hjw => ?_⟩
            by_cases ji : j = i
            · rw [ji] at hjw; exact absurd hjw q
            · exact hmin j (by omega) hjw)
        refine ⟨b', q1, s_X11_nearest_4_1 (d := d) hR ht c0 c1 (by rw [e91]; exact em) ?_⟩
        rw [nI_1]
        exact E
  obtain ⟨b', q, E⟩ := loop N 0 1000000000 rfl (Or.inl ⟨rfl, fun j hj => absurd hj (Nat.not_lt_zero _)⟩)
  have V := v_X11_nearest (d := d + 7) (s_X11_nearest_0_0 (d := d) E)
  rcases q with ⟨e, hno⟩ | ⟨g, hg, hgw, e, hmin⟩
  · rw [e] at V
    exact Or.inr ⟨hno, V⟩
  · rw [e] at V
    exact Or.inl ⟨g, hg, hgw, hmin, V⟩
theorem v_searches {h : xm_H} {cn : Nat} {l1 l2 l3 l4 : Int32} (hR : h.2.2 = xm_R0 t) (ht : t = 5 ∨ t = 13) (hc : cn ≤ 60) (e23 : h.1 83 23 = nI cn) (hact : ∀ j, j < cn → rl_in (h.1 83 (50 + j)) 0 12) (h0 : rl_in (h.1 83 0) 1 48) (h1 : rl_in (h.1 83 1) 1 48) (h3 : rl_in (h.1 83 3) 1 60) (hs : rp (h.1 83) cn = some s0) (hM : MD t C nx c (srH h l1 l2 l3 l4)) (k2 : l2 = 0 ∨ l2 = 1) (k4 : l4 = 0 ∨ l4 = 1) : ∃ (g : xm_H) (r : Int32) (N : Nat) (Q : Nat → St) (par mv dep F : Nat → Nat), xm_V (xm_X0 L xs) xm_P (d + 10) 260 [.ref 82, .int l1, .int l2, .int l3, .int l4] h (some (.int r)) g ∧ srF g h ∧ agr g (srH h l1 l2 l3 l4) ∧ SR nx c s0 N Q par mv dep F g.1 ∧ Near nx c (fun s => wsh (h.1 83) s = true) s0 r := by
  have hK0 := rp_K h0 h1 cn hact s0 hs
  obtain ⟨g, N, Q, par, mv, dep, F, V, a1, a2, a3, a4, a5, a6⟩ := v_spreads (L := L) (xs := xs) (d := d) (h := srH h l1 l2 l3 l4) ht hR hM hK0
  have gR : g.2.2 = xm_R0 t := by rw [a1.1]; exact hR
  have hS : SR nx c s0 N Q par mv dep F g.1 := ⟨a2, a3, a4, a5, a6⟩
  have g83 : g.1 83 = h.1 83 := a1.agr.1.trans srH_83
  have fr : srF g h := by
    refine ⟨a1.1, fun q q1 q2 q3 => ?_, fun x x1 x2 x3 x4 x5 => ?_⟩
    · rw [a1.2.1 q q1 q2 q3]
      unfold srH
      rw [xm_rn q1, xm_rn q1, xm_rn q1, xm_rn q1, rf_nq h q1]
    · rw [a1.2.2 x x3]
      unfold srH
      rw [xm_rk x5, xm_rk x4, xm_rk x2, xm_rk x1, rf_nk h x1 x2]
  have V0 := v_now (L := L) (xs := xs) (d := d) hR ht hc e23 hact h0 h1 h3 hs
  rcases v_nearest (L := L) (xs := xs) (d := d + 1) ht gR hS with ⟨j, hj, hjw, hmin, W⟩ | ⟨hno, W⟩
  · rw [g83] at hjw hmin
    refine ⟨g, nI (F j), N, Q, par, mv, dep, F, v_X11_searches (d := d + 9) (s_X11_searches_0_1 (d := d + 2) V0 k2 k4 V W (fun e => ?_)), fr, a1.agr, hS, a5.near a2 hj (a6 j hj) hjw hmin⟩
    have := a6 j hj
    have := (nI_eq (a := F j) (b := 1000000000) (by omega) (by decide)).mp e
    omega
  · rw [g83] at hno
    exact ⟨g, -1, N, Q, par, mv, dep, F, v_X11_searches (d := d + 9) (s_X11_searches_0_0 (d := d + 2) V0 k2 k4 V W rfl), fr, a1.agr, hS, a2.nearN hno⟩
end OPS
