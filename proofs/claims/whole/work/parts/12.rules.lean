/-! Rules for runs: with enough fuel. -/
def xm_E (X : xm_X) (P : List xm_M) (d : Nat) (co : List xm_I) (i : Nat) (ls : xm_L) (st : List Value) (h : xm_H) (r : Option Value) (h' : xm_H) : Prop := ∃ n0 : Nat, ∀ n N : Nat, n0 ≤ n → n0 ≤ N → xm_go X (xm_run X P d N) co n i ls st h = some (r, h')
def xm_V (X : xm_X) (P : List xm_M) (d mi : Nat) (as : List Value) (h : xm_H) (r : Option Value) (h' : xm_H) : Prop := ∃ n0 : Nat, ∀ N : Nat, n0 ≤ N → xm_run X P d N mi as h = some (r, h')
section XME
variable {X : xm_X} {P : List xm_M} {d : Nat} {co : List xm_I} {i j : Nat} {ls ls1 : xm_L} {st st1 : List Value} {h h1 h' : xm_H} {r : Option Value}
theorem xm_E_k (k : Nat) (hr : ∀ (n : Nat) (F : Nat → List Value → xm_H → Option (Option Value × xm_H)), xm_go X F co (n + k) i ls st h = xm_go X F co n j ls1 st1 h1) (H : xm_E X P d co j ls1 st1 h1 r h') : xm_E X P d co i ls st h r h' := by
  obtain ⟨n0, hn⟩ := H
  refine ⟨n0 + k, fun n N h2 h3 => ?_⟩
  have e : n = (n - k) + k := by omega
  rw [e, hr]
  exact hn (n - k) N (by omega) (by omega)
theorem xm_E_t {c : Prop} {dc : Decidable c} {a b : Nat} (hc : c) (H : xm_E X P d co a ls st h r h') : xm_E X P d co (@ite Nat c dc a b) ls st h r h' := by rw [if_pos hc]; exact H
theorem xm_E_f {c : Prop} {dc : Decidable c} {a b : Nat} (hc : ¬ c) (H : xm_E X P d co b ls st h r h') : xm_E X P d co (@ite Nat c dc a b) ls st h r h' := by rw [if_neg hc]; exact H
/-- instructions that a step does -/
def xm_pl (e : xm_I) : Bool := match xm_in e with
  | .return_ => false
  | .ireturn => false
  | .lreturn => false
  | .invokevirtual _ => false
  | .invokestatic _ => decide (xm_d e ≠ 0)
  | _ => true
theorem xm_go_pl {F : Nat → List Value → xm_H → Option (Option Value × xm_H)} {n : Nat} {e : xm_I} (he : co[i]? = some e) (hp : xm_pl e = true) (hs : xm_step X e i ls st h = some (j, ls1, st1, h1)) : xm_go X F co (n + 1) i ls st h = xm_go X F co n j ls1 st1 h1 := by
  conv => lhs; unfold xm_go
  simp only [he]
  unfold xm_pl at hp
  split
  · rename_i q; rw [q] at hp; cases hp
  · rename_i q; rw [q] at hp; cases hp
  · rename_i q; rw [q] at hp; cases hp
  · rename_i q; rw [q] at hp; cases hp
  · rename_i q
    rw [q] at hp
    have hp := of_decide_eq_true hp
    rw [if_neg hp, hs]
  · rw [hs]
theorem xm_E_s {e : xm_I} (he : co[i]? = some e) (hp : xm_pl e = true) (hs : xm_step X e i ls st h = some (j, ls1, st1, h1)) (H : xm_E X P d co j ls1 st1 h1 r h') : xm_E X P d co i ls st h r h' := xm_E_k 1 (fun _ _ => xm_go_pl he hp hs) H
theorem xm_E_ret {e : xm_I} (he : co[i]? = some e) (hin : xm_in e = .return_) : xm_E X P d co i ls [] h none h := by
  refine ⟨1, fun n N h2 h3 => ?_⟩
  obtain ⟨n, rfl⟩ : ∃ k, n = k + 1 := ⟨n - 1, by omega⟩
  unfold xm_go
  simp only [he, hin]
theorem xm_E_iret {e : xm_I} {v : Int32} (he : co[i]? = some e) (hin : xm_in e = .ireturn) (hv : xm_okr (xm_d e) v = true) : xm_E X P d co i ls [.int v] h (some (.int v)) h := by
  refine ⟨1, fun n N h2 h3 => ?_⟩
  obtain ⟨n, rfl⟩ : ∃ k, n = k + 1 := ⟨n - 1, by omega⟩
  unfold xm_go
  simp only [he, hin, hv, if_true]
theorem xm_E_lret {e : xm_I} {v : Int64} (he : co[i]? = some e) (hin : xm_in e = .lreturn) : xm_E X P d co i ls [.long v] h (some (.long v)) h := by
  refine ⟨1, fun n N h2 h3 => ?_⟩
  obtain ⟨n, rfl⟩ : ∃ k, n = k + 1 := ⟨n - 1, by omega⟩
  unfold xm_go
  simp only [he, hin]
theorem xm_E_cs {e : xm_I} {ix : Nat} (as rest : List Value) {q : Option Value} (he : co[i]? = some e) (hin : xm_in e = .invokestatic ix) (hd : xm_d e = 0) (hb : xm_b e = as.length) (hc : xm_cats rest ≤ 8) (hst : st = as.reverse ++ rest) (hV : xm_V X P d (xm_a e) as h q h1) (H : xm_E X P d co (i + 1) ls (q.toList ++ rest) h1 r h') : xm_E X P d co i ls st h r h' := by
  obtain ⟨n1, hn1⟩ := hV
  obtain ⟨n2, hn2⟩ := H
  subst hst
  refine ⟨n1 + n2 + 1, fun n N h2 h3 => ?_⟩
  obtain ⟨n, rfl⟩ : ∃ k, n = k + 1 := ⟨n - 1, by omega⟩
  have e1 : List.take (xm_b e) (as.reverse ++ rest) = as.reverse := by rw [hb]; simp
  have e2 : List.drop (xm_b e) (as.reverse ++ rest) = rest := by rw [hb]; simp
  unfold xm_go
  simp only [he, hin, hd, if_true, e1, e2]
  rw [if_pos ⟨by rw [hb]; simp, hc⟩, List.reverse_reverse, hn1 N (by omega)]
  exact hn2 n N (by omega) (by omega)
theorem xm_E_cv {e : xm_I} {ix : Nat} (as rest : List Value) {q : Option Value} (he : co[i]? = some e) (hin : xm_in e = .invokevirtual ix) (hb : xm_b e = as.length) (hc : xm_cats rest ≤ 8) (hrc : xm_rcv X (xm_d e) as = true) (hst : st = as.reverse ++ rest) (hV : xm_V X P d (xm_a e) as h q h1) (H : xm_E X P d co (i + 1) ls (q.toList ++ rest) h1 r h') : xm_E X P d co i ls st h r h' := by
  obtain ⟨n1, hn1⟩ := hV
  obtain ⟨n2, hn2⟩ := H
  subst hst
  refine ⟨n1 + n2 + 1, fun n N h2 h3 => ?_⟩
  obtain ⟨n, rfl⟩ : ∃ k, n = k + 1 := ⟨n - 1, by omega⟩
  have e1 : List.take (xm_b e) (as.reverse ++ rest) = as.reverse := by rw [hb]; simp
  have e2 : List.drop (xm_b e) (as.reverse ++ rest) = rest := by rw [hb]; simp
  unfold xm_go
  simp only [he, hin, e1, e2]
  rw [if_pos ⟨by rw [hb]; simp, hc, by rw [List.reverse_reverse]; exact hrc⟩, List.reverse_reverse, hn1 N (by omega)]
  exact hn2 n N (by omega) (by omega)
theorem xm_V_of {mi : Nat} {M : xm_M} {as : List Value} (hM : P[mi]? = some M) (hl : (xm_args as).length ≤ xm_ml M) (H : xm_E X P d (xm_co M) 0 (xm_pad (xm_args as) (xm_ml M)) [] h r h') : xm_V X P (d + 1) mi as h r h' := by
  obtain ⟨n0, hn⟩ := H
  refine ⟨n0, fun N h2 => ?_⟩
  unfold xm_run
  rw [hM]
  simp only
  rw [if_pos hl]
  exact hn N N h2 h2
theorem xm_V_d {mi : Nat} {as : List Value} (H : xm_V X P d mi as h r h') : ∀ {h2 : xm_H} {r2 : Option Value}, xm_V X P d mi as h r2 h2 → r2 = r ∧ h2 = h' := by
  intro h2 r2 H2
  obtain ⟨n1, hn1⟩ := H
  obtain ⟨n2, hn2⟩ := H2
  have e1 := hn1 (n1 + n2) (by omega)
  have e2 := hn2 (n1 + n2) (by omega)
  rw [e1] at e2
  cases e2
  exact ⟨rfl, rfl⟩
/-! what a step needs -/
theorem xm_S_id {f : Int32 → Int32 → Int32} {x y : Int32} {q : List Value} (hy : ¬ y = 0) : xm_id i f ls (.int y :: .int x :: q) h = some (i + 1, ls, .int (f x y) :: q, h) := if_neg hy
theorem xm_S_ld {f : Int64 → Int64 → Int64} {x y : Int64} {q : List Value} (hy : ¬ y = 0) : xm_ld i f ls (.long y :: .long x :: q) h = some (i + 1, ls, .long (f x y) :: q, h) := if_neg hy
theorem xm_S_gi {e : xm_I} {p a : Nat} {q : List Value} (hp : X.1[p]? = some (.inr a)) (ha : xm_a e = a) (hd : xm_d e = 0 ∨ xm_d e = 3) : xm_getf X e i ls (.ref p :: q) h = some (i + 1, ls, .int (h.1 p (xm_b e)) :: q, h) := by
  have h9 : ¬ xm_d e = 9 := by omega
  have h1 : ¬ xm_d e = 1 := by omega
  have h2 : ¬ xm_d e = 2 := by omega
  simp only [xm_getf, h9, h1, h2, if_false, hp, ha, if_true]
theorem xm_S_gl {e : xm_I} {p a : Nat} {q : List Value} (hp : X.1[p]? = some (.inr a)) (ha : xm_a e = a) (hd : xm_d e = 1) : xm_getf X e i ls (.ref p :: q) h = some (i + 1, ls, .long (h.2.1 p (xm_b e)) :: q, h) := by
  have h9 : ¬ (1 : Nat) = 9 := by decide
  simp only [xm_getf, h9, hd, if_false, hp, ha, if_true]
theorem xm_S_gr {e : xm_I} {p a t : Nat} {q : List Value} (hp : X.1[p]? = some (.inr a)) (ha : xm_a e = a) (hd : xm_d e = 2) (ht : h.2.2 p (xm_b e) = some t) : xm_getf X e i ls (.ref p :: q) h = some (i + 1, ls, .ref t :: q, h) := by
  have h9 : ¬ (2 : Nat) = 9 := by decide
  have h1 : ¬ (2 : Nat) = 1 := by decide
  simp only [xm_getf, h9, h1, hd, if_false, hp, ha, if_true, ht, va_rf]
theorem xm_S_gs {e : xm_I} {p : Nat} {q : List Value} {v : Value} (hp : X.2.2.1 p (xm_b e) = some v) (hd : xm_d e = 9) : xm_getf X e i ls (.ref p :: q) h = some (i + 1, ls, v :: q, h) := by
  simp only [xm_getf, hd, if_true, hp]
theorem xm_S_pi {e : xm_I} {p a : Nat} {q : List Value} {x : Int32} (hp : X.1[p]? = some (.inr a)) (ha : xm_a e = a) (hd : xm_d e = 0) : xm_putf X e i ls (.int x :: .ref p :: q) h = some (i + 1, ls, q, xm_si h p (xm_b e) x) := by
  simp only [xm_putf, hp, ha, hd, if_true]
theorem xm_S_pz {e : xm_I} {p a : Nat} {q : List Value} {x : Int32} (hp : X.1[p]? = some (.inr a)) (ha : xm_a e = a) (hd : xm_d e = 3) (hx : x = 0 ∨ x = 1) : xm_putf X e i ls (.int x :: .ref p :: q) h = some (i + 1, ls, q, xm_si h p (xm_b e) x) := by
  have h0 : ¬ (3 : Nat) = 0 := by decide
  have h1 : ¬ (1 : Int32) = 0 := by decide
  rcases hx with rfl | rfl <;> simp only [xm_putf, hp, ha, hd, if_true, if_false, h0, h1]
theorem xm_S_pl {e : xm_I} {p a : Nat} {q : List Value} {x : Int64} (hp : X.1[p]? = some (.inr a)) (ha : xm_a e = a) (hd : xm_d e = 1) : xm_putf X e i ls (.long x :: .ref p :: q) h = some (i + 1, ls, q, xm_sl h p (xm_b e) x) := by
  simp only [xm_putf, hp, ha, hd, and_self, if_true]
theorem xm_S_pr {e : xm_I} {p a : Nat} {q : List Value} {x : Nat} (hp : X.1[p]? = some (.inr a)) (ha : xm_a e = a) (hd : xm_d e = 2) : xm_putf X e i ls (.ref x :: .ref p :: q) h = some (i + 1, ls, q, xm_sr h p (xm_b e) x) := by
  simp only [xm_putf, hp, ha, hd, and_self, if_true]
theorem xm_S_ald {tl th t n p : Nat} {j : Int32} {q : List Value} (hp : X.1[p]? = some (.inl (t, n))) (ht : tl ≤ t ∧ t ≤ th) (hj : ¬ (j < 0 ∨ n ≤ j.toNatClampNeg)) : xm_ald X tl th i ls (.int j :: .ref p :: q) h = some (i + 1, ls, .int (h.1 p j.toNatClampNeg) :: q, h) := by
  simp only [xm_ald, hp, ht, and_self, if_true, hj, if_false]
theorem xm_S_alx {tl th t n p : Nat} {f : Nat → Int32} {j : Int32} {q : List Value} (hp0 : X.1[p]? = none) (hp : X.2.1 p = some (t, n, f)) (ht : tl ≤ t ∧ t ≤ th) (hj : ¬ (j < 0 ∨ n ≤ j.toNatClampNeg)) : xm_ald X tl th i ls (.int j :: .ref p :: q) h = some (i + 1, ls, .int (f j.toNatClampNeg) :: q, h) := by
  simp only [xm_ald, hp0, hp, ht, and_self, if_true, hj, if_false]
theorem xm_S_asi {n p : Nat} {j x : Int32} {q : List Value} (hp : X.1[p]? = some (.inl (0, n))) (hj : ¬ (j < 0 ∨ n ≤ j.toNatClampNeg)) : xm_ast X 0 0 i ls (.int x :: .int j :: .ref p :: q) h = some (i + 1, ls, q, xm_si h p j.toNatClampNeg x) := by
  have h1 : ¬ (0 : Nat) = 1 := by decide
  have h2 : ¬ (0 : Nat) = 2 := by decide
  simp only [xm_ast, hp, Nat.le_refl, and_self, if_true, hj, if_false, h1, h2]
theorem xm_S_asb {n p : Nat} {j x : Int32} {q : List Value} (hp : X.1[p]? = some (.inl (1, n))) (hj : ¬ (j < 0 ∨ n ≤ j.toNatClampNeg)) : xm_ast X 1 2 i ls (.int x :: .int j :: .ref p :: q) h = some (i + 1, ls, q, xm_si h p j.toNatClampNeg (vp_nar .byte x)) := by
  have h1 : (1 : Nat) ≤ 2 := by decide
  simp only [xm_ast, hp, Nat.le_refl, h1, and_self, if_true, hj, if_false]
theorem xm_S_asz {n p : Nat} {j x : Int32} {q : List Value} (hp : X.1[p]? = some (.inl (2, n))) (hj : ¬ (j < 0 ∨ n ≤ j.toNatClampNeg)) : xm_ast X 1 2 i ls (.int x :: .int j :: .ref p :: q) h = some (i + 1, ls, q, xm_si h p j.toNatClampNeg (vp_nar .boolean x)) := by
  have h1 : (1 : Nat) ≤ 2 := by decide
  have h2 : ¬ (2 : Nat) = 1 := by decide
  simp only [xm_ast, hp, Nat.le_refl, h1, h2, and_self, if_true, hj, if_false]
theorem xm_S_lald {n p : Nat} {j : Int32} {q : List Value} (hp : X.1[p]? = some (.inl (3, n))) (hj : ¬ (j < 0 ∨ n ≤ j.toNatClampNeg)) : xm_lald X i ls (.int j :: .ref p :: q) h = some (i + 1, ls, .long (h.2.1 p j.toNatClampNeg) :: q, h) := by
  simp only [xm_lald, hp, if_true, hj, if_false]
theorem xm_S_last {n p : Nat} {j : Int32} {x : Int64} {q : List Value} (hp : X.1[p]? = some (.inl (3, n))) (hj : ¬ (j < 0 ∨ n ≤ j.toNatClampNeg)) : xm_last X i ls (.long x :: .int j :: .ref p :: q) h = some (i + 1, ls, q, xm_sl h p j.toNatClampNeg x) := by
  simp only [xm_last, hp, if_true, hj, if_false]
theorem xm_S_aald {t n p u : Nat} {j : Int32} {q : List Value} (hp : X.1[p]? = some (.inl (t, n))) (ht : t = 4 ∨ t = 5) (hj : ¬ (j < 0 ∨ n ≤ j.toNatClampNeg)) (hu : h.2.2 p j.toNatClampNeg = some u) : xm_aald X i ls (.int j :: .ref p :: q) h = some (i + 1, ls, .ref u :: q, h) := by
  simp only [xm_aald, hp, ht, if_true, hj, if_false, hu, va_rf]
theorem xm_S_alen {t n p : Nat} {q : List Value} (hp : X.1[p]? = some (.inl (t, n))) (ht : t < 6) : xm_alen X i ls (.ref p :: q) h = some (i + 1, ls, .int (Int32.ofNat n) :: q, h) := by
  simp only [xm_alen, hp, ht, if_true]
theorem xm_S_alenx {t n p : Nat} {f : Nat → Int32} {q : List Value} (hp0 : X.1[p]? = none) (hp : X.2.1 p = some (t, n, f)) : xm_alen X i ls (.ref p :: q) h = some (i + 1, ls, .int (Int32.ofNat n) :: q, h) := by
  simp only [xm_alen, hp0, hp]
theorem xm_S_cpi {n0 n1 p q : Nat} {sp dp n : Int32} {rs : List Value} (hp : X.1[p]? = some (.inl (0, n0))) (hq : X.1[q]? = some (.inl (0, n1))) (hj : ¬ (sp < 0 ∨ dp < 0 ∨ n < 0 ∨ n0 < sp.toNatClampNeg + n.toNatClampNeg ∨ n1 < dp.toNatClampNeg + n.toNatClampNeg ∨ 8 < (rs.map fun v => v.category).sum)) : xm_cpy X i ls (.int n :: .int dp :: .ref q :: .int sp :: .ref p :: rs) h = some (i + 1, ls, rs, xm_ci_cpy h p q sp.toNatClampNeg dp.toNatClampNeg n.toNatClampNeg) := by
  simp only [xm_cpy, hp, hq, hj, if_false, and_self, if_true]
theorem xm_S_cpl {n0 n1 p q : Nat} {sp dp n : Int32} {rs : List Value} (hp : X.1[p]? = some (.inl (3, n0))) (hq : X.1[q]? = some (.inl (3, n1))) (hj : ¬ (sp < 0 ∨ dp < 0 ∨ n < 0 ∨ n0 < sp.toNatClampNeg + n.toNatClampNeg ∨ n1 < dp.toNatClampNeg + n.toNatClampNeg ∨ 8 < (rs.map fun v => v.category).sum)) : xm_cpy X i ls (.int n :: .int dp :: .ref q :: .int sp :: .ref p :: rs) h = some (i + 1, ls, rs, xm_cl_cpy h p q sp.toNatClampNeg dp.toNatClampNeg n.toNatClampNeg) := by
  have h1 : ¬ (3 : Nat) = 0 := by decide
  simp only [xm_cpy, hp, hq, hj, if_false, h1, and_self, if_true]
theorem xm_S_st1 {k : Nat} {x : Int32} {q : List Value} (hk : k < ls.length) (hc : xm_clr ls k = ls) : xm_sti i k ls (.int x :: q) h = some (i + 1, ls.set k (some (.int x)), q, h) := by
  simp only [xm_sti, hk, if_true, xm_s1, hc]
end XME
