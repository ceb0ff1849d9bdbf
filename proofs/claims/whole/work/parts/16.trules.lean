/-! the same, of a step -/
section XMT
variable {X : xm_X} {i : Nat} {ls : xm_L} {h : xm_H}
theorem xm_T_gi {ix : Nat} {e : xm_I} (hin : xm_in e = .getfield ix) {p a : Nat} {q : List Value} (hp : X.1[p]? = some (.inr a)) (ha : xm_a e = a) (hd : xm_d e = 0 ∨ xm_d e = 3) : xm_step X e i ls (.ref p :: q) h = some (i + 1, ls, .int (h.1 p (xm_b e)) :: q, h) := by
  unfold xm_step
  rw [hin]
  exact xm_S_gi hp ha hd
theorem xm_T_gl {ix : Nat} {e : xm_I} (hin : xm_in e = .getfield ix) {p a : Nat} {q : List Value} (hp : X.1[p]? = some (.inr a)) (ha : xm_a e = a) (hd : xm_d e = 1) : xm_step X e i ls (.ref p :: q) h = some (i + 1, ls, .long (h.2.1 p (xm_b e)) :: q, h) := by
  unfold xm_step
  rw [hin]
  exact xm_S_gl hp ha hd
theorem xm_T_gr {ix : Nat} {e : xm_I} (hin : xm_in e = .getfield ix) {p a t : Nat} {q : List Value} (hp : X.1[p]? = some (.inr a)) (ha : xm_a e = a) (hd : xm_d e = 2) (ht : h.2.2 p (xm_b e) = some t) : xm_step X e i ls (.ref p :: q) h = some (i + 1, ls, .ref t :: q, h) := by
  unfold xm_step
  rw [hin]
  exact xm_S_gr hp ha hd ht
theorem xm_T_gs {ix : Nat} {e : xm_I} (hin : xm_in e = .getfield ix) {p : Nat} {q : List Value} {v : Value} (hp : X.2.2.1 p (xm_b e) = some v) (hd : xm_d e = 9) : xm_step X e i ls (.ref p :: q) h = some (i + 1, ls, v :: q, h) := by
  unfold xm_step
  rw [hin]
  exact xm_S_gs hp hd
theorem xm_T_pi {ix : Nat} {e : xm_I} (hin : xm_in e = .putfield ix) {p a : Nat} {q : List Value} {x : Int32} (hp : X.1[p]? = some (.inr a)) (ha : xm_a e = a) (hd : xm_d e = 0) : xm_step X e i ls (.int x :: .ref p :: q) h = some (i + 1, ls, q, xm_si h p (xm_b e) x) := by
  unfold xm_step
  rw [hin]
  exact xm_S_pi hp ha hd
theorem xm_T_pz {ix : Nat} {e : xm_I} (hin : xm_in e = .putfield ix) {p a : Nat} {q : List Value} {x : Int32} (hp : X.1[p]? = some (.inr a)) (ha : xm_a e = a) (hd : xm_d e = 3) (hx : x = 0 ∨ x = 1) : xm_step X e i ls (.int x :: .ref p :: q) h = some (i + 1, ls, q, xm_si h p (xm_b e) x) := by
  unfold xm_step
  rw [hin]
  exact xm_S_pz hp ha hd hx
theorem xm_T_pl {ix : Nat} {e : xm_I} (hin : xm_in e = .putfield ix) {p a : Nat} {q : List Value} {x : Int64} (hp : X.1[p]? = some (.inr a)) (ha : xm_a e = a) (hd : xm_d e = 1) : xm_step X e i ls (.long x :: .ref p :: q) h = some (i + 1, ls, q, xm_sl h p (xm_b e) x) := by
  unfold xm_step
  rw [hin]
  exact xm_S_pl hp ha hd
theorem xm_T_pr {ix : Nat} {e : xm_I} (hin : xm_in e = .putfield ix) {p a : Nat} {q : List Value} {x : Nat} (hp : X.1[p]? = some (.inr a)) (ha : xm_a e = a) (hd : xm_d e = 2) : xm_step X e i ls (.ref x :: .ref p :: q) h = some (i + 1, ls, q, xm_sr h p (xm_b e) x) := by
  unfold xm_step
  rw [hin]
  exact xm_S_pr hp ha hd
theorem xm_T_idiv {e : xm_I} (hin : xm_in e = .idiv) {x y : Int32} {q : List Value} (hy : ¬ y = 0) : xm_step X e i ls (.int y :: .int x :: q) h = some (i + 1, ls, .int (x / y) :: q, h) := by
  unfold xm_step
  rw [hin]
  exact xm_S_id hy
theorem xm_T_irem {e : xm_I} (hin : xm_in e = .irem) {x y : Int32} {q : List Value} (hy : ¬ y = 0) : xm_step X e i ls (.int y :: .int x :: q) h = some (i + 1, ls, .int (x - x / y * y) :: q, h) := by
  unfold xm_step
  rw [hin]
  exact xm_S_id hy
theorem xm_T_ldiv {e : xm_I} (hin : xm_in e = .ldiv) {x y : Int64} {q : List Value} (hy : ¬ y = 0) : xm_step X e i ls (.long y :: .long x :: q) h = some (i + 1, ls, .long (x / y) :: q, h) := by
  unfold xm_step
  rw [hin]
  exact xm_S_ld hy
theorem xm_T_lrem {e : xm_I} (hin : xm_in e = .lrem) {x y : Int64} {q : List Value} (hy : ¬ y = 0) : xm_step X e i ls (.long y :: .long x :: q) h = some (i + 1, ls, .long (x - x / y * y) :: q, h) := by
  unfold xm_step
  rw [hin]
  exact xm_S_ld hy
theorem xm_T_iald {e : xm_I} (hin : xm_in e = .iaload) {t n p : Nat} {j : Int32} {q : List Value} (hp : X.1[p]? = some (.inl (t, n))) (ht : 0 ≤ t ∧ t ≤ 0) (hj : ¬ (j < 0 ∨ n ≤ j.toNatClampNeg)) : xm_step X e i ls (.int j :: .ref p :: q) h = some (i + 1, ls, .int (h.1 p j.toNatClampNeg) :: q, h) := by
  unfold xm_step
  rw [hin]
  exact xm_S_ald hp ht hj
theorem xm_T_bald {e : xm_I} (hin : xm_in e = .baload) {t n p : Nat} {j : Int32} {q : List Value} (hp : X.1[p]? = some (.inl (t, n))) (ht : 1 ≤ t ∧ t ≤ 2) (hj : ¬ (j < 0 ∨ n ≤ j.toNatClampNeg)) : xm_step X e i ls (.int j :: .ref p :: q) h = some (i + 1, ls, .int (h.1 p j.toNatClampNeg) :: q, h) := by
  unfold xm_step
  rw [hin]
  exact xm_S_ald hp ht hj
theorem xm_T_ialx {e : xm_I} (hin : xm_in e = .iaload) {t n p : Nat} {f : Nat → Int32} {j : Int32} {q : List Value} (hp0 : X.1[p]? = none) (hp : X.2.1 p = some (t, n, f)) (ht : 0 ≤ t ∧ t ≤ 0) (hj : ¬ (j < 0 ∨ n ≤ j.toNatClampNeg)) : xm_step X e i ls (.int j :: .ref p :: q) h = some (i + 1, ls, .int (f j.toNatClampNeg) :: q, h) := by
  unfold xm_step
  rw [hin]
  exact xm_S_alx hp0 hp ht hj
theorem xm_T_balx {e : xm_I} (hin : xm_in e = .baload) {t n p : Nat} {f : Nat → Int32} {j : Int32} {q : List Value} (hp0 : X.1[p]? = none) (hp : X.2.1 p = some (t, n, f)) (ht : 1 ≤ t ∧ t ≤ 2) (hj : ¬ (j < 0 ∨ n ≤ j.toNatClampNeg)) : xm_step X e i ls (.int j :: .ref p :: q) h = some (i + 1, ls, .int (f j.toNatClampNeg) :: q, h) := by
  unfold xm_step
  rw [hin]
  exact xm_S_alx hp0 hp ht hj
theorem xm_T_asi {e : xm_I} (hin : xm_in e = .iastore) {n p : Nat} {j x : Int32} {q : List Value} (hp : X.1[p]? = some (.inl (0, n))) (hj : ¬ (j < 0 ∨ n ≤ j.toNatClampNeg)) : xm_step X e i ls (.int x :: .int j :: .ref p :: q) h = some (i + 1, ls, q, xm_si h p j.toNatClampNeg x) := by
  unfold xm_step
  rw [hin]
  exact xm_S_asi hp hj
theorem xm_T_asb {e : xm_I} (hin : xm_in e = .bastore) {n p : Nat} {j x : Int32} {q : List Value} (hp : X.1[p]? = some (.inl (1, n))) (hj : ¬ (j < 0 ∨ n ≤ j.toNatClampNeg)) : xm_step X e i ls (.int x :: .int j :: .ref p :: q) h = some (i + 1, ls, q, xm_si h p j.toNatClampNeg (vp_nar .byte x)) := by
  unfold xm_step
  rw [hin]
  exact xm_S_asb hp hj
theorem xm_T_asz {e : xm_I} (hin : xm_in e = .bastore) {n p : Nat} {j x : Int32} {q : List Value} (hp : X.1[p]? = some (.inl (2, n))) (hj : ¬ (j < 0 ∨ n ≤ j.toNatClampNeg)) : xm_step X e i ls (.int x :: .int j :: .ref p :: q) h = some (i + 1, ls, q, xm_si h p j.toNatClampNeg (vp_nar .boolean x)) := by
  unfold xm_step
  rw [hin]
  exact xm_S_asz hp hj
theorem xm_T_lald {e : xm_I} (hin : xm_in e = .laload) {n p : Nat} {j : Int32} {q : List Value} (hp : X.1[p]? = some (.inl (3, n))) (hj : ¬ (j < 0 ∨ n ≤ j.toNatClampNeg)) : xm_step X e i ls (.int j :: .ref p :: q) h = some (i + 1, ls, .long (h.2.1 p j.toNatClampNeg) :: q, h) := by
  unfold xm_step
  rw [hin]
  exact xm_S_lald hp hj
theorem xm_T_last {e : xm_I} (hin : xm_in e = .lastore) {n p : Nat} {j : Int32} {x : Int64} {q : List Value} (hp : X.1[p]? = some (.inl (3, n))) (hj : ¬ (j < 0 ∨ n ≤ j.toNatClampNeg)) : xm_step X e i ls (.long x :: .int j :: .ref p :: q) h = some (i + 1, ls, q, xm_sl h p j.toNatClampNeg x) := by
  unfold xm_step
  rw [hin]
  exact xm_S_last hp hj
theorem xm_T_aald {e : xm_I} (hin : xm_in e = .aaload) {t n p u : Nat} {j : Int32} {q : List Value} (hp : X.1[p]? = some (.inl (t, n))) (ht : t = 4 ∨ t = 5) (hj : ¬ (j < 0 ∨ n ≤ j.toNatClampNeg)) (hu : h.2.2 p j.toNatClampNeg = some u) : xm_step X e i ls (.int j :: .ref p :: q) h = some (i + 1, ls, .ref u :: q, h) := by
  unfold xm_step
  rw [hin]
  exact xm_S_aald hp ht hj hu
theorem xm_T_alen {e : xm_I} (hin : xm_in e = .arraylength) {t n p : Nat} {q : List Value} (hp : X.1[p]? = some (.inl (t, n))) (ht : t < 6) : xm_step X e i ls (.ref p :: q) h = some (i + 1, ls, .int (Int32.ofNat n) :: q, h) := by
  unfold xm_step
  rw [hin]
  exact xm_S_alen hp ht
theorem xm_T_alenx {e : xm_I} (hin : xm_in e = .arraylength) {t n p : Nat} {f : Nat → Int32} {q : List Value} (hp0 : X.1[p]? = none) (hp : X.2.1 p = some (t, n, f)) : xm_step X e i ls (.ref p :: q) h = some (i + 1, ls, .int (Int32.ofNat n) :: q, h) := by
  unfold xm_step
  rw [hin]
  exact xm_S_alenx hp0 hp
theorem xm_T_cpi {ix : Nat} {e : xm_I} (hin : xm_in e = .invokestatic ix) (hd1 : xm_d e = 1) {n0 n1 p q : Nat} {sp dp n : Int32} {rs : List Value} (hp : X.1[p]? = some (.inl (0, n0))) (hq : X.1[q]? = some (.inl (0, n1))) (hj : ¬ (sp < 0 ∨ dp < 0 ∨ n < 0 ∨ n0 < sp.toNatClampNeg + n.toNatClampNeg ∨ n1 < dp.toNatClampNeg + n.toNatClampNeg ∨ 8 < (rs.map fun v => v.category).sum)) : xm_step X e i ls (.int n :: .int dp :: .ref q :: .int sp :: .ref p :: rs) h = some (i + 1, ls, rs, xm_ci_cpy h p q sp.toNatClampNeg dp.toNatClampNeg n.toNatClampNeg) := by
  unfold xm_step
  rw [hin]
  show (if xm_d e = 1 then _ else _) = _
  rw [if_pos hd1]
  exact xm_S_cpi hp hq hj
theorem xm_T_cpl {ix : Nat} {e : xm_I} (hin : xm_in e = .invokestatic ix) (hd1 : xm_d e = 1) {n0 n1 p q : Nat} {sp dp n : Int32} {rs : List Value} (hp : X.1[p]? = some (.inl (3, n0))) (hq : X.1[q]? = some (.inl (3, n1))) (hj : ¬ (sp < 0 ∨ dp < 0 ∨ n < 0 ∨ n0 < sp.toNatClampNeg + n.toNatClampNeg ∨ n1 < dp.toNatClampNeg + n.toNatClampNeg ∨ 8 < (rs.map fun v => v.category).sum)) : xm_step X e i ls (.int n :: .int dp :: .ref q :: .int sp :: .ref p :: rs) h = some (i + 1, ls, rs, xm_cl_cpy h p q sp.toNatClampNeg dp.toNatClampNeg n.toNatClampNeg) := by
  unfold xm_step
  rw [hin]
  show (if xm_d e = 1 then _ else _) = _
  rw [if_pos hd1]
  exact xm_S_cpl hp hq hj
theorem xm_T_tab {e : xm_I} {df lo hi : Int} {offs : Array Int} {x : Int32} {q : List Value} (k : Int32) (j : Nat) (hin : xm_in e = .tableswitch df lo hi offs) (hx : x = k) (hl : ¬ (k.toInt < lo ∨ hi < k.toInt)) (hj : (xm_js e)[(k.toInt - lo).toNat]? = some j) : xm_step X e i ls (.int x :: q) h = some (j, ls, q, h) := by
  subst hx
  unfold xm_step
  rw [hin]
  simp only [hl, if_false, hj]
theorem xm_T_tabd {e : xm_I} {df lo hi : Int} {offs : Array Int} {x : Int32} {q : List Value} (hin : xm_in e = .tableswitch df lo hi offs) (hx : x.toInt < lo ∨ hi < x.toInt) : xm_step X e i ls (.int x :: q) h = some (xm_b e, ls, q, h) := by
  unfold xm_step
  rw [hin]
  simp only [hx, if_true]
theorem xm_T_lk {e : xm_I} {df : Int} {ps : Array (Int × Int)} {x : Int32} {q : List Value} (j : Nat) (hin : xm_in e = .lookupswitch df ps) (hj : xm_lk ps.toList (xm_js e) (xm_b e) x.toInt = j) : xm_step X e i ls (.int x :: q) h = some (j, ls, q, h) := by
  subst hj
  unfold xm_step
  rw [hin]
theorem xm_rc {d p : Nat} {as : List Value} (hp : X.1[p]? = some (.inr d)) (hd : ¬ d = 99) : xm_rcv X d (.ref p :: as) = true := by simp [xm_rcv, hd, hp]
theorem xm_rs {p : Nat} {v : Value} {as : List Value} (hp : X.2.2.1 p 0 = some v) : xm_rcv X 99 (.ref p :: as) = true := by simp [xm_rcv, hp]
end XMT
