/-! A line of the tape: what it tells; the class reads it. -/
def gv (x : Except (Nat × Nat) (Nat × Nat)) : Nat := match x with
  | .ok a => a.1
  | .error _ => 0
theorem ebn_ok {α : Type} {r : Except (Nat × Nat) Nat} {f : Nat → Except (Nat × Nat) α} {y : α} (h : ebn r f = .ok y) : ∃ p, r = .ok p ∧ f p = .ok y := by
  cases r with
  | ok p => exact ⟨p, rfl, h⟩
  | error e => cases h
theorem er2_ok {x : Except (Nat × Nat) (Nat × Nat)} {q : Nat} (h : er2 x = .ok q) : x = .ok (gv x, q) := by
  cases x with
  | ok a => cases h; rfl
  | error e => cases h
theorem ev1_ok {x : Except (Nat × Nat) (Nat × Nat)} {v : Int32} {q : Nat} (h : er2 x = .ok q) (hv : ev1 v x) : v = nI (gv x) := by
  cases x with
  | ok a => exact hv
  | error e => cases h
def wLinen : List Nat := [108, 105, 110, 101, 110]
def wLong : List Nat := [108, 111, 110, 103]
def wWide : List Nat := [119, 105, 100, 101]
def wThick : List Nat := [116, 104, 105, 99, 107]
def wRoom : List Nat := [114, 111, 111, 109]
def wArms : List Nat := [97, 114, 109, 115]
def wTakes : List Nat := [116, 97, 107, 101, 115]
def wHer : List Nat := [104, 101, 114]
def wHis : List Nat := [104, 105, 115]
def wLearns : List Nat := [108, 101, 97, 114, 110, 115]
def sMov : List Nat := [104, 97, 108, 118, 101, 32, 116, 104, 105, 114, 100, 32, 109, 101, 101, 116, 32, 116, 117, 114, 110, 32, 113, 117, 97, 114, 116, 101, 114, 32, 117, 110, 116, 119, 105, 115, 116]
def sKin : List Nat := [99, 97, 108, 108, 32, 115, 108, 105, 112, 115, 32, 119, 105, 115, 104, 32, 112, 114, 101, 115, 115, 32, 112, 97, 105, 114, 32, 112, 105, 108, 101]
def sAct : List Nat := [116, 111, 112, 32, 98, 111, 116, 116, 111, 109, 32, 119, 97, 108, 107, 32, 115, 116, 97, 121]
def sFac : List Nat := [102, 114, 111, 110, 116, 32, 98, 97, 99, 107, 32, 101, 105, 116, 104, 101, 114]
def sHem : List Nat := [116, 111, 112, 32, 98, 111, 116, 116, 111, 109, 32, 108, 101, 102, 116, 32, 114, 105, 103, 104, 116, 32, 105, 110, 32, 97, 110, 121]
theorem sx_1000 : SX 1000 wLinen := by decide +kernel
theorem sx_1002 : SX 1002 wLong := by decide +kernel
theorem sx_1004 : SX 1004 wWide := by decide +kernel
theorem sx_1006 : SX 1006 wThick := by decide +kernel
theorem sx_1008 : SX 1008 wRoom := by decide +kernel
theorem sx_1010 : SX 1010 wArms := by decide +kernel
theorem sx_1012 : SX 1012 sMov := by decide +kernel
theorem sx_1014 : SX 1014 wTakes := by decide +kernel
theorem sx_1016 : SX 1016 sKin := by decide +kernel
theorem sx_1018 : SX 1018 wHer := by decide +kernel
theorem sx_1020 : SX 1020 sAct := by decide +kernel
theorem sx_1022 : SX 1022 wHis := by decide +kernel
theorem sx_1024 : SX 1024 sFac := by decide +kernel
theorem sx_1026 : SX 1026 sHem := by decide +kernel
theorem sx_1028 : SX 1028 wLearns := by decide +kernel
section PURE
variable (n : Nat) (B : Nat → Nat)
/-- a word, then a number -/
def pwn (W : List Nat) (lo hi : Nat) (r : Except (Nat × Nat) Nat) : Except (Nat × Nat) (Nat × Nat) := ebn (ebn r (pw n B W)) (pn n B lo hi)
def pwc (W S : List Nat) (r : Except (Nat × Nat) Nat) : Except (Nat × Nat) (Nat × Nat) := ebn (ebn r (pw n B W)) (pch n B S)
def sA (r : Except (Nat × Nat) Nat) := pwn n B wLong 1 48 (ebn r (pw n B wLinen))
def sB (r : Except (Nat × Nat) Nat) := pwn n B wWide 1 48 (er2 (sA n B r))
def sC (r : Except (Nat × Nat) Nat) := pwn n B wThick 1 9 (er2 (sB n B r))
def sD (r : Except (Nat × Nat) Nat) := pwn n B wRoom 1 60 (er2 (sC n B r))
def sE (r : Except (Nat × Nat) Nat) := pwn n B wArms 1 60 (er2 (sD n B r))
def up (T : Nat → Int32) (k : Nat) (v : Int32) : Nat → Int32 := fun j => if j = k then v else T j
def fnl (T : Nat → Int32) (r : Except (Nat × Nat) Nat) : Except (Nat × Nat) ((Nat → Int32) × Nat) := match r with
  | .ok q => .ok (T, q)
  | .error e => .error e
def T6 (T : Nat → Int32) (k : Nat) : Nat → Int32 := fun j => if 5 ≤ j ∧ j < 5 + k then 5 else T j
def pfirst (T : Nat → Int32) (p : Nat) : Except (Nat × Nat) ((Nat → Int32) × Nat) :=
  fnl (T6 (up (up (up (up (up T 0 (nI (gv (sA n B (.ok p))))) 1 (nI (gv (sB n B (.ok p))))) 2 (nI (gv (sC n B (.ok p))))) 3 (nI (gv (sD n B (.ok p))))) 4 (nI (gv (sE n B (.ok p))))) 6) (er2 (sE n B (.ok p)))
def pcall (T : Nat → Int32) (c p : Nat) : Except (Nat × Nat) ((Nat → Int32) × Nat) :=
  let a := pwc n B wHer sAct (.ok (ten n B p))
  let b := pwc n B wHis sAct (er2 a)
  fnl (up (up (up T (24 + 2 * c) (nI (gv a))) (25 + 2 * c) (nI (gv b))) 19 (nI (c + 1))) (er2 b)
def pslips (T : Nat → Int32) (p : Nat) : Except (Nat × Nat) ((Nat → Int32) × Nat) :=
  let a := pwn n B wHer 0 50 (.ok (ten n B p))
  let b := pwn n B wHis 0 50 (er2 a)
  fnl (up (up T 11 (nI (gv a))) 12 (nI (gv b))) (er2 b)
def pwish (T : Nat → Int32) (p : Nat) : Except (Nat × Nat) ((Nat → Int32) × Nat) :=
  let a := pwn n B wLong 1 48 (.ok (ten n B p))
  let b := pwn n B wWide 1 48 (er2 a)
  let c := ebn (er2 b) (pch n B sFac)
  let f := ebn (er2 c) (pch n B sHem)
  fnl (up (up (up (up (up T 13 1) 14 (nI (gv a))) 15 (nI (gv b))) 16 (nI (gv c))) 17 (nI (gv f))) (er2 f)
def ppress (T : Nat → Int32) (p : Nat) : Except (Nat × Nat) ((Nat → Int32) × Nat) :=
  let a := pn n B 1 999 (ten n B p)
  fnl (up T 18 (nI (gv a))) (er2 a)
def ppair (T : Nat → Int32) (c p : Nat) : Except (Nat × Nat) ((Nat → Int32) × Nat) :=
  let a := pn n B 1 99 (ten n B p)
  let b := pwn n B wLearns 0 999 (er2 a)
  fnl (up (up (up T (36 + 2 * c) (nI (gv a))) (37 + 2 * c) (nI (gv b))) 20 (nI (c + 1))) (er2 b)
def ppile (T : Nat → Int32) (c p : Nat) : Except (Nat × Nat) ((Nat → Int32) × Nat) :=
  let a := pn n B 1 60 (ten n B p)
  fnl (up (up T (44 + c) (nI (gv a))) 21 (nI (c + 1))) (er2 a)
def ptakes (T : Nat → Int32) (i p : Nat) : Except (Nat × Nat) ((Nat → Int32) × Nat) :=
  let a := pwn n B wTakes 1 99 (.ok (ten n B p))
  fnl (up T (5 + i) (nI (gv a))) (er2 a)
def pnext (T : Nat → Int32) (p : Nat) : Except (Nat × Nat) ((Nat → Int32) × Nat) := match ptk n B (.ok p) sMov with
  | some i => ptakes n B T i p
  | none => match ptk n B (.ok p) sKin with
    | some 0 => if T 19 = 6 then .error (3, tst n B p) else pcall n B T (T 19).toNatClampNeg p
    | some 1 => pslips n B T p
    | some 2 => pwish n B T p
    | some 3 => ppress n B T p
    | some 4 => if T 20 = 4 then .error (3, tst n B p) else ppair n B T (T 20).toNatClampNeg p
    | some _ => if T 21 = 6 then .error (3, tst n B p) else ppile n B T (T 21).toNatClampNeg p
    | none => .error (1, tst n B p)
end PURE
theorem up_a {T : Nat → Int32} {k : Nat} {v : Int32} : up T k v k = v := if_pos rfl
theorem up_k {T : Nat → Int32} {k j : Nat} {v : Int32} (h : j ≠ k) : up T k v j = T j := if_neg h
section OPS
variable {L : Nat} {xs : Nat → Int32} {d : Nat}
/-- only the tape and the Linen at s change -/
def SF (s : Nat) (h g : xm_H) : Prop := g.2 = h.2 ∧ ∀ q, q ≠ 1 → (q < s ∨ s + 7 < q) → g.1 q = h.1 q
theorem SF.refl (s : Nat) (h : xm_H) : SF s h h := ⟨rfl, fun _ _ _ => rfl⟩
theorem SF.trans {s : Nat} {h g k : xm_H} (a : SF s h g) (b : SF s g k) : SF s h k := ⟨b.1.trans a.1, fun q h1 h2 => (b.2 q h1 h2).trans (a.2 q h1 h2)⟩
theorem XF.sf {s : Nat} {h g : xm_H} (a : XF h g) : SF s h g := ⟨a.1, fun q h1 _ => a.2 q h1⟩
theorem SF.si {s q k : Nat} {h : xm_H} {v : Int32} (h1 : s ≤ q) (h2 : q ≤ s + 7) : SF s h (xm_si h q k v) := ⟨rfl, fun _ _ hq => xm_rn (by omega)⟩
def LR (s : Nat) (g : xm_H) (T : Nat → Int32) : Prop := rl_lin (g.1 s) (g.1 (s + 1)) (g.1 (s + 2)) (g.1 (s + 3)) (g.1 (s + 4)) (g.1 (s + 5)) (g.1 (s + 6)) (g.1 (s + 7)) T
def CR (n : Nat) (B : Nat → Nat) (s : Nat) (g : xm_H) (x : Except (Nat × Nat) ((Nat → Int32) × Nat)) : Prop := match x with
  | .ok a => CX n B g (.ok a.2) ∧ LR s g a.1
  | .error e => CX n B g (.error e)
theorem CR.fin {n : Nat} {B : Nat → Nat} {s : Nat} {g : xm_H} {T : Nat → Int32} {r : Except (Nat × Nat) Nat} (hc : CX n B g r) (hl : ∀ q, r = .ok q → LR s g T) : CR n B s g (fnl T r) := by
  cases r with
  | ok q => exact ⟨hc, hl q rfl⟩
  | error e => exact hc
theorem xs_lin {s : Nat} (hs : s = 5 ∨ s = 13) : (xm_X0 L xs).1[s]? = some (.inr 0) := by
  rcases hs with rfl | rfl <;> rfl
theorem xs_wish {s : Nat} (hs : s = 5 ∨ s = 13) : (xm_X0 L xs).1[s + 1]? = some (.inr 7) := by
  rcases hs with rfl | rfl <;> rfl
theorem xs_l6 {s : Nat} (hs : s = 5 ∨ s = 13) : (xm_X0 L xs).1[s + 2]? = some (.inl (0, 6)) ∧ (xm_X0 L xs).1[s + 3]? = some (.inl (0, 6)) ∧ (xm_X0 L xs).1[s + 4]? = some (.inl (0, 6)) ∧ (xm_X0 L xs).1[s + 5]? = some (.inl (0, 4)) ∧ (xm_X0 L xs).1[s + 6]? = some (.inl (0, 4)) ∧ (xm_X0 L xs).1[s + 7]? = some (.inl (0, 6)) := by
  rcases hs with rfl | rfl <;> exact ⟨rfl, rfl, rfl, rfl, rfl, rfl⟩
theorem rr_lin {s t k : Nat} (hs : s = 5 ∨ s = 13) (h1 : 12 ≤ k) (h2 : k ≤ 18) : xm_R0 t s k = some (s + (k - 11)) := by
  unfold xm_R0
  rw [if_neg (by omega), if_neg (by omega), if_neg (by omega), if_pos (by omega), if_pos ⟨h1, h2⟩]
theorem c_wn {h : xm_H} {t n lo hi w : Nat} {B : Nat → Nat} {S : List Nat} {r : Except (Nat × Nat) Nat} (hR : h.2.2 = xm_R0 t) (ht : t = 5 ∨ t = 13) (hn : n ≤ 1000) (hc : CX n B h r) (hs : SX w S) (hb : nbl S) (hlo : lo ≤ hi) (hhi : hi ≤ 999) : ∃ g v g', xm_V (xm_X0 L xs) xm_P (d + 14) 13 [.ref 1, .ref w] h none g ∧ xm_V (xm_X0 L xs) xm_P (d + 14) 22 [.ref 1, .int (nI lo), .int (nI hi)] g (some (.int v)) g' ∧ XF h g ∧ XF h g' ∧ CX n B g' (er2 (pwn n B S lo hi r)) ∧ ev1 v (pwn n B S lo hi r) := by
  obtain ⟨g, g0, g1, g2⟩ := c_expect (L := L) (xs := xs) (d := d) hR ht hn hc hs hb
  obtain ⟨v, g', k0, k1, k2, k3⟩ := c_number (L := L) (xs := xs) (d := d + 5) (h := g) (by rw [g1.1]; exact hR) ht hn g2 hlo hhi
  exact ⟨g, v, g', g0, k0, g1, g1.trans k1, k2, k3⟩
theorem c_wc {h : xm_H} {t n w w' : Nat} {B : Nat → Nat} {S S' : List Nat} {r : Except (Nat × Nat) Nat} (hR : h.2.2 = xm_R0 t) (ht : t = 5 ∨ t = 13) (hn : n ≤ 1000) (hc : CX n B h r) (hs : SX w S) (hb : nbl S) (hs' : SX w' S') : ∃ g v g', xm_V (xm_X0 L xs) xm_P (d + 14) 13 [.ref 1, .ref w] h none g ∧ xm_V (xm_X0 L xs) xm_P (d + 14) 25 [.ref 1, .ref w'] g (some (.int v)) g' ∧ XF h g ∧ XF h g' ∧ CX n B g' (er2 (pwc n B S S' r)) ∧ ev1 v (pwc n B S S' r) := by
  obtain ⟨g, g0, g1, g2⟩ := c_expect (L := L) (xs := xs) (d := d) hR ht hn hc hs hb
  obtain ⟨v, g', k0, k1, k2, k3⟩ := c_choose (L := L) (xs := xs) (d := d) (h := g) (by rw [g1.1]; exact hR) ht hn g2 hs'
  exact ⟨g, v, g', g0, k0, g1, g1.trans k1, k2, k3⟩
theorem c_sheet {h : xm_H} {t s n p : Nat} {B : Nat → Nat} {T : Nat → Int32} (hR : h.2.2 = xm_R0 t) (ht : t = 5 ∨ t = 13) (hs : s = 5 ∨ s = 13) (hn : n ≤ 1000) (hc : CX n B h (.ok p)) (hT : LR s h T) (hz : T 22 = 0 ∧ T 19 = 0 ∧ T 20 = 0 ∧ T 21 = 0 ∧ T 13 = 0) (h5 : ∀ k, k < 6 → h.1 (s + 2) k = 5) : ∃ g, xm_V (xm_X0 L xs) xm_P (d + 15) 12 [.ref 1, .ref s] h none g ∧ SF s h g ∧ CR n B s g (pfirst n B T p) ∧ (∀ k, k < 6 → g.1 (s + 2) k = 5) := by
  obtain ⟨g0, z0, z1, z2⟩ := c_expect (L := L) (xs := xs) (d := d) hR ht hn hc sx_1000 (by decide)
  have R0 : g0.2.2 = xm_R0 t := by rw [z1.1]; exact hR
  obtain ⟨g1, v2, g2, a0, a1, a2, a3, a4, a5⟩ := c_wn (L := L) (xs := xs) (d := d) (lo := 1) (hi := 48) R0 ht hn z2 sx_1002 (by decide) (by decide) (by decide)
  have R2 : g2.2.2 = xm_R0 t := by rw [a3.1]; exact R0
  obtain ⟨g3, v4, g4, b0, b1, b2, b3, b4, b5⟩ := c_wn (L := L) (xs := xs) (d := d) (h := xm_si g2 s 1 v2) (lo := 1) (hi := 48) R2 ht hn (a4.si (by omega)) sx_1004 (by decide) (by decide) (by decide)
  have R4 : g4.2.2 = xm_R0 t := by rw [b3.1]; exact R2
  obtain ⟨g5, v6, g6, c0, c1, c2, c3, c4, c5⟩ := c_wn (L := L) (xs := xs) (d := d) (h := xm_si g4 s 2 v4) (lo := 1) (hi := 9) R4 ht hn (b4.si (by omega)) sx_1006 (by decide) (by decide) (by decide)
  have R6 : g6.2.2 = xm_R0 t := by rw [c3.1]; exact R4
  obtain ⟨g7, v8, g8, d0, d1, d2, d3, d4, d5⟩ := c_wn (L := L) (xs := xs) (d := d) (h := xm_si g6 s 3 v6) (lo := 1) (hi := 60) R6 ht hn (c4.si (by omega)) sx_1008 (by decide) (by decide) (by decide)
  have R8 : g8.2.2 = xm_R0 t := by rw [d3.1]; exact R6
  obtain ⟨g9, v10, g10, f0, f1, f2, f3, f4, f5⟩ := c_wn (L := L) (xs := xs) (d := d) (h := xm_si g8 s 4 v8) (lo := 1) (hi := 60) R8 ht hn (d4.si (by omega)) sx_1010 (by decide) (by decide) (by decide)
  have V := v_X6_readSheet (d := d + 14) (s_X6_readSheet_0_0 (L := L) (xs := xs) (d := d + 7) z0 a0 a1 (xs_lin hs) b0 b1 c0 c1 d0 d1 f0 f1)
  have hs1 : s ≠ 1 := by omega
  have oth : ∀ q, q ≠ 1 → q ≠ s → (xm_si g10 s 5 v10).1 q = h.1 q := fun q q1 qs => by
    rw [xm_rn qs, f3.2 q q1, xm_rn qs, d3.2 q q1, xm_rn qs, c3.2 q q1, xm_rn qs, b3.2 q q1, xm_rn qs, a3.2 q q1, z1.2 q q1]
  have fld : ∀ j, (xm_si g10 s 5 v10).1 s j = if j = 5 then v10 else if j = 4 then v8 else if j = 3 then v6 else if j = 2 then v4 else if j = 1 then v2 else h.1 s j := by
    intro j
    by_cases j5 : j = 5
    · rw [if_pos j5, j5, xm_ra]
    · rw [if_neg j5, xm_rk j5, f3.2 s hs1]
      by_cases j4 : j = 4
      · rw [if_pos j4, j4, xm_ra]
      · rw [if_neg j4, xm_rk j4, d3.2 s hs1]
        by_cases j3 : j = 3
        · rw [if_pos j3, j3, xm_ra]
        · rw [if_neg j3, xm_rk j3, c3.2 s hs1]
          by_cases j2 : j = 2
          · rw [if_pos j2, j2, xm_ra]
          · rw [if_neg j2, xm_rk j2, b3.2 s hs1]
            by_cases j1 : j = 1
            · rw [if_pos j1, j1, xm_ra]
            · rw [if_neg j1, xm_rk j1, a3.2 s hs1, z1.2 s hs1]
  refine ⟨_, V, ⟨?_, fun q q1 qs => oth q q1 (by omega)⟩, ?_, fun k hk => by rw [oth (s + 2) (by omega) (by omega)]; exact h5 k hk⟩
  · show g10.2 = h.2
    rw [f3.1]; show g8.2 = h.2
    rw [d3.1]; show g6.2 = h.2
    rw [c3.1]; show g4.2 = h.2
    rw [b3.1]; show g2.2 = h.2
    rw [a3.1, z1.1]
  · refine CR.fin (f4.si (by omega)) (fun q hq => ?_)
    have hE : er2 (sE n B (.ok p)) = .ok q := hq
    have eE := ev1_ok (x := sE n B (.ok p)) hE f5
    obtain ⟨p9, q9, -⟩ := ebn_ok (er2_ok hE)
    obtain ⟨p8, q8, -⟩ := ebn_ok q9
    have eD := ev1_ok (x := sD n B (.ok p)) q8 d5
    obtain ⟨p7, q7, -⟩ := ebn_ok (er2_ok q8)
    obtain ⟨p6, q6, -⟩ := ebn_ok q7
    have eC := ev1_ok (x := sC n B (.ok p)) q6 c5
    obtain ⟨p5, q5, -⟩ := ebn_ok (er2_ok q6)
    obtain ⟨p4, q4, -⟩ := ebn_ok q5
    have eB := ev1_ok (x := sB n B (.ok p)) q4 b5
    obtain ⟨p3, q3, -⟩ := ebn_ok (er2_ok q4)
    obtain ⟨p2, q2, -⟩ := ebn_ok q3
    have eA := ev1_ok (x := sA n B (.ok p)) q2 a5
    obtain ⟨z22, z19, z20, z21, z13⟩ := hz
    have hl := hT
    unfold LR rl_lin at hl ⊢
    obtain ⟨l0, l1, l2, l3, l4, l5, l6, l7, l8, l9, l10, l11, l12, l13, l14, l15, l16, l17⟩ := hl
    have tz : ∀ j, ¬ (5 ≤ j ∧ j < 11) → 11 ≤ j → T6 (up (up (up (up (up T 0 (nI (gv (sA n B (.ok p))))) 1 (nI (gv (sB n B (.ok p))))) 2 (nI (gv (sC n B (.ok p))))) 3 (nI (gv (sD n B (.ok p))))) 4 (nI (gv (sE n B (.ok p))))) 6 j = T j := by
      intro j hj hj2
      unfold T6
      rw [if_neg (by omega), up_k (by omega), up_k (by omega), up_k (by omega), up_k (by omega), up_k (by omega)]
    have tv : ∀ j, j < 5 → T6 (up (up (up (up (up T 0 (nI (gv (sA n B (.ok p))))) 1 (nI (gv (sB n B (.ok p))))) 2 (nI (gv (sC n B (.ok p))))) 3 (nI (gv (sD n B (.ok p))))) 4 (nI (gv (sE n B (.ok p))))) 6 j = (up (up (up (up (up T 0 (nI (gv (sA n B (.ok p))))) 1 (nI (gv (sB n B (.ok p))))) 2 (nI (gv (sC n B (.ok p))))) 3 (nI (gv (sD n B (.ok p))))) 4 (nI (gv (sE n B (.ok p))))) j := by
      intro j hj
      unfold T6
      rw [if_neg (by omega)]
    rw [tz 22 (by omega) (by omega), tz 19 (by omega) (by omega), tz 11 (by omega) (by omega), tz 12 (by omega) (by omega), tz 18 (by omega) (by omega), tz 20 (by omega) (by omega), tz 21 (by omega) (by omega), tz 13 (by omega) (by omega), tv 0 (by omega), tv 1 (by omega), tv 2 (by omega), tv 3 (by omega), tv 4 (by omega)]
    rw [z22, z19, z20, z21, z13]
    rw [fld 0, fld 1, fld 2, fld 3, fld 4, fld 5, fld 6, fld 7, fld 8, fld 9, fld 10, fld 11]
    have zl : ∀ j : Nat, j < 6 → ¬ nI j < (0 : Int32) := fun j hj => nI_pos (by omega)
    refine ⟨l0.trans z22, ?_, ?_, ?_, ?_, ?_, l6.trans z19, l7, l8, l9, l10.trans z20, l11.trans z21, fun _ => ?_, fun e => absurd e (by decide), fun e => absurd rfl e, fun j hj hj6 => absurd hj (zl j hj6), fun j hj hj6 => absurd hj (zl j (by omega)), fun j hj hj6 => absurd hj (zl j hj6)⟩
    · rw [up_k (by decide), up_k (by decide), up_k (by decide), up_k (by decide), up_a]; exact eA
    · rw [up_k (by decide), up_k (by decide), up_k (by decide), up_a]; exact eB
    · rw [up_k (by decide), up_k (by decide), up_a]; exact eC
    · rw [up_k (by decide), up_a]; exact eD
    · rw [up_a]; exact eE
    · rw [oth (s + 1) (by omega) (by omega)]
      exact l12 z13
end OPS
