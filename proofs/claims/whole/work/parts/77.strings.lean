/-! Words: what stands in a String, whether it stands on the tape. The reference's tokens. -/
section OPS
variable {L : Nat} {xs : Nat → Int32} {d : Nat}
/-- the String w has the signs S -/
abbrev SX (w : Nat) (S : List Nat) : Prop := 1000 ≤ w ∧ w % 2 = 0 ∧ w < 1096 ∧ xm_t_tx.getD ((w + 1 - 1001) / 2) [] = S.map nI ∧ S.length < 100 ∧ ∀ c ∈ S, c < 128
theorem sx_none {w : Nat} (h : 1000 ≤ w) : (xm_X0 L xs).1[w + 1]? = none := by
  show xm_S[w + 1]? = none
  apply List.getElem?_eq_none
  have : xm_S.length = 103 := rfl
  omega
theorem sx_arr {w : Nat} {S : List Nat} (h : SX w S) : (xm_X0 L xs).2.1 (w + 1) = some (1, S.length, fun j => (S.map nI).getD j 0) := by
  obtain ⟨h1, h2, h3, h4, h5, h6⟩ := h
  show (if w + 1 = 900 then _ else if w + 1 = 901 then _ else if w + 1 = 902 then _ else if w + 1 = 950 then _ else if 1001 ≤ w + 1 ∧ (w + 1) % 2 = 1 ∧ w + 1 < 1096 then _ else _) = _
  rw [if_neg (by omega), if_neg (by omega), if_neg (by omega), if_neg (by omega), if_pos ⟨by omega, by omega, by omega⟩, h4, List.length_map]
theorem sx_fld {w : Nat} {S : List Nat} (h : SX w S) : (xm_X0 L xs).2.2.1 w 0 = some (.int 0) ∧ (xm_X0 L xs).2.2.1 w 1 = some (.ref (w + 1)) := by
  obtain ⟨h1, h2, h3, -⟩ := h
  have hh : 1000 ≤ w ∧ w % 2 = 0 ∧ w < 1096 := ⟨h1, h2, h3⟩
  constructor
  · show (if 1000 ≤ w ∧ w % 2 = 0 ∧ w < 1096 then _ else _) = _
    rw [if_pos hh]
    rfl
  · show (if 1000 ≤ w ∧ w % 2 = 0 ∧ w < 1096 then _ else _) = _
    rw [if_pos hh]
    rfl
theorem v_len {h : xm_H} {w : Nat} {S : List Nat} (hs : SX w S) : xm_V (xm_X0 L xs) xm_P (d + 2) 15 [.ref w] h (some (.int (nI S.length))) h := by
  have f := sx_fld (L := L) (xs := xs) hs
  have V := v_J0_length_8abf5 (d := d + 1) (p_J0_length_8abf5_0_0 (d := d + 1) (h := h) f.2 (sx_none hs.1) (sx_arr hs) (v_J0_coder_7d493 (d := d) (p_J0_coder_7d493_0_0 (d := d) rfl f.1 (by decide))) f.1)
  have e : (Int32.ofNat S.length) >>> ((0 : Int32) &&& 31) = nI S.length := by
    have := nm_shr (a := S.length) (k := 0) (by have := hs.2.2.2.2.1; omega) (by decide)
    exact this
  rw [e] at V
  exact V
theorem sx_at {S : List Nat} {i : Nat} (hi : i < S.length) : (S.map nI).getD i 0 = nI (S.getD i 0) := by
  rw [List.getD_eq_getElem?_getD, List.getElem?_map, List.getD_eq_getElem?_getD, List.getElem?_eq_getElem hi]
  rfl
theorem sx_lt {w : Nat} {S : List Nat} {i : Nat} (hs : SX w S) (hi : i < S.length) : S.getD i 0 < 128 := by
  have : S.getD i 0 ∈ S := by
    rw [List.getD_eq_getElem?_getD, List.getElem?_eq_getElem hi]
    exact List.getElem_mem hi
  exact hs.2.2.2.2.2 _ this
theorem p_J0_checkIndex_null {X : xm_X} {P : List xm_M} {d : Nat} {h : xm_H} {l0 : Int32} {l1 : Int32} {h0 : xm_H} {r0 : Int32} (q0 : X.2.2.2 4 = some .null) (q1 : xm_V X P d 333 [.int l0, .int l1, .null] h (some (.int r0)) h0) : xm_E X P d co_J0_checkIndex_df160 0 [some (.int l0), some (.int l1)] [] h none h0 := by
  refine xm_E_s r_J0_checkIndex_df160_0 rfl rfl ?_
  refine xm_E_s r_J0_checkIndex_df160_1 rfl rfl ?_
  refine xm_E_s r_J0_checkIndex_df160_2 rfl (by simp only [xm_step, xm_in, xm_b, q0]; rfl) ?_
  refine xm_E_cs [.int l0, .int l1, .null] [] r_J0_checkIndex_df160_3 rfl rfl rfl (Nat.le_of_ble_eq_true rfl) rfl q1 ?_
  refine xm_E_s r_J0_checkIndex_df160_4 rfl rfl ?_
  exact xm_E_ret r_J0_checkIndex_df160_5 rfl
theorem v_J3_checkIndex_null {X : xm_X} {d : Nat} {h : xm_H} {l0 : Int32} {l1 : Int32} {ro : Option Value} {ho : xm_H} (K : xm_E X xm_P d co_J3_checkIndex_8e157 0 [some (.int l0), some (.int l1), some .null] [] h ro ho) : xm_V X xm_P (d + 1) 333 [.int l0, .int l1, .null] h ro ho := xm_V_of (M := mm_J3_checkIndex_8e157) rfl (Nat.le_of_ble_eq_true rfl) K
theorem p_J3_checkIndex_null {X : xm_X} {P : List xm_M} {d : Nat} {h : xm_H} {l0 : Int32} {l1 : Int32} (q0 : ¬ (l0 < (0 : Int32))) (q1 : l0 < l1) : xm_E X P d co_J3_checkIndex_8e157 0 [some (.int l0), some (.int l1), some .null] [] h (some (.int l0)) h := by
  refine xm_E_s r_J3_checkIndex_8e157_0 rfl rfl ?_
  refine xm_E_s r_J3_checkIndex_8e157_1 rfl rfl ?_
  refine xm_E_f q0 ?_
  refine xm_E_s r_J3_checkIndex_8e157_2 rfl rfl ?_
  refine xm_E_s r_J3_checkIndex_8e157_3 rfl rfl ?_
  refine xm_E_s r_J3_checkIndex_8e157_4 rfl rfl ?_
  refine xm_E_t q1 ?_
  refine xm_E_s r_J3_checkIndex_8e157_10 rfl rfl ?_
  exact xm_E_iret r_J3_checkIndex_8e157_11 rfl rfl
theorem v_ci {h : xm_H} {i n : Nat} (h0 : ¬ nI i < (0 : Int32)) (h1 : nI i < Int32.ofNat n) : xm_V (xm_X0 L xs) xm_P (d + 2) 332 [.int (nI i), .int (Int32.ofNat n)] h none h := by
  by_cases z : xs 5000 = 0
  · exact v_J0_checkIndex_df160 (d := d + 1) (p_J0_checkIndex_null (X := xm_X0 L xs) (P := xm_P) (d := d + 1) (h := h) (show (if xs 5000 = 0 then some Value.null else some (.ref 903)) = some .null from if_pos z) (v_J3_checkIndex_null (d := d) (p_J3_checkIndex_null (d := d) (l0 := nI i) (l1 := Int32.ofNat n) h0 h1)))
  · exact v_J0_checkIndex_df160 (d := d + 1) (p_J0_checkIndex_df160_0_0 (X := xm_X0 L xs) (P := xm_P) (d := d + 1) (h := h) (show (if xs 5000 = 0 then some Value.null else some (.ref 903)) = some (.ref 903) from if_neg z) (v_J3_checkIndex_8e157 (d := d) (p_J3_checkIndex_8e157_0_0 (d := d) (l0 := nI i) (l1 := Int32.ofNat n) (l2 := 903) h0 h1)))
theorem v_char {h : xm_H} {w i : Nat} {S : List Nat} (hs : SX w S) (hi : i < S.length) : xm_V (xm_X0 L xs) xm_P (d + 4) 17 [.ref w, .int (nI i)] h (some (.int (nI (S.getD i 0)))) h := by
  have f := sx_fld (L := L) (xs := xs) hs
  have hl := hs.2.2.2.2.1
  have e : (S.map nI).getD (nI i).toNatClampNeg 0 = nI (S.getD i 0) := by
    rw [nI_clamp (by omega)]
    exact sx_at hi
  have q := x8_ch _ (sx_lt hs hi)
  have V3 := v_ci (L := L) (xs := xs) (d := d) (h := h) (i := i) (n := S.length) (nI_pos (by omega)) (nI_lt hi (by omega))
  have V2 := v_J1_charAt_3b067 (d := d + 2) (p_J1_charAt_3b067_0_0 (d := d + 2) (h := h) (l1 := nI i) (sx_none (L := L) (xs := xs) hs.1) (sx_arr hs) V3 (nI_in hi (by omega)) (by rw [e, q.1]; exact q.2))
  rw [e, q.1] at V2
  exact v_J0_charAt_5068e (d := d + 3) (p_J0_charAt_5068e_0_0 (d := d + 3) (v_J0_isLatin1_aae02 (d := d + 2) (p_J0_isLatin1_aae02_0_0 (d := d + 2) rfl f.1)) f.1 (by decide) f.2 V2 q.2)
/-- S from a up to b stands at p -/
def sw (n : Nat) (B : Nat → Nat) (p : Nat) (S : List Nat) (a b : Nat) : Bool := decide (tkd n B p = 1 ∧ b - a = ten n B p - tst n B p ∧ ∀ j, j < b - a → S.getD (a + j) 0 = B (tst n B p + j))
def tw (n : Nat) (B : Nat → Nat) (p : Nat) (W : List Nat) : Bool := sw n B p W 0 W.length
theorem sw_tw {n : Nat} {B : Nat → Nat} {p : Nat} {S W : List Nat} {a b : Nat} (h1 : W.length = b - a) (h2 : ∀ j, j < W.length → S.getD (a + j) 0 = W.getD j 0) : sw n B p S a b = tw n B p W := by
  unfold tw sw
  congr 1
  apply propext
  rw [Nat.sub_zero, h1]
  constructor
  · rintro ⟨x, y, z⟩
    refine ⟨x, y, fun j hj => ?_⟩
    rw [Nat.zero_add, ← h2 j (by omega)]
    exact z j hj
  · rintro ⟨x, y, z⟩
    refine ⟨x, y, fun j hj => ?_⟩
    have := z j hj
    rw [Nat.zero_add] at this
    rw [h2 j (by omega)]
    exact this
/-- whether it stands here; behind a FAULT nothing does -/
def rsw (n : Nat) (B : Nat → Nat) (r : Except (Nat × Nat) Nat) (S : List Nat) (a b : Nat) : Bool := match r with
  | .ok p => sw n B p S a b
  | .error _ => false
theorem c_stands {h : xm_H} {t n w a b : Nat} {B : Nat → Nat} {S : List Nat} {r : Except (Nat × Nat) Nat} (hR : h.2.2 = xm_R0 t) (ht : t = 5 ∨ t = 13) (hn : n ≤ 1000) (hc : CX n B h r) (hs : SX w S) (hab : a ≤ b) (hb : b ≤ S.length) : xm_V (xm_X0 L xs) xm_P (d + 12) 20 [.ref 1, .ref w, .int (nI a), .int (nI b)] h (some (.int (if rsw n B r S a b then 1 else 0))) h := by
  obtain ⟨e1, hB, p, hp, e4, e5, e6, hr⟩ := hc
  have hl := hs.2.2.2.2.1
  have h3 := ten_le (B := B) hp
  cases r with
  | error e =>
    have q : rsw n B (.error e) S a b = false := rfl
    rw [q, if_neg (by decide)]
    obtain ⟨b1, b2, b3⟩ := hr
    exact v_X6_stands (d := d + 11) (s_X6_stands_0_3 (d := d + 4) (by rw [b2]; exact nz123 b1))
  | ok p' =>
    obtain ⟨rfl, b2, b3⟩ := hr
    have q : rsw n B (.ok p) S a b = sw n B p S a b := rfl
    rw [q]
    have hk4 : tkd n B p ≤ 4 := tkd_le
    by_cases hk : tkd n B p = 1
    · have ek : h.1 1 6 = (1 : Int32) := by rw [e6, hk]; rfl
      have el : nI b - nI a = nI (b - a) := nm_sub hab
      have el2 : h.1 1 5 - h.1 1 4 = nI (ten n B p - tst n B p) := by rw [e5, e4]; exact nm_sub h3.2.1
      by_cases hlen : b - a = ten n B p - tst n B p
      · have loop : ∀ m i, i + m = b → a ≤ i → (∀ j, j < i - a → S.getD (a + j) 0 = B (tst n B p + j)) → xm_E (xm_X0 L xs) xm_P (d + 11) co_X6_stands 20 [some (.ref 1), some (.ref w), some (.int (nI a)), some (.int (nI b)), some (.int (nI i))] [] h (some (.int (if sw n B p S a b then 1 else 0))) h := by
          intro m
          induction m with
          | zero =>
            intro i hi hai hall
            have hib : i = b := by omega
            subst hib
            have : sw n B p S a i = true := decide_eq_true ⟨hk, hlen, hall⟩
            rw [this, if_pos rfl]
            exact s_X6_stands_20_0 (d := d + 4) (nI_le (Nat.le_refl _) (by omega))
          | succ m ih =>
            intro i hi hai hall
            have hin : tst n B p + (i - a) < n := by omega
            have hbn := hB _ hin
            have ex : (h.1 1 4 + nI i) - nI a = nI (tst n B p + (i - a)) := by
              rw [e4, nI_add, nm_sub (by omega)]
              congr 1
              omega
            have ci : ¬ ((h.1 1 4 + nI i) - nI a < 0 ∨ 1000 ≤ ((h.1 1 4 + nI i) - nI a).toNatClampNeg) := by
              rw [ex]; exact nI_in (by omega) (by omega)
            have ev : h.1 2 (((h.1 1 4 + nI i) - nI a).toNatClampNeg) = x8 (B (tst n B p + (i - a))) := by
              rw [ex, nI_clamp (by omega)]; exact hbn.2
            have hii : i < S.length := by omega
            by_cases he : S.getD i 0 = B (tst n B p + (i - a))
            · have E := ih (i + 1) (by omega) (by omega) (fun j hj => by
                by_cases hj2 : j = i - a
                · subst hj2
                  rw [show a + (i - a) = i by omega]
                  exact he
                · exact hall j (by omega))
              rw [← nI_1] at E
              exact s_X6_stands_20_1 (d := d + 4) ht (nI_ge (by omega) (by omega)) (v_char (d := d + 7) hs hii) (sx_fld hs).1 hR ci (by rw [ev]; exact (x8_eq hbn.1 (sx_lt hs hii)).mpr he) E
            · have : sw n B p S a b = false := decide_eq_false (fun hq => he (by
                have := hq.2.2 (i - a) (by omega)
                rw [show a + (i - a) = i by omega] at this
                exact this))
              rw [this, if_neg (by decide)]
              exact s_X6_stands_20_2 (d := d + 4) ht (nI_ge (by omega) (by omega)) (v_char (d := d + 7) hs hii) (sx_fld hs).1 hR ci (by rw [ev]; exact fun e => he ((x8_eq hbn.1 (sx_lt hs hii)).mp e))
        exact v_X6_stands (d := d + 11) (s_X6_stands_0_0 (d := d + 4) b2 ek (by rw [el, el2, hlen]) (loop (b - a) a (by omega) (Nat.le_refl _) (fun j hj => absurd hj (by omega))))
      · have : sw n B p S a b = false := decide_eq_false (fun hq => hlen hq.2.1)
        rw [this, if_neg (by decide)]
        exact v_X6_stands (d := d + 11) (s_X6_stands_0_1 (d := d + 4) b2 ek (by rw [el, el2]; exact fun e => hlen ((nI_eq (by omega) (by omega)).mp e)))
    · have : sw n B p S a b = false := decide_eq_false (fun hq => hk hq.1)
      rw [this, if_neg (by decide)]
      exact v_X6_stands (d := d + 11) (s_X6_stands_0_2 (d := d + 4) b2 (by rw [e6]; exact fun e => hk ((nI_eq (b := 1) (by omega) (by omega)).mp e)))
/-- which of the words of S, parted by blanks -/
def tkl (S : List Nat) (f : Nat → Nat → Bool) : Nat → Nat → Nat → Nat → Option Nat
  | 0, _, _, _ => none
  | m + 1, c, a, i => if i = S.length ∨ S.getD i 0 = 32 then (if f a i then some c else tkl S f m (c + 1) (i + 1) (i + 1)) else tkl S f m c a (i + 1)
def ptk (n : Nat) (B : Nat → Nat) (r : Except (Nat × Nat) Nat) (S : List Nat) : Option Nat := tkl S (rsw n B r S) (S.length + 1) 0 0 0
/-- take: which one, and where the tape then stands -/
def TK (n : Nat) (B : Nat → Nat) (S : List Nat) (r : Except (Nat × Nat) Nat) (v : Int32) (g : xm_H) : Prop := match ptk n B r S with
  | some i => v = nI i ∧ CX n B g (padv n B r)
  | none => v = -1 ∧ CX n B g r
theorem c_take {h : xm_H} {t n w : Nat} {B : Nat → Nat} {S : List Nat} {r : Except (Nat × Nat) Nat} (hR : h.2.2 = xm_R0 t) (ht : t = 5 ∨ t = 13) (hn : n ≤ 1000) (hc : CX n B h r) (hs : SX w S) : ∃ v g, xm_V (xm_X0 L xs) xm_P (d + 13) 14 [.ref 1, .ref w] h (some (.int v)) g ∧ XF h g ∧ TK n B S r v g := by
  have hl := hs.2.2.2.2.1
  have loop : ∀ m c a i, m + i = S.length + 1 → a ≤ i → c ≤ i → ∃ v g, xm_E (xm_X0 L xs) xm_P (d + 12) co_X6_take 6 [some (.ref 1), some (.ref w), some (.int (nI c)), some (.int (nI a)), some (.int (nI i))] [] h (some (.int v)) g ∧ XF h g ∧ (match tkl S (rsw n B r S) m c a i with
      | some j => v = nI j ∧ CX n B g (padv n B r)
      | none => v = -1 ∧ CX n B g r) := by
    intro m
    induction m with
    | zero =>
      intro c a i hm hai hci
      exact ⟨-1, h, s_X6_take_6_0 (d := d + 5) (v_len (d := d + 10) hs) (sx_fld hs).1 (nI_lt (by omega) (by omega)), XF.refl h, rfl, hc⟩
    | succ m ih =>
      intro c a i hm hai hci
      have c2 : ¬ (nI S.length < nI i) := nI_nlt (by omega) (by omega)
      by_cases hil : i = S.length
      · have e : tkl S (rsw n B r S) (m + 1) c a i = if rsw n B r S a i then some c else tkl S (rsw n B r S) m (c + 1) (i + 1) (i + 1) := by
          conv => lhs; unfold tkl
          rw [if_pos (Or.inl hil)]
        rw [e]
        have VS := c_stands (L := L) (xs := xs) (d := d) hR ht hn hc hs hai (by omega)
        cases hq : rsw n B r S a i with
        | true =>
          rw [hq, if_pos rfl] at VS
          obtain ⟨g, g0, g1, g2⟩ := c_adv (L := L) (xs := xs) (d := d + 4) hR ht hn hc
          exact ⟨_, g, s_X6_take_6_2 (d := d + 5) (v_len (d := d + 10) hs) (sx_fld hs).1 c2 (v_len (d := d + 10) hs) (by rw [hil]) VS (by decide) g0, g1, rfl, g2⟩
        | false =>
          rw [hq, if_neg (by decide)] at VS
          obtain ⟨v, g, g0, g1, g2⟩ := ih (c + 1) (i + 1) (i + 1) (by omega) (Nat.le_refl _) (by omega)
          rw [← nI_1, ← nI_1] at g0
          exact ⟨v, g, s_X6_take_6_1 (d := d + 5) (v_len (d := d + 10) hs) (sx_fld hs).1 c2 (v_len (d := d + 10) hs) (by rw [hil]) VS rfl g0, g1, g2⟩
      · have hii : i < S.length := by omega
        have c4 : ¬ (nI i = nI S.length) := fun e => hil ((nI_eq (by omega) (by omega)).mp e)
        have h128 := sx_lt hs hii
        by_cases hbl : S.getD i 0 = 32
        · have e : tkl S (rsw n B r S) (m + 1) c a i = if rsw n B r S a i then some c else tkl S (rsw n B r S) m (c + 1) (i + 1) (i + 1) := by
            conv => lhs; unfold tkl
            rw [if_pos (Or.inr hbl)]
          rw [e]
          have VS := c_stands (L := L) (xs := xs) (d := d) hR ht hn hc hs hai (Nat.le_of_lt hii)
          cases hq : rsw n B r S a i with
          | true =>
            rw [hq, if_pos rfl] at VS
            obtain ⟨g, g0, g1, g2⟩ := c_adv (L := L) (xs := xs) (d := d + 4) hR ht hn hc
            exact ⟨_, g, s_X6_take_6_4 (d := d + 5) (v_len (d := d + 10) hs) (sx_fld hs).1 c2 (v_len (d := d + 10) hs) c4 (v_char (d := d + 8) hs hii) (by rw [hbl]; rfl) VS (by decide) g0, g1, rfl, g2⟩
          | false =>
            rw [hq, if_neg (by decide)] at VS
            obtain ⟨v, g, g0, g1, g2⟩ := ih (c + 1) (i + 1) (i + 1) (by omega) (Nat.le_refl _) (by omega)
            rw [← nI_1, ← nI_1] at g0
            exact ⟨v, g, s_X6_take_6_3 (d := d + 5) (v_len (d := d + 10) hs) (sx_fld hs).1 c2 (v_len (d := d + 10) hs) c4 (v_char (d := d + 8) hs hii) (by rw [hbl]; rfl) VS rfl g0, g1, g2⟩
        · have e : tkl S (rsw n B r S) (m + 1) c a i = tkl S (rsw n B r S) m c a (i + 1) := by
            conv => lhs; unfold tkl
            rw [if_neg (by intro hh; rcases hh with hh | hh <;> contradiction)]
          rw [e]
          obtain ⟨v, g, g0, g1, g2⟩ := ih c a (i + 1) (by omega) (by omega) (by omega)
          rw [← nI_1] at g0
          exact ⟨v, g, s_X6_take_6_5 (d := d + 5) (v_len (d := d + 10) hs) (sx_fld hs).1 c2 (v_len (d := d + 10) hs) c4 (v_char (d := d + 8) hs hii) (fun e => hbl ((nI_eq (b := 32) (by omega) (by omega)).mp e)) g0, g1, g2⟩
  obtain ⟨v, g, g0, g1, g2⟩ := loop (S.length + 1) 0 0 0 (by omega) (Nat.le_refl _) (Nat.le_refl _)
  exact ⟨v, g, v_X6_take (d := d + 12) (s_X6_take_0_0 (d := d + 5) g0), g1, g2⟩
end OPS
