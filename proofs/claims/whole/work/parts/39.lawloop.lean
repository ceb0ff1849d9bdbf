/-! The law's loop, out of its 57 pairs of calls. Printed by wip/gen/lawloop.py -/
/-- a pair of calls that answer alike, and keep what holds between the two -/
def xm_op (X : xm_X) (d : Nat) (Rel : xm_H → Prop) (mx mm : Nat) (as : List Value) (mk : Int64 → Value) : Prop := ∀ h, Rel h → ∃ (r : Int64) (h1 h2 : xm_H), xm_V X xm_P d mx (.ref 0 :: as) h (some (mk r)) h1 ∧ xm_V X xm_P d mm (.ref 82 :: as) h1 (some (mk r)) h2 ∧ Rel h2
abbrev xm_opi (X : xm_X) (d : Nat) (Rel : xm_H → Prop) (mx mm : Nat) (as : List Value) : Prop := ∀ h, Rel h → ∃ (r : Int32) (h1 h2 : xm_H), xm_V X xm_P d mx (.ref 0 :: as) h (some (.int r)) h1 ∧ xm_V X xm_P d mm (.ref 82 :: as) h1 (some (.int r)) h2 ∧ Rel h2
abbrev xm_opl (X : xm_X) (d : Nat) (Rel : xm_H → Prop) (mx mm : Nat) (as : List Value) : Prop := ∀ h, Rel h → ∃ (r : Int64) (h1 h2 : xm_H), xm_V X xm_P d mx (.ref 0 :: as) h (some (.long r)) h1 ∧ xm_V X xm_P d mm (.ref 82 :: as) h1 (some (.long r)) h2 ∧ Rel h2
theorem ll_add (i k : Nat) : nI i + nI k = nI (i + k) := nI_add i k
theorem ll_end {L i : Nat} (hL : L < 2 ^ 20) (hi : i < 2 ^ 20) : Int32.ofNat L - 6 < nI i ↔ L < i + 6 := by
  rw [Int32.lt_iff_toInt_lt, nI_toInt (by omega)]
  have h1 : (Int32.ofNat L).toInt = L := nI_toInt (n := L) (by omega)
  have h2 : (6 : Int32).toInt = 6 := by decide
  rw [Int32.toInt_sub, h1, h2]
  have h3 : ((L : Int) - 6).bmod (2 ^ 32) = (L : Int) - 6 := Int.bmod_eq_of_le (by omega) (by omega)
  rw [h3]
  omega
theorem ll_out {x : Int32} (h : ∀ k, k ≤ 56 → x ≠ nI k) : x.toInt < 0 ∨ 56 < x.toInt := by
  by_cases h0 : x < 0
  · left
    rw [Int32.lt_iff_toInt_lt] at h0
    exact h0
  · right
    obtain ⟨j, hj, rfl⟩ := nI_of h0
    rw [nI_toInt hj]
    by_cases h1 : j ≤ 56
    · exact absurd rfl (h j h1)
    · omega
set_option maxHeartbeats 8000000 in
theorem law_loop {L : Nat} {xs : Nat → Int32} {X : xm_X} (hX : X = xm_X0 L xs) {d : Nat} {Rel : xm_H → Prop} (hL : L ≤ 3072)
    (o0 : ∀ (a0 : Int32) (a1 : Int32) (a2 : Int32) (a3 : Int32) (a4 : Int32), xm_opi X d Rel 0 193 [.int a0, .int a1, .int a2, .int a3, .int a4])
    (o1 : ∀ (a0 : Int32), xm_opi X d Rel 3 194 [.int a0])
    (o2 : xm_opi X d Rel 4 196 [])
    (o3 : ∀ (a0 : Int32), xm_opi X d Rel 34 195 [.int a0])
    (o4 : ∀ (a0 : Int32), xm_opi X d Rel 35 215 [.int a0])
    (o5 : ∀ (a0 : Int32), xm_opi X d Rel 45 238 [.int a0])
    (o6 : xm_opi X d Rel 49 240 [])
    (o7 : ∀ (a0 : Int32), xm_opi X d Rel 50 241 [.int a0])
    (o8 : ∀ (a0 : Int32), xm_opi X d Rel 55 243 [.int a0])
    (o9 : xm_opi X d Rel 61 248 [])
    (o10 : ∀ (a0 : Int32), xm_opi X d Rel 63 249 [.int a0])
    (o11 : xm_opi X d Rel 65 250 [])
    (o12 : ∀ (a0 : Int32), xm_opi X d Rel 66 251 [.int a0])
    (o13 : ∀ (a0 : Int32) (a1 : Int32), xm_opi X d Rel 74 256 [.int a0, .int a1])
    (o14 : xm_opi X d Rel 77 257 [])
    (o15 : ∀ (a0 : Int32), xm_opi X d Rel 90 268 [.int a0])
    (o16 : xm_opi X d Rel 93 272 [])
    (o17 : ∀ (a0 : Int32), xm_opi X d Rel 97 273 [.int a0])
    (o18 : xm_opi X d Rel 100 274 [])
    (o19 : ∀ (a0 : Int32), xm_opi X d Rel 102 275 [.int a0])
    (o20 : ∀ (a0 : Int32), xm_opi X d Rel 103 276 [.int a0])
    (o21 : xm_opi X d Rel 104 277 [])
    (o22 : xm_opi X d Rel 106 278 [])
    (o23 : ∀ (a0 : Int32) (a1 : Int32), xm_opi X d Rel 107 279 [.int a0, .int a1])
    (o24 : xm_opi X d Rel 110 281 [])
    (o25 : ∀ (a0 : Int32), xm_opi X d Rel 111 282 [.int a0])
    (o26 : xm_opi X d Rel 113 283 [])
    (o27 : ∀ (a0 : Int32), xm_opl X d Rel 115 284 [.int a0])
    (o28 : ∀ (a0 : Int32) (a1 : Int32), xm_opi X d Rel 120 286 [.int a0, .int a1])
    (o29 : ∀ (a0 : Int32), xm_opi X d Rel 123 287 [.int a0])
    (o30 : xm_opi X d Rel 124 288 [])
    (o31 : ∀ (a0 : Int32), xm_opi X d Rel 126 290 [.int a0])
    (o32 : xm_opi X d Rel 130 292 [])
    (o33 : xm_opi X d Rel 131 293 [])
    (o34 : ∀ (a0 : Int32) (a1 : Int32), xm_opi X d Rel 133 294 [.int a0, .int a1])
    (o35 : ∀ (a0 : Int32) (a1 : Int32), xm_opi X d Rel 138 299 [.int a0, .int a1])
    (o36 : ∀ (a0 : Int32) (a1 : Int32), xm_opi X d Rel 140 301 [.int a0, .int a1])
    (o37 : ∀ (a0 : Int32) (a1 : Int32), xm_opl X d Rel 141 302 [.int a0, .int a1])
    (o38 : ∀ (a0 : Int32), xm_opi X d Rel 144 303 [.int a0])
    (o39 : xm_opi X d Rel 145 304 [])
    (o40 : ∀ (a0 : Int32) (a1 : Int32), xm_opi X d Rel 146 306 [.int a0, .int a1])
    (o41 : xm_opi X d Rel 152 309 [])
    (o42 : ∀ (a0 : Int32) (a1 : Int32), xm_opi X d Rel 153 310 [.int a0, .int a1])
    (o43 : ∀ (a0 : Int32) (a1 : Int32), xm_opi X d Rel 157 314 [.int a0, .int a1])
    (o44 : ∀ (a0 : Int32), xm_opi X d Rel 158 315 [.int a0])
    (o45 : xm_opi X d Rel 159 316 [])
    (o46 : ∀ (a0 : Int32), xm_opi X d Rel 164 319 [.int a0])
    (o47 : ∀ (a0 : Int32), xm_opi X d Rel 166 320 [.int a0])
    (o48 : ∀ (a0 : Int32) (a1 : Int32) (a2 : Int32), xm_opi X d Rel 167 321 [.int a0, .int a1, .int a2])
    (o49 : ∀ (a0 : Int32) (a1 : Int32), xm_opi X d Rel 171 325 [.int a0, .int a1])
    (o50 : ∀ (a0 : Int32) (a1 : Int32) (a2 : Int32), xm_opi X d Rel 172 326 [.int a0, .int a1, .int a2])
    (o51 : ∀ (a0 : Int32), xm_opi X d Rel 173 327 [.int a0])
    (o52 : ∀ (a0 : Int32), xm_opi X d Rel 175 190 [.int a0])
    (o53 : ∀ (a0 : Int32), xm_opi X d Rel 181 192 [.int a0])
    (o54 : ∀ (a0 : Int32) (a1 : Int32) (a2 : Int32), xm_opi X d Rel 182 328 [.int a0, .int a1, .int a2])
    (o55 : ∀ (a0 : Int32) (a1 : Int32) (a2 : Int64), xm_opi X d Rel 185 329 [.int a0, .int a1, .long a2])
    (o56 : ∀ (a0 : Int32) (a1 : Int32) (a2 : Int32) (a3 : Int32) (a4 : Int32), xm_opi X d Rel 188 331 [.int a0, .int a1, .int a2, .int a3, .int a4])
    : ∀ (n i : Nat) (h : xm_H), i ≤ 3078 → L < i + 6 * n → Rel h → ∃ h', xm_E X xm_P d co_law 2 [some (.ref 950), some (.ref 0), some (.ref 82), some (.int (nI i))] [] h (some (.int 1)) h' ∧ Rel h' := by
  have x0 : X.1[950]? = none := by rw [hX]; rfl
  have x1 : X.2.1 950 = some (0, L, xs) := by rw [hX]; rfl
  have x2 : X.1[0]? = some (.inr 9) := by rw [hX]; rfl
  have x3 : X.1[82]? = some (.inr 10) := by rw [hX]; rfl
  intro n
  induction n with
  | zero =>
    intro i h hi hn hr
    exact ⟨h, p_law_2_0 x0 x1 ((ll_end (by omega) (by omega)).mpr (by omega)), hr⟩
  | succ n ih =>
    intro i h hi hn hr
    by_cases he : L < i + 6
    · exact ⟨h, p_law_2_0 x0 x1 ((ll_end (by omega) (by omega)).mpr he), hr⟩
    · have e0 : ¬ (Int32.ofNat L - 6 < nI i) := fun q => he ((ll_end (by omega) (by omega)).mp q)
      have b0 : ¬ (nI i < 0 ∨ L ≤ (nI i).toNatClampNeg) := nI_in (by omega) (by omega)
      have b1 : ¬ (nI i + (1 : Int32) < 0 ∨ L ≤ (nI i + (1 : Int32)).toNatClampNeg) := by
        rw [show nI i + (1 : Int32) = nI (i + 1) from ll_add i 1]
        exact nI_in (by omega) (by omega)
      have b2 : ¬ (nI i + (2 : Int32) < 0 ∨ L ≤ (nI i + (2 : Int32)).toNatClampNeg) := by
        rw [show nI i + (2 : Int32) = nI (i + 2) from ll_add i 2]
        exact nI_in (by omega) (by omega)
      have b3 : ¬ (nI i + (3 : Int32) < 0 ∨ L ≤ (nI i + (3 : Int32)).toNatClampNeg) := by
        rw [show nI i + (3 : Int32) = nI (i + 3) from ll_add i 3]
        exact nI_in (by omega) (by omega)
      have b4 : ¬ (nI i + (4 : Int32) < 0 ∨ L ≤ (nI i + (4 : Int32)).toNatClampNeg) := by
        rw [show nI i + (4 : Int32) = nI (i + 4) from ll_add i 4]
        exact nI_in (by omega) (by omega)
      have b5 : ¬ (nI i + (5 : Int32) < 0 ∨ L ≤ (nI i + (5 : Int32)).toNatClampNeg) := by
        rw [show nI i + (5 : Int32) = nI (i + 5) from ll_add i 5]
        exact nI_in (by omega) (by omega)
      have n6 : nI i + (6 : Int32) = nI (i + 6) := ll_add i 6
      by_cases c0 : (xs (nI i).toNatClampNeg) &&& (63 : Int32) = (0 : Int32)
      · obtain ⟨r, h1, h2, hv1, hv2, hr2⟩ := o0 (xs (((nI i) + (1 : Int32)).toNatClampNeg)) (xs (((nI i) + (2 : Int32)).toNatClampNeg)) (xs (((nI i) + (3 : Int32)).toNatClampNeg)) (xs (((nI i) + (4 : Int32)).toNatClampNeg)) (xs (((nI i) + (5 : Int32)).toNatClampNeg)) h hr
        obtain ⟨h', hE, hr3⟩ := ih (i + 6) h2 (by omega) (by omega) hr2
        rw [← n6] at hE
        exact ⟨h', p_law_2_1 x0 x1 e0 b0 c0 b1 b2 b3 b4 b5 hv1 x2 hv2 x3 rfl hE, hr3⟩
      by_cases c1 : (xs (nI i).toNatClampNeg) &&& (63 : Int32) = (1 : Int32)
      · obtain ⟨r, h1, h2, hv1, hv2, hr2⟩ := o1 (xs (((nI i) + (1 : Int32)).toNatClampNeg)) h hr
        obtain ⟨h', hE, hr3⟩ := ih (i + 6) h2 (by omega) (by omega) hr2
        rw [← n6] at hE
        exact ⟨h', p_law_2_3 x0 x1 e0 b0 c1 b1 hv1 x2 hv2 x3 rfl hE, hr3⟩
      by_cases c2 : (xs (nI i).toNatClampNeg) &&& (63 : Int32) = (2 : Int32)
      · obtain ⟨r, h1, h2, hv1, hv2, hr2⟩ := o2  h hr
        obtain ⟨h', hE, hr3⟩ := ih (i + 6) h2 (by omega) (by omega) hr2
        rw [← n6] at hE
        exact ⟨h', p_law_2_5 x0 x1 e0 b0 c2 hv1 x2 hv2 x3 rfl hE, hr3⟩
      by_cases c3 : (xs (nI i).toNatClampNeg) &&& (63 : Int32) = (3 : Int32)
      · obtain ⟨r, h1, h2, hv1, hv2, hr2⟩ := o3 (xs (((nI i) + (1 : Int32)).toNatClampNeg)) h hr
        obtain ⟨h', hE, hr3⟩ := ih (i + 6) h2 (by omega) (by omega) hr2
        rw [← n6] at hE
        exact ⟨h', p_law_2_7 x0 x1 e0 b0 c3 b1 hv1 x2 hv2 x3 rfl hE, hr3⟩
      by_cases c4 : (xs (nI i).toNatClampNeg) &&& (63 : Int32) = (4 : Int32)
      · obtain ⟨r, h1, h2, hv1, hv2, hr2⟩ := o4 (xs (((nI i) + (1 : Int32)).toNatClampNeg)) h hr
        obtain ⟨h', hE, hr3⟩ := ih (i + 6) h2 (by omega) (by omega) hr2
        rw [← n6] at hE
        exact ⟨h', p_law_2_9 x0 x1 e0 b0 c4 b1 hv1 x2 hv2 x3 rfl hE, hr3⟩
      by_cases c5 : (xs (nI i).toNatClampNeg) &&& (63 : Int32) = (5 : Int32)
      · obtain ⟨r, h1, h2, hv1, hv2, hr2⟩ := o5 (xs (((nI i) + (1 : Int32)).toNatClampNeg)) h hr
        obtain ⟨h', hE, hr3⟩ := ih (i + 6) h2 (by omega) (by omega) hr2
        rw [← n6] at hE
        exact ⟨h', p_law_2_11 x0 x1 e0 b0 c5 b1 hv1 x2 hv2 x3 rfl hE, hr3⟩
      by_cases c6 : (xs (nI i).toNatClampNeg) &&& (63 : Int32) = (6 : Int32)
      · obtain ⟨r, h1, h2, hv1, hv2, hr2⟩ := o6  h hr
        obtain ⟨h', hE, hr3⟩ := ih (i + 6) h2 (by omega) (by omega) hr2
        rw [← n6] at hE
        exact ⟨h', p_law_2_13 x0 x1 e0 b0 c6 hv1 x2 hv2 x3 rfl hE, hr3⟩
      by_cases c7 : (xs (nI i).toNatClampNeg) &&& (63 : Int32) = (7 : Int32)
      · obtain ⟨r, h1, h2, hv1, hv2, hr2⟩ := o7 (xs (((nI i) + (1 : Int32)).toNatClampNeg)) h hr
        obtain ⟨h', hE, hr3⟩ := ih (i + 6) h2 (by omega) (by omega) hr2
        rw [← n6] at hE
        exact ⟨h', p_law_2_15 x0 x1 e0 b0 c7 b1 hv1 x2 hv2 x3 rfl hE, hr3⟩
      by_cases c8 : (xs (nI i).toNatClampNeg) &&& (63 : Int32) = (8 : Int32)
      · obtain ⟨r, h1, h2, hv1, hv2, hr2⟩ := o8 (xs (((nI i) + (1 : Int32)).toNatClampNeg)) h hr
        obtain ⟨h', hE, hr3⟩ := ih (i + 6) h2 (by omega) (by omega) hr2
        rw [← n6] at hE
        exact ⟨h', p_law_2_17 x0 x1 e0 b0 c8 b1 hv1 x2 hv2 x3 rfl hE, hr3⟩
      by_cases c9 : (xs (nI i).toNatClampNeg) &&& (63 : Int32) = (9 : Int32)
      · obtain ⟨r, h1, h2, hv1, hv2, hr2⟩ := o9  h hr
        obtain ⟨h', hE, hr3⟩ := ih (i + 6) h2 (by omega) (by omega) hr2
        rw [← n6] at hE
        exact ⟨h', p_law_2_19 x0 x1 e0 b0 c9 hv1 x2 hv2 x3 rfl hE, hr3⟩
      by_cases c10 : (xs (nI i).toNatClampNeg) &&& (63 : Int32) = (10 : Int32)
      · obtain ⟨r, h1, h2, hv1, hv2, hr2⟩ := o10 (xs (((nI i) + (1 : Int32)).toNatClampNeg)) h hr
        obtain ⟨h', hE, hr3⟩ := ih (i + 6) h2 (by omega) (by omega) hr2
        rw [← n6] at hE
        exact ⟨h', p_law_2_21 x0 x1 e0 b0 c10 b1 hv1 x2 hv2 x3 rfl hE, hr3⟩
      by_cases c11 : (xs (nI i).toNatClampNeg) &&& (63 : Int32) = (11 : Int32)
      · obtain ⟨r, h1, h2, hv1, hv2, hr2⟩ := o11  h hr
        obtain ⟨h', hE, hr3⟩ := ih (i + 6) h2 (by omega) (by omega) hr2
        rw [← n6] at hE
        exact ⟨h', p_law_2_23 x0 x1 e0 b0 c11 hv1 x2 hv2 x3 rfl hE, hr3⟩
      by_cases c12 : (xs (nI i).toNatClampNeg) &&& (63 : Int32) = (12 : Int32)
      · obtain ⟨r, h1, h2, hv1, hv2, hr2⟩ := o12 (xs (((nI i) + (1 : Int32)).toNatClampNeg)) h hr
        obtain ⟨h', hE, hr3⟩ := ih (i + 6) h2 (by omega) (by omega) hr2
        rw [← n6] at hE
        exact ⟨h', p_law_2_25 x0 x1 e0 b0 c12 b1 hv1 x2 hv2 x3 rfl hE, hr3⟩
      by_cases c13 : (xs (nI i).toNatClampNeg) &&& (63 : Int32) = (13 : Int32)
      · obtain ⟨r, h1, h2, hv1, hv2, hr2⟩ := o13 (xs (((nI i) + (1 : Int32)).toNatClampNeg)) (xs (((nI i) + (2 : Int32)).toNatClampNeg)) h hr
        obtain ⟨h', hE, hr3⟩ := ih (i + 6) h2 (by omega) (by omega) hr2
        rw [← n6] at hE
        exact ⟨h', p_law_2_27 x0 x1 e0 b0 c13 b1 b2 hv1 x2 hv2 x3 rfl hE, hr3⟩
      by_cases c14 : (xs (nI i).toNatClampNeg) &&& (63 : Int32) = (14 : Int32)
      · obtain ⟨r, h1, h2, hv1, hv2, hr2⟩ := o14  h hr
        obtain ⟨h', hE, hr3⟩ := ih (i + 6) h2 (by omega) (by omega) hr2
        rw [← n6] at hE
        exact ⟨h', p_law_2_29 x0 x1 e0 b0 c14 hv1 x2 hv2 x3 rfl hE, hr3⟩
      by_cases c15 : (xs (nI i).toNatClampNeg) &&& (63 : Int32) = (15 : Int32)
      · obtain ⟨r, h1, h2, hv1, hv2, hr2⟩ := o15 (xs (((nI i) + (1 : Int32)).toNatClampNeg)) h hr
        obtain ⟨h', hE, hr3⟩ := ih (i + 6) h2 (by omega) (by omega) hr2
        rw [← n6] at hE
        exact ⟨h', p_law_2_31 x0 x1 e0 b0 c15 b1 hv1 x2 hv2 x3 rfl hE, hr3⟩
      by_cases c16 : (xs (nI i).toNatClampNeg) &&& (63 : Int32) = (16 : Int32)
      · obtain ⟨r, h1, h2, hv1, hv2, hr2⟩ := o16  h hr
        obtain ⟨h', hE, hr3⟩ := ih (i + 6) h2 (by omega) (by omega) hr2
        rw [← n6] at hE
        exact ⟨h', p_law_2_33 x0 x1 e0 b0 c16 hv1 x2 hv2 x3 rfl hE, hr3⟩
      by_cases c17 : (xs (nI i).toNatClampNeg) &&& (63 : Int32) = (17 : Int32)
      · obtain ⟨r, h1, h2, hv1, hv2, hr2⟩ := o17 (xs (((nI i) + (1 : Int32)).toNatClampNeg)) h hr
        obtain ⟨h', hE, hr3⟩ := ih (i + 6) h2 (by omega) (by omega) hr2
        rw [← n6] at hE
        exact ⟨h', p_law_2_35 x0 x1 e0 b0 c17 b1 hv1 x2 hv2 x3 rfl hE, hr3⟩
      by_cases c18 : (xs (nI i).toNatClampNeg) &&& (63 : Int32) = (18 : Int32)
      · obtain ⟨r, h1, h2, hv1, hv2, hr2⟩ := o18  h hr
        obtain ⟨h', hE, hr3⟩ := ih (i + 6) h2 (by omega) (by omega) hr2
        rw [← n6] at hE
        exact ⟨h', p_law_2_37 x0 x1 e0 b0 c18 hv1 x2 hv2 x3 rfl hE, hr3⟩
      by_cases c19 : (xs (nI i).toNatClampNeg) &&& (63 : Int32) = (19 : Int32)
      · obtain ⟨r, h1, h2, hv1, hv2, hr2⟩ := o19 (xs (((nI i) + (1 : Int32)).toNatClampNeg)) h hr
        obtain ⟨h', hE, hr3⟩ := ih (i + 6) h2 (by omega) (by omega) hr2
        rw [← n6] at hE
        exact ⟨h', p_law_2_39 x0 x1 e0 b0 c19 b1 hv1 x2 hv2 x3 rfl hE, hr3⟩
      by_cases c20 : (xs (nI i).toNatClampNeg) &&& (63 : Int32) = (20 : Int32)
      · obtain ⟨r, h1, h2, hv1, hv2, hr2⟩ := o20 (xs (((nI i) + (1 : Int32)).toNatClampNeg)) h hr
        obtain ⟨h', hE, hr3⟩ := ih (i + 6) h2 (by omega) (by omega) hr2
        rw [← n6] at hE
        exact ⟨h', p_law_2_41 x0 x1 e0 b0 c20 b1 hv1 x2 hv2 x3 rfl hE, hr3⟩
      by_cases c21 : (xs (nI i).toNatClampNeg) &&& (63 : Int32) = (21 : Int32)
      · obtain ⟨r, h1, h2, hv1, hv2, hr2⟩ := o21  h hr
        obtain ⟨h', hE, hr3⟩ := ih (i + 6) h2 (by omega) (by omega) hr2
        rw [← n6] at hE
        exact ⟨h', p_law_2_43 x0 x1 e0 b0 c21 hv1 x2 hv2 x3 rfl hE, hr3⟩
      by_cases c22 : (xs (nI i).toNatClampNeg) &&& (63 : Int32) = (22 : Int32)
      · obtain ⟨r, h1, h2, hv1, hv2, hr2⟩ := o22  h hr
        obtain ⟨h', hE, hr3⟩ := ih (i + 6) h2 (by omega) (by omega) hr2
        rw [← n6] at hE
        exact ⟨h', p_law_2_45 x0 x1 e0 b0 c22 hv1 x2 hv2 x3 rfl hE, hr3⟩
      by_cases c23 : (xs (nI i).toNatClampNeg) &&& (63 : Int32) = (23 : Int32)
      · obtain ⟨r, h1, h2, hv1, hv2, hr2⟩ := o23 (xs (((nI i) + (1 : Int32)).toNatClampNeg)) (xs (((nI i) + (2 : Int32)).toNatClampNeg)) h hr
        obtain ⟨h', hE, hr3⟩ := ih (i + 6) h2 (by omega) (by omega) hr2
        rw [← n6] at hE
        exact ⟨h', p_law_2_47 x0 x1 e0 b0 c23 b1 b2 hv1 x2 hv2 x3 rfl hE, hr3⟩
      by_cases c24 : (xs (nI i).toNatClampNeg) &&& (63 : Int32) = (24 : Int32)
      · obtain ⟨r, h1, h2, hv1, hv2, hr2⟩ := o24  h hr
        obtain ⟨h', hE, hr3⟩ := ih (i + 6) h2 (by omega) (by omega) hr2
        rw [← n6] at hE
        exact ⟨h', p_law_2_49 x0 x1 e0 b0 c24 hv1 x2 hv2 x3 rfl hE, hr3⟩
      by_cases c25 : (xs (nI i).toNatClampNeg) &&& (63 : Int32) = (25 : Int32)
      · obtain ⟨r, h1, h2, hv1, hv2, hr2⟩ := o25 (xs (((nI i) + (1 : Int32)).toNatClampNeg)) h hr
        obtain ⟨h', hE, hr3⟩ := ih (i + 6) h2 (by omega) (by omega) hr2
        rw [← n6] at hE
        exact ⟨h', p_law_2_51 x0 x1 e0 b0 c25 b1 hv1 x2 hv2 x3 rfl hE, hr3⟩
      by_cases c26 : (xs (nI i).toNatClampNeg) &&& (63 : Int32) = (26 : Int32)
      · obtain ⟨r, h1, h2, hv1, hv2, hr2⟩ := o26  h hr
        obtain ⟨h', hE, hr3⟩ := ih (i + 6) h2 (by omega) (by omega) hr2
        rw [← n6] at hE
        exact ⟨h', p_law_2_53 x0 x1 e0 b0 c26 hv1 x2 hv2 x3 rfl hE, hr3⟩
      by_cases c27 : (xs (nI i).toNatClampNeg) &&& (63 : Int32) = (27 : Int32)
      · obtain ⟨r, h1, h2, hv1, hv2, hr2⟩ := o27 (xs (((nI i) + (1 : Int32)).toNatClampNeg)) h hr
        obtain ⟨h', hE, hr3⟩ := ih (i + 6) h2 (by omega) (by omega) hr2
        rw [← n6] at hE
        exact ⟨h', p_law_2_55 x0 x1 e0 b0 c27 b1 hv1 x2 hv2 x3 (by simp [lg_cmp]) hE, hr3⟩
      by_cases c28 : (xs (nI i).toNatClampNeg) &&& (63 : Int32) = (28 : Int32)
      · obtain ⟨r, h1, h2, hv1, hv2, hr2⟩ := o28 (xs (((nI i) + (1 : Int32)).toNatClampNeg)) (xs (((nI i) + (2 : Int32)).toNatClampNeg)) h hr
        obtain ⟨h', hE, hr3⟩ := ih (i + 6) h2 (by omega) (by omega) hr2
        rw [← n6] at hE
        exact ⟨h', p_law_2_57 x0 x1 e0 b0 c28 b1 b2 hv1 x2 hv2 x3 rfl hE, hr3⟩
      by_cases c29 : (xs (nI i).toNatClampNeg) &&& (63 : Int32) = (29 : Int32)
      · obtain ⟨r, h1, h2, hv1, hv2, hr2⟩ := o29 (xs (((nI i) + (1 : Int32)).toNatClampNeg)) h hr
        obtain ⟨h', hE, hr3⟩ := ih (i + 6) h2 (by omega) (by omega) hr2
        rw [← n6] at hE
        exact ⟨h', p_law_2_59 x0 x1 e0 b0 c29 b1 hv1 x2 hv2 x3 rfl hE, hr3⟩
      by_cases c30 : (xs (nI i).toNatClampNeg) &&& (63 : Int32) = (30 : Int32)
      · obtain ⟨r, h1, h2, hv1, hv2, hr2⟩ := o30  h hr
        obtain ⟨h', hE, hr3⟩ := ih (i + 6) h2 (by omega) (by omega) hr2
        rw [← n6] at hE
        exact ⟨h', p_law_2_61 x0 x1 e0 b0 c30 hv1 x2 hv2 x3 rfl hE, hr3⟩
      by_cases c31 : (xs (nI i).toNatClampNeg) &&& (63 : Int32) = (31 : Int32)
      · obtain ⟨r, h1, h2, hv1, hv2, hr2⟩ := o31 (xs (((nI i) + (1 : Int32)).toNatClampNeg)) h hr
        obtain ⟨h', hE, hr3⟩ := ih (i + 6) h2 (by omega) (by omega) hr2
        rw [← n6] at hE
        exact ⟨h', p_law_2_63 x0 x1 e0 b0 c31 b1 hv1 x2 hv2 x3 rfl hE, hr3⟩
      by_cases c32 : (xs (nI i).toNatClampNeg) &&& (63 : Int32) = (32 : Int32)
      · obtain ⟨r, h1, h2, hv1, hv2, hr2⟩ := o32  h hr
        obtain ⟨h', hE, hr3⟩ := ih (i + 6) h2 (by omega) (by omega) hr2
        rw [← n6] at hE
        exact ⟨h', p_law_2_65 x0 x1 e0 b0 c32 hv1 x2 hv2 x3 rfl hE, hr3⟩
      by_cases c33 : (xs (nI i).toNatClampNeg) &&& (63 : Int32) = (33 : Int32)
      · obtain ⟨r, h1, h2, hv1, hv2, hr2⟩ := o33  h hr
        obtain ⟨h', hE, hr3⟩ := ih (i + 6) h2 (by omega) (by omega) hr2
        rw [← n6] at hE
        exact ⟨h', p_law_2_67 x0 x1 e0 b0 c33 hv1 x2 hv2 x3 rfl hE, hr3⟩
      by_cases c34 : (xs (nI i).toNatClampNeg) &&& (63 : Int32) = (34 : Int32)
      · obtain ⟨r, h1, h2, hv1, hv2, hr2⟩ := o34 (xs (((nI i) + (1 : Int32)).toNatClampNeg)) (xs (((nI i) + (2 : Int32)).toNatClampNeg)) h hr
        obtain ⟨h', hE, hr3⟩ := ih (i + 6) h2 (by omega) (by omega) hr2
        rw [← n6] at hE
        exact ⟨h', p_law_2_69 x0 x1 e0 b0 c34 b1 b2 hv1 x2 hv2 x3 rfl hE, hr3⟩
      by_cases c35 : (xs (nI i).toNatClampNeg) &&& (63 : Int32) = (35 : Int32)
      · obtain ⟨r, h1, h2, hv1, hv2, hr2⟩ := o35 (xs (((nI i) + (1 : Int32)).toNatClampNeg)) (xs (((nI i) + (2 : Int32)).toNatClampNeg)) h hr
        obtain ⟨h', hE, hr3⟩ := ih (i + 6) h2 (by omega) (by omega) hr2
        rw [← n6] at hE
        exact ⟨h', p_law_2_71 x0 x1 e0 b0 c35 b1 b2 hv1 x2 hv2 x3 rfl hE, hr3⟩
      by_cases c36 : (xs (nI i).toNatClampNeg) &&& (63 : Int32) = (36 : Int32)
      · obtain ⟨r, h1, h2, hv1, hv2, hr2⟩ := o36 (xs (((nI i) + (1 : Int32)).toNatClampNeg)) (xs (((nI i) + (2 : Int32)).toNatClampNeg)) h hr
        obtain ⟨h', hE, hr3⟩ := ih (i + 6) h2 (by omega) (by omega) hr2
        rw [← n6] at hE
        exact ⟨h', p_law_2_73 x0 x1 e0 b0 c36 b1 b2 hv1 x2 hv2 x3 rfl hE, hr3⟩
      by_cases c37 : (xs (nI i).toNatClampNeg) &&& (63 : Int32) = (37 : Int32)
      · obtain ⟨r, h1, h2, hv1, hv2, hr2⟩ := o37 (xs (((nI i) + (1 : Int32)).toNatClampNeg)) (xs (((nI i) + (2 : Int32)).toNatClampNeg)) h hr
        obtain ⟨h', hE, hr3⟩ := ih (i + 6) h2 (by omega) (by omega) hr2
        rw [← n6] at hE
        exact ⟨h', p_law_2_75 x0 x1 e0 b0 c37 b1 b2 hv1 x2 hv2 x3 (by simp [lg_cmp]) hE, hr3⟩
      by_cases c38 : (xs (nI i).toNatClampNeg) &&& (63 : Int32) = (38 : Int32)
      · obtain ⟨r, h1, h2, hv1, hv2, hr2⟩ := o38 (xs (((nI i) + (1 : Int32)).toNatClampNeg)) h hr
        obtain ⟨h', hE, hr3⟩ := ih (i + 6) h2 (by omega) (by omega) hr2
        rw [← n6] at hE
        exact ⟨h', p_law_2_77 x0 x1 e0 b0 c38 b1 hv1 x2 hv2 x3 rfl hE, hr3⟩
      by_cases c39 : (xs (nI i).toNatClampNeg) &&& (63 : Int32) = (39 : Int32)
      · obtain ⟨r, h1, h2, hv1, hv2, hr2⟩ := o39  h hr
        obtain ⟨h', hE, hr3⟩ := ih (i + 6) h2 (by omega) (by omega) hr2
        rw [← n6] at hE
        exact ⟨h', p_law_2_79 x0 x1 e0 b0 c39 hv1 x2 hv2 x3 rfl hE, hr3⟩
      by_cases c40 : (xs (nI i).toNatClampNeg) &&& (63 : Int32) = (40 : Int32)
      · obtain ⟨r, h1, h2, hv1, hv2, hr2⟩ := o40 (xs (((nI i) + (1 : Int32)).toNatClampNeg)) (xs (((nI i) + (2 : Int32)).toNatClampNeg)) h hr
        obtain ⟨h', hE, hr3⟩ := ih (i + 6) h2 (by omega) (by omega) hr2
        rw [← n6] at hE
        exact ⟨h', p_law_2_81 x0 x1 e0 b0 c40 b1 b2 hv1 x2 hv2 x3 rfl hE, hr3⟩
      by_cases c41 : (xs (nI i).toNatClampNeg) &&& (63 : Int32) = (41 : Int32)
      · obtain ⟨r, h1, h2, hv1, hv2, hr2⟩ := o41  h hr
        obtain ⟨h', hE, hr3⟩ := ih (i + 6) h2 (by omega) (by omega) hr2
        rw [← n6] at hE
        exact ⟨h', p_law_2_83 x0 x1 e0 b0 c41 hv1 x2 hv2 x3 rfl hE, hr3⟩
      by_cases c42 : (xs (nI i).toNatClampNeg) &&& (63 : Int32) = (42 : Int32)
      · obtain ⟨r, h1, h2, hv1, hv2, hr2⟩ := o42 (xs (((nI i) + (1 : Int32)).toNatClampNeg)) (xs (((nI i) + (2 : Int32)).toNatClampNeg)) h hr
        obtain ⟨h', hE, hr3⟩ := ih (i + 6) h2 (by omega) (by omega) hr2
        rw [← n6] at hE
        exact ⟨h', p_law_2_85 x0 x1 e0 b0 c42 b1 b2 hv1 x2 hv2 x3 rfl hE, hr3⟩
      by_cases c43 : (xs (nI i).toNatClampNeg) &&& (63 : Int32) = (43 : Int32)
      · obtain ⟨r, h1, h2, hv1, hv2, hr2⟩ := o43 (xs (((nI i) + (1 : Int32)).toNatClampNeg)) (xs (((nI i) + (2 : Int32)).toNatClampNeg)) h hr
        obtain ⟨h', hE, hr3⟩ := ih (i + 6) h2 (by omega) (by omega) hr2
        rw [← n6] at hE
        exact ⟨h', p_law_2_87 x0 x1 e0 b0 c43 b1 b2 hv1 x2 hv2 x3 rfl hE, hr3⟩
      by_cases c44 : (xs (nI i).toNatClampNeg) &&& (63 : Int32) = (44 : Int32)
      · obtain ⟨r, h1, h2, hv1, hv2, hr2⟩ := o44 (xs (((nI i) + (1 : Int32)).toNatClampNeg)) h hr
        obtain ⟨h', hE, hr3⟩ := ih (i + 6) h2 (by omega) (by omega) hr2
        rw [← n6] at hE
        exact ⟨h', p_law_2_89 x0 x1 e0 b0 c44 b1 hv1 x2 hv2 x3 rfl hE, hr3⟩
      by_cases c45 : (xs (nI i).toNatClampNeg) &&& (63 : Int32) = (45 : Int32)
      · obtain ⟨r, h1, h2, hv1, hv2, hr2⟩ := o45  h hr
        obtain ⟨h', hE, hr3⟩ := ih (i + 6) h2 (by omega) (by omega) hr2
        rw [← n6] at hE
        exact ⟨h', p_law_2_91 x0 x1 e0 b0 c45 hv1 x2 hv2 x3 rfl hE, hr3⟩
      by_cases c46 : (xs (nI i).toNatClampNeg) &&& (63 : Int32) = (46 : Int32)
      · obtain ⟨r, h1, h2, hv1, hv2, hr2⟩ := o46 (xs (((nI i) + (1 : Int32)).toNatClampNeg)) h hr
        obtain ⟨h', hE, hr3⟩ := ih (i + 6) h2 (by omega) (by omega) hr2
        rw [← n6] at hE
        exact ⟨h', p_law_2_93 x0 x1 e0 b0 c46 b1 hv1 x2 hv2 x3 rfl hE, hr3⟩
      by_cases c47 : (xs (nI i).toNatClampNeg) &&& (63 : Int32) = (47 : Int32)
      · obtain ⟨r, h1, h2, hv1, hv2, hr2⟩ := o47 (xs (((nI i) + (1 : Int32)).toNatClampNeg)) h hr
        obtain ⟨h', hE, hr3⟩ := ih (i + 6) h2 (by omega) (by omega) hr2
        rw [← n6] at hE
        exact ⟨h', p_law_2_95 x0 x1 e0 b0 c47 b1 hv1 x2 hv2 x3 rfl hE, hr3⟩
      by_cases c48 : (xs (nI i).toNatClampNeg) &&& (63 : Int32) = (48 : Int32)
      · obtain ⟨r, h1, h2, hv1, hv2, hr2⟩ := o48 (xs (((nI i) + (1 : Int32)).toNatClampNeg)) (xs (((nI i) + (2 : Int32)).toNatClampNeg)) (xs (((nI i) + (3 : Int32)).toNatClampNeg)) h hr
        obtain ⟨h', hE, hr3⟩ := ih (i + 6) h2 (by omega) (by omega) hr2
        rw [← n6] at hE
        exact ⟨h', p_law_2_97 x0 x1 e0 b0 c48 b1 b2 b3 hv1 x2 hv2 x3 rfl hE, hr3⟩
      by_cases c49 : (xs (nI i).toNatClampNeg) &&& (63 : Int32) = (49 : Int32)
      · obtain ⟨r, h1, h2, hv1, hv2, hr2⟩ := o49 (xs (((nI i) + (1 : Int32)).toNatClampNeg)) (xs (((nI i) + (2 : Int32)).toNatClampNeg)) h hr
        obtain ⟨h', hE, hr3⟩ := ih (i + 6) h2 (by omega) (by omega) hr2
        rw [← n6] at hE
        exact ⟨h', p_law_2_99 x0 x1 e0 b0 c49 b1 b2 hv1 x2 hv2 x3 rfl hE, hr3⟩
      by_cases c50 : (xs (nI i).toNatClampNeg) &&& (63 : Int32) = (50 : Int32)
      · obtain ⟨r, h1, h2, hv1, hv2, hr2⟩ := o50 (xs (((nI i) + (1 : Int32)).toNatClampNeg)) (xs (((nI i) + (2 : Int32)).toNatClampNeg)) (xs (((nI i) + (3 : Int32)).toNatClampNeg)) h hr
        obtain ⟨h', hE, hr3⟩ := ih (i + 6) h2 (by omega) (by omega) hr2
        rw [← n6] at hE
        exact ⟨h', p_law_2_101 x0 x1 e0 b0 c50 b1 b2 b3 hv1 x2 hv2 x3 rfl hE, hr3⟩
      by_cases c51 : (xs (nI i).toNatClampNeg) &&& (63 : Int32) = (51 : Int32)
      · obtain ⟨r, h1, h2, hv1, hv2, hr2⟩ := o51 (xs (((nI i) + (1 : Int32)).toNatClampNeg)) h hr
        obtain ⟨h', hE, hr3⟩ := ih (i + 6) h2 (by omega) (by omega) hr2
        rw [← n6] at hE
        exact ⟨h', p_law_2_103 x0 x1 e0 b0 c51 b1 hv1 x2 hv2 x3 rfl hE, hr3⟩
      by_cases c52 : (xs (nI i).toNatClampNeg) &&& (63 : Int32) = (52 : Int32)
      · obtain ⟨r, h1, h2, hv1, hv2, hr2⟩ := o52 (xs (((nI i) + (1 : Int32)).toNatClampNeg)) h hr
        obtain ⟨h', hE, hr3⟩ := ih (i + 6) h2 (by omega) (by omega) hr2
        rw [← n6] at hE
        exact ⟨h', p_law_2_105 x0 x1 e0 b0 c52 b1 hv1 x2 hv2 x3 rfl hE, hr3⟩
      by_cases c53 : (xs (nI i).toNatClampNeg) &&& (63 : Int32) = (53 : Int32)
      · obtain ⟨r, h1, h2, hv1, hv2, hr2⟩ := o53 (xs (((nI i) + (1 : Int32)).toNatClampNeg)) h hr
        obtain ⟨h', hE, hr3⟩ := ih (i + 6) h2 (by omega) (by omega) hr2
        rw [← n6] at hE
        exact ⟨h', p_law_2_107 x0 x1 e0 b0 c53 b1 hv1 x2 hv2 x3 rfl hE, hr3⟩
      by_cases c54 : (xs (nI i).toNatClampNeg) &&& (63 : Int32) = (54 : Int32)
      · obtain ⟨r, h1, h2, hv1, hv2, hr2⟩ := o54 (xs (((nI i) + (1 : Int32)).toNatClampNeg)) (xs (((nI i) + (2 : Int32)).toNatClampNeg)) (xs (((nI i) + (3 : Int32)).toNatClampNeg)) h hr
        obtain ⟨h', hE, hr3⟩ := ih (i + 6) h2 (by omega) (by omega) hr2
        rw [← n6] at hE
        exact ⟨h', p_law_2_109 x0 x1 e0 b0 c54 b1 b2 b3 hv1 x2 hv2 x3 rfl hE, hr3⟩
      by_cases c55 : (xs (nI i).toNatClampNeg) &&& (63 : Int32) = (55 : Int32)
      · obtain ⟨r, h1, h2, hv1, hv2, hr2⟩ := o55 (xs (((nI i) + (1 : Int32)).toNatClampNeg)) (xs (((nI i) + (2 : Int32)).toNatClampNeg)) ((((xs (((nI i) + (3 : Int32)).toNatClampNeg)).toInt64) <<< ((32 : Int32).toInt64 &&& 63)) ||| (((xs (((nI i) + (4 : Int32)).toNatClampNeg)).toInt64) &&& (4294967295 : Int64))) h hr
        obtain ⟨h', hE, hr3⟩ := ih (i + 6) h2 (by omega) (by omega) hr2
        rw [← n6] at hE
        exact ⟨h', p_law_2_111 x0 x1 e0 b0 c55 b1 b2 b3 b4 hv1 x2 hv2 x3 rfl hE, hr3⟩
      by_cases c56 : (xs (nI i).toNatClampNeg) &&& (63 : Int32) = (56 : Int32)
      · obtain ⟨r, h1, h2, hv1, hv2, hr2⟩ := o56 (xs (((nI i) + (1 : Int32)).toNatClampNeg)) (xs (((nI i) + (2 : Int32)).toNatClampNeg)) (xs (((nI i) + (3 : Int32)).toNatClampNeg)) (xs (((nI i) + (4 : Int32)).toNatClampNeg)) (xs (((nI i) + (5 : Int32)).toNatClampNeg)) h hr
        obtain ⟨h', hE, hr3⟩ := ih (i + 6) h2 (by omega) (by omega) hr2
        rw [← n6] at hE
        exact ⟨h', p_law_2_113 x0 x1 e0 b0 c56 b1 b2 b3 b4 b5 hv1 x2 hv2 x3 rfl hE, hr3⟩
      have hout := ll_out (x := (xs (nI i).toNatClampNeg) &&& (63 : Int32)) (fun k hk => match k, hk with
        | 0, _ => c0
        | 1, _ => c1
        | 2, _ => c2
        | 3, _ => c3
        | 4, _ => c4
        | 5, _ => c5
        | 6, _ => c6
        | 7, _ => c7
        | 8, _ => c8
        | 9, _ => c9
        | 10, _ => c10
        | 11, _ => c11
        | 12, _ => c12
        | 13, _ => c13
        | 14, _ => c14
        | 15, _ => c15
        | 16, _ => c16
        | 17, _ => c17
        | 18, _ => c18
        | 19, _ => c19
        | 20, _ => c20
        | 21, _ => c21
        | 22, _ => c22
        | 23, _ => c23
        | 24, _ => c24
        | 25, _ => c25
        | 26, _ => c26
        | 27, _ => c27
        | 28, _ => c28
        | 29, _ => c29
        | 30, _ => c30
        | 31, _ => c31
        | 32, _ => c32
        | 33, _ => c33
        | 34, _ => c34
        | 35, _ => c35
        | 36, _ => c36
        | 37, _ => c37
        | 38, _ => c38
        | 39, _ => c39
        | 40, _ => c40
        | 41, _ => c41
        | 42, _ => c42
        | 43, _ => c43
        | 44, _ => c44
        | 45, _ => c45
        | 46, _ => c46
        | 47, _ => c47
        | 48, _ => c48
        | 49, _ => c49
        | 50, _ => c50
        | 51, _ => c51
        | 52, _ => c52
        | 53, _ => c53
        | 54, _ => c54
        | 55, _ => c55
        | 56, _ => c56
        | m + 57, hk => absurd hk (by omega))
      obtain ⟨h', hE, hr3⟩ := ih (i + 6) h (by omega) (by omega) hr
      rw [← n6] at hE
      exact ⟨h', p_law_2_115 x0 x1 e0 b0 hout hE, hr3⟩
