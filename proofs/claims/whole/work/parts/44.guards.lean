/-! Guards that always hold; and numbers once more. -/
theorem g_lt {x : Int32} {n : Nat} (m : Nat) (hm : m ≤ n) (hn : n < 2147483648) (h0 : ¬ x < 0) (h1 : ¬ nI m ≤ x) : ¬ (x < 0 ∨ n ≤ x.toNatClampNeg) := by
  obtain ⟨j, hj, rfl⟩ := nI_of h0
  rw [nI_leI (by omega) hj] at h1
  exact nI_in (by omega) (by omega)
theorem g_lt2 {x : Int32} {n : Nat} (m : Nat) (hm : m ≤ n) (hn : n < 2147483648) (h0 : ¬ x < 0) (h1 : x < nI m) : ¬ (x < 0 ∨ n ≤ x.toNatClampNeg) := g_lt m hm hn h0 (Int32.not_le.mpr h1)
theorem g_le {x : Int32} {n : Nat} (m : Nat) (hm : m < n) (hn : n < 2147483648) (h0 : ¬ x < 0) (h1 : ¬ nI m < x) : ¬ (x < 0 ∨ n ≤ x.toNatClampNeg) := by
  obtain ⟨j, hj, rfl⟩ := nI_of h0
  rw [nI_ltI (by omega) hj] at h1
  exact nI_in (by omega) (by omega)
theorem g_hem {a s : Int32} (h0 : ¬ a < 0) (h8 : ¬ (8 : Int32) < a) (h5 : F_X5_hemOf s < (5 : Int32)) : ¬ ((a * (5 : Int32)) + (F_X5_hemOf s) < 0 ∨ 45 ≤ ((a * (5 : Int32)) + (F_X5_hemOf s)).toNatClampNeg) := by
  obtain ⟨j, hj, rfl⟩ := nI_of h0
  obtain ⟨e, he, hE⟩ := pk_andE (s >>> ((12 : Int32) &&& 31)) (m := 7) 3 (by decide)
  have hE' : F_X5_hemOf s = nI e := hE
  rw [hE'] at h5 ⊢
  rw [show (8 : Int32) = nI 8 from rfl, nI_ltI (by omega) hj] at h8
  rw [show (5 : Int32) = nI 5 from rfl, nI_ltI (by omega) (by omega)] at h5
  rw [show (5 : Int32) = nI 5 from rfl, nm_mul, nI_add]
  exact nI_in (by omega) (by omega)
theorem g_act {a b : Int32} (h0 : ¬ a < 0) (h4 : ¬ (4 : Int32) ≤ a) (k0 : ¬ b < 0) (k4 : b < (4 : Int32)) : ¬ ((a * (4 : Int32)) + b < 0 ∨ 16 ≤ ((a * (4 : Int32)) + b).toNatClampNeg) := by
  obtain ⟨j, hj, rfl⟩ := nI_of h0
  obtain ⟨i, hi, rfl⟩ := nI_of k0
  rw [show (4 : Int32) = nI 4 from rfl, nI_leI (by omega) hj] at h4
  rw [show (4 : Int32) = nI 4 from rfl, nI_ltI hi (by omega)] at k4
  rw [show (4 : Int32) = nI 4 from rfl, nm_mul, nI_add]
  exact nI_in (by omega) (by omega)
theorem g_mov12 : ∀ k, k < 12 → ¬ (xm_f_mov k < 0 ∨ 6 ≤ (xm_f_mov k).toNatClampNeg) := by decide +kernel
theorem g_mov {x : Int32} : ¬ (xm_f_mov x.toNatClampNeg < 0 ∨ 6 ≤ (xm_f_mov x.toNatClampNeg).toNatClampNeg) := by
  by_cases hk : x.toNatClampNeg < 12
  · exact g_mov12 _ hk
  · have e : xm_f_mov x.toNatClampNeg = 0 := by
      unfold xm_f_mov
      rw [List.getD_eq_getElem?_getD, List.getElem?_eq_none (by show 12 ≤ _; omega)]
      rfl
    rw [e]
    decide
theorem g_mvo {x : Int32} : ¬ ((5 : Int32) + (F_X11_movingOf x) < 0 ∨ 110 ≤ ((5 : Int32) + (F_X11_movingOf x)).toNatClampNeg) := by
  unfold F_X11_movingOf
  repeat' split
  all_goals decide
theorem g_okin {a b c : Int64} : xm_okr 3 (F_X11_in a b c) = true := by
  unfold F_X11_in
  repeat' split
  all_goals decide
theorem g_okmd {h : xm_H} {t : Nat} : xm_okr 3 (F_X8_isMade h t) = true := by
  unfold F_X8_isMade
  repeat' split
  all_goals decide
theorem g_pos {x : Int32} (h : (0 : Int32) < x) : ¬ x = 0 := fun e => absurd (e ▸ h) (by decide)
theorem g_s1 {x : Int32} (h0 : ¬ x < 0) (h9 : x ≤ (999 : Int32)) : ¬ (x + (1 : Int32)) = 0 := by
  obtain ⟨j, hj, rfl⟩ := nI_of h0
  rw [show (999 : Int32) = nI 999 from rfl, nI_leI hj (by omega)] at h9
  rw [nI_1]
  exact nI_ne0 (by omega) (by omega)
/-! numbers, for simp -/
theorem nj_lt {a b : Nat} (ha : a < 2147483648) (hb : b < 2147483648) : (nI a < nI b) ↔ a < b := nI_ltI ha hb
theorem nj_le {a b : Nat} (ha : a < 2147483648) (hb : b < 2147483648) : (nI a ≤ nI b) ↔ a ≤ b := nI_leI ha hb
theorem nj_eq {a b : Nat} (ha : a < 2147483648) (hb : b < 2147483648) : (nI a = nI b) ↔ a = b := nI_eq ha hb
theorem nj_cl {a : Nat} (ha : a < 2147483648) : (nI a).toNatClampNeg = a := nI_clamp ha
theorem nj_sub {a b : Nat} (h : b ≤ a) : nI a - nI b = nI (a - b) := nm_sub h
theorem nj_dv {a b : Nat} (ha : a < 2147483648) (hb : b < 2147483648) : nI a / nI b = nI (a / b) := nm_div ha hb
theorem nj_n1 {a k : Nat} (ha : a < 2147483648) (hk : 0 < k) (hk' : k < 2147483648) : (nI a = -nI k) ↔ False := by
  constructor
  · intro h
    have h2 := congrArg Int32.toInt h
    rw [nI_toInt ha, sb_negT hk'] at h2
    omega
  · exact False.elim
theorem nj_n2 {a k : Nat} (ha : a < 2147483648) (hk : 0 < k) (hk' : k < 2147483648) : (-nI k = nI a) ↔ False := by
  rw [eq_comm, nj_n1 ha hk hk']
theorem nj_n3 {a k : Nat} (ha : a < 2147483648) (hk : 0 < k) (hk' : k < 2147483648) : (-nI k < nI a) ↔ True := by
  rw [Int32.lt_iff_toInt_lt, nI_toInt ha, sb_negT hk']
  constructor
  · intro _; trivial
  · intro _; omega
theorem nj_n4 {a k : Nat} (ha : a < 2147483648) (hk : 0 < k) (hk' : k < 2147483648) : (nI a < -nI k) ↔ False := by
  rw [Int32.lt_iff_toInt_lt, nI_toInt ha, sb_negT hk']
  constructor
  · intro h; omega
  · exact False.elim
theorem nj_n5 {a k : Nat} (ha : a < 2147483648) (hk : 0 < k) (hk' : k < 2147483648) : (nI a ≤ -nI k) ↔ False := by
  rw [Int32.le_iff_toInt_le, nI_toInt ha, sb_negT hk']
  constructor
  · intro h; omega
  · exact False.elim
/-- below zero, or a natural -/
theorem nj_or (a : Int32) : a < 0 ∨ ∃ j, j < 2147483648 ∧ a = nI j := by
  by_cases h : a < 0
  · exact Or.inl h
  · exact Or.inr (nI_of h)
theorem ng_lt {a : Int32} (h : a < 0) {k : Nat} (hk : k < 2147483648) : (a < nI k) ↔ True := by
  rw [Int32.lt_iff_toInt_lt] at h ⊢
  rw [nI_toInt hk]
  have : (0 : Int32).toInt = 0 := by decide
  constructor
  · intro _; trivial
  · intro _; omega
theorem ng_le {a : Int32} (h : a < 0) {k : Nat} (hk : k < 2147483648) : (nI k ≤ a) ↔ False := by
  rw [Int32.lt_iff_toInt_lt] at h
  rw [Int32.le_iff_toInt_le, nI_toInt hk]
  have : (0 : Int32).toInt = 0 := by decide
  constructor
  · intro _; omega
  · exact False.elim
theorem ng_lt' {a : Int32} (h : a < 0) {k : Nat} (hk : k < 2147483648) : (nI k < a) ↔ False := by
  rw [Int32.lt_iff_toInt_lt] at h ⊢
  rw [nI_toInt hk]
  have : (0 : Int32).toInt = 0 := by decide
  constructor
  · intro _; omega
  · exact False.elim
theorem ng_eq {a : Int32} (h : a < 0) {k : Nat} (hk : k < 2147483648) : (a = nI k) ↔ False := by
  constructor
  · intro e
    rw [e] at h
    exact nI_pos hk h
  · exact False.elim
theorem nj_of (n : Nat) : Int32.ofNat n = nI n := rfl
theorem i64_lt (x y : Int32) : x.toInt64 < y.toInt64 ↔ x < y := by
  rw [Int64.lt_iff_toInt_lt, Int32.toInt_toInt64, Int32.toInt_toInt64, Int32.lt_iff_toInt_lt]
theorem in_32 (x a b : Int32) : F_X11_in x.toInt64 a.toInt64 b.toInt64 = if a ≤ x ∧ x ≤ b then 1 else 0 := by
  unfold F_X11_in
  simp only [lg_cmp_lt, lg_cmp_gt, i64_lt]
  by_cases h1 : x < a
  · rw [if_pos h1, if_neg (fun q => Int32.not_le.mpr h1 q.1)]
  · by_cases h2 : b < x
    · rw [if_neg h1, if_pos h2, if_neg (fun q => Int32.not_le.mpr h2 q.2)]
    · rw [if_neg h1, if_neg h2, if_pos ⟨Int32.not_lt.mp h1, Int32.not_lt.mp h2⟩]
theorem in_cnt {a : Int32} {c : Nat} (hc : c < 1048576) : ((0 : Int32) ≤ a ∧ a ≤ nI c - 1) ↔ ∃ j, j < c ∧ a = nI j := by
  constructor
  · rintro ⟨h0, h1⟩
    obtain ⟨j, hj, rfl⟩ := nI_of (Int32.not_lt.mpr h0)
    refine ⟨j, ?_, rfl⟩
    by_cases hz : c = 0
    · subst hz
      exfalso
      rw [Int32.le_iff_toInt_le, nI_toInt hj] at h1
      have : (nI 0 - 1).toInt = -1 := by decide
      omega
    · rw [show (1 : Int32) = nI 1 from rfl, nm_sub (by omega), nI_leI hj (by omega)] at h1
      omega
  · rintro ⟨j, hj, rfl⟩
    refine ⟨nI_pos' (by omega), ?_⟩
    rw [show (1 : Int32) = nI 1 from rfl, nm_sub (by omega)]
    exact nI_le (by omega) (by omega)
/-- within two literal bounds: below zero, or a natural -/
theorem in_neg {a : Int32} (h : a < 0) {k m : Nat} (hk : k < 2147483648) (hm : m < 2147483648) : F_X11_in a.toInt64 (nI k).toInt64 (nI m).toInt64 = 0 := by
  rw [in_32, if_neg]
  intro q
  rw [ng_le h hk] at q
  exact q.1
theorem in_nat {j : Nat} (hj : j < 2147483648) {k m : Nat} (hk : k < 2147483648) (hm : m < 2147483648) : F_X11_in (nI j).toInt64 (nI k).toInt64 (nI m).toInt64 = if k ≤ j ∧ j ≤ m then 1 else 0 := by
  rw [in_32]
  simp only [nI_leI hk hj, nI_leI hj hm]
theorem in_cneg {a : Int32} (h : a < 0) {c : Nat} (hc : c < 1048576) : F_X11_in a.toInt64 (nI 0).toInt64 (nI c - 1).toInt64 = 0 := by
  rw [in_32, if_neg]
  intro q
  rw [ng_le h (by omega)] at q
  exact q.1
theorem in_cnat {j : Nat} (hj : j < 2147483648) {c : Nat} (hc : c < 1048576) : F_X11_in (nI j).toInt64 (nI 0).toInt64 (nI c - 1).toInt64 = if j < c then 1 else 0 := by
  rw [in_32]
  have h1 : (nI 0 ≤ nI j ∧ nI j ≤ nI c - 1) ↔ ∃ j', j' < c ∧ nI j = nI j' := in_cnt (a := nI j) hc
  by_cases q : j < c
  · rw [if_pos q, if_pos (h1.mpr ⟨j, q, rfl⟩)]
  · rw [if_neg q, if_neg]
    intro z
    obtain ⟨i, hi, e⟩ := h1.mp z
    rw [nI_eq hj (by omega)] at e
    omega
