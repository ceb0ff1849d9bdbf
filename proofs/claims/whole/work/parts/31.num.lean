/-! Numbers: ints that stand for naturals. -/
theorem nm_and (a b : Nat) : nI a &&& nI b = nI (a &&& b) := by
  apply Int32.toBitVec_inj.1
  show BitVec.ofNat 32 a &&& BitVec.ofNat 32 b = BitVec.ofNat 32 (a &&& b)
  apply BitVec.eq_of_getLsbD_eq
  intro i hi
  simp [hi]
theorem nm_or (a b : Nat) : nI a ||| nI b = nI (a ||| b) := by
  apply Int32.toBitVec_inj.1
  show BitVec.ofNat 32 a ||| BitVec.ofNat 32 b = BitVec.ofNat 32 (a ||| b)
  apply BitVec.eq_of_getLsbD_eq
  intro i hi
  simp [hi]
theorem nm_s : ∀ n, n < 32 → ((nI n &&& 31).toBitVec.smod 32).toNat = n := by decide +kernel
theorem nm_shl (a : Nat) {k : Nat} (hk : k < 32) : nI a <<< (nI k &&& 31) = nI (a <<< k) := by
  apply Int32.toBitVec_inj.1
  rw [Int32.toBitVec_shiftLeft]
  show (nI a).toBitVec <<< ((nI k &&& 31).toBitVec.smod 32).toNat = BitVec.ofNat 32 (a <<< k)
  rw [nm_s k hk]
  show BitVec.ofNat 32 a <<< k = BitVec.ofNat 32 (a <<< k)
  apply BitVec.eq_of_toNat_eq
  simp [Nat.shiftLeft_eq, Nat.mod_mul_mod]
theorem nm_shr {a k : Nat} (ha : a < 2 ^ 31) (hk : k < 32) : nI a >>> (nI k &&& 31) = nI (a >>> k) := by
  apply Int32.toBitVec_inj.1
  rw [Int32.toBitVec_shiftRight]
  show (nI a).toBitVec.sshiftRight ((nI k &&& 31).toBitVec.smod 32).toNat = BitVec.ofNat 32 (a >>> k)
  rw [nm_s k hk]
  have hm : (nI a).toBitVec.msb = false := by
    show (BitVec.ofNat 32 a).msb = false
    rw [BitVec.msb_eq_false_iff_two_mul_lt]
    simp
    omega
  rw [BitVec.sshiftRight_eq_of_msb_false hm]
  show BitVec.ofNat 32 a >>> k = BitVec.ofNat 32 (a >>> k)
  apply BitVec.eq_of_toNat_eq
  have h1 : a >>> k ≤ a := by rw [Nat.shiftRight_eq_div_pow]; exact Nat.div_le_self _ _
  rw [BitVec.toNat_ushiftRight, BitVec.toNat_ofNat, BitVec.toNat_ofNat, Nat.mod_eq_of_lt (by omega), Nat.mod_eq_of_lt (by omega)]
theorem nm_mul (a b : Nat) : nI a * nI b = nI (a * b) := by
  apply Int32.toBitVec_inj.1
  rw [Int32.toBitVec_mul]
  show BitVec.ofNat 32 a * BitVec.ofNat 32 b = BitVec.ofNat 32 (a * b)
  apply BitVec.eq_of_toNat_eq
  simp [Nat.mul_mod]
theorem nm_sub {a b : Nat} (h : b ≤ a) : nI a - nI b = nI (a - b) := by
  have e : nI a = nI (a - b) + nI b := by rw [nI_add]; congr 1; omega
  rw [e]
  apply Int32.toBitVec_inj.1
  rw [Int32.toBitVec_sub, Int32.toBitVec_add, BitVec.add_sub_cancel]
theorem nm_div {a b : Nat} (ha : a < 2 ^ 31) (hb : b < 2 ^ 31) : nI a / nI b = nI (a / b) := by
  apply Int32.toInt_inj.1
  have hq : a / b < 2 ^ 31 := Nat.lt_of_le_of_lt (Nat.div_le_self _ _) ha
  rw [Int32.toInt_div, nI_toInt ha, nI_toInt hb, nI_toInt hq]
  rw [← Int.ofNat_tdiv]
  generalize a / b = q at hq ⊢
  apply Int.bmod_eq_of_le <;> omega
theorem nm_rem {a b : Nat} (ha : a < 2 ^ 31) (hb : b < 2 ^ 31) : nI a - nI a / nI b * nI b = nI (a % b) := by
  rw [nm_div ha hb, nm_mul, nm_sub (Nat.div_mul_le_self a b)]
  congr 1
  have := Nat.div_add_mod a b
  rw [Nat.mul_comm] at this
  omega
theorem nm_ors {a b k : Nat} (ha : a < 2 ^ k) : a ||| (b <<< k) = a + b * 2 ^ k := by
  rw [Nat.or_comm, ← Nat.shiftLeft_add_eq_or_of_lt ha, Nat.shiftLeft_eq, Nat.add_comm]
theorem nm_andm (a k : Nat) : a &&& (2 ^ k - 1) = a % 2 ^ k := Nat.and_two_pow_sub_one_eq_mod a k
/-- a state, as the class packs it and as the reference does; z is the twist and two -/
def st_pk (l w e f z : Nat) : Nat := l + 64 * w + 4096 * e + 32768 * f + 65536 * z
def st_md (l w e f z : Nat) : Nat := (((l * 49 + w) * 5 + e) * 2 + f) * 5 + z
def st_ok (l w e f z : Nat) : Prop := l < 49 ∧ w < 49 ∧ e < 5 ∧ f < 2 ∧ z < 5
theorem st_pk_lt {l w e f z : Nat} (h : st_ok l w e f z) : st_pk l w e f z < 2 ^ 19 := by
  obtain ⟨h1, h2, h3, h4, h5⟩ := h
  unfold st_pk
  omega
theorem st_md_lt {l w e f z : Nat} (h : st_ok l w e f z) : st_md l w e f z < 120050 := by
  obtain ⟨h1, h2, h3, h4, h5⟩ := h
  unfold st_md
  omega
theorem st_pack {l w e f z : Nat} (h : st_ok l w e f z) : ((((nI l ||| (nI w <<< ((6 : Int32) &&& 31))) ||| (nI e <<< ((12 : Int32) &&& 31))) ||| (nI f <<< ((15 : Int32) &&& 31))) ||| (nI z <<< ((16 : Int32) &&& 31))) = nI (st_pk l w e f z) := by
  obtain ⟨h1, h2, h3, h4, h5⟩ := h
  rw [show (6 : Int32) = nI 6 from rfl, show (12 : Int32) = nI 12 from rfl, show (15 : Int32) = nI 15 from rfl, show (16 : Int32) = nI 16 from rfl]
  rw [nm_shl w (by omega), nm_shl e (by omega), nm_shl f (by omega), nm_shl z (by omega), nm_or, nm_or, nm_or, nm_or]
  rw [nm_ors (a := l) (by omega), nm_ors (k := 12) (by omega), nm_ors (k := 15) (by omega), nm_ors (k := 16) (by omega)]
  congr 1
  unfold st_pk
  omega
theorem st_long {l w e f z : Nat} (h : st_ok l w e f z) : nI (st_pk l w e f z) &&& 63 = nI l := by
  have hl := st_pk_lt h
  obtain ⟨h1, h2, h3, h4, h5⟩ := h
  rw [show (63 : Int32) = nI (2 ^ 6 - 1) from rfl, nm_and, nm_andm]
  congr 1
  unfold st_pk
  omega
theorem st_wide {l w e f z : Nat} (h : st_ok l w e f z) : (nI (st_pk l w e f z) >>> ((6 : Int32) &&& 31)) &&& 63 = nI w := by
  have hl := st_pk_lt h
  obtain ⟨h1, h2, h3, h4, h5⟩ := h
  rw [show (6 : Int32) = nI 6 from rfl, nm_shr (by omega) (by omega), show (63 : Int32) = nI (2 ^ 6 - 1) from rfl, nm_and, nm_andm, Nat.shiftRight_eq_div_pow]
  congr 1
  unfold st_pk
  omega
theorem st_hem {l w e f z : Nat} (h : st_ok l w e f z) : (nI (st_pk l w e f z) >>> ((12 : Int32) &&& 31)) &&& 7 = nI e := by
  have hl := st_pk_lt h
  obtain ⟨h1, h2, h3, h4, h5⟩ := h
  rw [show (12 : Int32) = nI 12 from rfl, nm_shr (by omega) (by omega), show (7 : Int32) = nI (2 ^ 3 - 1) from rfl, nm_and, nm_andm, Nat.shiftRight_eq_div_pow]
  congr 1
  unfold st_pk
  omega
theorem st_face {l w e f z : Nat} (h : st_ok l w e f z) : (nI (st_pk l w e f z) >>> ((15 : Int32) &&& 31)) &&& 1 = nI f := by
  have hl := st_pk_lt h
  obtain ⟨h1, h2, h3, h4, h5⟩ := h
  rw [show (15 : Int32) = nI 15 from rfl, nm_shr (by omega) (by omega), show (1 : Int32) = nI (2 ^ 1 - 1) from rfl, nm_and, nm_andm, Nat.shiftRight_eq_div_pow]
  congr 1
  unfold st_pk
  omega
theorem st_twist {l w e f z : Nat} (h : st_ok l w e f z) : (nI (st_pk l w e f z) >>> ((16 : Int32) &&& 31)) &&& 7 = nI z := by
  have hl := st_pk_lt h
  obtain ⟨h1, h2, h3, h4, h5⟩ := h
  rw [show (16 : Int32) = nI 16 from rfl, nm_shr (by omega) (by omega), show (7 : Int32) = nI (2 ^ 3 - 1) from rfl, nm_and, nm_andm, Nat.shiftRight_eq_div_pow]
  congr 1
  unfold st_pk
  omega
theorem st_mtwist {l w e f z : Nat} (h : st_ok l w e f z) : nI (st_md l w e f z) - nI (st_md l w e f z) / 5 * 5 = nI z := by
  have hl := st_md_lt h
  obtain ⟨h1, h2, h3, h4, h5⟩ := h
  rw [show (5 : Int32) = nI 5 from rfl, nm_rem (by omega) (by omega)]
  congr 1
  unfold st_md
  omega
theorem st_md5 {l w e f z : Nat} (h : st_ok l w e f z) : nI (st_md l w e f z) / 5 = nI (((l * 49 + w) * 5 + e) * 2 + f) := by
  have hl := st_md_lt h
  obtain ⟨h1, h2, h3, h4, h5⟩ := h
  rw [show (5 : Int32) = nI 5 from rfl, nm_div (by omega) (by omega)]
  congr 1
  unfold st_md
  omega
theorem st_mface {l w e f z : Nat} (h : st_ok l w e f z) : (nI (st_md l w e f z) / 5) - (nI (st_md l w e f z) / 5) / 2 * 2 = nI f := by
  rw [st_md5 h]
  obtain ⟨h1, h2, h3, h4, h5⟩ := h
  rw [show (2 : Int32) = nI 2 from rfl, nm_rem (by omega) (by omega)]
  congr 1
  omega
theorem st_md52 {l w e f z : Nat} (h : st_ok l w e f z) : (nI (st_md l w e f z) / 5) / 2 = nI ((l * 49 + w) * 5 + e) := by
  rw [st_md5 h]
  obtain ⟨h1, h2, h3, h4, h5⟩ := h
  rw [show (2 : Int32) = nI 2 from rfl, nm_div (by omega) (by omega)]
  congr 1
  omega
theorem st_mhem {l w e f z : Nat} (h : st_ok l w e f z) : ((nI (st_md l w e f z) / 5) / 2) - ((nI (st_md l w e f z) / 5) / 2) / 5 * 5 = nI e := by
  rw [st_md52 h]
  obtain ⟨h1, h2, h3, h4, h5⟩ := h
  rw [show (5 : Int32) = nI 5 from rfl, nm_rem (by omega) (by omega)]
  congr 1
  omega
theorem st_md525 {l w e f z : Nat} (h : st_ok l w e f z) : ((nI (st_md l w e f z) / 5) / 2) / 5 = nI (l * 49 + w) := by
  rw [st_md52 h]
  obtain ⟨h1, h2, h3, h4, h5⟩ := h
  rw [show (5 : Int32) = nI 5 from rfl, nm_div (by omega) (by omega)]
  congr 1
  omega
theorem st_mwide {l w e f z : Nat} (h : st_ok l w e f z) : (((nI (st_md l w e f z) / 5) / 2) / 5) - (((nI (st_md l w e f z) / 5) / 2) / 5) / 49 * 49 = nI w := by
  rw [st_md525 h]
  obtain ⟨h1, h2, h3, h4, h5⟩ := h
  rw [show (49 : Int32) = nI 49 from rfl, nm_rem (by omega) (by omega)]
  congr 1
  omega
theorem st_mlong {l w e f z : Nat} (h : st_ok l w e f z) : (((nI (st_md l w e f z) / 5) / 2) / 5) / 49 = nI l := by
  rw [st_md525 h]
  obtain ⟨h1, h2, h3, h4, h5⟩ := h
  rw [show (49 : Int32) = nI 49 from rfl, nm_div (by omega) (by omega)]
  congr 1
  omega
