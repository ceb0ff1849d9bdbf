/-! Numbers written and pasted. -/
theorem sh_c (v k : Int64) (n : Nat) (hk : (k.toBitVec.smod 64).toNat = n) : ((v <<< k) >>> k).toBitVec = (v.toBitVec <<< n).sshiftRight n := by
  rw [Int64.toBitVec_shiftRight, Int64.toBitVec_shiftLeft]
  show (v.toBitVec <<< (k.toBitVec.smod 64).toNat).sshiftRight (k.toBitVec.smod 64).toNat = _
  rw [hk]
theorem sh_i (x : BitVec 64) (n : Nat) : ((x <<< n).sshiftRight n).toInt = ((x.toNat * 2 ^ n : Nat) : Int).bmod (2 ^ 64) / (2 ^ n : Nat) := by
  rw [BitVec.toInt_sshiftRight, BitVec.toInt_shiftLeft, Nat.shiftLeft_eq, Int.shiftRight_eq_div_pow]
theorem cut_8 (v : Int64) : (v <<< (56 : Int64)) >>> (56 : Int64) = v.toInt32.toInt8.toInt32.toInt64 := by
  apply Int64.toInt_inj.1
  rw [Int32.toInt_toInt64, Int8.toInt_toInt32, Int32.toInt_toInt8, Int64.toInt_toInt32]
  show ((v <<< (56 : Int64)) >>> (56 : Int64)).toBitVec.toInt = (v.toBitVec.toInt.bmod (2 ^ 32)).bmod (2 ^ 8)
  rw [sh_c v 56 56 (by decide), sh_i, BitVec.toInt_eq_toNat_bmod]
  have hx := v.toBitVec.isLt
  generalize v.toBitVec.toNat = x at hx ⊢
  simp only [Int.bmod_def]
  repeat' split
  all_goals omega
theorem cut_16 (v : Int64) : (v <<< (48 : Int64)) >>> (48 : Int64) = v.toInt32.toInt16.toInt32.toInt64 := by
  apply Int64.toInt_inj.1
  rw [Int32.toInt_toInt64, Int16.toInt_toInt32, Int32.toInt_toInt16, Int64.toInt_toInt32]
  show ((v <<< (48 : Int64)) >>> (48 : Int64)).toBitVec.toInt = (v.toBitVec.toInt.bmod (2 ^ 32)).bmod (2 ^ 16)
  rw [sh_c v 48 48 (by decide), sh_i, BitVec.toInt_eq_toNat_bmod]
  have hx := v.toBitVec.isLt
  generalize v.toBitVec.toNat = x at hx ⊢
  simp only [Int.bmod_def]
  repeat' split
  all_goals omega
theorem cut_32 (v : Int64) : (v <<< (32 : Int64)) >>> (32 : Int64) = v.toInt32.toInt64 := by
  apply Int64.toInt_inj.1
  rw [Int32.toInt_toInt64, Int64.toInt_toInt32]
  show ((v <<< (32 : Int64)) >>> (32 : Int64)).toBitVec.toInt = v.toBitVec.toInt.bmod (2 ^ 32)
  rw [sh_c v 32 32 (by decide), sh_i, BitVec.toInt_eq_toNat_bmod]
  have hx := v.toBitVec.isLt
  generalize v.toBitVec.toNat = x at hx ⊢
  simp only [Int.bmod_def]
  repeat' split
  all_goals omega
theorem cut_64 (v : Int64) : (v <<< (0 : Int64)) >>> (0 : Int64) = v := by
  apply Int64.toBitVec_inj.1
  rw [sh_c v 0 0 (by decide)]
  simp
def cw (w : Nat) (v : Int64) : Int64 := if w = 0 then v.toInt32.toInt8.toInt32.toInt64 else if w = 1 then v.toInt32.toInt16.toInt32.toInt64 else if w = 2 then v.toInt32.toInt64 else v
theorem cut_m {w : Nat} (hw : w ≤ 3) (v : Int64) : F_X11_cut v (nI w) = cw w v := by
  have : w = 0 ∨ w = 1 ∨ w = 2 ∨ w = 3 := by omega
  unfold F_X11_cut
  rcases this with rfl | rfl | rfl | rfl
  · rw [show (((64 : Int32) - ((8 : Int32) <<< (nI 0 &&& 31))).toInt64 &&& 63) = (56 : Int64) by decide]
    exact cut_8 v
  · rw [show (((64 : Int32) - ((8 : Int32) <<< (nI 1 &&& 31))).toInt64 &&& 63) = (48 : Int64) by decide]
    exact cut_16 v
  · rw [show (((64 : Int32) - ((8 : Int32) <<< (nI 2 &&& 31))).toInt64 &&& 63) = (32 : Int64) by decide]
    exact cut_32 v
  · rw [show (((64 : Int32) - ((8 : Int32) <<< (nI 3 &&& 31))).toInt64 &&& 63) = (0 : Int64) by decide]
    exact cut_64 v
