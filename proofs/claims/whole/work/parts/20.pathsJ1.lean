/-! Ways through methods, printed by wip/gen/paths.py -/
section XMPA
theorem r_J7_fill_53178_0 : co_J7_fill_53178[0]? = some ((0, .iconst 0, 0, 0, 0, 0, 0, 0, []) : xm_I) := rfl
theorem r_J7_fill_53178_1 : co_J7_fill_53178[1]? = some ((1, .istore_n 2, 0, 0, 0, 0, 0, 0, []) : xm_I) := rfl
theorem r_J7_fill_53178_2 : co_J7_fill_53178[2]? = some ((2, .aload_n 0, 0, 0, 0, 0, 0, 0, []) : xm_I) := rfl
theorem r_J7_fill_53178_3 : co_J7_fill_53178[3]? = some ((3, .arraylength, 0, 0, 0, 0, 0, 0, []) : xm_I) := rfl
theorem r_J7_fill_53178_4 : co_J7_fill_53178[4]? = some ((4, .istore_n 3, 0, 0, 0, 0, 0, 0, []) : xm_I) := rfl
theorem r_J7_fill_53178_5 : co_J7_fill_53178[5]? = some ((5, .iload_n 2, 0, 0, 0, 0, 0, 0, []) : xm_I) := rfl
theorem r_J7_fill_53178_6 : co_J7_fill_53178[6]? = some ((6, .iload_n 3, 0, 0, 0, 0, 0, 0, []) : xm_I) := rfl
theorem r_J7_fill_53178_7 : co_J7_fill_53178[7]? = some ((7, .if_icmp .ge 13, 0, 0, 14, 0, 0, 0, []) : xm_I) := rfl
theorem r_J7_fill_53178_8 : co_J7_fill_53178[8]? = some ((10, .aload_n 0, 0, 0, 0, 0, 0, 0, []) : xm_I) := rfl
theorem r_J7_fill_53178_9 : co_J7_fill_53178[9]? = some ((11, .iload_n 2, 0, 0, 0, 0, 0, 0, []) : xm_I) := rfl
theorem r_J7_fill_53178_10 : co_J7_fill_53178[10]? = some ((12, .iload_n 1, 0, 0, 0, 0, 0, 0, []) : xm_I) := rfl
theorem r_J7_fill_53178_11 : co_J7_fill_53178[11]? = some ((13, .iastore, 0, 0, 0, 0, 0, 0, []) : xm_I) := rfl
theorem r_J7_fill_53178_12 : co_J7_fill_53178[12]? = some ((14, .iinc 2 1, 0, 0, 0, 0, 1, 0, []) : xm_I) := rfl
theorem r_J7_fill_53178_13 : co_J7_fill_53178[13]? = some ((17, .goto (-12), 0, 0, 5, 0, 0, 0, []) : xm_I) := rfl
theorem r_J7_fill_53178_14 : co_J7_fill_53178[14]? = some ((20, .return_, 0, 0, 0, 0, 0, 0, []) : xm_I) := rfl
theorem p_J7_fill_53178_0_0 {X : xm_X} {P : List xm_M} {d : Nat} {h : xm_H} {l0 : Nat} {l1 : Int32} {n0 : Nat} {ro : Option Value} {ho : xm_H} (q0 : X.1[l0]? = some (.inl (0, n0))) (K : xm_E X P d co_J7_fill_53178 5 [some (.ref l0), some (.int l1), some (.int (0 : Int32)), some (.int (Int32.ofNat n0))] [] h ro ho) : xm_E X P d co_J7_fill_53178 0 [some (.ref l0), some (.int l1), none, none] [] h ro ho := by
  refine xm_E_s r_J7_fill_53178_0 rfl rfl ?_
  refine xm_E_s (ls1 := [some (.ref l0), some (.int l1), some (.int (0 : Int32)), none]) r_J7_fill_53178_1 rfl rfl ?_
  refine xm_E_s r_J7_fill_53178_2 rfl rfl ?_
  refine xm_E_s r_J7_fill_53178_3 rfl (xm_T_alen rfl q0 (by decide)) ?_
  refine xm_E_s (ls1 := [some (.ref l0), some (.int l1), some (.int (0 : Int32)), some (.int (Int32.ofNat n0))]) r_J7_fill_53178_4 rfl rfl ?_
  exact K
theorem p_J7_fill_53178_5_0 {X : xm_X} {P : List xm_M} {d : Nat} {h : xm_H} {l0 : Nat} {l1 : Int32} {l2 : Int32} {l3 : Int32} (q0 : l3 ≤ l2) : xm_E X P d co_J7_fill_53178 5 [some (.ref l0), some (.int l1), some (.int l2), some (.int l3)] [] h none h := by
  refine xm_E_s r_J7_fill_53178_5 rfl rfl ?_
  refine xm_E_s r_J7_fill_53178_6 rfl rfl ?_
  refine xm_E_s r_J7_fill_53178_7 rfl rfl ?_
  refine xm_E_t q0 ?_
  exact xm_E_ret r_J7_fill_53178_14 rfl
theorem p_J7_fill_53178_5_1 {X : xm_X} {P : List xm_M} {d : Nat} {h : xm_H} {l0 : Nat} {l1 : Int32} {l2 : Int32} {l3 : Int32} {n0 : Nat} {ro : Option Value} {ho : xm_H} (q0 : ¬ (l3 ≤ l2)) (q1 : X.1[l0]? = some (.inl (0, n0))) (q2 : ¬ (l2 < 0 ∨ n0 ≤ l2.toNatClampNeg)) (K : xm_E X P d co_J7_fill_53178 5 [some (.ref l0), some (.int l1), some (.int (l2 + (1 : Int32))), some (.int l3)] [] (xm_si h l0 l2.toNatClampNeg l1) ro ho) : xm_E X P d co_J7_fill_53178 5 [some (.ref l0), some (.int l1), some (.int l2), some (.int l3)] [] h ro ho := by
  refine xm_E_s r_J7_fill_53178_5 rfl rfl ?_
  refine xm_E_s r_J7_fill_53178_6 rfl rfl ?_
  refine xm_E_s r_J7_fill_53178_7 rfl rfl ?_
  refine xm_E_f q0 ?_
  refine xm_E_s r_J7_fill_53178_8 rfl rfl ?_
  refine xm_E_s r_J7_fill_53178_9 rfl rfl ?_
  refine xm_E_s r_J7_fill_53178_10 rfl rfl ?_
  refine xm_E_s r_J7_fill_53178_11 rfl (xm_T_asi rfl q1 q2) ?_
  refine xm_E_s (ls1 := [some (.ref l0), some (.int l1), some (.int (l2 + (1 : Int32))), some (.int l3)]) r_J7_fill_53178_12 rfl rfl ?_
  refine xm_E_s r_J7_fill_53178_13 rfl rfl ?_
  exact K
theorem r_J0_length_8abf5_0 : co_J0_length_8abf5[0]? = some ((0, .aload_n 0, 0, 0, 0, 0, 0, 0, []) : xm_I) := rfl
theorem r_J0_length_8abf5_1 : co_J0_length_8abf5[1]? = some ((1, .getfield 9, 2112, 0, 1, 9, 0, 0, []) : xm_I) := rfl
theorem r_J0_length_8abf5_2 : co_J0_length_8abf5[2]? = some ((4, .arraylength, 0, 0, 0, 0, 0, 0, []) : xm_I) := rfl
theorem r_J0_length_8abf5_3 : co_J0_length_8abf5[3]? = some ((5, .aload_n 0, 0, 0, 0, 0, 0, 0, []) : xm_I) := rfl
theorem r_J0_length_8abf5_4 : co_J0_length_8abf5[4]? = some ((6, .invokevirtual 335, 571, 16, 1, 99, 0, 0, []) : xm_I) := rfl
theorem r_J0_length_8abf5_5 : co_J0_length_8abf5[5]? = some ((9, .ishr, 0, 0, 0, 0, 0, 0, []) : xm_I) := rfl
theorem r_J0_length_8abf5_6 : co_J0_length_8abf5[6]? = some ((10, .ireturn, 0, 0, 0, 0, 0, 0, []) : xm_I) := rfl
theorem p_J0_length_8abf5_0_0 {X : xm_X} {P : List xm_M} {d : Nat} {h : xm_H} {l0 : Nat} {v0 : Nat} {n1 : Nat} {f1 : Nat → Int32} {h2 : xm_H} {r2 : Int32} (q0 : X.2.2.1 l0 1 = some (.ref v0)) (q1 : X.1[v0]? = none) (q2 : X.2.1 v0 = some (1, n1, f1)) (q3 : xm_V X P d 16 [.ref l0] h (some (.int r2)) h2) (q4 : X.2.2.1 l0 0 = some (.int 0)) : xm_E X P d co_J0_length_8abf5 0 [some (.ref l0)] [] h (some (.int ((Int32.ofNat n1) >>> (r2 &&& 31)))) h2 := by
  refine xm_E_s r_J0_length_8abf5_0 rfl rfl ?_
  refine xm_E_s r_J0_length_8abf5_1 rfl (xm_T_gs rfl q0 rfl) ?_
  refine xm_E_s r_J0_length_8abf5_2 rfl (xm_T_alenx rfl q1 q2) ?_
  refine xm_E_s r_J0_length_8abf5_3 rfl rfl ?_
  refine xm_E_cv [.ref l0] [.int (Int32.ofNat n1)] r_J0_length_8abf5_4 rfl rfl (Nat.le_of_ble_eq_true rfl) (xm_rs q4) rfl q3 ?_
  refine xm_E_s r_J0_length_8abf5_5 rfl rfl ?_
  exact xm_E_iret r_J0_length_8abf5_6 rfl rfl
theorem r_J0_coder_7d493_0 : co_J0_coder_7d493[0]? = some ((0, .getstatic 38, 575, 0, 0, 0, 0, 0, []) : xm_I) := rfl
theorem r_J0_coder_7d493_1 : co_J0_coder_7d493[1]? = some ((3, .ifCond .eq 10, 0, 0, 5, 0, 0, 0, []) : xm_I) := rfl
theorem r_J0_coder_7d493_2 : co_J0_coder_7d493[2]? = some ((6, .aload_n 0, 0, 0, 0, 0, 0, 0, []) : xm_I) := rfl
theorem r_J0_coder_7d493_3 : co_J0_coder_7d493[3]? = some ((7, .getfield 15, 2113, 0, 0, 9, 0, 0, []) : xm_I) := rfl
theorem r_J0_coder_7d493_4 : co_J0_coder_7d493[4]? = some ((10, .goto 4, 0, 0, 6, 0, 0, 0, []) : xm_I) := rfl
theorem r_J0_coder_7d493_5 : co_J0_coder_7d493[5]? = some ((13, .iconst 1, 0, 0, 0, 0, 1, 0, []) : xm_I) := rfl
theorem r_J0_coder_7d493_6 : co_J0_coder_7d493[6]? = some ((14, .ireturn, 0, 0, 0, 5, 0, 0, []) : xm_I) := rfl
theorem p_J0_coder_7d493_0_0 {X : xm_X} {P : List xm_M} {d : Nat} {h : xm_H} {l0 : Nat} (q0 : X.2.2.2 0 = some (.int 1)) (q1 : X.2.2.1 l0 0 = some (.int 0)) (q2 : xm_okr 5 (0 : Int32) = true) : xm_E X P d co_J0_coder_7d493 0 [some (.ref l0)] [] h (some (.int (0 : Int32))) h := by
  refine xm_E_s r_J0_coder_7d493_0 rfl (by simp only [xm_step, xm_in, xm_b, q0]; rfl) ?_
  refine xm_E_s r_J0_coder_7d493_1 rfl rfl ?_
  show xm_E X P d co_J0_coder_7d493 2 _ _ _ _ _
  refine xm_E_s r_J0_coder_7d493_2 rfl rfl ?_
  refine xm_E_s r_J0_coder_7d493_3 rfl (xm_T_gs rfl q1 rfl) ?_
  refine xm_E_s r_J0_coder_7d493_4 rfl rfl ?_
  exact xm_E_iret r_J0_coder_7d493_6 rfl q2
theorem r_J0_charAt_5068e_0 : co_J0_charAt_5068e[0]? = some ((0, .aload_n 0, 0, 0, 0, 0, 0, 0, []) : xm_I) := rfl
theorem r_J0_charAt_5068e_1 : co_J0_charAt_5068e[1]? = some ((1, .invokevirtual 492, 581, 18, 1, 99, 0, 0, []) : xm_I) := rfl
theorem r_J0_charAt_5068e_2 : co_J0_charAt_5068e[2]? = some ((4, .ifCond .eq 12, 0, 0, 8, 0, 0, 0, []) : xm_I) := rfl
theorem r_J0_charAt_5068e_3 : co_J0_charAt_5068e[3]? = some ((7, .aload_n 0, 0, 0, 0, 0, 0, 0, []) : xm_I) := rfl
theorem r_J0_charAt_5068e_4 : co_J0_charAt_5068e[4]? = some ((8, .getfield 9, 2112, 0, 1, 9, 0, 0, []) : xm_I) := rfl
theorem r_J0_charAt_5068e_5 : co_J0_charAt_5068e[5]? = some ((11, .iload_n 1, 0, 0, 0, 0, 0, 0, []) : xm_I) := rfl
theorem r_J0_charAt_5068e_6 : co_J0_charAt_5068e[6]? = some ((12, .invokestatic 495, 585, 19, 2, 0, 0, 0, []) : xm_I) := rfl
theorem r_J0_charAt_5068e_7 : co_J0_charAt_5068e[7]? = some ((15, .ireturn, 0, 0, 0, 4, 0, 0, []) : xm_I) := rfl
theorem r_J0_charAt_5068e_8 : co_J0_charAt_5068e[8]? = some ((16, .aload_n 0, 0, 0, 0, 0, 0, 0, []) : xm_I) := rfl
theorem r_J0_charAt_5068e_9 : co_J0_charAt_5068e[9]? = some ((17, .getfield 9, 2112, 0, 1, 9, 0, 0, []) : xm_I) := rfl
theorem r_J0_charAt_5068e_10 : co_J0_charAt_5068e[10]? = some ((20, .iload_n 1, 0, 0, 0, 0, 0, 0, []) : xm_I) := rfl
theorem r_J0_charAt_5068e_11 : co_J0_charAt_5068e[11]? = some ((21, .invokestatic 498, 0, 0, 0, 7, 0, 0, []) : xm_I) := rfl
theorem p_J0_charAt_5068e_0_0 {X : xm_X} {P : List xm_M} {d : Nat} {h : xm_H} {l0 : Nat} {l1 : Int32} {h0 : xm_H} {r0 : Int32} {v1 : Nat} {h2 : xm_H} {r2 : Int32} (q0 : xm_V X P d 18 [.ref l0] h (some (.int r0)) h0) (q1 : X.2.2.1 l0 0 = some (.int 0)) (q2 : ¬ (r0 = (0 : Int32))) (q3 : X.2.2.1 l0 1 = some (.ref v1)) (q4 : xm_V X P d 19 [.ref v1, .int l1] h0 (some (.int r2)) h2) (q5 : xm_okr 4 r2 = true) : xm_E X P d co_J0_charAt_5068e 0 [some (.ref l0), some (.int l1)] [] h (some (.int r2)) h2 := by
  refine xm_E_s r_J0_charAt_5068e_0 rfl rfl ?_
  refine xm_E_cv [.ref l0] [] r_J0_charAt_5068e_1 rfl rfl (Nat.le_of_ble_eq_true rfl) (xm_rs q1) rfl q0 ?_
  refine xm_E_s r_J0_charAt_5068e_2 rfl rfl ?_
  refine xm_E_f q2 ?_
  refine xm_E_s r_J0_charAt_5068e_3 rfl rfl ?_
  refine xm_E_s r_J0_charAt_5068e_4 rfl (xm_T_gs rfl q3 rfl) ?_
  refine xm_E_s r_J0_charAt_5068e_5 rfl rfl ?_
  refine xm_E_cs [.ref v1, .int l1] [] r_J0_charAt_5068e_6 rfl rfl rfl (Nat.le_of_ble_eq_true rfl) rfl q4 ?_
  exact xm_E_iret r_J0_charAt_5068e_7 rfl q5
theorem r_J0_isLatin1_aae02_0 : co_J0_isLatin1_aae02[0]? = some ((0, .getstatic 38, 575, 0, 0, 0, 0, 0, []) : xm_I) := rfl
theorem r_J0_isLatin1_aae02_1 : co_J0_isLatin1_aae02[1]? = some ((3, .ifCond .eq 14, 0, 0, 7, 0, 0, 0, []) : xm_I) := rfl
theorem r_J0_isLatin1_aae02_2 : co_J0_isLatin1_aae02[2]? = some ((6, .aload_n 0, 0, 0, 0, 0, 0, 0, []) : xm_I) := rfl
theorem r_J0_isLatin1_aae02_3 : co_J0_isLatin1_aae02[3]? = some ((7, .getfield 15, 2113, 0, 0, 9, 0, 0, []) : xm_I) := rfl
theorem r_J0_isLatin1_aae02_4 : co_J0_isLatin1_aae02[4]? = some ((10, .ifCond .ne 7, 0, 0, 7, 0, 0, 0, []) : xm_I) := rfl
theorem r_J0_isLatin1_aae02_5 : co_J0_isLatin1_aae02[5]? = some ((13, .iconst 1, 0, 0, 0, 0, 1, 0, []) : xm_I) := rfl
theorem r_J0_isLatin1_aae02_6 : co_J0_isLatin1_aae02[6]? = some ((14, .goto 4, 0, 0, 8, 0, 0, 0, []) : xm_I) := rfl
theorem r_J0_isLatin1_aae02_7 : co_J0_isLatin1_aae02[7]? = some ((17, .iconst 0, 0, 0, 0, 0, 0, 0, []) : xm_I) := rfl
theorem r_J0_isLatin1_aae02_8 : co_J0_isLatin1_aae02[8]? = some ((18, .ireturn, 0, 0, 0, 3, 0, 0, []) : xm_I) := rfl
theorem p_J0_isLatin1_aae02_0_0 {X : xm_X} {P : List xm_M} {d : Nat} {h : xm_H} {l0 : Nat} (q0 : X.2.2.2 0 = some (.int 1)) (q1 : X.2.2.1 l0 0 = some (.int 0)) : xm_E X P d co_J0_isLatin1_aae02 0 [some (.ref l0)] [] h (some (.int (1 : Int32))) h := by
  refine xm_E_s r_J0_isLatin1_aae02_0 rfl (by simp only [xm_step, xm_in, xm_b, q0]; rfl) ?_
  refine xm_E_s r_J0_isLatin1_aae02_1 rfl rfl ?_
  show xm_E X P d co_J0_isLatin1_aae02 2 _ _ _ _ _
  refine xm_E_s r_J0_isLatin1_aae02_2 rfl rfl ?_
  refine xm_E_s r_J0_isLatin1_aae02_3 rfl (xm_T_gs rfl q1 rfl) ?_
  refine xm_E_s r_J0_isLatin1_aae02_4 rfl rfl ?_
  show xm_E X P d co_J0_isLatin1_aae02 5 _ _ _ _ _
  refine xm_E_s r_J0_isLatin1_aae02_5 rfl rfl ?_
  refine xm_E_s r_J0_isLatin1_aae02_6 rfl rfl ?_
  exact xm_E_iret r_J0_isLatin1_aae02_8 rfl rfl
theorem r_J1_charAt_3b067_0 : co_J1_charAt_3b067[0]? = some ((0, .iload_n 1, 0, 0, 0, 0, 0, 0, []) : xm_I) := rfl
theorem r_J1_charAt_3b067_1 : co_J1_charAt_3b067[1]? = some ((1, .aload_n 0, 0, 0, 0, 0, 0, 0, []) : xm_I) := rfl
theorem r_J1_charAt_3b067_2 : co_J1_charAt_3b067[2]? = some ((2, .arraylength, 0, 0, 0, 0, 0, 0, []) : xm_I) := rfl
theorem r_J1_charAt_3b067_3 : co_J1_charAt_3b067[3]? = some ((3, .invokestatic 9, 588, 332, 2, 0, 0, 0, []) : xm_I) := rfl
theorem r_J1_charAt_3b067_4 : co_J1_charAt_3b067[4]? = some ((6, .aload_n 0, 0, 0, 0, 0, 0, 0, []) : xm_I) := rfl
theorem r_J1_charAt_3b067_5 : co_J1_charAt_3b067[5]? = some ((7, .iload_n 1, 0, 0, 0, 0, 0, 0, []) : xm_I) := rfl
theorem r_J1_charAt_3b067_6 : co_J1_charAt_3b067[6]? = some ((8, .baload, 0, 0, 0, 0, 0, 0, []) : xm_I) := rfl
theorem r_J1_charAt_3b067_7 : co_J1_charAt_3b067[7]? = some ((9, .sipush 255, 0, 0, 0, 0, 255, 0, []) : xm_I) := rfl
theorem r_J1_charAt_3b067_8 : co_J1_charAt_3b067[8]? = some ((12, .iand, 0, 0, 0, 0, 0, 0, []) : xm_I) := rfl
theorem r_J1_charAt_3b067_9 : co_J1_charAt_3b067[9]? = some ((13, .i2c, 0, 0, 0, 0, 0, 0, []) : xm_I) := rfl
theorem r_J1_charAt_3b067_10 : co_J1_charAt_3b067[10]? = some ((14, .ireturn, 0, 0, 0, 4, 0, 0, []) : xm_I) := rfl
theorem p_J1_charAt_3b067_0_0 {X : xm_X} {P : List xm_M} {d : Nat} {h : xm_H} {l0 : Nat} {l1 : Int32} {n0 : Nat} {f0 : Nat → Int32} {h1 : xm_H} (q0 : X.1[l0]? = none) (q1 : X.2.1 l0 = some (1, n0, f0)) (q2 : xm_V X P d 332 [.int l1, .int (Int32.ofNat n0)] h none h1) (q3 : ¬ (l1 < 0 ∨ n0 ≤ l1.toNatClampNeg)) (q4 : xm_okr 4 ((((f0 l1.toNatClampNeg) &&& (255 : Int32)).toUInt32 % 65536).toInt32) = true) : xm_E X P d co_J1_charAt_3b067 0 [some (.ref l0), some (.int l1)] [] h (some (.int ((((f0 l1.toNatClampNeg) &&& (255 : Int32)).toUInt32 % 65536).toInt32))) h1 := by
  refine xm_E_s r_J1_charAt_3b067_0 rfl rfl ?_
  refine xm_E_s r_J1_charAt_3b067_1 rfl rfl ?_
  refine xm_E_s r_J1_charAt_3b067_2 rfl (xm_T_alenx rfl q0 q1) ?_
  refine xm_E_cs [.int l1, .int (Int32.ofNat n0)] [] r_J1_charAt_3b067_3 rfl rfl rfl (Nat.le_of_ble_eq_true rfl) rfl q2 ?_
  refine xm_E_s r_J1_charAt_3b067_4 rfl rfl ?_
  refine xm_E_s r_J1_charAt_3b067_5 rfl rfl ?_
  refine xm_E_s r_J1_charAt_3b067_6 rfl (xm_T_balx rfl q0 q1 (by decide) q3) ?_
  refine xm_E_s r_J1_charAt_3b067_7 rfl rfl ?_
  refine xm_E_s r_J1_charAt_3b067_8 rfl rfl ?_
  refine xm_E_s r_J1_charAt_3b067_9 rfl rfl ?_
  exact xm_E_iret r_J1_charAt_3b067_10 rfl q4
theorem r_J6_bitCount_0f7a4_0 : co_J6_bitCount_0f7a4[0]? = some ((0, .iload_n 0, 0, 0, 0, 0, 0, 0, []) : xm_I) := rfl
theorem r_J6_bitCount_0f7a4_1 : co_J6_bitCount_0f7a4[1]? = some ((1, .iload_n 0, 0, 0, 0, 0, 0, 0, []) : xm_I) := rfl
theorem r_J6_bitCount_0f7a4_2 : co_J6_bitCount_0f7a4[2]? = some ((2, .iconst 1, 0, 0, 0, 0, 1, 0, []) : xm_I) := rfl
theorem r_J6_bitCount_0f7a4_3 : co_J6_bitCount_0f7a4[3]? = some ((3, .iushr, 0, 0, 0, 0, 0, 0, []) : xm_I) := rfl
theorem r_J6_bitCount_0f7a4_4 : co_J6_bitCount_0f7a4[4]? = some ((4, .ldc_w 265, 1104, 0, 0, 0, 1431655765, 0, []) : xm_I) := rfl
theorem r_J6_bitCount_0f7a4_5 : co_J6_bitCount_0f7a4[5]? = some ((7, .iand, 0, 0, 0, 0, 0, 0, []) : xm_I) := rfl
theorem r_J6_bitCount_0f7a4_6 : co_J6_bitCount_0f7a4[6]? = some ((8, .isub, 0, 0, 0, 0, 0, 0, []) : xm_I) := rfl
theorem r_J6_bitCount_0f7a4_7 : co_J6_bitCount_0f7a4[7]? = some ((9, .istore_n 0, 0, 0, 0, 0, 0, 0, []) : xm_I) := rfl
theorem r_J6_bitCount_0f7a4_8 : co_J6_bitCount_0f7a4[8]? = some ((10, .iload_n 0, 0, 0, 0, 0, 0, 0, []) : xm_I) := rfl
theorem r_J6_bitCount_0f7a4_9 : co_J6_bitCount_0f7a4[9]? = some ((11, .ldc_w 266, 1105, 0, 0, 0, 858993459, 0, []) : xm_I) := rfl
theorem r_J6_bitCount_0f7a4_10 : co_J6_bitCount_0f7a4[10]? = some ((14, .iand, 0, 0, 0, 0, 0, 0, []) : xm_I) := rfl
theorem r_J6_bitCount_0f7a4_11 : co_J6_bitCount_0f7a4[11]? = some ((15, .iload_n 0, 0, 0, 0, 0, 0, 0, []) : xm_I) := rfl
theorem r_J6_bitCount_0f7a4_12 : co_J6_bitCount_0f7a4[12]? = some ((16, .iconst 2, 0, 0, 0, 0, 2, 0, []) : xm_I) := rfl
theorem r_J6_bitCount_0f7a4_13 : co_J6_bitCount_0f7a4[13]? = some ((17, .iushr, 0, 0, 0, 0, 0, 0, []) : xm_I) := rfl
theorem r_J6_bitCount_0f7a4_14 : co_J6_bitCount_0f7a4[14]? = some ((18, .ldc_w 266, 1105, 0, 0, 0, 858993459, 0, []) : xm_I) := rfl
theorem r_J6_bitCount_0f7a4_15 : co_J6_bitCount_0f7a4[15]? = some ((21, .iand, 0, 0, 0, 0, 0, 0, []) : xm_I) := rfl
theorem r_J6_bitCount_0f7a4_16 : co_J6_bitCount_0f7a4[16]? = some ((22, .iadd, 0, 0, 0, 0, 0, 0, []) : xm_I) := rfl
theorem r_J6_bitCount_0f7a4_17 : co_J6_bitCount_0f7a4[17]? = some ((23, .istore_n 0, 0, 0, 0, 0, 0, 0, []) : xm_I) := rfl
theorem r_J6_bitCount_0f7a4_18 : co_J6_bitCount_0f7a4[18]? = some ((24, .iload_n 0, 0, 0, 0, 0, 0, 0, []) : xm_I) := rfl
theorem r_J6_bitCount_0f7a4_19 : co_J6_bitCount_0f7a4[19]? = some ((25, .iload_n 0, 0, 0, 0, 0, 0, 0, []) : xm_I) := rfl
theorem r_J6_bitCount_0f7a4_20 : co_J6_bitCount_0f7a4[20]? = some ((26, .iconst 4, 0, 0, 0, 0, 4, 0, []) : xm_I) := rfl
theorem r_J6_bitCount_0f7a4_21 : co_J6_bitCount_0f7a4[21]? = some ((27, .iushr, 0, 0, 0, 0, 0, 0, []) : xm_I) := rfl
theorem r_J6_bitCount_0f7a4_22 : co_J6_bitCount_0f7a4[22]? = some ((28, .iadd, 0, 0, 0, 0, 0, 0, []) : xm_I) := rfl
theorem r_J6_bitCount_0f7a4_23 : co_J6_bitCount_0f7a4[23]? = some ((29, .ldc_w 267, 1106, 0, 0, 0, 252645135, 0, []) : xm_I) := rfl
theorem r_J6_bitCount_0f7a4_24 : co_J6_bitCount_0f7a4[24]? = some ((32, .iand, 0, 0, 0, 0, 0, 0, []) : xm_I) := rfl
theorem r_J6_bitCount_0f7a4_25 : co_J6_bitCount_0f7a4[25]? = some ((33, .istore_n 0, 0, 0, 0, 0, 0, 0, []) : xm_I) := rfl
theorem r_J6_bitCount_0f7a4_26 : co_J6_bitCount_0f7a4[26]? = some ((34, .iload_n 0, 0, 0, 0, 0, 0, 0, []) : xm_I) := rfl
theorem r_J6_bitCount_0f7a4_27 : co_J6_bitCount_0f7a4[27]? = some ((35, .iload_n 0, 0, 0, 0, 0, 0, 0, []) : xm_I) := rfl
theorem r_J6_bitCount_0f7a4_28 : co_J6_bitCount_0f7a4[28]? = some ((36, .bipush 8, 0, 0, 0, 0, 8, 0, []) : xm_I) := rfl
theorem r_J6_bitCount_0f7a4_29 : co_J6_bitCount_0f7a4[29]? = some ((38, .iushr, 0, 0, 0, 0, 0, 0, []) : xm_I) := rfl
theorem r_J6_bitCount_0f7a4_30 : co_J6_bitCount_0f7a4[30]? = some ((39, .iadd, 0, 0, 0, 0, 0, 0, []) : xm_I) := rfl
theorem r_J6_bitCount_0f7a4_31 : co_J6_bitCount_0f7a4[31]? = some ((40, .istore_n 0, 0, 0, 0, 0, 0, 0, []) : xm_I) := rfl
theorem r_J6_bitCount_0f7a4_32 : co_J6_bitCount_0f7a4[32]? = some ((41, .iload_n 0, 0, 0, 0, 0, 0, 0, []) : xm_I) := rfl
theorem r_J6_bitCount_0f7a4_33 : co_J6_bitCount_0f7a4[33]? = some ((42, .iload_n 0, 0, 0, 0, 0, 0, 0, []) : xm_I) := rfl
theorem r_J6_bitCount_0f7a4_34 : co_J6_bitCount_0f7a4[34]? = some ((43, .bipush 16, 0, 0, 0, 0, 16, 0, []) : xm_I) := rfl
theorem r_J6_bitCount_0f7a4_35 : co_J6_bitCount_0f7a4[35]? = some ((45, .iushr, 0, 0, 0, 0, 0, 0, []) : xm_I) := rfl
theorem r_J6_bitCount_0f7a4_36 : co_J6_bitCount_0f7a4[36]? = some ((46, .iadd, 0, 0, 0, 0, 0, 0, []) : xm_I) := rfl
theorem r_J6_bitCount_0f7a4_37 : co_J6_bitCount_0f7a4[37]? = some ((47, .istore_n 0, 0, 0, 0, 0, 0, 0, []) : xm_I) := rfl
theorem r_J6_bitCount_0f7a4_38 : co_J6_bitCount_0f7a4[38]? = some ((48, .iload_n 0, 0, 0, 0, 0, 0, 0, []) : xm_I) := rfl
theorem r_J6_bitCount_0f7a4_39 : co_J6_bitCount_0f7a4[39]? = some ((49, .bipush 63, 0, 0, 0, 0, 63, 0, []) : xm_I) := rfl
theorem r_J6_bitCount_0f7a4_40 : co_J6_bitCount_0f7a4[40]? = some ((51, .iand, 0, 0, 0, 0, 0, 0, []) : xm_I) := rfl
theorem r_J6_bitCount_0f7a4_41 : co_J6_bitCount_0f7a4[41]? = some ((52, .ireturn, 0, 0, 0, 0, 0, 0, []) : xm_I) := rfl
theorem p_J6_bitCount_0f7a4_0_0 {X : xm_X} {P : List xm_M} {d : Nat} {h : xm_H} {l0 : Int32}  : xm_E X P d co_J6_bitCount_0f7a4 0 [some (.int l0)] [] h (some (.int ((((((((l0 - (((l0.toUInt32 >>> ((1 : Int32).toUInt32 &&& Int32.toUInt32 31)).toInt32) &&& (1431655765 : Int32))) &&& (858993459 : Int32)) + ((((l0 - (((l0.toUInt32 >>> ((1 : Int32).toUInt32 &&& Int32.toUInt32 31)).toInt32) &&& (1431655765 : Int32))).toUInt32 >>> ((2 : Int32).toUInt32 &&& Int32.toUInt32 31)).toInt32) &&& (858993459 : Int32))) + (((((l0 - (((l0.toUInt32 >>> ((1 : Int32).toUInt32 &&& Int32.toUInt32 31)).toInt32) &&& (1431655765 : Int32))) &&& (858993459 : Int32)) + ((((l0 - (((l0.toUInt32 >>> ((1 : Int32).toUInt32 &&& Int32.toUInt32 31)).toInt32) &&& (1431655765 : Int32))).toUInt32 >>> ((2 : Int32).toUInt32 &&& Int32.toUInt32 31)).toInt32) &&& (858993459 : Int32))).toUInt32 >>> ((4 : Int32).toUInt32 &&& Int32.toUInt32 31)).toInt32)) &&& (252645135 : Int32)) + (((((((l0 - (((l0.toUInt32 >>> ((1 : Int32).toUInt32 &&& Int32.toUInt32 31)).toInt32) &&& (1431655765 : Int32))) &&& (858993459 : Int32)) + ((((l0 - (((l0.toUInt32 >>> ((1 : Int32).toUInt32 &&& Int32.toUInt32 31)).toInt32) &&& (1431655765 : Int32))).toUInt32 >>> ((2 : Int32).toUInt32 &&& Int32.toUInt32 31)).toInt32) &&& (858993459 : Int32))) + (((((l0 - (((l0.toUInt32 >>> ((1 : Int32).toUInt32 &&& Int32.toUInt32 31)).toInt32) &&& (1431655765 : Int32))) &&& (858993459 : Int32)) + ((((l0 - (((l0.toUInt32 >>> ((1 : Int32).toUInt32 &&& Int32.toUInt32 31)).toInt32) &&& (1431655765 : Int32))).toUInt32 >>> ((2 : Int32).toUInt32 &&& Int32.toUInt32 31)).toInt32) &&& (858993459 : Int32))).toUInt32 >>> ((4 : Int32).toUInt32 &&& Int32.toUInt32 31)).toInt32)) &&& (252645135 : Int32)).toUInt32 >>> ((8 : Int32).toUInt32 &&& Int32.toUInt32 31)).toInt32)) + ((((((((l0 - (((l0.toUInt32 >>> ((1 : Int32).toUInt32 &&& Int32.toUInt32 31)).toInt32) &&& (1431655765 : Int32))) &&& (858993459 : Int32)) + ((((l0 - (((l0.toUInt32 >>> ((1 : Int32).toUInt32 &&& Int32.toUInt32 31)).toInt32) &&& (1431655765 : Int32))).toUInt32 >>> ((2 : Int32).toUInt32 &&& Int32.toUInt32 31)).toInt32) &&& (858993459 : Int32))) + (((((l0 - (((l0.toUInt32 >>> ((1 : Int32).toUInt32 &&& Int32.toUInt32 31)).toInt32) &&& (1431655765 : Int32))) &&& (858993459 : Int32)) + ((((l0 - (((l0.toUInt32 >>> ((1 : Int32).toUInt32 &&& Int32.toUInt32 31)).toInt32) &&& (1431655765 : Int32))).toUInt32 >>> ((2 : Int32).toUInt32 &&& Int32.toUInt32 31)).toInt32) &&& (858993459 : Int32))).toUInt32 >>> ((4 : Int32).toUInt32 &&& Int32.toUInt32 31)).toInt32)) &&& (252645135 : Int32)) + (((((((l0 - (((l0.toUInt32 >>> ((1 : Int32).toUInt32 &&& Int32.toUInt32 31)).toInt32) &&& (1431655765 : Int32))) &&& (858993459 : Int32)) + ((((l0 - (((l0.toUInt32 >>> ((1 : Int32).toUInt32 &&& Int32.toUInt32 31)).toInt32) &&& (1431655765 : Int32))).toUInt32 >>> ((2 : Int32).toUInt32 &&& Int32.toUInt32 31)).toInt32) &&& (858993459 : Int32))) + (((((l0 - (((l0.toUInt32 >>> ((1 : Int32).toUInt32 &&& Int32.toUInt32 31)).toInt32) &&& (1431655765 : Int32))) &&& (858993459 : Int32)) + ((((l0 - (((l0.toUInt32 >>> ((1 : Int32).toUInt32 &&& Int32.toUInt32 31)).toInt32) &&& (1431655765 : Int32))).toUInt32 >>> ((2 : Int32).toUInt32 &&& Int32.toUInt32 31)).toInt32) &&& (858993459 : Int32))).toUInt32 >>> ((4 : Int32).toUInt32 &&& Int32.toUInt32 31)).toInt32)) &&& (252645135 : Int32)).toUInt32 >>> ((8 : Int32).toUInt32 &&& Int32.toUInt32 31)).toInt32)).toUInt32 >>> ((16 : Int32).toUInt32 &&& Int32.toUInt32 31)).toInt32)) &&& (63 : Int32)))) h := by
  refine xm_E_s r_J6_bitCount_0f7a4_0 rfl rfl ?_
  refine xm_E_s r_J6_bitCount_0f7a4_1 rfl rfl ?_
  refine xm_E_s r_J6_bitCount_0f7a4_2 rfl rfl ?_
  refine xm_E_s r_J6_bitCount_0f7a4_3 rfl rfl ?_
  refine xm_E_s r_J6_bitCount_0f7a4_4 rfl rfl ?_
  refine xm_E_s r_J6_bitCount_0f7a4_5 rfl rfl ?_
  refine xm_E_s r_J6_bitCount_0f7a4_6 rfl rfl ?_
  refine xm_E_s (ls1 := [some (.int (l0 - (((l0.toUInt32 >>> ((1 : Int32).toUInt32 &&& Int32.toUInt32 31)).toInt32) &&& (1431655765 : Int32))))]) r_J6_bitCount_0f7a4_7 rfl rfl ?_
  refine xm_E_s r_J6_bitCount_0f7a4_8 rfl rfl ?_
  refine xm_E_s r_J6_bitCount_0f7a4_9 rfl rfl ?_
  refine xm_E_s r_J6_bitCount_0f7a4_10 rfl rfl ?_
  refine xm_E_s r_J6_bitCount_0f7a4_11 rfl rfl ?_
  refine xm_E_s r_J6_bitCount_0f7a4_12 rfl rfl ?_
  refine xm_E_s r_J6_bitCount_0f7a4_13 rfl rfl ?_
  refine xm_E_s r_J6_bitCount_0f7a4_14 rfl rfl ?_
  refine xm_E_s r_J6_bitCount_0f7a4_15 rfl rfl ?_
  refine xm_E_s r_J6_bitCount_0f7a4_16 rfl rfl ?_
  refine xm_E_s (ls1 := [some (.int (((l0 - (((l0.toUInt32 >>> ((1 : Int32).toUInt32 &&& Int32.toUInt32 31)).toInt32) &&& (1431655765 : Int32))) &&& (858993459 : Int32)) + ((((l0 - (((l0.toUInt32 >>> ((1 : Int32).toUInt32 &&& Int32.toUInt32 31)).toInt32) &&& (1431655765 : Int32))).toUInt32 >>> ((2 : Int32).toUInt32 &&& Int32.toUInt32 31)).toInt32) &&& (858993459 : Int32))))]) r_J6_bitCount_0f7a4_17 rfl rfl ?_
  refine xm_E_s r_J6_bitCount_0f7a4_18 rfl rfl ?_
  refine xm_E_s r_J6_bitCount_0f7a4_19 rfl rfl ?_
  refine xm_E_s r_J6_bitCount_0f7a4_20 rfl rfl ?_
  refine xm_E_s r_J6_bitCount_0f7a4_21 rfl rfl ?_
  refine xm_E_s r_J6_bitCount_0f7a4_22 rfl rfl ?_
  refine xm_E_s r_J6_bitCount_0f7a4_23 rfl rfl ?_
  refine xm_E_s r_J6_bitCount_0f7a4_24 rfl rfl ?_
  refine xm_E_s (ls1 := [some (.int (((((l0 - (((l0.toUInt32 >>> ((1 : Int32).toUInt32 &&& Int32.toUInt32 31)).toInt32) &&& (1431655765 : Int32))) &&& (858993459 : Int32)) + ((((l0 - (((l0.toUInt32 >>> ((1 : Int32).toUInt32 &&& Int32.toUInt32 31)).toInt32) &&& (1431655765 : Int32))).toUInt32 >>> ((2 : Int32).toUInt32 &&& Int32.toUInt32 31)).toInt32) &&& (858993459 : Int32))) + (((((l0 - (((l0.toUInt32 >>> ((1 : Int32).toUInt32 &&& Int32.toUInt32 31)).toInt32) &&& (1431655765 : Int32))) &&& (858993459 : Int32)) + ((((l0 - (((l0.toUInt32 >>> ((1 : Int32).toUInt32 &&& Int32.toUInt32 31)).toInt32) &&& (1431655765 : Int32))).toUInt32 >>> ((2 : Int32).toUInt32 &&& Int32.toUInt32 31)).toInt32) &&& (858993459 : Int32))).toUInt32 >>> ((4 : Int32).toUInt32 &&& Int32.toUInt32 31)).toInt32)) &&& (252645135 : Int32)))]) r_J6_bitCount_0f7a4_25 rfl rfl ?_
  refine xm_E_s r_J6_bitCount_0f7a4_26 rfl rfl ?_
  refine xm_E_s r_J6_bitCount_0f7a4_27 rfl rfl ?_
  refine xm_E_s r_J6_bitCount_0f7a4_28 rfl rfl ?_
  refine xm_E_s r_J6_bitCount_0f7a4_29 rfl rfl ?_
  refine xm_E_s r_J6_bitCount_0f7a4_30 rfl rfl ?_
  refine xm_E_s (ls1 := [some (.int ((((((l0 - (((l0.toUInt32 >>> ((1 : Int32).toUInt32 &&& Int32.toUInt32 31)).toInt32) &&& (1431655765 : Int32))) &&& (858993459 : Int32)) + ((((l0 - (((l0.toUInt32 >>> ((1 : Int32).toUInt32 &&& Int32.toUInt32 31)).toInt32) &&& (1431655765 : Int32))).toUInt32 >>> ((2 : Int32).toUInt32 &&& Int32.toUInt32 31)).toInt32) &&& (858993459 : Int32))) + (((((l0 - (((l0.toUInt32 >>> ((1 : Int32).toUInt32 &&& Int32.toUInt32 31)).toInt32) &&& (1431655765 : Int32))) &&& (858993459 : Int32)) + ((((l0 - (((l0.toUInt32 >>> ((1 : Int32).toUInt32 &&& Int32.toUInt32 31)).toInt32) &&& (1431655765 : Int32))).toUInt32 >>> ((2 : Int32).toUInt32 &&& Int32.toUInt32 31)).toInt32) &&& (858993459 : Int32))).toUInt32 >>> ((4 : Int32).toUInt32 &&& Int32.toUInt32 31)).toInt32)) &&& (252645135 : Int32)) + (((((((l0 - (((l0.toUInt32 >>> ((1 : Int32).toUInt32 &&& Int32.toUInt32 31)).toInt32) &&& (1431655765 : Int32))) &&& (858993459 : Int32)) + ((((l0 - (((l0.toUInt32 >>> ((1 : Int32).toUInt32 &&& Int32.toUInt32 31)).toInt32) &&& (1431655765 : Int32))).toUInt32 >>> ((2 : Int32).toUInt32 &&& Int32.toUInt32 31)).toInt32) &&& (858993459 : Int32))) + (((((l0 - (((l0.toUInt32 >>> ((1 : Int32).toUInt32 &&& Int32.toUInt32 31)).toInt32) &&& (1431655765 : Int32))) &&& (858993459 : Int32)) + ((((l0 - (((l0.toUInt32 >>> ((1 : Int32).toUInt32 &&& Int32.toUInt32 31)).toInt32) &&& (1431655765 : Int32))).toUInt32 >>> ((2 : Int32).toUInt32 &&& Int32.toUInt32 31)).toInt32) &&& (858993459 : Int32))).toUInt32 >>> ((4 : Int32).toUInt32 &&& Int32.toUInt32 31)).toInt32)) &&& (252645135 : Int32)).toUInt32 >>> ((8 : Int32).toUInt32 &&& Int32.toUInt32 31)).toInt32)))]) r_J6_bitCount_0f7a4_31 rfl rfl ?_
  refine xm_E_s r_J6_bitCount_0f7a4_32 rfl rfl ?_
  refine xm_E_s r_J6_bitCount_0f7a4_33 rfl rfl ?_
  refine xm_E_s r_J6_bitCount_0f7a4_34 rfl rfl ?_
  refine xm_E_s r_J6_bitCount_0f7a4_35 rfl rfl ?_
  refine xm_E_s r_J6_bitCount_0f7a4_36 rfl rfl ?_
  refine xm_E_s (ls1 := [some (.int (((((((l0 - (((l0.toUInt32 >>> ((1 : Int32).toUInt32 &&& Int32.toUInt32 31)).toInt32) &&& (1431655765 : Int32))) &&& (858993459 : Int32)) + ((((l0 - (((l0.toUInt32 >>> ((1 : Int32).toUInt32 &&& Int32.toUInt32 31)).toInt32) &&& (1431655765 : Int32))).toUInt32 >>> ((2 : Int32).toUInt32 &&& Int32.toUInt32 31)).toInt32) &&& (858993459 : Int32))) + (((((l0 - (((l0.toUInt32 >>> ((1 : Int32).toUInt32 &&& Int32.toUInt32 31)).toInt32) &&& (1431655765 : Int32))) &&& (858993459 : Int32)) + ((((l0 - (((l0.toUInt32 >>> ((1 : Int32).toUInt32 &&& Int32.toUInt32 31)).toInt32) &&& (1431655765 : Int32))).toUInt32 >>> ((2 : Int32).toUInt32 &&& Int32.toUInt32 31)).toInt32) &&& (858993459 : Int32))).toUInt32 >>> ((4 : Int32).toUInt32 &&& Int32.toUInt32 31)).toInt32)) &&& (252645135 : Int32)) + (((((((l0 - (((l0.toUInt32 >>> ((1 : Int32).toUInt32 &&& Int32.toUInt32 31)).toInt32) &&& (1431655765 : Int32))) &&& (858993459 : Int32)) + ((((l0 - (((l0.toUInt32 >>> ((1 : Int32).toUInt32 &&& Int32.toUInt32 31)).toInt32) &&& (1431655765 : Int32))).toUInt32 >>> ((2 : Int32).toUInt32 &&& Int32.toUInt32 31)).toInt32) &&& (858993459 : Int32))) + (((((l0 - (((l0.toUInt32 >>> ((1 : Int32).toUInt32 &&& Int32.toUInt32 31)).toInt32) &&& (1431655765 : Int32))) &&& (858993459 : Int32)) + ((((l0 - (((l0.toUInt32 >>> ((1 : Int32).toUInt32 &&& Int32.toUInt32 31)).toInt32) &&& (1431655765 : Int32))).toUInt32 >>> ((2 : Int32).toUInt32 &&& Int32.toUInt32 31)).toInt32) &&& (858993459 : Int32))).toUInt32 >>> ((4 : Int32).toUInt32 &&& Int32.toUInt32 31)).toInt32)) &&& (252645135 : Int32)).toUInt32 >>> ((8 : Int32).toUInt32 &&& Int32.toUInt32 31)).toInt32)) + ((((((((l0 - (((l0.toUInt32 >>> ((1 : Int32).toUInt32 &&& Int32.toUInt32 31)).toInt32) &&& (1431655765 : Int32))) &&& (858993459 : Int32)) + ((((l0 - (((l0.toUInt32 >>> ((1 : Int32).toUInt32 &&& Int32.toUInt32 31)).toInt32) &&& (1431655765 : Int32))).toUInt32 >>> ((2 : Int32).toUInt32 &&& Int32.toUInt32 31)).toInt32) &&& (858993459 : Int32))) + (((((l0 - (((l0.toUInt32 >>> ((1 : Int32).toUInt32 &&& Int32.toUInt32 31)).toInt32) &&& (1431655765 : Int32))) &&& (858993459 : Int32)) + ((((l0 - (((l0.toUInt32 >>> ((1 : Int32).toUInt32 &&& Int32.toUInt32 31)).toInt32) &&& (1431655765 : Int32))).toUInt32 >>> ((2 : Int32).toUInt32 &&& Int32.toUInt32 31)).toInt32) &&& (858993459 : Int32))).toUInt32 >>> ((4 : Int32).toUInt32 &&& Int32.toUInt32 31)).toInt32)) &&& (252645135 : Int32)) + (((((((l0 - (((l0.toUInt32 >>> ((1 : Int32).toUInt32 &&& Int32.toUInt32 31)).toInt32) &&& (1431655765 : Int32))) &&& (858993459 : Int32)) + ((((l0 - (((l0.toUInt32 >>> ((1 : Int32).toUInt32 &&& Int32.toUInt32 31)).toInt32) &&& (1431655765 : Int32))).toUInt32 >>> ((2 : Int32).toUInt32 &&& Int32.toUInt32 31)).toInt32) &&& (858993459 : Int32))) + (((((l0 - (((l0.toUInt32 >>> ((1 : Int32).toUInt32 &&& Int32.toUInt32 31)).toInt32) &&& (1431655765 : Int32))) &&& (858993459 : Int32)) + ((((l0 - (((l0.toUInt32 >>> ((1 : Int32).toUInt32 &&& Int32.toUInt32 31)).toInt32) &&& (1431655765 : Int32))).toUInt32 >>> ((2 : Int32).toUInt32 &&& Int32.toUInt32 31)).toInt32) &&& (858993459 : Int32))).toUInt32 >>> ((4 : Int32).toUInt32 &&& Int32.toUInt32 31)).toInt32)) &&& (252645135 : Int32)).toUInt32 >>> ((8 : Int32).toUInt32 &&& Int32.toUInt32 31)).toInt32)).toUInt32 >>> ((16 : Int32).toUInt32 &&& Int32.toUInt32 31)).toInt32)))]) r_J6_bitCount_0f7a4_37 rfl rfl ?_
  refine xm_E_s r_J6_bitCount_0f7a4_38 rfl rfl ?_
  refine xm_E_s r_J6_bitCount_0f7a4_39 rfl rfl ?_
  refine xm_E_s r_J6_bitCount_0f7a4_40 rfl rfl ?_
  exact xm_E_iret r_J6_bitCount_0f7a4_41 rfl rfl
theorem r_J7_fill_d0a16_0 : co_J7_fill_d0a16[0]? = some ((0, .iconst 0, 0, 0, 0, 0, 0, 0, []) : xm_I) := rfl
theorem r_J7_fill_d0a16_1 : co_J7_fill_d0a16[1]? = some ((1, .istore_n 3, 0, 0, 0, 0, 0, 0, []) : xm_I) := rfl
theorem r_J7_fill_d0a16_2 : co_J7_fill_d0a16[2]? = some ((2, .aload_n 0, 0, 0, 0, 0, 0, 0, []) : xm_I) := rfl
theorem r_J7_fill_d0a16_3 : co_J7_fill_d0a16[3]? = some ((3, .arraylength, 0, 0, 0, 0, 0, 0, []) : xm_I) := rfl
theorem r_J7_fill_d0a16_4 : co_J7_fill_d0a16[4]? = some ((4, .istore 4, 0, 0, 0, 0, 0, 0, []) : xm_I) := rfl
theorem r_J7_fill_d0a16_5 : co_J7_fill_d0a16[5]? = some ((6, .iload_n 3, 0, 0, 0, 0, 0, 0, []) : xm_I) := rfl
theorem r_J7_fill_d0a16_6 : co_J7_fill_d0a16[6]? = some ((7, .iload 4, 0, 0, 0, 0, 0, 0, []) : xm_I) := rfl
theorem r_J7_fill_d0a16_7 : co_J7_fill_d0a16[7]? = some ((9, .if_icmp .ge 13, 0, 0, 14, 0, 0, 0, []) : xm_I) := rfl
theorem r_J7_fill_d0a16_8 : co_J7_fill_d0a16[8]? = some ((12, .aload_n 0, 0, 0, 0, 0, 0, 0, []) : xm_I) := rfl
theorem r_J7_fill_d0a16_9 : co_J7_fill_d0a16[9]? = some ((13, .iload_n 3, 0, 0, 0, 0, 0, 0, []) : xm_I) := rfl
theorem r_J7_fill_d0a16_10 : co_J7_fill_d0a16[10]? = some ((14, .lload_n 1, 0, 0, 0, 0, 0, 0, []) : xm_I) := rfl
theorem r_J7_fill_d0a16_11 : co_J7_fill_d0a16[11]? = some ((15, .lastore, 0, 0, 0, 0, 0, 0, []) : xm_I) := rfl
theorem r_J7_fill_d0a16_12 : co_J7_fill_d0a16[12]? = some ((16, .iinc 3 1, 0, 0, 0, 0, 1, 0, []) : xm_I) := rfl
theorem r_J7_fill_d0a16_13 : co_J7_fill_d0a16[13]? = some ((19, .goto (-13), 0, 0, 5, 0, 0, 0, []) : xm_I) := rfl
theorem r_J7_fill_d0a16_14 : co_J7_fill_d0a16[14]? = some ((22, .return_, 0, 0, 0, 0, 0, 0, []) : xm_I) := rfl
theorem p_J7_fill_d0a16_0_0 {X : xm_X} {P : List xm_M} {d : Nat} {h : xm_H} {l0 : Nat} {l1 : Int64} {n0 : Nat} {ro : Option Value} {ho : xm_H} (q0 : X.1[l0]? = some (.inl (3, n0))) (K : xm_E X P d co_J7_fill_d0a16 5 [some (.ref l0), some (.long l1), none, some (.int (0 : Int32)), some (.int (Int32.ofNat n0))] [] h ro ho) : xm_E X P d co_J7_fill_d0a16 0 [some (.ref l0), some (.long l1), none, none, none] [] h ro ho := by
  refine xm_E_s r_J7_fill_d0a16_0 rfl rfl ?_
  refine xm_E_s (ls1 := [some (.ref l0), some (.long l1), none, some (.int (0 : Int32)), none]) r_J7_fill_d0a16_1 rfl rfl ?_
  refine xm_E_s r_J7_fill_d0a16_2 rfl rfl ?_
  refine xm_E_s r_J7_fill_d0a16_3 rfl (xm_T_alen rfl q0 (by decide)) ?_
  refine xm_E_s (ls1 := [some (.ref l0), some (.long l1), none, some (.int (0 : Int32)), some (.int (Int32.ofNat n0))]) r_J7_fill_d0a16_4 rfl rfl ?_
  exact K
theorem p_J7_fill_d0a16_5_0 {X : xm_X} {P : List xm_M} {d : Nat} {h : xm_H} {l0 : Nat} {l1 : Int64} {l3 : Int32} {l4 : Int32} (q0 : l4 ≤ l3) : xm_E X P d co_J7_fill_d0a16 5 [some (.ref l0), some (.long l1), none, some (.int l3), some (.int l4)] [] h none h := by
  refine xm_E_s r_J7_fill_d0a16_5 rfl rfl ?_
  refine xm_E_s r_J7_fill_d0a16_6 rfl rfl ?_
  refine xm_E_s r_J7_fill_d0a16_7 rfl rfl ?_
  refine xm_E_t q0 ?_
  exact xm_E_ret r_J7_fill_d0a16_14 rfl
theorem p_J7_fill_d0a16_5_1 {X : xm_X} {P : List xm_M} {d : Nat} {h : xm_H} {l0 : Nat} {l1 : Int64} {l3 : Int32} {l4 : Int32} {n0 : Nat} {ro : Option Value} {ho : xm_H} (q0 : ¬ (l4 ≤ l3)) (q1 : X.1[l0]? = some (.inl (3, n0))) (q2 : ¬ (l3 < 0 ∨ n0 ≤ l3.toNatClampNeg)) (K : xm_E X P d co_J7_fill_d0a16 5 [some (.ref l0), some (.long l1), none, some (.int (l3 + (1 : Int32))), some (.int l4)] [] (xm_sl h l0 l3.toNatClampNeg l1) ro ho) : xm_E X P d co_J7_fill_d0a16 5 [some (.ref l0), some (.long l1), none, some (.int l3), some (.int l4)] [] h ro ho := by
  refine xm_E_s r_J7_fill_d0a16_5 rfl rfl ?_
  refine xm_E_s r_J7_fill_d0a16_6 rfl rfl ?_
  refine xm_E_s r_J7_fill_d0a16_7 rfl rfl ?_
  refine xm_E_f q0 ?_
  refine xm_E_s r_J7_fill_d0a16_8 rfl rfl ?_
  refine xm_E_s r_J7_fill_d0a16_9 rfl rfl ?_
  refine xm_E_s r_J7_fill_d0a16_10 rfl rfl ?_
  refine xm_E_s r_J7_fill_d0a16_11 rfl (xm_T_last rfl q1 q2) ?_
  refine xm_E_s (ls1 := [some (.ref l0), some (.long l1), none, some (.int (l3 + (1 : Int32))), some (.int l4)]) r_J7_fill_d0a16_12 rfl rfl ?_
  refine xm_E_s r_J7_fill_d0a16_13 rfl rfl ?_
  exact K
theorem r_J0_checkIndex_df160_0 : co_J0_checkIndex_df160[0]? = some ((0, .iload_n 0, 0, 0, 0, 0, 0, 0, []) : xm_I) := rfl
theorem r_J0_checkIndex_df160_1 : co_J0_checkIndex_df160[1]? = some ((1, .iload_n 1, 0, 0, 0, 0, 0, 0, []) : xm_I) := rfl
theorem r_J0_checkIndex_df160_2 : co_J0_checkIndex_df160[2]? = some ((2, .getstatic 1053, 591, 0, 4, 0, 0, 0, []) : xm_I) := rfl
theorem r_J0_checkIndex_df160_3 : co_J0_checkIndex_df160[3]? = some ((5, .invokestatic 1059, 593, 333, 3, 0, 0, 0, []) : xm_I) := rfl
theorem r_J0_checkIndex_df160_4 : co_J0_checkIndex_df160[4]? = some ((8, .pop, 0, 0, 0, 0, 0, 0, []) : xm_I) := rfl
theorem r_J0_checkIndex_df160_5 : co_J0_checkIndex_df160[5]? = some ((9, .return_, 0, 0, 0, 0, 0, 0, []) : xm_I) := rfl
theorem p_J0_checkIndex_df160_0_0 {X : xm_X} {P : List xm_M} {d : Nat} {h : xm_H} {l0 : Int32} {l1 : Int32} {h0 : xm_H} {r0 : Int32} (q0 : X.2.2.2 4 = some (.ref 903)) (q1 : xm_V X P d 333 [.int l0, .int l1, .ref 903] h (some (.int r0)) h0) : xm_E X P d co_J0_checkIndex_df160 0 [some (.int l0), some (.int l1)] [] h none h0 := by
  refine xm_E_s r_J0_checkIndex_df160_0 rfl rfl ?_
  refine xm_E_s r_J0_checkIndex_df160_1 rfl rfl ?_
  refine xm_E_s r_J0_checkIndex_df160_2 rfl (by simp only [xm_step, xm_in, xm_b, q0]; rfl) ?_
  refine xm_E_cs [.int l0, .int l1, .ref 903] [] r_J0_checkIndex_df160_3 rfl rfl rfl (Nat.le_of_ble_eq_true rfl) rfl q1 ?_
  refine xm_E_s r_J0_checkIndex_df160_4 rfl rfl ?_
  exact xm_E_ret r_J0_checkIndex_df160_5 rfl
end XMPA
