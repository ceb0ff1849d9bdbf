/-! Ways through methods, printed by wip/gen/paths.py -/
section XMPA
theorem r_X11_how_0 : co_X11_how[0]? = some ((0, .aload_n 0, 0, 0, 0, 0, 0, 0, []) : xm_I) := rfl
theorem r_X11_how_1 : co_X11_how[1]? = some ((1, .invokevirtual 324, 1643, 216, 1, 10, 0, 0, []) : xm_I) := rfl
theorem r_X11_how_2 : co_X11_how[2]? = some ((4, .ifCond .eq 15, 0, 0, 9, 0, 0, 0, []) : xm_I) := rfl
theorem r_X11_how_3 : co_X11_how[3]? = some ((7, .iload_n 1, 0, 0, 0, 0, 0, 0, []) : xm_I) := rfl
theorem r_X11_how_4 : co_X11_how[4]? = some ((8, .i2l, 0, 0, 0, 0, 0, 0, []) : xm_I) := rfl
theorem r_X11_how_5 : co_X11_how[5]? = some ((9, .lconst 0, 0, 0, 0, 0, 0, 0, []) : xm_I) := rfl
theorem r_X11_how_6 : co_X11_how[6]? = some ((10, .ldc2_w 440, 1914, 0, 0, 0, 0, 12, []) : xm_I) := rfl
theorem r_X11_how_7 : co_X11_how[7]? = some ((13, .invokestatic 84, 1503, 191, 3, 0, 0, 0, []) : xm_I) := rfl
theorem r_X11_how_8 : co_X11_how[8]? = some ((16, .ifCond .ne 6, 0, 0, 11, 0, 0, 0, []) : xm_I) := rfl
theorem r_X11_how_9 : co_X11_how[9]? = some ((19, .bipush (-2), 0, 0, 0, 0, (-2), 0, []) : xm_I) := rfl
theorem r_X11_how_10 : co_X11_how[10]? = some ((21, .ireturn, 0, 0, 0, 0, 0, 0, []) : xm_I) := rfl
theorem r_X11_how_11 : co_X11_how[11]? = some ((22, .aload_n 0, 0, 0, 0, 0, 0, 0, []) : xm_I) := rfl
theorem r_X11_how_12 : co_X11_how[12]? = some ((23, .invokevirtual 331, 1651, 218, 1, 10, 0, 0, []) : xm_I) := rfl
theorem r_X11_how_13 : co_X11_how[13]? = some ((26, .istore_n 3, 0, 0, 0, 0, 0, 0, []) : xm_I) := rfl
theorem r_X11_how_14 : co_X11_how[14]? = some ((27, .iload_n 3, 0, 0, 0, 0, 0, 0, []) : xm_I) := rfl
theorem r_X11_how_15 : co_X11_how[15]? = some ((28, .invokestatic 280, 1686, 228, 1, 0, 0, 0, []) : xm_I) := rfl
theorem r_X11_how_16 : co_X11_how[16]? = some ((31, .ifCond .ne 16, 0, 0, 26, 0, 0, 0, []) : xm_I) := rfl
theorem r_X11_how_17 : co_X11_how[17]? = some ((34, .iload_n 2, 0, 0, 0, 0, 0, 0, []) : xm_I) := rfl
theorem r_X11_how_18 : co_X11_how[18]? = some ((35, .i2l, 0, 0, 0, 0, 0, 0, []) : xm_I) := rfl
theorem r_X11_how_19 : co_X11_how[19]? = some ((36, .lconst 0, 0, 0, 0, 0, 0, 0, []) : xm_I) := rfl
theorem r_X11_how_20 : co_X11_how[20]? = some ((37, .iload_n 1, 0, 0, 0, 0, 0, 0, []) : xm_I) := rfl
theorem r_X11_how_21 : co_X11_how[21]? = some ((38, .iconst 1, 0, 0, 0, 0, 1, 0, []) : xm_I) := rfl
theorem r_X11_how_22 : co_X11_how[22]? = some ((39, .isub, 0, 0, 0, 0, 0, 0, []) : xm_I) := rfl
theorem r_X11_how_23 : co_X11_how[23]? = some ((40, .i2l, 0, 0, 0, 0, 0, 0, []) : xm_I) := rfl
theorem r_X11_how_24 : co_X11_how[24]? = some ((41, .invokestatic 84, 1503, 191, 3, 0, 0, 0, []) : xm_I) := rfl
theorem r_X11_how_25 : co_X11_how[25]? = some ((44, .ifCond .ne 5, 0, 0, 28, 0, 0, 0, []) : xm_I) := rfl
theorem r_X11_how_26 : co_X11_how[26]? = some ((47, .iconst (-1), 0, 0, 0, 0, (-1), 0, []) : xm_I) := rfl
theorem r_X11_how_27 : co_X11_how[27]? = some ((48, .ireturn, 0, 0, 0, 0, 0, 0, []) : xm_I) := rfl
theorem r_X11_how_28 : co_X11_how[28]? = some ((49, .aload_n 0, 0, 0, 0, 0, 0, 0, []) : xm_I) := rfl
theorem r_X11_how_29 : co_X11_how[29]? = some ((50, .iload_n 1, 0, 0, 0, 0, 0, 0, []) : xm_I) := rfl
theorem r_X11_how_30 : co_X11_how[30]? = some ((51, .iload_n 3, 0, 0, 0, 0, 0, 0, []) : xm_I) := rfl
theorem r_X11_how_31 : co_X11_how[31]? = some ((52, .invokevirtual 442, 1915, 285, 3, 10, 0, 0, []) : xm_I) := rfl
theorem r_X11_how_32 : co_X11_how[32]? = some ((55, .aload_n 0, 0, 0, 0, 0, 0, 0, []) : xm_I) := rfl
theorem r_X11_how_33 : co_X11_how[33]? = some ((56, .invokevirtual 308, 1659, 220, 1, 10, 0, 0, []) : xm_I) := rfl
theorem r_X11_how_34 : co_X11_how[34]? = some ((59, .istore 4, 0, 0, 0, 0, 0, 0, []) : xm_I) := rfl
theorem r_X11_how_35 : co_X11_how[35]? = some ((61, .aload_n 0, 0, 0, 0, 0, 0, 0, []) : xm_I) := rfl
theorem r_X11_how_36 : co_X11_how[36]? = some ((62, .getfield 55, 1409, 10, 29, 2, 0, 0, []) : xm_I) := rfl
theorem r_X11_how_37 : co_X11_how[37]? = some ((65, .bipush 13, 0, 0, 0, 0, 13, 0, []) : xm_I) := rfl
theorem r_X11_how_38 : co_X11_how[38]? = some ((67, .iload 4, 0, 0, 0, 0, 0, 0, []) : xm_I) := rfl
theorem r_X11_how_39 : co_X11_how[39]? = some ((69, .imul, 0, 0, 0, 0, 0, 0, []) : xm_I) := rfl
theorem r_X11_how_40 : co_X11_how[40]? = some ((70, .iload_n 1, 0, 0, 0, 0, 0, 0, []) : xm_I) := rfl
theorem r_X11_how_41 : co_X11_how[41]? = some ((71, .iadd, 0, 0, 0, 0, 0, 0, []) : xm_I) := rfl
theorem r_X11_how_42 : co_X11_how[42]? = some ((72, .baload, 0, 0, 0, 0, 0, 0, []) : xm_I) := rfl
theorem r_X11_how_43 : co_X11_how[43]? = some ((73, .ifCond .ne 5, 0, 0, 46, 0, 0, 0, []) : xm_I) := rfl
theorem r_X11_how_44 : co_X11_how[44]? = some ((76, .iconst (-1), 0, 0, 0, 0, (-1), 0, []) : xm_I) := rfl
theorem r_X11_how_45 : co_X11_how[45]? = some ((77, .ireturn, 0, 0, 0, 0, 0, 0, []) : xm_I) := rfl
theorem r_X11_how_46 : co_X11_how[46]? = some ((78, .iconst 0, 0, 0, 0, 0, 0, 0, []) : xm_I) := rfl
theorem r_X11_how_47 : co_X11_how[47]? = some ((79, .istore 5, 0, 0, 0, 0, 0, 0, []) : xm_I) := rfl
theorem r_X11_how_48 : co_X11_how[48]? = some ((81, .iconst 0, 0, 0, 0, 0, 0, 0, []) : xm_I) := rfl
theorem r_X11_how_49 : co_X11_how[49]? = some ((82, .istore 6, 0, 0, 0, 0, 0, 0, []) : xm_I) := rfl
theorem r_X11_how_50 : co_X11_how[50]? = some ((84, .iload 6, 0, 0, 0, 0, 0, 0, []) : xm_I) := rfl
theorem r_X11_how_51 : co_X11_how[51]? = some ((86, .iload_n 2, 0, 0, 0, 0, 0, 0, []) : xm_I) := rfl
theorem r_X11_how_52 : co_X11_how[52]? = some ((87, .if_icmp .gt 66, 0, 0, 86, 0, 0, 0, []) : xm_I) := rfl
theorem r_X11_how_53 : co_X11_how[53]? = some ((90, .iconst 0, 0, 0, 0, 0, 0, 0, []) : xm_I) := rfl
theorem r_X11_how_54 : co_X11_how[54]? = some ((91, .istore 5, 0, 0, 0, 0, 0, 0, []) : xm_I) := rfl
theorem r_X11_how_55 : co_X11_how[55]? = some ((93, .aload_n 0, 0, 0, 0, 0, 0, 0, []) : xm_I) := rfl
theorem r_X11_how_56 : co_X11_how[56]? = some ((94, .iload 4, 0, 0, 0, 0, 0, 0, []) : xm_I) := rfl
theorem r_X11_how_57 : co_X11_how[57]? = some ((96, .iload 5, 0, 0, 0, 0, 0, 0, []) : xm_I) := rfl
theorem r_X11_how_58 : co_X11_how[58]? = some ((98, .invokevirtual 297, 1670, 223, 3, 10, 0, 0, []) : xm_I) := rfl
theorem r_X11_how_59 : co_X11_how[59]? = some ((101, .iconst (-1), 0, 0, 0, 0, (-1), 0, []) : xm_I) := rfl
theorem r_X11_how_60 : co_X11_how[60]? = some ((102, .if_icmp .eq 29, 0, 0, 77, 0, 0, 0, []) : xm_I) := rfl
theorem r_X11_how_61 : co_X11_how[61]? = some ((105, .aload_n 0, 0, 0, 0, 0, 0, 0, []) : xm_I) := rfl
theorem r_X11_how_62 : co_X11_how[62]? = some ((106, .getfield 55, 1409, 10, 29, 2, 0, 0, []) : xm_I) := rfl
theorem r_X11_how_63 : co_X11_how[63]? = some ((109, .bipush 13, 0, 0, 0, 0, 13, 0, []) : xm_I) := rfl
theorem r_X11_how_64 : co_X11_how[64]? = some ((111, .aload_n 0, 0, 0, 0, 0, 0, 0, []) : xm_I) := rfl
theorem r_X11_how_65 : co_X11_how[65]? = some ((112, .iload 4, 0, 0, 0, 0, 0, 0, []) : xm_I) := rfl
theorem r_X11_how_66 : co_X11_how[66]? = some ((114, .iload 5, 0, 0, 0, 0, 0, 0, []) : xm_I) := rfl
theorem r_X11_how_67 : co_X11_how[67]? = some ((116, .invokevirtual 297, 1670, 223, 3, 10, 0, 0, []) : xm_I) := rfl
theorem r_X11_how_68 : co_X11_how[68]? = some ((119, .imul, 0, 0, 0, 0, 0, 0, []) : xm_I) := rfl
theorem r_X11_how_69 : co_X11_how[69]? = some ((120, .iload_n 1, 0, 0, 0, 0, 0, 0, []) : xm_I) := rfl
theorem r_X11_how_70 : co_X11_how[70]? = some ((121, .iadd, 0, 0, 0, 0, 0, 0, []) : xm_I) := rfl
theorem r_X11_how_71 : co_X11_how[71]? = some ((122, .iload 6, 0, 0, 0, 0, 0, 0, []) : xm_I) := rfl
theorem r_X11_how_72 : co_X11_how[72]? = some ((124, .isub, 0, 0, 0, 0, 0, 0, []) : xm_I) := rfl
theorem r_X11_how_73 : co_X11_how[73]? = some ((125, .iconst 1, 0, 0, 0, 0, 1, 0, []) : xm_I) := rfl
theorem r_X11_how_74 : co_X11_how[74]? = some ((126, .isub, 0, 0, 0, 0, 0, 0, []) : xm_I) := rfl
theorem r_X11_how_75 : co_X11_how[75]? = some ((127, .baload, 0, 0, 0, 0, 0, 0, []) : xm_I) := rfl
theorem r_X11_how_76 : co_X11_how[76]? = some ((128, .ifCond .ne 9, 0, 0, 79, 0, 0, 0, []) : xm_I) := rfl
theorem r_X11_how_77 : co_X11_how[77]? = some ((131, .iinc 5 1, 0, 0, 0, 0, 1, 0, []) : xm_I) := rfl
theorem r_X11_how_78 : co_X11_how[78]? = some ((134, .goto (-41), 0, 0, 55, 0, 0, 0, []) : xm_I) := rfl
theorem r_X11_how_79 : co_X11_how[79]? = some ((137, .aload_n 0, 0, 0, 0, 0, 0, 0, []) : xm_I) := rfl
theorem r_X11_how_80 : co_X11_how[80]? = some ((138, .iload 4, 0, 0, 0, 0, 0, 0, []) : xm_I) := rfl
theorem r_X11_how_81 : co_X11_how[81]? = some ((140, .iload 5, 0, 0, 0, 0, 0, 0, []) : xm_I) := rfl
theorem r_X11_how_82 : co_X11_how[82]? = some ((142, .invokevirtual 297, 1670, 223, 3, 10, 0, 0, []) : xm_I) := rfl
theorem r_X11_how_83 : co_X11_how[83]? = some ((145, .istore 4, 0, 0, 0, 0, 0, 0, []) : xm_I) := rfl
theorem r_X11_how_84 : co_X11_how[84]? = some ((147, .iinc 6 1, 0, 0, 0, 0, 1, 0, []) : xm_I) := rfl
theorem r_X11_how_85 : co_X11_how[85]? = some ((150, .goto (-66), 0, 0, 50, 0, 0, 0, []) : xm_I) := rfl
theorem r_X11_how_86 : co_X11_how[86]? = some ((153, .iload 5, 0, 0, 0, 0, 0, 0, []) : xm_I) := rfl
theorem r_X11_how_87 : co_X11_how[87]? = some ((155, .ireturn, 0, 0, 0, 0, 0, 0, []) : xm_I) := rfl
theorem p_X11_how_0_0 {X : xm_X} {P : List xm_M} {d : Nat} {h : xm_H} {l0 : Nat} {l1 : Int32} {l2 : Int32} {h0 : xm_H} {r0 : Int32} (q0 : xm_V X P d 216 [.ref l0] h (some (.int r0)) h0) (q1 : X.1[l0]? = some (.inr 10)) (q2 : r0 = (0 : Int32)) : xm_E X P d co_X11_how 0 [some (.ref l0), some (.int l1), some (.int l2), none, none, none, none] [] h (some (.int (-2 : Int32))) h0 := by
  refine xm_E_s r_X11_how_0 rfl rfl ?_
  refine xm_E_cv [.ref l0] [] r_X11_how_1 rfl rfl (Nat.le_of_ble_eq_true rfl) (xm_rc q1 (by decide)) rfl q0 ?_
  refine xm_E_s r_X11_how_2 rfl rfl ?_
  refine xm_E_t q2 ?_
  refine xm_E_s r_X11_how_9 rfl rfl ?_
  exact xm_E_iret r_X11_how_10 rfl rfl
theorem p_X11_how_0_1 {X : xm_X} {P : List xm_M} {d : Nat} {h : xm_H} {l0 : Nat} {l1 : Int32} {l2 : Int32} {h0 : xm_H} {r0 : Int32} {h1 : xm_H} {r1 : Int32} (q0 : xm_V X P d 216 [.ref l0] h (some (.int r0)) h0) (q1 : X.1[l0]? = some (.inr 10)) (q2 : ¬ (r0 = (0 : Int32))) (q3 : xm_V X P d 191 [.long l1.toInt64, .long (0 : Int64), .long (12 : Int64)] h0 (some (.int r1)) h1) (q4 : r1 = (0 : Int32)) : xm_E X P d co_X11_how 0 [some (.ref l0), some (.int l1), some (.int l2), none, none, none, none] [] h (some (.int (-2 : Int32))) h1 := by
  refine xm_E_s r_X11_how_0 rfl rfl ?_
  refine xm_E_cv [.ref l0] [] r_X11_how_1 rfl rfl (Nat.le_of_ble_eq_true rfl) (xm_rc q1 (by decide)) rfl q0 ?_
  refine xm_E_s r_X11_how_2 rfl rfl ?_
  refine xm_E_f q2 ?_
  refine xm_E_s r_X11_how_3 rfl rfl ?_
  refine xm_E_s r_X11_how_4 rfl rfl ?_
  refine xm_E_s r_X11_how_5 rfl rfl ?_
  refine xm_E_s r_X11_how_6 rfl rfl ?_
  refine xm_E_cs [.long l1.toInt64, .long (0 : Int64), .long (12 : Int64)] [] r_X11_how_7 rfl rfl rfl (Nat.le_of_ble_eq_true rfl) rfl q3 ?_
  refine xm_E_s r_X11_how_8 rfl rfl ?_
  refine xm_E_t q4 ?_
  refine xm_E_s r_X11_how_9 rfl rfl ?_
  exact xm_E_iret r_X11_how_10 rfl rfl
theorem p_X11_how_0_2 {X : xm_X} {P : List xm_M} {d : Nat} {h : xm_H} {l0 : Nat} {l1 : Int32} {l2 : Int32} {h0 : xm_H} {r0 : Int32} {h1 : xm_H} {r1 : Int32} {h2 : xm_H} {r2 : Int32} {h3 : xm_H} {r3 : Int32} {h4 : xm_H} {r4 : Int32} (q0 : xm_V X P d 216 [.ref l0] h (some (.int r0)) h0) (q1 : X.1[l0]? = some (.inr 10)) (q2 : ¬ (r0 = (0 : Int32))) (q3 : xm_V X P d 191 [.long l1.toInt64, .long (0 : Int64), .long (12 : Int64)] h0 (some (.int r1)) h1) (q4 : ¬ (r1 = (0 : Int32))) (q5 : xm_V X P d 218 [.ref l0] h1 (some (.int r2)) h2) (q6 : xm_V X P d 228 [.int r2] h2 (some (.int r3)) h3) (q7 : r3 = (0 : Int32)) (q8 : xm_V X P d 191 [.long l2.toInt64, .long (0 : Int64), .long ((l1 - (1 : Int32)).toInt64)] h3 (some (.int r4)) h4) (q9 : r4 = (0 : Int32)) : xm_E X P d co_X11_how 0 [some (.ref l0), some (.int l1), some (.int l2), none, none, none, none] [] h (some (.int (-1 : Int32))) h4 := by
  refine xm_E_s r_X11_how_0 rfl rfl ?_
  refine xm_E_cv [.ref l0] [] r_X11_how_1 rfl rfl (Nat.le_of_ble_eq_true rfl) (xm_rc q1 (by decide)) rfl q0 ?_
  refine xm_E_s r_X11_how_2 rfl rfl ?_
  refine xm_E_f q2 ?_
  refine xm_E_s r_X11_how_3 rfl rfl ?_
  refine xm_E_s r_X11_how_4 rfl rfl ?_
  refine xm_E_s r_X11_how_5 rfl rfl ?_
  refine xm_E_s r_X11_how_6 rfl rfl ?_
  refine xm_E_cs [.long l1.toInt64, .long (0 : Int64), .long (12 : Int64)] [] r_X11_how_7 rfl rfl rfl (Nat.le_of_ble_eq_true rfl) rfl q3 ?_
  refine xm_E_s r_X11_how_8 rfl rfl ?_
  refine xm_E_f q4 ?_
  refine xm_E_s r_X11_how_11 rfl rfl ?_
  refine xm_E_cv [.ref l0] [] r_X11_how_12 rfl rfl (Nat.le_of_ble_eq_true rfl) (xm_rc q1 (by decide)) rfl q5 ?_
  refine xm_E_s (ls1 := [some (.ref l0), some (.int l1), some (.int l2), some (.int r2), none, none, none]) r_X11_how_13 rfl rfl ?_
  refine xm_E_s r_X11_how_14 rfl rfl ?_
  refine xm_E_cs [.int r2] [] r_X11_how_15 rfl rfl rfl (Nat.le_of_ble_eq_true rfl) rfl q6 ?_
  refine xm_E_s r_X11_how_16 rfl rfl ?_
  refine xm_E_t q7 ?_
  refine xm_E_s r_X11_how_17 rfl rfl ?_
  refine xm_E_s r_X11_how_18 rfl rfl ?_
  refine xm_E_s r_X11_how_19 rfl rfl ?_
  refine xm_E_s r_X11_how_20 rfl rfl ?_
  refine xm_E_s r_X11_how_21 rfl rfl ?_
  refine xm_E_s r_X11_how_22 rfl rfl ?_
  refine xm_E_s r_X11_how_23 rfl rfl ?_
  refine xm_E_cs [.long l2.toInt64, .long (0 : Int64), .long ((l1 - (1 : Int32)).toInt64)] [] r_X11_how_24 rfl rfl rfl (Nat.le_of_ble_eq_true rfl) rfl q8 ?_
  refine xm_E_s r_X11_how_25 rfl rfl ?_
  refine xm_E_t q9 ?_
  refine xm_E_s r_X11_how_26 rfl rfl ?_
  exact xm_E_iret r_X11_how_27 rfl rfl
theorem p_X11_how_0_3 {X : xm_X} {P : List xm_M} {d : Nat} {h : xm_H} {l0 : Nat} {l1 : Int32} {l2 : Int32} {h0 : xm_H} {r0 : Int32} {h1 : xm_H} {r1 : Int32} {h2 : xm_H} {r2 : Int32} {h3 : xm_H} {r3 : Int32} {h4 : xm_H} {r4 : Int32} {h5 : xm_H} {h6 : xm_H} {r6 : Int32} {v7 : Nat} {n8 : Nat} {b8 : Nat} (q0 : xm_V X P d 216 [.ref l0] h (some (.int r0)) h0) (q1 : X.1[l0]? = some (.inr 10)) (q2 : ¬ (r0 = (0 : Int32))) (q3 : xm_V X P d 191 [.long l1.toInt64, .long (0 : Int64), .long (12 : Int64)] h0 (some (.int r1)) h1) (q4 : ¬ (r1 = (0 : Int32))) (q5 : xm_V X P d 218 [.ref l0] h1 (some (.int r2)) h2) (q6 : xm_V X P d 228 [.int r2] h2 (some (.int r3)) h3) (q7 : r3 = (0 : Int32)) (q8 : xm_V X P d 191 [.long l2.toInt64, .long (0 : Int64), .long ((l1 - (1 : Int32)).toInt64)] h3 (some (.int r4)) h4) (q9 : ¬ (r4 = (0 : Int32))) (q10 : xm_V X P d 285 [.ref l0, .int l1, .int r2] h4 none h5) (q11 : xm_V X P d 220 [.ref l0] h5 (some (.int r6)) h6) (q12 : h6.2.2 l0 29 = some v7) (q13 : X.1[v7]? = some (.inl (b8, n8))) (q14 : ¬ (((13 : Int32) * r6) + l1 < 0 ∨ n8 ≤ (((13 : Int32) * r6) + l1).toNatClampNeg)) (q15 : 1 ≤ b8 ∧ b8 ≤ 2) (q16 : h6.1 v7 ((((13 : Int32) * r6) + l1).toNatClampNeg) = (0 : Int32)) : xm_E X P d co_X11_how 0 [some (.ref l0), some (.int l1), some (.int l2), none, none, none, none] [] h (some (.int (-1 : Int32))) h6 := by
  refine xm_E_s r_X11_how_0 rfl rfl ?_
  refine xm_E_cv [.ref l0] [] r_X11_how_1 rfl rfl (Nat.le_of_ble_eq_true rfl) (xm_rc q1 (by decide)) rfl q0 ?_
  refine xm_E_s r_X11_how_2 rfl rfl ?_
  refine xm_E_f q2 ?_
  refine xm_E_s r_X11_how_3 rfl rfl ?_
  refine xm_E_s r_X11_how_4 rfl rfl ?_
  refine xm_E_s r_X11_how_5 rfl rfl ?_
  refine xm_E_s r_X11_how_6 rfl rfl ?_
  refine xm_E_cs [.long l1.toInt64, .long (0 : Int64), .long (12 : Int64)] [] r_X11_how_7 rfl rfl rfl (Nat.le_of_ble_eq_true rfl) rfl q3 ?_
  refine xm_E_s r_X11_how_8 rfl rfl ?_
  refine xm_E_f q4 ?_
  refine xm_E_s r_X11_how_11 rfl rfl ?_
  refine xm_E_cv [.ref l0] [] r_X11_how_12 rfl rfl (Nat.le_of_ble_eq_true rfl) (xm_rc q1 (by decide)) rfl q5 ?_
  refine xm_E_s (ls1 := [some (.ref l0), some (.int l1), some (.int l2), some (.int r2), none, none, none]) r_X11_how_13 rfl rfl ?_
  refine xm_E_s r_X11_how_14 rfl rfl ?_
  refine xm_E_cs [.int r2] [] r_X11_how_15 rfl rfl rfl (Nat.le_of_ble_eq_true rfl) rfl q6 ?_
  refine xm_E_s r_X11_how_16 rfl rfl ?_
  refine xm_E_t q7 ?_
  refine xm_E_s r_X11_how_17 rfl rfl ?_
  refine xm_E_s r_X11_how_18 rfl rfl ?_
  refine xm_E_s r_X11_how_19 rfl rfl ?_
  refine xm_E_s r_X11_how_20 rfl rfl ?_
  refine xm_E_s r_X11_how_21 rfl rfl ?_
  refine xm_E_s r_X11_how_22 rfl rfl ?_
  refine xm_E_s r_X11_how_23 rfl rfl ?_
  refine xm_E_cs [.long l2.toInt64, .long (0 : Int64), .long ((l1 - (1 : Int32)).toInt64)] [] r_X11_how_24 rfl rfl rfl (Nat.le_of_ble_eq_true rfl) rfl q8 ?_
  refine xm_E_s r_X11_how_25 rfl rfl ?_
  refine xm_E_f q9 ?_
  refine xm_E_s r_X11_how_28 rfl rfl ?_
  refine xm_E_s r_X11_how_29 rfl rfl ?_
  refine xm_E_s r_X11_how_30 rfl rfl ?_
  refine xm_E_cv [.ref l0, .int l1, .int r2] [] r_X11_how_31 rfl rfl (Nat.le_of_ble_eq_true rfl) (xm_rc q1 (by decide)) rfl q10 ?_
  refine xm_E_s r_X11_how_32 rfl rfl ?_
  refine xm_E_cv [.ref l0] [] r_X11_how_33 rfl rfl (Nat.le_of_ble_eq_true rfl) (xm_rc q1 (by decide)) rfl q11 ?_
  refine xm_E_s (ls1 := [some (.ref l0), some (.int l1), some (.int l2), some (.int r2), some (.int r6), none, none]) r_X11_how_34 rfl rfl ?_
  refine xm_E_s r_X11_how_35 rfl rfl ?_
  refine xm_E_s r_X11_how_36 rfl (xm_T_gr rfl q1 rfl rfl q12) ?_
  refine xm_E_s r_X11_how_37 rfl rfl ?_
  refine xm_E_s r_X11_how_38 rfl rfl ?_
  refine xm_E_s r_X11_how_39 rfl rfl ?_
  refine xm_E_s r_X11_how_40 rfl rfl ?_
  refine xm_E_s r_X11_how_41 rfl rfl ?_
  refine xm_E_s r_X11_how_42 rfl (xm_T_bald rfl q13 q15 q14) ?_
  refine xm_E_s r_X11_how_43 rfl rfl ?_
  refine xm_E_t q16 ?_
  refine xm_E_s r_X11_how_44 rfl rfl ?_
  exact xm_E_iret r_X11_how_45 rfl rfl
theorem p_X11_how_0_4 {X : xm_X} {P : List xm_M} {d : Nat} {h : xm_H} {l0 : Nat} {l1 : Int32} {l2 : Int32} {h0 : xm_H} {r0 : Int32} {h1 : xm_H} {r1 : Int32} {h2 : xm_H} {r2 : Int32} {h3 : xm_H} {r3 : Int32} {h4 : xm_H} {r4 : Int32} {h5 : xm_H} {h6 : xm_H} {r6 : Int32} {v7 : Nat} {n8 : Nat} {b8 : Nat} {ro : Option Value} {ho : xm_H} (q0 : xm_V X P d 216 [.ref l0] h (some (.int r0)) h0) (q1 : X.1[l0]? = some (.inr 10)) (q2 : ¬ (r0 = (0 : Int32))) (q3 : xm_V X P d 191 [.long l1.toInt64, .long (0 : Int64), .long (12 : Int64)] h0 (some (.int r1)) h1) (q4 : ¬ (r1 = (0 : Int32))) (q5 : xm_V X P d 218 [.ref l0] h1 (some (.int r2)) h2) (q6 : xm_V X P d 228 [.int r2] h2 (some (.int r3)) h3) (q7 : r3 = (0 : Int32)) (q8 : xm_V X P d 191 [.long l2.toInt64, .long (0 : Int64), .long ((l1 - (1 : Int32)).toInt64)] h3 (some (.int r4)) h4) (q9 : ¬ (r4 = (0 : Int32))) (q10 : xm_V X P d 285 [.ref l0, .int l1, .int r2] h4 none h5) (q11 : xm_V X P d 220 [.ref l0] h5 (some (.int r6)) h6) (q12 : h6.2.2 l0 29 = some v7) (q13 : X.1[v7]? = some (.inl (b8, n8))) (q14 : ¬ (((13 : Int32) * r6) + l1 < 0 ∨ n8 ≤ (((13 : Int32) * r6) + l1).toNatClampNeg)) (q15 : 1 ≤ b8 ∧ b8 ≤ 2) (q16 : ¬ (h6.1 v7 ((((13 : Int32) * r6) + l1).toNatClampNeg) = (0 : Int32))) (K : xm_E X P d co_X11_how 50 [some (.ref l0), some (.int l1), some (.int l2), some (.int r2), some (.int r6), some (.int (0 : Int32)), some (.int (0 : Int32))] [] h6 ro ho) : xm_E X P d co_X11_how 0 [some (.ref l0), some (.int l1), some (.int l2), none, none, none, none] [] h ro ho := by
  refine xm_E_s r_X11_how_0 rfl rfl ?_
  refine xm_E_cv [.ref l0] [] r_X11_how_1 rfl rfl (Nat.le_of_ble_eq_true rfl) (xm_rc q1 (by decide)) rfl q0 ?_
  refine xm_E_s r_X11_how_2 rfl rfl ?_
  refine xm_E_f q2 ?_
  refine xm_E_s r_X11_how_3 rfl rfl ?_
  refine xm_E_s r_X11_how_4 rfl rfl ?_
  refine xm_E_s r_X11_how_5 rfl rfl ?_
  refine xm_E_s r_X11_how_6 rfl rfl ?_
  refine xm_E_cs [.long l1.toInt64, .long (0 : Int64), .long (12 : Int64)] [] r_X11_how_7 rfl rfl rfl (Nat.le_of_ble_eq_true rfl) rfl q3 ?_
  refine xm_E_s r_X11_how_8 rfl rfl ?_
  refine xm_E_f q4 ?_
  refine xm_E_s r_X11_how_11 rfl rfl ?_
  refine xm_E_cv [.ref l0] [] r_X11_how_12 rfl rfl (Nat.le_of_ble_eq_true rfl) (xm_rc q1 (by decide)) rfl q5 ?_
  refine xm_E_s (ls1 := [some (.ref l0), some (.int l1), some (.int l2), some (.int r2), none, none, none]) r_X11_how_13 rfl rfl ?_
  refine xm_E_s r_X11_how_14 rfl rfl ?_
  refine xm_E_cs [.int r2] [] r_X11_how_15 rfl rfl rfl (Nat.le_of_ble_eq_true rfl) rfl q6 ?_
  refine xm_E_s r_X11_how_16 rfl rfl ?_
  refine xm_E_t q7 ?_
  refine xm_E_s r_X11_how_17 rfl rfl ?_
  refine xm_E_s r_X11_how_18 rfl rfl ?_
  refine xm_E_s r_X11_how_19 rfl rfl ?_
  refine xm_E_s r_X11_how_20 rfl rfl ?_
  refine xm_E_s r_X11_how_21 rfl rfl ?_
  refine xm_E_s r_X11_how_22 rfl rfl ?_
  refine xm_E_s r_X11_how_23 rfl rfl ?_
  refine xm_E_cs [.long l2.toInt64, .long (0 : Int64), .long ((l1 - (1 : Int32)).toInt64)] [] r_X11_how_24 rfl rfl rfl (Nat.le_of_ble_eq_true rfl) rfl q8 ?_
  refine xm_E_s r_X11_how_25 rfl rfl ?_
  refine xm_E_f q9 ?_
  refine xm_E_s r_X11_how_28 rfl rfl ?_
  refine xm_E_s r_X11_how_29 rfl rfl ?_
  refine xm_E_s r_X11_how_30 rfl rfl ?_
  refine xm_E_cv [.ref l0, .int l1, .int r2] [] r_X11_how_31 rfl rfl (Nat.le_of_ble_eq_true rfl) (xm_rc q1 (by decide)) rfl q10 ?_
  refine xm_E_s r_X11_how_32 rfl rfl ?_
  refine xm_E_cv [.ref l0] [] r_X11_how_33 rfl rfl (Nat.le_of_ble_eq_true rfl) (xm_rc q1 (by decide)) rfl q11 ?_
  refine xm_E_s (ls1 := [some (.ref l0), some (.int l1), some (.int l2), some (.int r2), some (.int r6), none, none]) r_X11_how_34 rfl rfl ?_
  refine xm_E_s r_X11_how_35 rfl rfl ?_
  refine xm_E_s r_X11_how_36 rfl (xm_T_gr rfl q1 rfl rfl q12) ?_
  refine xm_E_s r_X11_how_37 rfl rfl ?_
  refine xm_E_s r_X11_how_38 rfl rfl ?_
  refine xm_E_s r_X11_how_39 rfl rfl ?_
  refine xm_E_s r_X11_how_40 rfl rfl ?_
  refine xm_E_s r_X11_how_41 rfl rfl ?_
  refine xm_E_s r_X11_how_42 rfl (xm_T_bald rfl q13 q15 q14) ?_
  refine xm_E_s r_X11_how_43 rfl rfl ?_
  refine xm_E_f q16 ?_
  refine xm_E_s r_X11_how_46 rfl rfl ?_
  refine xm_E_s (ls1 := [some (.ref l0), some (.int l1), some (.int l2), some (.int r2), some (.int r6), some (.int (0 : Int32)), none]) r_X11_how_47 rfl rfl ?_
  refine xm_E_s r_X11_how_48 rfl rfl ?_
  refine xm_E_s (ls1 := [some (.ref l0), some (.int l1), some (.int l2), some (.int r2), some (.int r6), some (.int (0 : Int32)), some (.int (0 : Int32))]) r_X11_how_49 rfl rfl ?_
  exact K
theorem p_X11_how_0_5 {X : xm_X} {P : List xm_M} {d : Nat} {h : xm_H} {l0 : Nat} {l1 : Int32} {l2 : Int32} {h0 : xm_H} {r0 : Int32} {h1 : xm_H} {r1 : Int32} {h2 : xm_H} {r2 : Int32} {h3 : xm_H} {r3 : Int32} (q0 : xm_V X P d 216 [.ref l0] h (some (.int r0)) h0) (q1 : X.1[l0]? = some (.inr 10)) (q2 : ¬ (r0 = (0 : Int32))) (q3 : xm_V X P d 191 [.long l1.toInt64, .long (0 : Int64), .long (12 : Int64)] h0 (some (.int r1)) h1) (q4 : ¬ (r1 = (0 : Int32))) (q5 : xm_V X P d 218 [.ref l0] h1 (some (.int r2)) h2) (q6 : xm_V X P d 228 [.int r2] h2 (some (.int r3)) h3) (q7 : ¬ (r3 = (0 : Int32))) : xm_E X P d co_X11_how 0 [some (.ref l0), some (.int l1), some (.int l2), none, none, none, none] [] h (some (.int (-1 : Int32))) h3 := by
  refine xm_E_s r_X11_how_0 rfl rfl ?_
  refine xm_E_cv [.ref l0] [] r_X11_how_1 rfl rfl (Nat.le_of_ble_eq_true rfl) (xm_rc q1 (by decide)) rfl q0 ?_
  refine xm_E_s r_X11_how_2 rfl rfl ?_
  refine xm_E_f q2 ?_
  refine xm_E_s r_X11_how_3 rfl rfl ?_
  refine xm_E_s r_X11_how_4 rfl rfl ?_
  refine xm_E_s r_X11_how_5 rfl rfl ?_
  refine xm_E_s r_X11_how_6 rfl rfl ?_
  refine xm_E_cs [.long l1.toInt64, .long (0 : Int64), .long (12 : Int64)] [] r_X11_how_7 rfl rfl rfl (Nat.le_of_ble_eq_true rfl) rfl q3 ?_
  refine xm_E_s r_X11_how_8 rfl rfl ?_
  refine xm_E_f q4 ?_
  refine xm_E_s r_X11_how_11 rfl rfl ?_
  refine xm_E_cv [.ref l0] [] r_X11_how_12 rfl rfl (Nat.le_of_ble_eq_true rfl) (xm_rc q1 (by decide)) rfl q5 ?_
  refine xm_E_s (ls1 := [some (.ref l0), some (.int l1), some (.int l2), some (.int r2), none, none, none]) r_X11_how_13 rfl rfl ?_
  refine xm_E_s r_X11_how_14 rfl rfl ?_
  refine xm_E_cs [.int r2] [] r_X11_how_15 rfl rfl rfl (Nat.le_of_ble_eq_true rfl) rfl q6 ?_
  refine xm_E_s r_X11_how_16 rfl rfl ?_
  refine xm_E_f q7 ?_
  refine xm_E_s r_X11_how_26 rfl rfl ?_
  exact xm_E_iret r_X11_how_27 rfl rfl
theorem p_X11_how_50_0 {X : xm_X} {P : List xm_M} {d : Nat} {h : xm_H} {l0 : Nat} {l1 : Int32} {l2 : Int32} {l3 : Int32} {l4 : Int32} {l5 : Int32} {l6 : Int32} (q0 : l2 < l6) : xm_E X P d co_X11_how 50 [some (.ref l0), some (.int l1), some (.int l2), some (.int l3), some (.int l4), some (.int l5), some (.int l6)] [] h (some (.int l5)) h := by
  refine xm_E_s r_X11_how_50 rfl rfl ?_
  refine xm_E_s r_X11_how_51 rfl rfl ?_
  refine xm_E_s r_X11_how_52 rfl rfl ?_
  refine xm_E_t q0 ?_
  refine xm_E_s r_X11_how_86 rfl rfl ?_
  exact xm_E_iret r_X11_how_87 rfl rfl
theorem p_X11_how_50_1 {X : xm_X} {P : List xm_M} {d : Nat} {h : xm_H} {l0 : Nat} {l1 : Int32} {l2 : Int32} {l3 : Int32} {l4 : Int32} {l5 : Int32} {l6 : Int32} {ro : Option Value} {ho : xm_H} (q0 : ¬ (l2 < l6)) (K : xm_E X P d co_X11_how 55 [some (.ref l0), some (.int l1), some (.int l2), some (.int l3), some (.int l4), some (.int (0 : Int32)), some (.int l6)] [] h ro ho) : xm_E X P d co_X11_how 50 [some (.ref l0), some (.int l1), some (.int l2), some (.int l3), some (.int l4), some (.int l5), some (.int l6)] [] h ro ho := by
  refine xm_E_s r_X11_how_50 rfl rfl ?_
  refine xm_E_s r_X11_how_51 rfl rfl ?_
  refine xm_E_s r_X11_how_52 rfl rfl ?_
  refine xm_E_f q0 ?_
  refine xm_E_s r_X11_how_53 rfl rfl ?_
  refine xm_E_s (ls1 := [some (.ref l0), some (.int l1), some (.int l2), some (.int l3), some (.int l4), some (.int (0 : Int32)), some (.int l6)]) r_X11_how_54 rfl rfl ?_
  exact K
theorem p_X11_how_55_0 {X : xm_X} {P : List xm_M} {d : Nat} {h : xm_H} {l0 : Nat} {l1 : Int32} {l2 : Int32} {l3 : Int32} {l4 : Int32} {l5 : Int32} {l6 : Int32} {h0 : xm_H} {r0 : Int32} {ro : Option Value} {ho : xm_H} (q0 : xm_V X P d 223 [.ref l0, .int l4, .int l5] h (some (.int r0)) h0) (q1 : X.1[l0]? = some (.inr 10)) (q2 : r0 = (-1 : Int32)) (K : xm_E X P d co_X11_how 55 [some (.ref l0), some (.int l1), some (.int l2), some (.int l3), some (.int l4), some (.int (l5 + (1 : Int32))), some (.int l6)] [] h0 ro ho) : xm_E X P d co_X11_how 55 [some (.ref l0), some (.int l1), some (.int l2), some (.int l3), some (.int l4), some (.int l5), some (.int l6)] [] h ro ho := by
  refine xm_E_s r_X11_how_55 rfl rfl ?_
  refine xm_E_s r_X11_how_56 rfl rfl ?_
  refine xm_E_s r_X11_how_57 rfl rfl ?_
  refine xm_E_cv [.ref l0, .int l4, .int l5] [] r_X11_how_58 rfl rfl (Nat.le_of_ble_eq_true rfl) (xm_rc q1 (by decide)) rfl q0 ?_
  refine xm_E_s r_X11_how_59 rfl rfl ?_
  refine xm_E_s r_X11_how_60 rfl rfl ?_
  refine xm_E_t q2 ?_
  refine xm_E_s (ls1 := [some (.ref l0), some (.int l1), some (.int l2), some (.int l3), some (.int l4), some (.int (l5 + (1 : Int32))), some (.int l6)]) r_X11_how_77 rfl rfl ?_
  refine xm_E_s r_X11_how_78 rfl rfl ?_
  exact K
theorem p_X11_how_55_1 {X : xm_X} {P : List xm_M} {d : Nat} {h : xm_H} {l0 : Nat} {l1 : Int32} {l2 : Int32} {l3 : Int32} {l4 : Int32} {l5 : Int32} {l6 : Int32} {h0 : xm_H} {r0 : Int32} {v1 : Nat} {h2 : xm_H} {r2 : Int32} {n3 : Nat} {b3 : Nat} {ro : Option Value} {ho : xm_H} (q0 : xm_V X P d 223 [.ref l0, .int l4, .int l5] h (some (.int r0)) h0) (q1 : X.1[l0]? = some (.inr 10)) (q2 : ¬ (r0 = (-1 : Int32))) (q3 : h0.2.2 l0 29 = some v1) (q4 : xm_V X P d 223 [.ref l0, .int l4, .int l5] h0 (some (.int r2)) h2) (q5 : X.1[v1]? = some (.inl (b3, n3))) (q6 : ¬ (((((13 : Int32) * r2) + l1) - l6) - (1 : Int32) < 0 ∨ n3 ≤ (((((13 : Int32) * r2) + l1) - l6) - (1 : Int32)).toNatClampNeg)) (q7 : 1 ≤ b3 ∧ b3 ≤ 2) (q8 : h2.1 v1 ((((((13 : Int32) * r2) + l1) - l6) - (1 : Int32)).toNatClampNeg) = (0 : Int32)) (K : xm_E X P d co_X11_how 55 [some (.ref l0), some (.int l1), some (.int l2), some (.int l3), some (.int l4), some (.int (l5 + (1 : Int32))), some (.int l6)] [] h2 ro ho) : xm_E X P d co_X11_how 55 [some (.ref l0), some (.int l1), some (.int l2), some (.int l3), some (.int l4), some (.int l5), some (.int l6)] [] h ro ho := by
  refine xm_E_s r_X11_how_55 rfl rfl ?_
  refine xm_E_s r_X11_how_56 rfl rfl ?_
  refine xm_E_s r_X11_how_57 rfl rfl ?_
  refine xm_E_cv [.ref l0, .int l4, .int l5] [] r_X11_how_58 rfl rfl (Nat.le_of_ble_eq_true rfl) (xm_rc q1 (by decide)) rfl q0 ?_
  refine xm_E_s r_X11_how_59 rfl rfl ?_
  refine xm_E_s r_X11_how_60 rfl rfl ?_
  refine xm_E_f q2 ?_
  refine xm_E_s r_X11_how_61 rfl rfl ?_
  refine xm_E_s r_X11_how_62 rfl (xm_T_gr rfl q1 rfl rfl q3) ?_
  refine xm_E_s r_X11_how_63 rfl rfl ?_
  refine xm_E_s r_X11_how_64 rfl rfl ?_
  refine xm_E_s r_X11_how_65 rfl rfl ?_
  refine xm_E_s r_X11_how_66 rfl rfl ?_
  refine xm_E_cv [.ref l0, .int l4, .int l5] [.int (13 : Int32), .ref v1] r_X11_how_67 rfl rfl (Nat.le_of_ble_eq_true rfl) (xm_rc q1 (by decide)) rfl q4 ?_
  refine xm_E_s r_X11_how_68 rfl rfl ?_
  refine xm_E_s r_X11_how_69 rfl rfl ?_
  refine xm_E_s r_X11_how_70 rfl rfl ?_
  refine xm_E_s r_X11_how_71 rfl rfl ?_
  refine xm_E_s r_X11_how_72 rfl rfl ?_
  refine xm_E_s r_X11_how_73 rfl rfl ?_
  refine xm_E_s r_X11_how_74 rfl rfl ?_
  refine xm_E_s r_X11_how_75 rfl (xm_T_bald rfl q5 q7 q6) ?_
  refine xm_E_s r_X11_how_76 rfl rfl ?_
  refine xm_E_t q8 ?_
  refine xm_E_s (ls1 := [some (.ref l0), some (.int l1), some (.int l2), some (.int l3), some (.int l4), some (.int (l5 + (1 : Int32))), some (.int l6)]) r_X11_how_77 rfl rfl ?_
  refine xm_E_s r_X11_how_78 rfl rfl ?_
  exact K
theorem p_X11_how_55_2 {X : xm_X} {P : List xm_M} {d : Nat} {h : xm_H} {l0 : Nat} {l1 : Int32} {l2 : Int32} {l3 : Int32} {l4 : Int32} {l5 : Int32} {l6 : Int32} {h0 : xm_H} {r0 : Int32} {v1 : Nat} {h2 : xm_H} {r2 : Int32} {n3 : Nat} {b3 : Nat} {h4 : xm_H} {r4 : Int32} {ro : Option Value} {ho : xm_H} (q0 : xm_V X P d 223 [.ref l0, .int l4, .int l5] h (some (.int r0)) h0) (q1 : X.1[l0]? = some (.inr 10)) (q2 : ¬ (r0 = (-1 : Int32))) (q3 : h0.2.2 l0 29 = some v1) (q4 : xm_V X P d 223 [.ref l0, .int l4, .int l5] h0 (some (.int r2)) h2) (q5 : X.1[v1]? = some (.inl (b3, n3))) (q6 : ¬ (((((13 : Int32) * r2) + l1) - l6) - (1 : Int32) < 0 ∨ n3 ≤ (((((13 : Int32) * r2) + l1) - l6) - (1 : Int32)).toNatClampNeg)) (q7 : 1 ≤ b3 ∧ b3 ≤ 2) (q8 : ¬ (h2.1 v1 ((((((13 : Int32) * r2) + l1) - l6) - (1 : Int32)).toNatClampNeg) = (0 : Int32))) (q9 : xm_V X P d 223 [.ref l0, .int l4, .int l5] h2 (some (.int r4)) h4) (K : xm_E X P d co_X11_how 50 [some (.ref l0), some (.int l1), some (.int l2), some (.int l3), some (.int r4), some (.int l5), some (.int (l6 + (1 : Int32)))] [] h4 ro ho) : xm_E X P d co_X11_how 55 [some (.ref l0), some (.int l1), some (.int l2), some (.int l3), some (.int l4), some (.int l5), some (.int l6)] [] h ro ho := by
  refine xm_E_s r_X11_how_55 rfl rfl ?_
  refine xm_E_s r_X11_how_56 rfl rfl ?_
  refine xm_E_s r_X11_how_57 rfl rfl ?_
  refine xm_E_cv [.ref l0, .int l4, .int l5] [] r_X11_how_58 rfl rfl (Nat.le_of_ble_eq_true rfl) (xm_rc q1 (by decide)) rfl q0 ?_
  refine xm_E_s r_X11_how_59 rfl rfl ?_
  refine xm_E_s r_X11_how_60 rfl rfl ?_
  refine xm_E_f q2 ?_
  refine xm_E_s r_X11_how_61 rfl rfl ?_
  refine xm_E_s r_X11_how_62 rfl (xm_T_gr rfl q1 rfl rfl q3) ?_
  refine xm_E_s r_X11_how_63 rfl rfl ?_
  refine xm_E_s r_X11_how_64 rfl rfl ?_
  refine xm_E_s r_X11_how_65 rfl rfl ?_
  refine xm_E_s r_X11_how_66 rfl rfl ?_
  refine xm_E_cv [.ref l0, .int l4, .int l5] [.int (13 : Int32), .ref v1] r_X11_how_67 rfl rfl (Nat.le_of_ble_eq_true rfl) (xm_rc q1 (by decide)) rfl q4 ?_
  refine xm_E_s r_X11_how_68 rfl rfl ?_
  refine xm_E_s r_X11_how_69 rfl rfl ?_
  refine xm_E_s r_X11_how_70 rfl rfl ?_
  refine xm_E_s r_X11_how_71 rfl rfl ?_
  refine xm_E_s r_X11_how_72 rfl rfl ?_
  refine xm_E_s r_X11_how_73 rfl rfl ?_
  refine xm_E_s r_X11_how_74 rfl rfl ?_
  refine xm_E_s r_X11_how_75 rfl (xm_T_bald rfl q5 q7 q6) ?_
  refine xm_E_s r_X11_how_76 rfl rfl ?_
  refine xm_E_f q8 ?_
  refine xm_E_s r_X11_how_79 rfl rfl ?_
  refine xm_E_s r_X11_how_80 rfl rfl ?_
  refine xm_E_s r_X11_how_81 rfl rfl ?_
  refine xm_E_cv [.ref l0, .int l4, .int l5] [] r_X11_how_82 rfl rfl (Nat.le_of_ble_eq_true rfl) (xm_rc q1 (by decide)) rfl q9 ?_
  refine xm_E_s (ls1 := [some (.ref l0), some (.int l1), some (.int l2), some (.int l3), some (.int r4), some (.int l5), some (.int l6)]) r_X11_how_83 rfl rfl ?_
  refine xm_E_s (ls1 := [some (.ref l0), some (.int l1), some (.int l2), some (.int l3), some (.int r4), some (.int l5), some (.int (l6 + (1 : Int32)))]) r_X11_how_84 rfl rfl ?_
  refine xm_E_s r_X11_how_85 rfl rfl ?_
  exact K
theorem r_X11_means_0 : co_X11_means[0]? = some ((0, .aload_n 0, 0, 0, 0, 0, 0, 0, []) : xm_I) := rfl
theorem r_X11_means_1 : co_X11_means[1]? = some ((1, .iload_n 1, 0, 0, 0, 0, 0, 0, []) : xm_I) := rfl
theorem r_X11_means_2 : co_X11_means[2]? = some ((2, .i2l, 0, 0, 0, 0, 0, 0, []) : xm_I) := rfl
theorem r_X11_means_3 : co_X11_means[3]? = some ((3, .invokevirtual 347, 1747, 244, 2, 10, 0, 0, []) : xm_I) := rfl
theorem r_X11_means_4 : co_X11_means[4]? = some ((6, .ifCond .eq 19, 0, 0, 13, 0, 0, 0, []) : xm_I) := rfl
theorem r_X11_means_5 : co_X11_means[5]? = some ((9, .aload_n 0, 0, 0, 0, 0, 0, 0, []) : xm_I) := rfl
theorem r_X11_means_6 : co_X11_means[6]? = some ((10, .iload_n 1, 0, 0, 0, 0, 0, 0, []) : xm_I) := rfl
theorem r_X11_means_7 : co_X11_means[7]? = some ((11, .invokevirtual 350, 1751, 245, 2, 10, 0, 0, []) : xm_I) := rfl
theorem r_X11_means_8 : co_X11_means[8]? = some ((14, .aload_n 0, 0, 0, 0, 0, 0, 0, []) : xm_I) := rfl
theorem r_X11_means_9 : co_X11_means[9]? = some ((15, .iload_n 1, 0, 0, 0, 0, 0, 0, []) : xm_I) := rfl
theorem r_X11_means_10 : co_X11_means[10]? = some ((16, .invokevirtual 352, 1755, 246, 2, 10, 0, 0, []) : xm_I) := rfl
theorem r_X11_means_11 : co_X11_means[11]? = some ((19, .invokestatic 354, 1759, 247, 2, 0, 0, 0, []) : xm_I) := rfl
theorem r_X11_means_12 : co_X11_means[12]? = some ((22, .goto 5, 0, 0, 14, 0, 0, 0, []) : xm_I) := rfl
theorem r_X11_means_13 : co_X11_means[13]? = some ((25, .bipush (-2), 0, 0, 0, 0, (-2), 0, []) : xm_I) := rfl
theorem r_X11_means_14 : co_X11_means[14]? = some ((27, .ireturn, 0, 0, 0, 0, 0, 0, []) : xm_I) := rfl
theorem p_X11_means_0_0 {X : xm_X} {P : List xm_M} {d : Nat} {h : xm_H} {l0 : Nat} {l1 : Int32} {h0 : xm_H} {r0 : Int32} (q0 : xm_V X P d 244 [.ref l0, .long l1.toInt64] h (some (.int r0)) h0) (q1 : X.1[l0]? = some (.inr 10)) (q2 : r0 = (0 : Int32)) : xm_E X P d co_X11_means 0 [some (.ref l0), some (.int l1)] [] h (some (.int (-2 : Int32))) h0 := by
  refine xm_E_s r_X11_means_0 rfl rfl ?_
  refine xm_E_s r_X11_means_1 rfl rfl ?_
  refine xm_E_s r_X11_means_2 rfl rfl ?_
  refine xm_E_cv [.ref l0, .long l1.toInt64] [] r_X11_means_3 rfl rfl (Nat.le_of_ble_eq_true rfl) (xm_rc q1 (by decide)) rfl q0 ?_
  refine xm_E_s r_X11_means_4 rfl rfl ?_
  refine xm_E_t q2 ?_
  refine xm_E_s r_X11_means_13 rfl rfl ?_
  exact xm_E_iret r_X11_means_14 rfl rfl
theorem p_X11_means_0_1 {X : xm_X} {P : List xm_M} {d : Nat} {h : xm_H} {l0 : Nat} {l1 : Int32} {h0 : xm_H} {r0 : Int32} {h1 : xm_H} {r1 : Int32} {h2 : xm_H} {r2 : Int32} {h3 : xm_H} {r3 : Int32} (q0 : xm_V X P d 244 [.ref l0, .long l1.toInt64] h (some (.int r0)) h0) (q1 : X.1[l0]? = some (.inr 10)) (q2 : ¬ (r0 = (0 : Int32))) (q3 : xm_V X P d 245 [.ref l0, .int l1] h0 (some (.int r1)) h1) (q4 : xm_V X P d 246 [.ref l0, .int l1] h1 (some (.int r2)) h2) (q5 : xm_V X P d 247 [.int r1, .int r2] h2 (some (.int r3)) h3) : xm_E X P d co_X11_means 0 [some (.ref l0), some (.int l1)] [] h (some (.int r3)) h3 := by
  refine xm_E_s r_X11_means_0 rfl rfl ?_
  refine xm_E_s r_X11_means_1 rfl rfl ?_
  refine xm_E_s r_X11_means_2 rfl rfl ?_
  refine xm_E_cv [.ref l0, .long l1.toInt64] [] r_X11_means_3 rfl rfl (Nat.le_of_ble_eq_true rfl) (xm_rc q1 (by decide)) rfl q0 ?_
  refine xm_E_s r_X11_means_4 rfl rfl ?_
  refine xm_E_f q2 ?_
  refine xm_E_s r_X11_means_5 rfl rfl ?_
  refine xm_E_s r_X11_means_6 rfl rfl ?_
  refine xm_E_cv [.ref l0, .int l1] [] r_X11_means_7 rfl rfl (Nat.le_of_ble_eq_true rfl) (xm_rc q1 (by decide)) rfl q3 ?_
  refine xm_E_s r_X11_means_8 rfl rfl ?_
  refine xm_E_s r_X11_means_9 rfl rfl ?_
  refine xm_E_cv [.ref l0, .int l1] [.int r1] r_X11_means_10 rfl rfl (Nat.le_of_ble_eq_true rfl) (xm_rc q1 (by decide)) rfl q4 ?_
  refine xm_E_cs [.int r1, .int r2] [] r_X11_means_11 rfl rfl rfl (Nat.le_of_ble_eq_true rfl) rfl q5 ?_
  refine xm_E_s r_X11_means_12 rfl rfl ?_
  exact xm_E_iret r_X11_means_14 rfl rfl
theorem r_X11_called_0 : co_X11_called[0]? = some ((0, .aload_n 0, 0, 0, 0, 0, 0, 0, []) : xm_I) := rfl
theorem r_X11_called_1 : co_X11_called[1]? = some ((1, .invokevirtual 420, 1802, 258, 1, 10, 0, 0, []) : xm_I) := rfl
theorem r_X11_called_2 : co_X11_called[2]? = some ((4, .ifCond .eq 22, 0, 0, 14, 0, 0, 0, []) : xm_I) := rfl
theorem r_X11_called_3 : co_X11_called[3]? = some ((7, .aload_n 0, 0, 0, 0, 0, 0, 0, []) : xm_I) := rfl
theorem r_X11_called_4 : co_X11_called[4]? = some ((8, .aload_n 0, 0, 0, 0, 0, 0, 0, []) : xm_I) := rfl
theorem r_X11_called_5 : co_X11_called[5]? = some ((9, .getfield 9, 1381, 10, 1, 2, 0, 0, []) : xm_I) := rfl
theorem r_X11_called_6 : co_X11_called[6]? = some ((12, .iconst 3, 0, 0, 0, 0, 3, 0, []) : xm_I) := rfl
theorem r_X11_called_7 : co_X11_called[7]? = some ((13, .iaload, 0, 0, 0, 0, 0, 0, []) : xm_I) := rfl
theorem r_X11_called_8 : co_X11_called[8]? = some ((14, .iconst 0, 0, 0, 0, 0, 0, 0, []) : xm_I) := rfl
theorem r_X11_called_9 : co_X11_called[9]? = some ((15, .aload_n 0, 0, 0, 0, 0, 0, 0, []) : xm_I) := rfl
theorem r_X11_called_10 : co_X11_called[10]? = some ((16, .invokevirtual 446, 1931, 289, 1, 10, 0, 0, []) : xm_I) := rfl
theorem r_X11_called_11 : co_X11_called[11]? = some ((19, .iconst 0, 0, 0, 0, 0, 0, 0, []) : xm_I) := rfl
theorem r_X11_called_12 : co_X11_called[12]? = some ((20, .invokevirtual 423, 1810, 260, 5, 10, 0, 0, []) : xm_I) := rfl
theorem r_X11_called_13 : co_X11_called[13]? = some ((23, .goto 5, 0, 0, 15, 0, 0, 0, []) : xm_I) := rfl
theorem r_X11_called_14 : co_X11_called[14]? = some ((26, .bipush (-2), 0, 0, 0, 0, (-2), 0, []) : xm_I) := rfl
theorem r_X11_called_15 : co_X11_called[15]? = some ((28, .ireturn, 0, 0, 0, 0, 0, 0, []) : xm_I) := rfl
theorem p_X11_called_0_0 {X : xm_X} {P : List xm_M} {d : Nat} {h : xm_H} {l0 : Nat} {h0 : xm_H} {r0 : Int32} (q0 : xm_V X P d 258 [.ref l0] h (some (.int r0)) h0) (q1 : X.1[l0]? = some (.inr 10)) (q2 : r0 = (0 : Int32)) : xm_E X P d co_X11_called 0 [some (.ref l0)] [] h (some (.int (-2 : Int32))) h0 := by
  refine xm_E_s r_X11_called_0 rfl rfl ?_
  refine xm_E_cv [.ref l0] [] r_X11_called_1 rfl rfl (Nat.le_of_ble_eq_true rfl) (xm_rc q1 (by decide)) rfl q0 ?_
  refine xm_E_s r_X11_called_2 rfl rfl ?_
  refine xm_E_t q2 ?_
  refine xm_E_s r_X11_called_14 rfl rfl ?_
  exact xm_E_iret r_X11_called_15 rfl rfl
theorem p_X11_called_0_1 {X : xm_X} {P : List xm_M} {d : Nat} {h : xm_H} {l0 : Nat} {h0 : xm_H} {r0 : Int32} {v1 : Nat} {n2 : Nat} {h3 : xm_H} {r3 : Int32} {h4 : xm_H} {r4 : Int32} (q0 : xm_V X P d 258 [.ref l0] h (some (.int r0)) h0) (q1 : X.1[l0]? = some (.inr 10)) (q2 : ¬ (r0 = (0 : Int32))) (q3 : h0.2.2 l0 1 = some v1) (q4 : X.1[v1]? = some (.inl (0, n2))) (q5 : 3 < n2) (q6 : xm_V X P d 289 [.ref l0] h0 (some (.int r3)) h3) (q7 : xm_V X P d 260 [.ref l0, .int (h0.1 v1 3), .int (0 : Int32), .int r3, .int (0 : Int32)] h3 (some (.int r4)) h4) : xm_E X P d co_X11_called 0 [some (.ref l0)] [] h (some (.int r4)) h4 := by
  refine xm_E_s r_X11_called_0 rfl rfl ?_
  refine xm_E_cv [.ref l0] [] r_X11_called_1 rfl rfl (Nat.le_of_ble_eq_true rfl) (xm_rc q1 (by decide)) rfl q0 ?_
  refine xm_E_s r_X11_called_2 rfl rfl ?_
  refine xm_E_f q2 ?_
  refine xm_E_s r_X11_called_3 rfl rfl ?_
  refine xm_E_s r_X11_called_4 rfl rfl ?_
  refine xm_E_s r_X11_called_5 rfl (xm_T_gr rfl q1 rfl rfl q3) ?_
  refine xm_E_s r_X11_called_6 rfl rfl ?_
  refine xm_E_s r_X11_called_7 rfl (xm_T_iald rfl q4 (by decide) (fun e => e.elim (fun e => absurd e (by decide)) (fun e => Nat.not_le.mpr q5 e))) ?_
  refine xm_E_s r_X11_called_8 rfl rfl ?_
  refine xm_E_s r_X11_called_9 rfl rfl ?_
  refine xm_E_cv [.ref l0] [.int (0 : Int32), .int (h0.1 v1 3), .ref l0] r_X11_called_10 rfl rfl (Nat.le_of_ble_eq_true rfl) (xm_rc q1 (by decide)) rfl q6 ?_
  refine xm_E_s r_X11_called_11 rfl rfl ?_
  refine xm_E_cv [.ref l0, .int (h0.1 v1 3), .int (0 : Int32), .int r3, .int (0 : Int32)] [] r_X11_called_12 rfl rfl (Nat.le_of_ble_eq_true rfl) (xm_rc q1 (by decide)) rfl q7 ?_
  refine xm_E_s r_X11_called_13 rfl rfl ?_
  exact xm_E_iret r_X11_called_15 rfl rfl
theorem r_X11_allCalls_0 : co_X11_allCalls[0]? = some ((0, .iconst 1, 0, 0, 0, 0, 1, 0, []) : xm_I) := rfl
theorem r_X11_allCalls_1 : co_X11_allCalls[1]? = some ((1, .aload_n 0, 0, 0, 0, 0, 0, 0, []) : xm_I) := rfl
theorem r_X11_allCalls_2 : co_X11_allCalls[2]? = some ((2, .getfield 9, 1381, 10, 1, 2, 0, 0, []) : xm_I) := rfl
theorem r_X11_allCalls_3 : co_X11_allCalls[3]? = some ((5, .bipush 19, 0, 0, 0, 0, 19, 0, []) : xm_I) := rfl
theorem r_X11_allCalls_4 : co_X11_allCalls[4]? = some ((7, .iaload, 0, 0, 0, 0, 0, 0, []) : xm_I) := rfl
theorem r_X11_allCalls_5 : co_X11_allCalls[5]? = some ((8, .ishl, 0, 0, 0, 0, 0, 0, []) : xm_I) := rfl
theorem r_X11_allCalls_6 : co_X11_allCalls[6]? = some ((9, .iconst 1, 0, 0, 0, 0, 1, 0, []) : xm_I) := rfl
theorem r_X11_allCalls_7 : co_X11_allCalls[7]? = some ((10, .isub, 0, 0, 0, 0, 0, 0, []) : xm_I) := rfl
theorem r_X11_allCalls_8 : co_X11_allCalls[8]? = some ((11, .ireturn, 0, 0, 0, 0, 0, 0, []) : xm_I) := rfl
theorem p_X11_allCalls_0_0 {X : xm_X} {P : List xm_M} {d : Nat} {h : xm_H} {l0 : Nat} {v0 : Nat} {n1 : Nat} (q0 : X.1[l0]? = some (.inr 10)) (q1 : h.2.2 l0 1 = some v0) (q2 : X.1[v0]? = some (.inl (0, n1))) (q3 : 19 < n1) : xm_E X P d co_X11_allCalls 0 [some (.ref l0)] [] h (some (.int (((1 : Int32) <<< ((h.1 v0 19) &&& 31)) - (1 : Int32)))) h := by
  refine xm_E_s r_X11_allCalls_0 rfl rfl ?_
  refine xm_E_s r_X11_allCalls_1 rfl rfl ?_
  refine xm_E_s r_X11_allCalls_2 rfl (xm_T_gr rfl q0 rfl rfl q1) ?_
  refine xm_E_s r_X11_allCalls_3 rfl rfl ?_
  refine xm_E_s r_X11_allCalls_4 rfl (xm_T_iald rfl q2 (by decide) (fun e => e.elim (fun e => absurd e (by decide)) (fun e => Nat.not_le.mpr q3 e))) ?_
  refine xm_E_s r_X11_allCalls_5 rfl rfl ?_
  refine xm_E_s r_X11_allCalls_6 rfl rfl ?_
  refine xm_E_s r_X11_allCalls_7 rfl rfl ?_
  exact xm_E_iret r_X11_allCalls_8 rfl rfl
theorem r_X11_words_0 : co_X11_words[0]? = some ((0, .aload_n 0, 0, 0, 0, 0, 0, 0, []) : xm_I) := rfl
theorem r_X11_words_1 : co_X11_words[1]? = some ((1, .invokevirtual 420, 1802, 258, 1, 10, 0, 0, []) : xm_I) := rfl
theorem r_X11_words_2 : co_X11_words[2]? = some ((4, .ifCond .eq 13, 0, 0, 9, 0, 0, 0, []) : xm_I) := rfl
theorem r_X11_words_3 : co_X11_words[3]? = some ((7, .iload_n 1, 0, 0, 0, 0, 0, 0, []) : xm_I) := rfl
theorem r_X11_words_4 : co_X11_words[4]? = some ((8, .i2l, 0, 0, 0, 0, 0, 0, []) : xm_I) := rfl
theorem r_X11_words_5 : co_X11_words[5]? = some ((9, .lconst 0, 0, 0, 0, 0, 0, 0, []) : xm_I) := rfl
theorem r_X11_words_6 : co_X11_words[6]? = some ((10, .lconst 1, 0, 0, 0, 0, 0, 1, []) : xm_I) := rfl
theorem r_X11_words_7 : co_X11_words[7]? = some ((11, .invokestatic 84, 1503, 191, 3, 0, 0, 0, []) : xm_I) := rfl
theorem r_X11_words_8 : co_X11_words[8]? = some ((14, .ifCond .ne 6, 0, 0, 11, 0, 0, 0, []) : xm_I) := rfl
theorem r_X11_words_9 : co_X11_words[9]? = some ((17, .bipush (-2), 0, 0, 0, 0, (-2), 0, []) : xm_I) := rfl
theorem r_X11_words_10 : co_X11_words[10]? = some ((19, .ireturn, 0, 0, 0, 0, 0, 0, []) : xm_I) := rfl
theorem r_X11_words_11 : co_X11_words[11]? = some ((20, .iconst (-1), 0, 0, 0, 0, (-1), 0, []) : xm_I) := rfl
theorem r_X11_words_12 : co_X11_words[12]? = some ((21, .istore_n 2, 0, 0, 0, 0, 0, 0, []) : xm_I) := rfl
theorem r_X11_words_13 : co_X11_words[13]? = some ((22, .iconst 0, 0, 0, 0, 0, 0, 0, []) : xm_I) := rfl
theorem r_X11_words_14 : co_X11_words[14]? = some ((23, .istore_n 3, 0, 0, 0, 0, 0, 0, []) : xm_I) := rfl
theorem r_X11_words_15 : co_X11_words[15]? = some ((24, .iload_n 3, 0, 0, 0, 0, 0, 0, []) : xm_I) := rfl
theorem r_X11_words_16 : co_X11_words[16]? = some ((25, .aload_n 0, 0, 0, 0, 0, 0, 0, []) : xm_I) := rfl
theorem r_X11_words_17 : co_X11_words[17]? = some ((26, .invokevirtual 446, 1931, 289, 1, 10, 0, 0, []) : xm_I) := rfl
theorem r_X11_words_18 : co_X11_words[18]? = some ((29, .if_icmp .gt 51, 0, 0, 45, 0, 0, 0, []) : xm_I) := rfl
theorem r_X11_words_19 : co_X11_words[19]? = some ((32, .iload_n 2, 0, 0, 0, 0, 0, 0, []) : xm_I) := rfl
theorem r_X11_words_20 : co_X11_words[20]? = some ((33, .iconst (-1), 0, 0, 0, 0, (-1), 0, []) : xm_I) := rfl
theorem r_X11_words_21 : co_X11_words[21]? = some ((34, .if_icmp .eq 17, 0, 0, 28, 0, 0, 0, []) : xm_I) := rfl
theorem r_X11_words_22 : co_X11_words[22]? = some ((37, .iload_n 3, 0, 0, 0, 0, 0, 0, []) : xm_I) := rfl
theorem r_X11_words_23 : co_X11_words[23]? = some ((38, .invokestatic 449, 1939, 291, 1, 0, 0, 0, []) : xm_I) := rfl
theorem r_X11_words_24 : co_X11_words[24]? = some ((41, .iload_n 2, 0, 0, 0, 0, 0, 0, []) : xm_I) := rfl
theorem r_X11_words_25 : co_X11_words[25]? = some ((42, .invokestatic 449, 1939, 291, 1, 0, 0, 0, []) : xm_I) := rfl
theorem r_X11_words_26 : co_X11_words[26]? = some ((45, .if_icmp .lt 6, 0, 0, 28, 0, 0, 0, []) : xm_I) := rfl
theorem r_X11_words_27 : co_X11_words[27]? = some ((48, .goto 26, 0, 0, 43, 0, 0, 0, []) : xm_I) := rfl
theorem r_X11_words_28 : co_X11_words[28]? = some ((51, .aload_n 0, 0, 0, 0, 0, 0, 0, []) : xm_I) := rfl
theorem r_X11_words_29 : co_X11_words[29]? = some ((52, .aload_n 0, 0, 0, 0, 0, 0, 0, []) : xm_I) := rfl
theorem r_X11_words_30 : co_X11_words[30]? = some ((53, .getfield 9, 1381, 10, 1, 2, 0, 0, []) : xm_I) := rfl
theorem r_X11_words_31 : co_X11_words[31]? = some ((56, .iconst 3, 0, 0, 0, 0, 3, 0, []) : xm_I) := rfl
theorem r_X11_words_32 : co_X11_words[32]? = some ((57, .iaload, 0, 0, 0, 0, 0, 0, []) : xm_I) := rfl
theorem r_X11_words_33 : co_X11_words[33]? = some ((58, .iconst 0, 0, 0, 0, 0, 0, 0, []) : xm_I) := rfl
theorem r_X11_words_34 : co_X11_words[34]? = some ((59, .iload_n 3, 0, 0, 0, 0, 0, 0, []) : xm_I) := rfl
theorem r_X11_words_35 : co_X11_words[35]? = some ((60, .iconst 0, 0, 0, 0, 0, 0, 0, []) : xm_I) := rfl
theorem r_X11_words_36 : co_X11_words[36]? = some ((61, .invokevirtual 423, 1810, 260, 5, 10, 0, 0, []) : xm_I) := rfl
theorem r_X11_words_37 : co_X11_words[37]? = some ((64, .iconst (-1), 0, 0, 0, 0, (-1), 0, []) : xm_I) := rfl
theorem r_X11_words_38 : co_X11_words[38]? = some ((65, .if_icmp .ne 7, 0, 0, 41, 0, 0, 0, []) : xm_I) := rfl
theorem r_X11_words_39 : co_X11_words[39]? = some ((68, .iload_n 2, 0, 0, 0, 0, 0, 0, []) : xm_I) := rfl
theorem r_X11_words_40 : co_X11_words[40]? = some ((69, .goto 4, 0, 0, 42, 0, 0, 0, []) : xm_I) := rfl
theorem r_X11_words_41 : co_X11_words[41]? = some ((72, .iload_n 3, 0, 0, 0, 0, 0, 0, []) : xm_I) := rfl
theorem r_X11_words_42 : co_X11_words[42]? = some ((73, .istore_n 2, 0, 0, 0, 0, 0, 0, []) : xm_I) := rfl
theorem r_X11_words_43 : co_X11_words[43]? = some ((74, .iinc 3 1, 0, 0, 0, 0, 1, 0, []) : xm_I) := rfl
theorem r_X11_words_44 : co_X11_words[44]? = some ((77, .goto (-53), 0, 0, 15, 0, 0, 0, []) : xm_I) := rfl
theorem r_X11_words_45 : co_X11_words[45]? = some ((80, .iload_n 2, 0, 0, 0, 0, 0, 0, []) : xm_I) := rfl
theorem r_X11_words_46 : co_X11_words[46]? = some ((81, .iconst (-1), 0, 0, 0, 0, (-1), 0, []) : xm_I) := rfl
theorem r_X11_words_47 : co_X11_words[47]? = some ((82, .if_icmp .eq 8, 0, 0, 51, 0, 0, 0, []) : xm_I) := rfl
theorem r_X11_words_48 : co_X11_words[48]? = some ((85, .iload_n 1, 0, 0, 0, 0, 0, 0, []) : xm_I) := rfl
theorem r_X11_words_49 : co_X11_words[49]? = some ((86, .iconst 1, 0, 0, 0, 0, 1, 0, []) : xm_I) := rfl
theorem r_X11_words_50 : co_X11_words[50]? = some ((87, .if_icmp .ne 7, 0, 0, 53, 0, 0, 0, []) : xm_I) := rfl
theorem r_X11_words_51 : co_X11_words[51]? = some ((90, .iload_n 2, 0, 0, 0, 0, 0, 0, []) : xm_I) := rfl
theorem r_X11_words_52 : co_X11_words[52]? = some ((91, .goto 7, 0, 0, 55, 0, 0, 0, []) : xm_I) := rfl
theorem r_X11_words_53 : co_X11_words[53]? = some ((94, .iload_n 2, 0, 0, 0, 0, 0, 0, []) : xm_I) := rfl
theorem r_X11_words_54 : co_X11_words[54]? = some ((95, .invokestatic 449, 1939, 291, 1, 0, 0, 0, []) : xm_I) := rfl
theorem r_X11_words_55 : co_X11_words[55]? = some ((98, .ireturn, 0, 0, 0, 0, 0, 0, []) : xm_I) := rfl
theorem p_X11_words_0_0 {X : xm_X} {P : List xm_M} {d : Nat} {h : xm_H} {l0 : Nat} {l1 : Int32} {h0 : xm_H} {r0 : Int32} (q0 : xm_V X P d 258 [.ref l0] h (some (.int r0)) h0) (q1 : X.1[l0]? = some (.inr 10)) (q2 : r0 = (0 : Int32)) : xm_E X P d co_X11_words 0 [some (.ref l0), some (.int l1), none, none] [] h (some (.int (-2 : Int32))) h0 := by
  refine xm_E_s r_X11_words_0 rfl rfl ?_
  refine xm_E_cv [.ref l0] [] r_X11_words_1 rfl rfl (Nat.le_of_ble_eq_true rfl) (xm_rc q1 (by decide)) rfl q0 ?_
  refine xm_E_s r_X11_words_2 rfl rfl ?_
  refine xm_E_t q2 ?_
  refine xm_E_s r_X11_words_9 rfl rfl ?_
  exact xm_E_iret r_X11_words_10 rfl rfl
theorem p_X11_words_0_1 {X : xm_X} {P : List xm_M} {d : Nat} {h : xm_H} {l0 : Nat} {l1 : Int32} {h0 : xm_H} {r0 : Int32} {h1 : xm_H} {r1 : Int32} (q0 : xm_V X P d 258 [.ref l0] h (some (.int r0)) h0) (q1 : X.1[l0]? = some (.inr 10)) (q2 : ¬ (r0 = (0 : Int32))) (q3 : xm_V X P d 191 [.long l1.toInt64, .long (0 : Int64), .long (1 : Int64)] h0 (some (.int r1)) h1) (q4 : r1 = (0 : Int32)) : xm_E X P d co_X11_words 0 [some (.ref l0), some (.int l1), none, none] [] h (some (.int (-2 : Int32))) h1 := by
  refine xm_E_s r_X11_words_0 rfl rfl ?_
  refine xm_E_cv [.ref l0] [] r_X11_words_1 rfl rfl (Nat.le_of_ble_eq_true rfl) (xm_rc q1 (by decide)) rfl q0 ?_
  refine xm_E_s r_X11_words_2 rfl rfl ?_
  refine xm_E_f q2 ?_
  refine xm_E_s r_X11_words_3 rfl rfl ?_
  refine xm_E_s r_X11_words_4 rfl rfl ?_
  refine xm_E_s r_X11_words_5 rfl rfl ?_
  refine xm_E_s r_X11_words_6 rfl rfl ?_
  refine xm_E_cs [.long l1.toInt64, .long (0 : Int64), .long (1 : Int64)] [] r_X11_words_7 rfl rfl rfl (Nat.le_of_ble_eq_true rfl) rfl q3 ?_
  refine xm_E_s r_X11_words_8 rfl rfl ?_
  refine xm_E_t q4 ?_
  refine xm_E_s r_X11_words_9 rfl rfl ?_
  exact xm_E_iret r_X11_words_10 rfl rfl
theorem p_X11_words_0_2 {X : xm_X} {P : List xm_M} {d : Nat} {h : xm_H} {l0 : Nat} {l1 : Int32} {h0 : xm_H} {r0 : Int32} {h1 : xm_H} {r1 : Int32} {ro : Option Value} {ho : xm_H} (q0 : xm_V X P d 258 [.ref l0] h (some (.int r0)) h0) (q1 : X.1[l0]? = some (.inr 10)) (q2 : ¬ (r0 = (0 : Int32))) (q3 : xm_V X P d 191 [.long l1.toInt64, .long (0 : Int64), .long (1 : Int64)] h0 (some (.int r1)) h1) (q4 : ¬ (r1 = (0 : Int32))) (K : xm_E X P d co_X11_words 15 [some (.ref l0), some (.int l1), some (.int (-1 : Int32)), some (.int (0 : Int32))] [] h1 ro ho) : xm_E X P d co_X11_words 0 [some (.ref l0), some (.int l1), none, none] [] h ro ho := by
  refine xm_E_s r_X11_words_0 rfl rfl ?_
  refine xm_E_cv [.ref l0] [] r_X11_words_1 rfl rfl (Nat.le_of_ble_eq_true rfl) (xm_rc q1 (by decide)) rfl q0 ?_
  refine xm_E_s r_X11_words_2 rfl rfl ?_
  refine xm_E_f q2 ?_
  refine xm_E_s r_X11_words_3 rfl rfl ?_
  refine xm_E_s r_X11_words_4 rfl rfl ?_
  refine xm_E_s r_X11_words_5 rfl rfl ?_
  refine xm_E_s r_X11_words_6 rfl rfl ?_
  refine xm_E_cs [.long l1.toInt64, .long (0 : Int64), .long (1 : Int64)] [] r_X11_words_7 rfl rfl rfl (Nat.le_of_ble_eq_true rfl) rfl q3 ?_
  refine xm_E_s r_X11_words_8 rfl rfl ?_
  refine xm_E_f q4 ?_
  refine xm_E_s r_X11_words_11 rfl rfl ?_
  refine xm_E_s (ls1 := [some (.ref l0), some (.int l1), some (.int (-1 : Int32)), none]) r_X11_words_12 rfl rfl ?_
  refine xm_E_s r_X11_words_13 rfl rfl ?_
  refine xm_E_s (ls1 := [some (.ref l0), some (.int l1), some (.int (-1 : Int32)), some (.int (0 : Int32))]) r_X11_words_14 rfl rfl ?_
  exact K
theorem p_X11_words_15_0 {X : xm_X} {P : List xm_M} {d : Nat} {h : xm_H} {l0 : Nat} {l1 : Int32} {l2 : Int32} {l3 : Int32} {h0 : xm_H} {r0 : Int32} (q0 : xm_V X P d 289 [.ref l0] h (some (.int r0)) h0) (q1 : X.1[l0]? = some (.inr 10)) (q2 : r0 < l3) (q3 : l2 = (-1 : Int32)) : xm_E X P d co_X11_words 15 [some (.ref l0), some (.int l1), some (.int l2), some (.int l3)] [] h (some (.int l2)) h0 := by
  refine xm_E_s r_X11_words_15 rfl rfl ?_
  refine xm_E_s r_X11_words_16 rfl rfl ?_
  refine xm_E_cv [.ref l0] [.int l3] r_X11_words_17 rfl rfl (Nat.le_of_ble_eq_true rfl) (xm_rc q1 (by decide)) rfl q0 ?_
  refine xm_E_s r_X11_words_18 rfl rfl ?_
  refine xm_E_t q2 ?_
  refine xm_E_s r_X11_words_45 rfl rfl ?_
  refine xm_E_s r_X11_words_46 rfl rfl ?_
  refine xm_E_s r_X11_words_47 rfl rfl ?_
  refine xm_E_t q3 ?_
  refine xm_E_s r_X11_words_51 rfl rfl ?_
  refine xm_E_s r_X11_words_52 rfl rfl ?_
  exact xm_E_iret r_X11_words_55 rfl rfl
theorem p_X11_words_15_1 {X : xm_X} {P : List xm_M} {d : Nat} {h : xm_H} {l0 : Nat} {l1 : Int32} {l2 : Int32} {l3 : Int32} {h0 : xm_H} {r0 : Int32} (q0 : xm_V X P d 289 [.ref l0] h (some (.int r0)) h0) (q1 : X.1[l0]? = some (.inr 10)) (q2 : r0 < l3) (q3 : ¬ (l2 = (-1 : Int32))) (q4 : l1 = (1 : Int32)) : xm_E X P d co_X11_words 15 [some (.ref l0), some (.int l1), some (.int l2), some (.int l3)] [] h (some (.int l2)) h0 := by
  refine xm_E_s r_X11_words_15 rfl rfl ?_
  refine xm_E_s r_X11_words_16 rfl rfl ?_
  refine xm_E_cv [.ref l0] [.int l3] r_X11_words_17 rfl rfl (Nat.le_of_ble_eq_true rfl) (xm_rc q1 (by decide)) rfl q0 ?_
  refine xm_E_s r_X11_words_18 rfl rfl ?_
  refine xm_E_t q2 ?_
  refine xm_E_s r_X11_words_45 rfl rfl ?_
  refine xm_E_s r_X11_words_46 rfl rfl ?_
  refine xm_E_s r_X11_words_47 rfl rfl ?_
  refine xm_E_f q3 ?_
  refine xm_E_s r_X11_words_48 rfl rfl ?_
  refine xm_E_s r_X11_words_49 rfl rfl ?_
  refine xm_E_s r_X11_words_50 rfl rfl ?_
  refine xm_E_t q4 ?_
  refine xm_E_s r_X11_words_51 rfl rfl ?_
  refine xm_E_s r_X11_words_52 rfl rfl ?_
  exact xm_E_iret r_X11_words_55 rfl rfl
theorem p_X11_words_15_2 {X : xm_X} {P : List xm_M} {d : Nat} {h : xm_H} {l0 : Nat} {l1 : Int32} {l2 : Int32} {l3 : Int32} {h0 : xm_H} {r0 : Int32} {h1 : xm_H} {r1 : Int32} (q0 : xm_V X P d 289 [.ref l0] h (some (.int r0)) h0) (q1 : X.1[l0]? = some (.inr 10)) (q2 : r0 < l3) (q3 : ¬ (l2 = (-1 : Int32))) (q4 : ¬ (l1 = (1 : Int32))) (q5 : xm_V X P d 291 [.int l2] h0 (some (.int r1)) h1) : xm_E X P d co_X11_words 15 [some (.ref l0), some (.int l1), some (.int l2), some (.int l3)] [] h (some (.int r1)) h1 := by
  refine xm_E_s r_X11_words_15 rfl rfl ?_
  refine xm_E_s r_X11_words_16 rfl rfl ?_
  refine xm_E_cv [.ref l0] [.int l3] r_X11_words_17 rfl rfl (Nat.le_of_ble_eq_true rfl) (xm_rc q1 (by decide)) rfl q0 ?_
  refine xm_E_s r_X11_words_18 rfl rfl ?_
  refine xm_E_t q2 ?_
  refine xm_E_s r_X11_words_45 rfl rfl ?_
  refine xm_E_s r_X11_words_46 rfl rfl ?_
  refine xm_E_s r_X11_words_47 rfl rfl ?_
  refine xm_E_f q3 ?_
  refine xm_E_s r_X11_words_48 rfl rfl ?_
  refine xm_E_s r_X11_words_49 rfl rfl ?_
  refine xm_E_s r_X11_words_50 rfl rfl ?_
  refine xm_E_f q4 ?_
  refine xm_E_s r_X11_words_53 rfl rfl ?_
  refine xm_E_cs [.int l2] [] r_X11_words_54 rfl rfl rfl (Nat.le_of_ble_eq_true rfl) rfl q5 ?_
  exact xm_E_iret r_X11_words_55 rfl rfl
theorem p_X11_words_15_3 {X : xm_X} {P : List xm_M} {d : Nat} {h : xm_H} {l0 : Nat} {l1 : Int32} {l2 : Int32} {l3 : Int32} {h0 : xm_H} {r0 : Int32} {v1 : Nat} {n2 : Nat} {h3 : xm_H} {r3 : Int32} {ro : Option Value} {ho : xm_H} (q0 : xm_V X P d 289 [.ref l0] h (some (.int r0)) h0) (q1 : X.1[l0]? = some (.inr 10)) (q2 : ¬ (r0 < l3)) (q3 : l2 = (-1 : Int32)) (q4 : h0.2.2 l0 1 = some v1) (q5 : X.1[v1]? = some (.inl (0, n2))) (q6 : 3 < n2) (q7 : xm_V X P d 260 [.ref l0, .int (h0.1 v1 3), .int (0 : Int32), .int l3, .int (0 : Int32)] h0 (some (.int r3)) h3) (q8 : r3 = (-1 : Int32)) (K : xm_E X P d co_X11_words 15 [some (.ref l0), some (.int l1), some (.int l2), some (.int (l3 + (1 : Int32)))] [] h3 ro ho) : xm_E X P d co_X11_words 15 [some (.ref l0), some (.int l1), some (.int l2), some (.int l3)] [] h ro ho := by
  refine xm_E_s r_X11_words_15 rfl rfl ?_
  refine xm_E_s r_X11_words_16 rfl rfl ?_
  refine xm_E_cv [.ref l0] [.int l3] r_X11_words_17 rfl rfl (Nat.le_of_ble_eq_true rfl) (xm_rc q1 (by decide)) rfl q0 ?_
  refine xm_E_s r_X11_words_18 rfl rfl ?_
  refine xm_E_f q2 ?_
  refine xm_E_s r_X11_words_19 rfl rfl ?_
  refine xm_E_s r_X11_words_20 rfl rfl ?_
  refine xm_E_s r_X11_words_21 rfl rfl ?_
  refine xm_E_t q3 ?_
  refine xm_E_s r_X11_words_28 rfl rfl ?_
  refine xm_E_s r_X11_words_29 rfl rfl ?_
  refine xm_E_s r_X11_words_30 rfl (xm_T_gr rfl q1 rfl rfl q4) ?_
  refine xm_E_s r_X11_words_31 rfl rfl ?_
  refine xm_E_s r_X11_words_32 rfl (xm_T_iald rfl q5 (by decide) (fun e => e.elim (fun e => absurd e (by decide)) (fun e => Nat.not_le.mpr q6 e))) ?_
  refine xm_E_s r_X11_words_33 rfl rfl ?_
  refine xm_E_s r_X11_words_34 rfl rfl ?_
  refine xm_E_s r_X11_words_35 rfl rfl ?_
  refine xm_E_cv [.ref l0, .int (h0.1 v1 3), .int (0 : Int32), .int l3, .int (0 : Int32)] [] r_X11_words_36 rfl rfl (Nat.le_of_ble_eq_true rfl) (xm_rc q1 (by decide)) rfl q7 ?_
  refine xm_E_s r_X11_words_37 rfl rfl ?_
  refine xm_E_s r_X11_words_38 rfl rfl ?_
  refine xm_E_t q8 ?_
  refine xm_E_s r_X11_words_39 rfl rfl ?_
  refine xm_E_s r_X11_words_40 rfl rfl ?_
  refine xm_E_s (ls1 := [some (.ref l0), some (.int l1), some (.int l2), some (.int l3)]) r_X11_words_42 rfl rfl ?_
  refine xm_E_s (ls1 := [some (.ref l0), some (.int l1), some (.int l2), some (.int (l3 + (1 : Int32)))]) r_X11_words_43 rfl rfl ?_
  refine xm_E_s r_X11_words_44 rfl rfl ?_
  exact K
theorem p_X11_words_15_4 {X : xm_X} {P : List xm_M} {d : Nat} {h : xm_H} {l0 : Nat} {l1 : Int32} {l2 : Int32} {l3 : Int32} {h0 : xm_H} {r0 : Int32} {v1 : Nat} {n2 : Nat} {h3 : xm_H} {r3 : Int32} {ro : Option Value} {ho : xm_H} (q0 : xm_V X P d 289 [.ref l0] h (some (.int r0)) h0) (q1 : X.1[l0]? = some (.inr 10)) (q2 : ¬ (r0 < l3)) (q3 : l2 = (-1 : Int32)) (q4 : h0.2.2 l0 1 = some v1) (q5 : X.1[v1]? = some (.inl (0, n2))) (q6 : 3 < n2) (q7 : xm_V X P d 260 [.ref l0, .int (h0.1 v1 3), .int (0 : Int32), .int l3, .int (0 : Int32)] h0 (some (.int r3)) h3) (q8 : ¬ (r3 = (-1 : Int32))) (K : xm_E X P d co_X11_words 15 [some (.ref l0), some (.int l1), some (.int l3), some (.int (l3 + (1 : Int32)))] [] h3 ro ho) : xm_E X P d co_X11_words 15 [some (.ref l0), some (.int l1), some (.int l2), some (.int l3)] [] h ro ho := by
  refine xm_E_s r_X11_words_15 rfl rfl ?_
  refine xm_E_s r_X11_words_16 rfl rfl ?_
  refine xm_E_cv [.ref l0] [.int l3] r_X11_words_17 rfl rfl (Nat.le_of_ble_eq_true rfl) (xm_rc q1 (by decide)) rfl q0 ?_
  refine xm_E_s r_X11_words_18 rfl rfl ?_
  refine xm_E_f q2 ?_
  refine xm_E_s r_X11_words_19 rfl rfl ?_
  refine xm_E_s r_X11_words_20 rfl rfl ?_
  refine xm_E_s r_X11_words_21 rfl rfl ?_
  refine xm_E_t q3 ?_
  refine xm_E_s r_X11_words_28 rfl rfl ?_
  refine xm_E_s r_X11_words_29 rfl rfl ?_
  refine xm_E_s r_X11_words_30 rfl (xm_T_gr rfl q1 rfl rfl q4) ?_
  refine xm_E_s r_X11_words_31 rfl rfl ?_
  refine xm_E_s r_X11_words_32 rfl (xm_T_iald rfl q5 (by decide) (fun e => e.elim (fun e => absurd e (by decide)) (fun e => Nat.not_le.mpr q6 e))) ?_
  refine xm_E_s r_X11_words_33 rfl rfl ?_
  refine xm_E_s r_X11_words_34 rfl rfl ?_
  refine xm_E_s r_X11_words_35 rfl rfl ?_
  refine xm_E_cv [.ref l0, .int (h0.1 v1 3), .int (0 : Int32), .int l3, .int (0 : Int32)] [] r_X11_words_36 rfl rfl (Nat.le_of_ble_eq_true rfl) (xm_rc q1 (by decide)) rfl q7 ?_
  refine xm_E_s r_X11_words_37 rfl rfl ?_
  refine xm_E_s r_X11_words_38 rfl rfl ?_
  refine xm_E_f q8 ?_
  refine xm_E_s r_X11_words_41 rfl rfl ?_
  refine xm_E_s (ls1 := [some (.ref l0), some (.int l1), some (.int l3), some (.int l3)]) r_X11_words_42 rfl rfl ?_
  refine xm_E_s (ls1 := [some (.ref l0), some (.int l1), some (.int l3), some (.int (l3 + (1 : Int32)))]) r_X11_words_43 rfl rfl ?_
  refine xm_E_s r_X11_words_44 rfl rfl ?_
  exact K
theorem p_X11_words_15_5 {X : xm_X} {P : List xm_M} {d : Nat} {h : xm_H} {l0 : Nat} {l1 : Int32} {l2 : Int32} {l3 : Int32} {h0 : xm_H} {r0 : Int32} {h1 : xm_H} {r1 : Int32} {h2 : xm_H} {r2 : Int32} {v3 : Nat} {n4 : Nat} {h5 : xm_H} {r5 : Int32} {ro : Option Value} {ho : xm_H} (q0 : xm_V X P d 289 [.ref l0] h (some (.int r0)) h0) (q1 : X.1[l0]? = some (.inr 10)) (q2 : ¬ (r0 < l3)) (q3 : ¬ (l2 = (-1 : Int32))) (q4 : xm_V X P d 291 [.int l3] h0 (some (.int r1)) h1) (q5 : xm_V X P d 291 [.int l2] h1 (some (.int r2)) h2) (q6 : r1 < r2) (q7 : h2.2.2 l0 1 = some v3) (q8 : X.1[v3]? = some (.inl (0, n4))) (q9 : 3 < n4) (q10 : xm_V X P d 260 [.ref l0, .int (h2.1 v3 3), .int (0 : Int32), .int l3, .int (0 : Int32)] h2 (some (.int r5)) h5) (q11 : r5 = (-1 : Int32)) (K : xm_E X P d co_X11_words 15 [some (.ref l0), some (.int l1), some (.int l2), some (.int (l3 + (1 : Int32)))] [] h5 ro ho) : xm_E X P d co_X11_words 15 [some (.ref l0), some (.int l1), some (.int l2), some (.int l3)] [] h ro ho := by
  refine xm_E_s r_X11_words_15 rfl rfl ?_
  refine xm_E_s r_X11_words_16 rfl rfl ?_
  refine xm_E_cv [.ref l0] [.int l3] r_X11_words_17 rfl rfl (Nat.le_of_ble_eq_true rfl) (xm_rc q1 (by decide)) rfl q0 ?_
  refine xm_E_s r_X11_words_18 rfl rfl ?_
  refine xm_E_f q2 ?_
  refine xm_E_s r_X11_words_19 rfl rfl ?_
  refine xm_E_s r_X11_words_20 rfl rfl ?_
  refine xm_E_s r_X11_words_21 rfl rfl ?_
  refine xm_E_f q3 ?_
  refine xm_E_s r_X11_words_22 rfl rfl ?_
  refine xm_E_cs [.int l3] [] r_X11_words_23 rfl rfl rfl (Nat.le_of_ble_eq_true rfl) rfl q4 ?_
  refine xm_E_s r_X11_words_24 rfl rfl ?_
  refine xm_E_cs [.int l2] [.int r1] r_X11_words_25 rfl rfl rfl (Nat.le_of_ble_eq_true rfl) rfl q5 ?_
  refine xm_E_s r_X11_words_26 rfl rfl ?_
  refine xm_E_t q6 ?_
  refine xm_E_s r_X11_words_28 rfl rfl ?_
  refine xm_E_s r_X11_words_29 rfl rfl ?_
  refine xm_E_s r_X11_words_30 rfl (xm_T_gr rfl q1 rfl rfl q7) ?_
  refine xm_E_s r_X11_words_31 rfl rfl ?_
  refine xm_E_s r_X11_words_32 rfl (xm_T_iald rfl q8 (by decide) (fun e => e.elim (fun e => absurd e (by decide)) (fun e => Nat.not_le.mpr q9 e))) ?_
  refine xm_E_s r_X11_words_33 rfl rfl ?_
  refine xm_E_s r_X11_words_34 rfl rfl ?_
  refine xm_E_s r_X11_words_35 rfl rfl ?_
  refine xm_E_cv [.ref l0, .int (h2.1 v3 3), .int (0 : Int32), .int l3, .int (0 : Int32)] [] r_X11_words_36 rfl rfl (Nat.le_of_ble_eq_true rfl) (xm_rc q1 (by decide)) rfl q10 ?_
  refine xm_E_s r_X11_words_37 rfl rfl ?_
  refine xm_E_s r_X11_words_38 rfl rfl ?_
  refine xm_E_t q11 ?_
  refine xm_E_s r_X11_words_39 rfl rfl ?_
  refine xm_E_s r_X11_words_40 rfl rfl ?_
  refine xm_E_s (ls1 := [some (.ref l0), some (.int l1), some (.int l2), some (.int l3)]) r_X11_words_42 rfl rfl ?_
  refine xm_E_s (ls1 := [some (.ref l0), some (.int l1), some (.int l2), some (.int (l3 + (1 : Int32)))]) r_X11_words_43 rfl rfl ?_
  refine xm_E_s r_X11_words_44 rfl rfl ?_
  exact K
theorem p_X11_words_15_6 {X : xm_X} {P : List xm_M} {d : Nat} {h : xm_H} {l0 : Nat} {l1 : Int32} {l2 : Int32} {l3 : Int32} {h0 : xm_H} {r0 : Int32} {h1 : xm_H} {r1 : Int32} {h2 : xm_H} {r2 : Int32} {v3 : Nat} {n4 : Nat} {h5 : xm_H} {r5 : Int32} {ro : Option Value} {ho : xm_H} (q0 : xm_V X P d 289 [.ref l0] h (some (.int r0)) h0) (q1 : X.1[l0]? = some (.inr 10)) (q2 : ¬ (r0 < l3)) (q3 : ¬ (l2 = (-1 : Int32))) (q4 : xm_V X P d 291 [.int l3] h0 (some (.int r1)) h1) (q5 : xm_V X P d 291 [.int l2] h1 (some (.int r2)) h2) (q6 : r1 < r2) (q7 : h2.2.2 l0 1 = some v3) (q8 : X.1[v3]? = some (.inl (0, n4))) (q9 : 3 < n4) (q10 : xm_V X P d 260 [.ref l0, .int (h2.1 v3 3), .int (0 : Int32), .int l3, .int (0 : Int32)] h2 (some (.int r5)) h5) (q11 : ¬ (r5 = (-1 : Int32))) (K : xm_E X P d co_X11_words 15 [some (.ref l0), some (.int l1), some (.int l3), some (.int (l3 + (1 : Int32)))] [] h5 ro ho) : xm_E X P d co_X11_words 15 [some (.ref l0), some (.int l1), some (.int l2), some (.int l3)] [] h ro ho := by
  refine xm_E_s r_X11_words_15 rfl rfl ?_
  refine xm_E_s r_X11_words_16 rfl rfl ?_
  refine xm_E_cv [.ref l0] [.int l3] r_X11_words_17 rfl rfl (Nat.le_of_ble_eq_true rfl) (xm_rc q1 (by decide)) rfl q0 ?_
  refine xm_E_s r_X11_words_18 rfl rfl ?_
  refine xm_E_f q2 ?_
  refine xm_E_s r_X11_words_19 rfl rfl ?_
  refine xm_E_s r_X11_words_20 rfl rfl ?_
  refine xm_E_s r_X11_words_21 rfl rfl ?_
  refine xm_E_f q3 ?_
  refine xm_E_s r_X11_words_22 rfl rfl ?_
  refine xm_E_cs [.int l3] [] r_X11_words_23 rfl rfl rfl (Nat.le_of_ble_eq_true rfl) rfl q4 ?_
  refine xm_E_s r_X11_words_24 rfl rfl ?_
  refine xm_E_cs [.int l2] [.int r1] r_X11_words_25 rfl rfl rfl (Nat.le_of_ble_eq_true rfl) rfl q5 ?_
  refine xm_E_s r_X11_words_26 rfl rfl ?_
  refine xm_E_t q6 ?_
  refine xm_E_s r_X11_words_28 rfl rfl ?_
  refine xm_E_s r_X11_words_29 rfl rfl ?_
  refine xm_E_s r_X11_words_30 rfl (xm_T_gr rfl q1 rfl rfl q7) ?_
  refine xm_E_s r_X11_words_31 rfl rfl ?_
  refine xm_E_s r_X11_words_32 rfl (xm_T_iald rfl q8 (by decide) (fun e => e.elim (fun e => absurd e (by decide)) (fun e => Nat.not_le.mpr q9 e))) ?_
  refine xm_E_s r_X11_words_33 rfl rfl ?_
  refine xm_E_s r_X11_words_34 rfl rfl ?_
  refine xm_E_s r_X11_words_35 rfl rfl ?_
  refine xm_E_cv [.ref l0, .int (h2.1 v3 3), .int (0 : Int32), .int l3, .int (0 : Int32)] [] r_X11_words_36 rfl rfl (Nat.le_of_ble_eq_true rfl) (xm_rc q1 (by decide)) rfl q10 ?_
  refine xm_E_s r_X11_words_37 rfl rfl ?_
  refine xm_E_s r_X11_words_38 rfl rfl ?_
  refine xm_E_f q11 ?_
  refine xm_E_s r_X11_words_41 rfl rfl ?_
  refine xm_E_s (ls1 := [some (.ref l0), some (.int l1), some (.int l3), some (.int l3)]) r_X11_words_42 rfl rfl ?_
  refine xm_E_s (ls1 := [some (.ref l0), some (.int l1), some (.int l3), some (.int (l3 + (1 : Int32)))]) r_X11_words_43 rfl rfl ?_
  refine xm_E_s r_X11_words_44 rfl rfl ?_
  exact K
theorem p_X11_words_15_7 {X : xm_X} {P : List xm_M} {d : Nat} {h : xm_H} {l0 : Nat} {l1 : Int32} {l2 : Int32} {l3 : Int32} {h0 : xm_H} {r0 : Int32} {h1 : xm_H} {r1 : Int32} {h2 : xm_H} {r2 : Int32} {ro : Option Value} {ho : xm_H} (q0 : xm_V X P d 289 [.ref l0] h (some (.int r0)) h0) (q1 : X.1[l0]? = some (.inr 10)) (q2 : ¬ (r0 < l3)) (q3 : ¬ (l2 = (-1 : Int32))) (q4 : xm_V X P d 291 [.int l3] h0 (some (.int r1)) h1) (q5 : xm_V X P d 291 [.int l2] h1 (some (.int r2)) h2) (q6 : ¬ (r1 < r2)) (K : xm_E X P d co_X11_words 15 [some (.ref l0), some (.int l1), some (.int l2), some (.int (l3 + (1 : Int32)))] [] h2 ro ho) : xm_E X P d co_X11_words 15 [some (.ref l0), some (.int l1), some (.int l2), some (.int l3)] [] h ro ho := by
  refine xm_E_s r_X11_words_15 rfl rfl ?_
  refine xm_E_s r_X11_words_16 rfl rfl ?_
  refine xm_E_cv [.ref l0] [.int l3] r_X11_words_17 rfl rfl (Nat.le_of_ble_eq_true rfl) (xm_rc q1 (by decide)) rfl q0 ?_
  refine xm_E_s r_X11_words_18 rfl rfl ?_
  refine xm_E_f q2 ?_
  refine xm_E_s r_X11_words_19 rfl rfl ?_
  refine xm_E_s r_X11_words_20 rfl rfl ?_
  refine xm_E_s r_X11_words_21 rfl rfl ?_
  refine xm_E_f q3 ?_
  refine xm_E_s r_X11_words_22 rfl rfl ?_
  refine xm_E_cs [.int l3] [] r_X11_words_23 rfl rfl rfl (Nat.le_of_ble_eq_true rfl) rfl q4 ?_
  refine xm_E_s r_X11_words_24 rfl rfl ?_
  refine xm_E_cs [.int l2] [.int r1] r_X11_words_25 rfl rfl rfl (Nat.le_of_ble_eq_true rfl) rfl q5 ?_
  refine xm_E_s r_X11_words_26 rfl rfl ?_
  refine xm_E_f q6 ?_
  refine xm_E_s r_X11_words_27 rfl rfl ?_
  refine xm_E_s (ls1 := [some (.ref l0), some (.int l1), some (.int l2), some (.int (l3 + (1 : Int32)))]) r_X11_words_43 rfl rfl ?_
  refine xm_E_s r_X11_words_44 rfl rfl ?_
  exact K
theorem r_X11_bits_0 : co_X11_bits[0]? = some ((0, .iconst 0, 0, 0, 0, 0, 0, 0, []) : xm_I) := rfl
theorem r_X11_bits_1 : co_X11_bits[1]? = some ((1, .istore_n 1, 0, 0, 0, 0, 0, 0, []) : xm_I) := rfl
theorem r_X11_bits_2 : co_X11_bits[2]? = some ((2, .iconst 0, 0, 0, 0, 0, 0, 0, []) : xm_I) := rfl
theorem r_X11_bits_3 : co_X11_bits[3]? = some ((3, .istore_n 2, 0, 0, 0, 0, 0, 0, []) : xm_I) := rfl
theorem r_X11_bits_4 : co_X11_bits[4]? = some ((4, .iload_n 2, 0, 0, 0, 0, 0, 0, []) : xm_I) := rfl
theorem r_X11_bits_5 : co_X11_bits[5]? = some ((5, .bipush 6, 0, 0, 0, 0, 6, 0, []) : xm_I) := rfl
theorem r_X11_bits_6 : co_X11_bits[6]? = some ((7, .if_icmp .ge 17, 0, 0, 17, 0, 0, 0, []) : xm_I) := rfl
theorem r_X11_bits_7 : co_X11_bits[7]? = some ((10, .iload_n 1, 0, 0, 0, 0, 0, 0, []) : xm_I) := rfl
theorem r_X11_bits_8 : co_X11_bits[8]? = some ((11, .iload_n 0, 0, 0, 0, 0, 0, 0, []) : xm_I) := rfl
theorem r_X11_bits_9 : co_X11_bits[9]? = some ((12, .iload_n 2, 0, 0, 0, 0, 0, 0, []) : xm_I) := rfl
theorem r_X11_bits_10 : co_X11_bits[10]? = some ((13, .ishr, 0, 0, 0, 0, 0, 0, []) : xm_I) := rfl
theorem r_X11_bits_11 : co_X11_bits[11]? = some ((14, .iconst 1, 0, 0, 0, 0, 1, 0, []) : xm_I) := rfl
theorem r_X11_bits_12 : co_X11_bits[12]? = some ((15, .iand, 0, 0, 0, 0, 0, 0, []) : xm_I) := rfl
theorem r_X11_bits_13 : co_X11_bits[13]? = some ((16, .iadd, 0, 0, 0, 0, 0, 0, []) : xm_I) := rfl
theorem r_X11_bits_14 : co_X11_bits[14]? = some ((17, .istore_n 1, 0, 0, 0, 0, 0, 0, []) : xm_I) := rfl
theorem r_X11_bits_15 : co_X11_bits[15]? = some ((18, .iinc 2 1, 0, 0, 0, 0, 1, 0, []) : xm_I) := rfl
theorem r_X11_bits_16 : co_X11_bits[16]? = some ((21, .goto (-17), 0, 0, 4, 0, 0, 0, []) : xm_I) := rfl
theorem r_X11_bits_17 : co_X11_bits[17]? = some ((24, .iload_n 1, 0, 0, 0, 0, 0, 0, []) : xm_I) := rfl
theorem r_X11_bits_18 : co_X11_bits[18]? = some ((25, .ireturn, 0, 0, 0, 0, 0, 0, []) : xm_I) := rfl
theorem p_X11_bits_0_0 {X : xm_X} {P : List xm_M} {d : Nat} {h : xm_H} {l0 : Int32} {ro : Option Value} {ho : xm_H}  (K : xm_E X P d co_X11_bits 4 [some (.int l0), some (.int (0 : Int32)), some (.int (0 : Int32))] [] h ro ho) : xm_E X P d co_X11_bits 0 [some (.int l0), none, none] [] h ro ho := by
  refine xm_E_s r_X11_bits_0 rfl rfl ?_
  refine xm_E_s (ls1 := [some (.int l0), some (.int (0 : Int32)), none]) r_X11_bits_1 rfl rfl ?_
  refine xm_E_s r_X11_bits_2 rfl rfl ?_
  refine xm_E_s (ls1 := [some (.int l0), some (.int (0 : Int32)), some (.int (0 : Int32))]) r_X11_bits_3 rfl rfl ?_
  exact K
theorem p_X11_bits_4_0 {X : xm_X} {P : List xm_M} {d : Nat} {h : xm_H} {l0 : Int32} {l1 : Int32} {l2 : Int32} (q0 : (6 : Int32) ≤ l2) : xm_E X P d co_X11_bits 4 [some (.int l0), some (.int l1), some (.int l2)] [] h (some (.int l1)) h := by
  refine xm_E_s r_X11_bits_4 rfl rfl ?_
  refine xm_E_s r_X11_bits_5 rfl rfl ?_
  refine xm_E_s r_X11_bits_6 rfl rfl ?_
  refine xm_E_t q0 ?_
  refine xm_E_s r_X11_bits_17 rfl rfl ?_
  exact xm_E_iret r_X11_bits_18 rfl rfl
theorem p_X11_bits_4_1 {X : xm_X} {P : List xm_M} {d : Nat} {h : xm_H} {l0 : Int32} {l1 : Int32} {l2 : Int32} {ro : Option Value} {ho : xm_H} (q0 : ¬ ((6 : Int32) ≤ l2)) (K : xm_E X P d co_X11_bits 4 [some (.int l0), some (.int (l1 + ((l0 >>> (l2 &&& 31)) &&& (1 : Int32)))), some (.int (l2 + (1 : Int32)))] [] h ro ho) : xm_E X P d co_X11_bits 4 [some (.int l0), some (.int l1), some (.int l2)] [] h ro ho := by
  refine xm_E_s r_X11_bits_4 rfl rfl ?_
  refine xm_E_s r_X11_bits_5 rfl rfl ?_
  refine xm_E_s r_X11_bits_6 rfl rfl ?_
  refine xm_E_f q0 ?_
  refine xm_E_s r_X11_bits_7 rfl rfl ?_
  refine xm_E_s r_X11_bits_8 rfl rfl ?_
  refine xm_E_s r_X11_bits_9 rfl rfl ?_
  refine xm_E_s r_X11_bits_10 rfl rfl ?_
  refine xm_E_s r_X11_bits_11 rfl rfl ?_
  refine xm_E_s r_X11_bits_12 rfl rfl ?_
  refine xm_E_s r_X11_bits_13 rfl rfl ?_
  refine xm_E_s (ls1 := [some (.int l0), some (.int (l1 + ((l0 >>> (l2 &&& 31)) &&& (1 : Int32)))), some (.int l2)]) r_X11_bits_14 rfl rfl ?_
  refine xm_E_s (ls1 := [some (.int l0), some (.int (l1 + ((l0 >>> (l2 &&& 31)) &&& (1 : Int32)))), some (.int (l2 + (1 : Int32)))]) r_X11_bits_15 rfl rfl ?_
  refine xm_E_s r_X11_bits_16 rfl rfl ?_
  exact K
theorem r_X11_alike_0 : co_X11_alike[0]? = some ((0, .aload_n 0, 0, 0, 0, 0, 0, 0, []) : xm_I) := rfl
theorem r_X11_alike_1 : co_X11_alike[1]? = some ((1, .invokevirtual 324, 1643, 216, 1, 10, 0, 0, []) : xm_I) := rfl
theorem r_X11_alike_2 : co_X11_alike[2]? = some ((4, .ifCond .ne 6, 0, 0, 5, 0, 0, 0, []) : xm_I) := rfl
theorem r_X11_alike_3 : co_X11_alike[3]? = some ((7, .bipush (-2), 0, 0, 0, 0, (-2), 0, []) : xm_I) := rfl
theorem r_X11_alike_4 : co_X11_alike[4]? = some ((9, .ireturn, 0, 0, 0, 0, 0, 0, []) : xm_I) := rfl
theorem r_X11_alike_5 : co_X11_alike[5]? = some ((10, .iconst 0, 0, 0, 0, 0, 0, 0, []) : xm_I) := rfl
theorem r_X11_alike_6 : co_X11_alike[6]? = some ((11, .istore_n 1, 0, 0, 0, 0, 0, 0, []) : xm_I) := rfl
theorem r_X11_alike_7 : co_X11_alike[7]? = some ((12, .iconst 0, 0, 0, 0, 0, 0, 0, []) : xm_I) := rfl
theorem r_X11_alike_8 : co_X11_alike[8]? = some ((13, .istore_n 2, 0, 0, 0, 0, 0, 0, []) : xm_I) := rfl
theorem r_X11_alike_9 : co_X11_alike[9]? = some ((14, .iload_n 2, 0, 0, 0, 0, 0, 0, []) : xm_I) := rfl
theorem r_X11_alike_10 : co_X11_alike[10]? = some ((15, .aload_n 0, 0, 0, 0, 0, 0, 0, []) : xm_I) := rfl
theorem r_X11_alike_11 : co_X11_alike[11]? = some ((16, .getfield 9, 1381, 10, 1, 2, 0, 0, []) : xm_I) := rfl
theorem r_X11_alike_12 : co_X11_alike[12]? = some ((19, .bipush 19, 0, 0, 0, 0, 19, 0, []) : xm_I) := rfl
theorem r_X11_alike_13 : co_X11_alike[13]? = some ((21, .iaload, 0, 0, 0, 0, 0, 0, []) : xm_I) := rfl
theorem r_X11_alike_14 : co_X11_alike[14]? = some ((22, .if_icmp .ge 32, 0, 0, 32, 0, 0, 0, []) : xm_I) := rfl
theorem r_X11_alike_15 : co_X11_alike[15]? = some ((25, .iload_n 1, 0, 0, 0, 0, 0, 0, []) : xm_I) := rfl
theorem r_X11_alike_16 : co_X11_alike[16]? = some ((26, .aload_n 0, 0, 0, 0, 0, 0, 0, []) : xm_I) := rfl
theorem r_X11_alike_17 : co_X11_alike[17]? = some ((27, .iload_n 2, 0, 0, 0, 0, 0, 0, []) : xm_I) := rfl
theorem r_X11_alike_18 : co_X11_alike[18]? = some ((28, .invokevirtual 350, 1751, 245, 2, 10, 0, 0, []) : xm_I) := rfl
theorem r_X11_alike_19 : co_X11_alike[19]? = some ((31, .aload_n 0, 0, 0, 0, 0, 0, 0, []) : xm_I) := rfl
theorem r_X11_alike_20 : co_X11_alike[20]? = some ((32, .iload_n 2, 0, 0, 0, 0, 0, 0, []) : xm_I) := rfl
theorem r_X11_alike_21 : co_X11_alike[21]? = some ((33, .invokevirtual 352, 1755, 246, 2, 10, 0, 0, []) : xm_I) := rfl
theorem r_X11_alike_22 : co_X11_alike[22]? = some ((36, .if_icmp .ne 9, 0, 0, 27, 0, 0, 0, []) : xm_I) := rfl
theorem r_X11_alike_23 : co_X11_alike[23]? = some ((39, .iconst 1, 0, 0, 0, 0, 1, 0, []) : xm_I) := rfl
theorem r_X11_alike_24 : co_X11_alike[24]? = some ((40, .iload_n 2, 0, 0, 0, 0, 0, 0, []) : xm_I) := rfl
theorem r_X11_alike_25 : co_X11_alike[25]? = some ((41, .ishl, 0, 0, 0, 0, 0, 0, []) : xm_I) := rfl
theorem r_X11_alike_26 : co_X11_alike[26]? = some ((42, .goto 4, 0, 0, 28, 0, 0, 0, []) : xm_I) := rfl
theorem r_X11_alike_27 : co_X11_alike[27]? = some ((45, .iconst 0, 0, 0, 0, 0, 0, 0, []) : xm_I) := rfl
theorem r_X11_alike_28 : co_X11_alike[28]? = some ((46, .ior, 0, 0, 0, 0, 0, 0, []) : xm_I) := rfl
theorem r_X11_alike_29 : co_X11_alike[29]? = some ((47, .istore_n 1, 0, 0, 0, 0, 0, 0, []) : xm_I) := rfl
theorem r_X11_alike_30 : co_X11_alike[30]? = some ((48, .iinc 2 1, 0, 0, 0, 0, 1, 0, []) : xm_I) := rfl
theorem r_X11_alike_31 : co_X11_alike[31]? = some ((51, .goto (-37), 0, 0, 9, 0, 0, 0, []) : xm_I) := rfl
theorem r_X11_alike_32 : co_X11_alike[32]? = some ((54, .iload_n 1, 0, 0, 0, 0, 0, 0, []) : xm_I) := rfl
theorem r_X11_alike_33 : co_X11_alike[33]? = some ((55, .ireturn, 0, 0, 0, 0, 0, 0, []) : xm_I) := rfl
theorem p_X11_alike_0_0 {X : xm_X} {P : List xm_M} {d : Nat} {h : xm_H} {l0 : Nat} {h0 : xm_H} {r0 : Int32} (q0 : xm_V X P d 216 [.ref l0] h (some (.int r0)) h0) (q1 : X.1[l0]? = some (.inr 10)) (q2 : r0 = (0 : Int32)) : xm_E X P d co_X11_alike 0 [some (.ref l0), none, none] [] h (some (.int (-2 : Int32))) h0 := by
  refine xm_E_s r_X11_alike_0 rfl rfl ?_
  refine xm_E_cv [.ref l0] [] r_X11_alike_1 rfl rfl (Nat.le_of_ble_eq_true rfl) (xm_rc q1 (by decide)) rfl q0 ?_
  refine xm_E_s r_X11_alike_2 rfl rfl ?_
  refine xm_E_t q2 ?_
  refine xm_E_s r_X11_alike_3 rfl rfl ?_
  exact xm_E_iret r_X11_alike_4 rfl rfl
theorem p_X11_alike_0_1 {X : xm_X} {P : List xm_M} {d : Nat} {h : xm_H} {l0 : Nat} {h0 : xm_H} {r0 : Int32} {ro : Option Value} {ho : xm_H} (q0 : xm_V X P d 216 [.ref l0] h (some (.int r0)) h0) (q1 : X.1[l0]? = some (.inr 10)) (q2 : ¬ (r0 = (0 : Int32))) (K : xm_E X P d co_X11_alike 9 [some (.ref l0), some (.int (0 : Int32)), some (.int (0 : Int32))] [] h0 ro ho) : xm_E X P d co_X11_alike 0 [some (.ref l0), none, none] [] h ro ho := by
  refine xm_E_s r_X11_alike_0 rfl rfl ?_
  refine xm_E_cv [.ref l0] [] r_X11_alike_1 rfl rfl (Nat.le_of_ble_eq_true rfl) (xm_rc q1 (by decide)) rfl q0 ?_
  refine xm_E_s r_X11_alike_2 rfl rfl ?_
  refine xm_E_f q2 ?_
  refine xm_E_s r_X11_alike_5 rfl rfl ?_
  refine xm_E_s (ls1 := [some (.ref l0), some (.int (0 : Int32)), none]) r_X11_alike_6 rfl rfl ?_
  refine xm_E_s r_X11_alike_7 rfl rfl ?_
  refine xm_E_s (ls1 := [some (.ref l0), some (.int (0 : Int32)), some (.int (0 : Int32))]) r_X11_alike_8 rfl rfl ?_
  exact K
theorem p_X11_alike_9_0 {X : xm_X} {P : List xm_M} {d : Nat} {h : xm_H} {l0 : Nat} {l1 : Int32} {l2 : Int32} {v0 : Nat} {n1 : Nat} (q0 : X.1[l0]? = some (.inr 10)) (q1 : h.2.2 l0 1 = some v0) (q2 : X.1[v0]? = some (.inl (0, n1))) (q3 : 19 < n1) (q4 : h.1 v0 19 ≤ l2) : xm_E X P d co_X11_alike 9 [some (.ref l0), some (.int l1), some (.int l2)] [] h (some (.int l1)) h := by
  refine xm_E_s r_X11_alike_9 rfl rfl ?_
  refine xm_E_s r_X11_alike_10 rfl rfl ?_
  refine xm_E_s r_X11_alike_11 rfl (xm_T_gr rfl q0 rfl rfl q1) ?_
  refine xm_E_s r_X11_alike_12 rfl rfl ?_
  refine xm_E_s r_X11_alike_13 rfl (xm_T_iald rfl q2 (by decide) (fun e => e.elim (fun e => absurd e (by decide)) (fun e => Nat.not_le.mpr q3 e))) ?_
  refine xm_E_s r_X11_alike_14 rfl rfl ?_
  refine xm_E_t q4 ?_
  refine xm_E_s r_X11_alike_32 rfl rfl ?_
  exact xm_E_iret r_X11_alike_33 rfl rfl
theorem p_X11_alike_9_1 {X : xm_X} {P : List xm_M} {d : Nat} {h : xm_H} {l0 : Nat} {l1 : Int32} {l2 : Int32} {v0 : Nat} {n1 : Nat} {h2 : xm_H} {r2 : Int32} {h3 : xm_H} {r3 : Int32} {ro : Option Value} {ho : xm_H} (q0 : X.1[l0]? = some (.inr 10)) (q1 : h.2.2 l0 1 = some v0) (q2 : X.1[v0]? = some (.inl (0, n1))) (q3 : 19 < n1) (q4 : ¬ (h.1 v0 19 ≤ l2)) (q5 : xm_V X P d 245 [.ref l0, .int l2] h (some (.int r2)) h2) (q6 : xm_V X P d 246 [.ref l0, .int l2] h2 (some (.int r3)) h3) (q7 : r2 = r3) (K : xm_E X P d co_X11_alike 9 [some (.ref l0), some (.int (l1 ||| ((1 : Int32) <<< (l2 &&& 31)))), some (.int (l2 + (1 : Int32)))] [] h3 ro ho) : xm_E X P d co_X11_alike 9 [some (.ref l0), some (.int l1), some (.int l2)] [] h ro ho := by
  refine xm_E_s r_X11_alike_9 rfl rfl ?_
  refine xm_E_s r_X11_alike_10 rfl rfl ?_
  refine xm_E_s r_X11_alike_11 rfl (xm_T_gr rfl q0 rfl rfl q1) ?_
  refine xm_E_s r_X11_alike_12 rfl rfl ?_
  refine xm_E_s r_X11_alike_13 rfl (xm_T_iald rfl q2 (by decide) (fun e => e.elim (fun e => absurd e (by decide)) (fun e => Nat.not_le.mpr q3 e))) ?_
  refine xm_E_s r_X11_alike_14 rfl rfl ?_
  refine xm_E_f q4 ?_
  refine xm_E_s r_X11_alike_15 rfl rfl ?_
  refine xm_E_s r_X11_alike_16 rfl rfl ?_
  refine xm_E_s r_X11_alike_17 rfl rfl ?_
  refine xm_E_cv [.ref l0, .int l2] [.int l1] r_X11_alike_18 rfl rfl (Nat.le_of_ble_eq_true rfl) (xm_rc q0 (by decide)) rfl q5 ?_
  refine xm_E_s r_X11_alike_19 rfl rfl ?_
  refine xm_E_s r_X11_alike_20 rfl rfl ?_
  refine xm_E_cv [.ref l0, .int l2] [.int r2, .int l1] r_X11_alike_21 rfl rfl (Nat.le_of_ble_eq_true rfl) (xm_rc q0 (by decide)) rfl q6 ?_
  refine xm_E_s r_X11_alike_22 rfl rfl ?_
  refine xm_E_t q7 ?_
  refine xm_E_s r_X11_alike_23 rfl rfl ?_
  refine xm_E_s r_X11_alike_24 rfl rfl ?_
  refine xm_E_s r_X11_alike_25 rfl rfl ?_
  refine xm_E_s r_X11_alike_26 rfl rfl ?_
  refine xm_E_s r_X11_alike_28 rfl rfl ?_
  refine xm_E_s (ls1 := [some (.ref l0), some (.int (l1 ||| ((1 : Int32) <<< (l2 &&& 31)))), some (.int l2)]) r_X11_alike_29 rfl rfl ?_
  refine xm_E_s (ls1 := [some (.ref l0), some (.int (l1 ||| ((1 : Int32) <<< (l2 &&& 31)))), some (.int (l2 + (1 : Int32)))]) r_X11_alike_30 rfl rfl ?_
  refine xm_E_s r_X11_alike_31 rfl rfl ?_
  exact K
theorem p_X11_alike_9_2 {X : xm_X} {P : List xm_M} {d : Nat} {h : xm_H} {l0 : Nat} {l1 : Int32} {l2 : Int32} {v0 : Nat} {n1 : Nat} {h2 : xm_H} {r2 : Int32} {h3 : xm_H} {r3 : Int32} {ro : Option Value} {ho : xm_H} (q0 : X.1[l0]? = some (.inr 10)) (q1 : h.2.2 l0 1 = some v0) (q2 : X.1[v0]? = some (.inl (0, n1))) (q3 : 19 < n1) (q4 : ¬ (h.1 v0 19 ≤ l2)) (q5 : xm_V X P d 245 [.ref l0, .int l2] h (some (.int r2)) h2) (q6 : xm_V X P d 246 [.ref l0, .int l2] h2 (some (.int r3)) h3) (q7 : ¬ (r2 = r3)) (K : xm_E X P d co_X11_alike 9 [some (.ref l0), some (.int (l1 ||| (0 : Int32))), some (.int (l2 + (1 : Int32)))] [] h3 ro ho) : xm_E X P d co_X11_alike 9 [some (.ref l0), some (.int l1), some (.int l2)] [] h ro ho := by
  refine xm_E_s r_X11_alike_9 rfl rfl ?_
  refine xm_E_s r_X11_alike_10 rfl rfl ?_
  refine xm_E_s r_X11_alike_11 rfl (xm_T_gr rfl q0 rfl rfl q1) ?_
  refine xm_E_s r_X11_alike_12 rfl rfl ?_
  refine xm_E_s r_X11_alike_13 rfl (xm_T_iald rfl q2 (by decide) (fun e => e.elim (fun e => absurd e (by decide)) (fun e => Nat.not_le.mpr q3 e))) ?_
  refine xm_E_s r_X11_alike_14 rfl rfl ?_
  refine xm_E_f q4 ?_
  refine xm_E_s r_X11_alike_15 rfl rfl ?_
  refine xm_E_s r_X11_alike_16 rfl rfl ?_
  refine xm_E_s r_X11_alike_17 rfl rfl ?_
  refine xm_E_cv [.ref l0, .int l2] [.int l1] r_X11_alike_18 rfl rfl (Nat.le_of_ble_eq_true rfl) (xm_rc q0 (by decide)) rfl q5 ?_
  refine xm_E_s r_X11_alike_19 rfl rfl ?_
  refine xm_E_s r_X11_alike_20 rfl rfl ?_
  refine xm_E_cv [.ref l0, .int l2] [.int r2, .int l1] r_X11_alike_21 rfl rfl (Nat.le_of_ble_eq_true rfl) (xm_rc q0 (by decide)) rfl q6 ?_
  refine xm_E_s r_X11_alike_22 rfl rfl ?_
  refine xm_E_f q7 ?_
  refine xm_E_s r_X11_alike_27 rfl rfl ?_
  refine xm_E_s r_X11_alike_28 rfl rfl ?_
  refine xm_E_s (ls1 := [some (.ref l0), some (.int (l1 ||| (0 : Int32))), some (.int l2)]) r_X11_alike_29 rfl rfl ?_
  refine xm_E_s (ls1 := [some (.ref l0), some (.int (l1 ||| (0 : Int32))), some (.int (l2 + (1 : Int32)))]) r_X11_alike_30 rfl rfl ?_
  refine xm_E_s r_X11_alike_31 rfl rfl ?_
  exact K
theorem r_X11_doubled_0 : co_X11_doubled[0]? = some ((0, .aload_n 0, 0, 0, 0, 0, 0, 0, []) : xm_I) := rfl
theorem r_X11_doubled_1 : co_X11_doubled[1]? = some ((1, .invokevirtual 324, 1643, 216, 1, 10, 0, 0, []) : xm_I) := rfl
theorem r_X11_doubled_2 : co_X11_doubled[2]? = some ((4, .ifCond .ne 6, 0, 0, 5, 0, 0, 0, []) : xm_I) := rfl
theorem r_X11_doubled_3 : co_X11_doubled[3]? = some ((7, .bipush (-2), 0, 0, 0, 0, (-2), 0, []) : xm_I) := rfl
theorem r_X11_doubled_4 : co_X11_doubled[4]? = some ((9, .ireturn, 0, 0, 0, 0, 0, 0, []) : xm_I) := rfl
theorem r_X11_doubled_5 : co_X11_doubled[5]? = some ((10, .iconst 0, 0, 0, 0, 0, 0, 0, []) : xm_I) := rfl
theorem r_X11_doubled_6 : co_X11_doubled[6]? = some ((11, .istore_n 1, 0, 0, 0, 0, 0, 0, []) : xm_I) := rfl
theorem r_X11_doubled_7 : co_X11_doubled[7]? = some ((12, .iconst 0, 0, 0, 0, 0, 0, 0, []) : xm_I) := rfl
theorem r_X11_doubled_8 : co_X11_doubled[8]? = some ((13, .istore_n 2, 0, 0, 0, 0, 0, 0, []) : xm_I) := rfl
theorem r_X11_doubled_9 : co_X11_doubled[9]? = some ((14, .iload_n 2, 0, 0, 0, 0, 0, 0, []) : xm_I) := rfl
theorem r_X11_doubled_10 : co_X11_doubled[10]? = some ((15, .aload_n 0, 0, 0, 0, 0, 0, 0, []) : xm_I) := rfl
theorem r_X11_doubled_11 : co_X11_doubled[11]? = some ((16, .getfield 9, 1381, 10, 1, 2, 0, 0, []) : xm_I) := rfl
theorem r_X11_doubled_12 : co_X11_doubled[12]? = some ((19, .bipush 19, 0, 0, 0, 0, 19, 0, []) : xm_I) := rfl
theorem r_X11_doubled_13 : co_X11_doubled[13]? = some ((21, .iaload, 0, 0, 0, 0, 0, 0, []) : xm_I) := rfl
theorem r_X11_doubled_14 : co_X11_doubled[14]? = some ((22, .if_icmp .ge 58, 0, 0, 46, 0, 0, 0, []) : xm_I) := rfl
theorem r_X11_doubled_15 : co_X11_doubled[15]? = some ((25, .iconst 0, 0, 0, 0, 0, 0, 0, []) : xm_I) := rfl
theorem r_X11_doubled_16 : co_X11_doubled[16]? = some ((26, .istore_n 3, 0, 0, 0, 0, 0, 0, []) : xm_I) := rfl
theorem r_X11_doubled_17 : co_X11_doubled[17]? = some ((27, .iload_n 3, 0, 0, 0, 0, 0, 0, []) : xm_I) := rfl
theorem r_X11_doubled_18 : co_X11_doubled[18]? = some ((28, .iload_n 2, 0, 0, 0, 0, 0, 0, []) : xm_I) := rfl
theorem r_X11_doubled_19 : co_X11_doubled[19]? = some ((29, .if_icmp .ge 45, 0, 0, 44, 0, 0, 0, []) : xm_I) := rfl
theorem r_X11_doubled_20 : co_X11_doubled[20]? = some ((32, .iload_n 1, 0, 0, 0, 0, 0, 0, []) : xm_I) := rfl
theorem r_X11_doubled_21 : co_X11_doubled[21]? = some ((33, .aload_n 0, 0, 0, 0, 0, 0, 0, []) : xm_I) := rfl
theorem r_X11_doubled_22 : co_X11_doubled[22]? = some ((34, .iload_n 2, 0, 0, 0, 0, 0, 0, []) : xm_I) := rfl
theorem r_X11_doubled_23 : co_X11_doubled[23]? = some ((35, .invokevirtual 350, 1751, 245, 2, 10, 0, 0, []) : xm_I) := rfl
theorem r_X11_doubled_24 : co_X11_doubled[24]? = some ((38, .aload_n 0, 0, 0, 0, 0, 0, 0, []) : xm_I) := rfl
theorem r_X11_doubled_25 : co_X11_doubled[25]? = some ((39, .iload_n 3, 0, 0, 0, 0, 0, 0, []) : xm_I) := rfl
theorem r_X11_doubled_26 : co_X11_doubled[26]? = some ((40, .invokevirtual 350, 1751, 245, 2, 10, 0, 0, []) : xm_I) := rfl
theorem r_X11_doubled_27 : co_X11_doubled[27]? = some ((43, .if_icmp .ne 22, 0, 0, 39, 0, 0, 0, []) : xm_I) := rfl
theorem r_X11_doubled_28 : co_X11_doubled[28]? = some ((46, .aload_n 0, 0, 0, 0, 0, 0, 0, []) : xm_I) := rfl
theorem r_X11_doubled_29 : co_X11_doubled[29]? = some ((47, .iload_n 2, 0, 0, 0, 0, 0, 0, []) : xm_I) := rfl
theorem r_X11_doubled_30 : co_X11_doubled[30]? = some ((48, .invokevirtual 352, 1755, 246, 2, 10, 0, 0, []) : xm_I) := rfl
theorem r_X11_doubled_31 : co_X11_doubled[31]? = some ((51, .aload_n 0, 0, 0, 0, 0, 0, 0, []) : xm_I) := rfl
theorem r_X11_doubled_32 : co_X11_doubled[32]? = some ((52, .iload_n 3, 0, 0, 0, 0, 0, 0, []) : xm_I) := rfl
theorem r_X11_doubled_33 : co_X11_doubled[33]? = some ((53, .invokevirtual 352, 1755, 246, 2, 10, 0, 0, []) : xm_I) := rfl
theorem r_X11_doubled_34 : co_X11_doubled[34]? = some ((56, .if_icmp .ne 9, 0, 0, 39, 0, 0, 0, []) : xm_I) := rfl
theorem r_X11_doubled_35 : co_X11_doubled[35]? = some ((59, .iconst 1, 0, 0, 0, 0, 1, 0, []) : xm_I) := rfl
theorem r_X11_doubled_36 : co_X11_doubled[36]? = some ((60, .iload_n 2, 0, 0, 0, 0, 0, 0, []) : xm_I) := rfl
theorem r_X11_doubled_37 : co_X11_doubled[37]? = some ((61, .ishl, 0, 0, 0, 0, 0, 0, []) : xm_I) := rfl
theorem r_X11_doubled_38 : co_X11_doubled[38]? = some ((62, .goto 4, 0, 0, 40, 0, 0, 0, []) : xm_I) := rfl
theorem r_X11_doubled_39 : co_X11_doubled[39]? = some ((65, .iconst 0, 0, 0, 0, 0, 0, 0, []) : xm_I) := rfl
theorem r_X11_doubled_40 : co_X11_doubled[40]? = some ((66, .ior, 0, 0, 0, 0, 0, 0, []) : xm_I) := rfl
theorem r_X11_doubled_41 : co_X11_doubled[41]? = some ((67, .istore_n 1, 0, 0, 0, 0, 0, 0, []) : xm_I) := rfl
theorem r_X11_doubled_42 : co_X11_doubled[42]? = some ((68, .iinc 3 1, 0, 0, 0, 0, 1, 0, []) : xm_I) := rfl
theorem r_X11_doubled_43 : co_X11_doubled[43]? = some ((71, .goto (-44), 0, 0, 17, 0, 0, 0, []) : xm_I) := rfl
theorem r_X11_doubled_44 : co_X11_doubled[44]? = some ((74, .iinc 2 1, 0, 0, 0, 0, 1, 0, []) : xm_I) := rfl
theorem r_X11_doubled_45 : co_X11_doubled[45]? = some ((77, .goto (-63), 0, 0, 9, 0, 0, 0, []) : xm_I) := rfl
theorem r_X11_doubled_46 : co_X11_doubled[46]? = some ((80, .iload_n 1, 0, 0, 0, 0, 0, 0, []) : xm_I) := rfl
theorem r_X11_doubled_47 : co_X11_doubled[47]? = some ((81, .ireturn, 0, 0, 0, 0, 0, 0, []) : xm_I) := rfl
theorem p_X11_doubled_0_0 {X : xm_X} {P : List xm_M} {d : Nat} {h : xm_H} {l0 : Nat} {h0 : xm_H} {r0 : Int32} (q0 : xm_V X P d 216 [.ref l0] h (some (.int r0)) h0) (q1 : X.1[l0]? = some (.inr 10)) (q2 : r0 = (0 : Int32)) : xm_E X P d co_X11_doubled 0 [some (.ref l0), none, none, none] [] h (some (.int (-2 : Int32))) h0 := by
  refine xm_E_s r_X11_doubled_0 rfl rfl ?_
  refine xm_E_cv [.ref l0] [] r_X11_doubled_1 rfl rfl (Nat.le_of_ble_eq_true rfl) (xm_rc q1 (by decide)) rfl q0 ?_
  refine xm_E_s r_X11_doubled_2 rfl rfl ?_
  refine xm_E_t q2 ?_
  refine xm_E_s r_X11_doubled_3 rfl rfl ?_
  exact xm_E_iret r_X11_doubled_4 rfl rfl
theorem p_X11_doubled_0_1 {X : xm_X} {P : List xm_M} {d : Nat} {h : xm_H} {l0 : Nat} {h0 : xm_H} {r0 : Int32} {ro : Option Value} {ho : xm_H} (q0 : xm_V X P d 216 [.ref l0] h (some (.int r0)) h0) (q1 : X.1[l0]? = some (.inr 10)) (q2 : ¬ (r0 = (0 : Int32))) (K : xm_E X P d co_X11_doubled 9 [some (.ref l0), some (.int (0 : Int32)), some (.int (0 : Int32)), none] [] h0 ro ho) : xm_E X P d co_X11_doubled 0 [some (.ref l0), none, none, none] [] h ro ho := by
  refine xm_E_s r_X11_doubled_0 rfl rfl ?_
  refine xm_E_cv [.ref l0] [] r_X11_doubled_1 rfl rfl (Nat.le_of_ble_eq_true rfl) (xm_rc q1 (by decide)) rfl q0 ?_
  refine xm_E_s r_X11_doubled_2 rfl rfl ?_
  refine xm_E_f q2 ?_
  refine xm_E_s r_X11_doubled_5 rfl rfl ?_
  refine xm_E_s (ls1 := [some (.ref l0), some (.int (0 : Int32)), none, none]) r_X11_doubled_6 rfl rfl ?_
  refine xm_E_s r_X11_doubled_7 rfl rfl ?_
  refine xm_E_s (ls1 := [some (.ref l0), some (.int (0 : Int32)), some (.int (0 : Int32)), none]) r_X11_doubled_8 rfl rfl ?_
  exact K
theorem p_X11_doubled_9_0 {X : xm_X} {P : List xm_M} {d : Nat} {h : xm_H} {l0 : Nat} {l1 : Int32} {l2 : Int32} {l3 : Option Value} {v0 : Nat} {n1 : Nat} (q0 : X.1[l0]? = some (.inr 10)) (q1 : h.2.2 l0 1 = some v0) (q2 : X.1[v0]? = some (.inl (0, n1))) (q3 : 19 < n1) (q4 : h.1 v0 19 ≤ l2) : xm_E X P d co_X11_doubled 9 [some (.ref l0), some (.int l1), some (.int l2), l3] [] h (some (.int l1)) h := by
  refine xm_E_s r_X11_doubled_9 rfl rfl ?_
  refine xm_E_s r_X11_doubled_10 rfl rfl ?_
  refine xm_E_s r_X11_doubled_11 rfl (xm_T_gr rfl q0 rfl rfl q1) ?_
  refine xm_E_s r_X11_doubled_12 rfl rfl ?_
  refine xm_E_s r_X11_doubled_13 rfl (xm_T_iald rfl q2 (by decide) (fun e => e.elim (fun e => absurd e (by decide)) (fun e => Nat.not_le.mpr q3 e))) ?_
  refine xm_E_s r_X11_doubled_14 rfl rfl ?_
  refine xm_E_t q4 ?_
  refine xm_E_s r_X11_doubled_46 rfl rfl ?_
  exact xm_E_iret r_X11_doubled_47 rfl rfl
theorem p_X11_doubled_9_1 {X : xm_X} {P : List xm_M} {d : Nat} {h : xm_H} {l0 : Nat} {l1 : Int32} {l2 : Int32} {l3 : Option Value} {v0 : Nat} {n1 : Nat} {ro : Option Value} {ho : xm_H} (q0 : X.1[l0]? = some (.inr 10)) (q1 : h.2.2 l0 1 = some v0) (q2 : X.1[v0]? = some (.inl (0, n1))) (q3 : 19 < n1) (q4 : ¬ (h.1 v0 19 ≤ l2)) (K : xm_E X P d co_X11_doubled 17 [some (.ref l0), some (.int l1), some (.int l2), some (.int (0 : Int32))] [] h ro ho) : xm_E X P d co_X11_doubled 9 [some (.ref l0), some (.int l1), some (.int l2), l3] [] h ro ho := by
  refine xm_E_s r_X11_doubled_9 rfl rfl ?_
  refine xm_E_s r_X11_doubled_10 rfl rfl ?_
  refine xm_E_s r_X11_doubled_11 rfl (xm_T_gr rfl q0 rfl rfl q1) ?_
  refine xm_E_s r_X11_doubled_12 rfl rfl ?_
  refine xm_E_s r_X11_doubled_13 rfl (xm_T_iald rfl q2 (by decide) (fun e => e.elim (fun e => absurd e (by decide)) (fun e => Nat.not_le.mpr q3 e))) ?_
  refine xm_E_s r_X11_doubled_14 rfl rfl ?_
  refine xm_E_f q4 ?_
  refine xm_E_s r_X11_doubled_15 rfl rfl ?_
  refine xm_E_s (ls1 := [some (.ref l0), some (.int l1), some (.int l2), some (.int (0 : Int32))]) r_X11_doubled_16 rfl rfl ?_
  exact K
theorem p_X11_doubled_17_0 {X : xm_X} {P : List xm_M} {d : Nat} {h : xm_H} {l0 : Nat} {l1 : Int32} {l2 : Int32} {l3 : Int32} {ro : Option Value} {ho : xm_H} (q0 : l2 ≤ l3) (K : xm_E X P d co_X11_doubled 9 [some (.ref l0), some (.int l1), some (.int (l2 + (1 : Int32))), some (.int l3)] [] h ro ho) : xm_E X P d co_X11_doubled 17 [some (.ref l0), some (.int l1), some (.int l2), some (.int l3)] [] h ro ho := by
  refine xm_E_s r_X11_doubled_17 rfl rfl ?_
  refine xm_E_s r_X11_doubled_18 rfl rfl ?_
  refine xm_E_s r_X11_doubled_19 rfl rfl ?_
  refine xm_E_t q0 ?_
  refine xm_E_s (ls1 := [some (.ref l0), some (.int l1), some (.int (l2 + (1 : Int32))), some (.int l3)]) r_X11_doubled_44 rfl rfl ?_
  refine xm_E_s r_X11_doubled_45 rfl rfl ?_
  exact K
theorem p_X11_doubled_17_1 {X : xm_X} {P : List xm_M} {d : Nat} {h : xm_H} {l0 : Nat} {l1 : Int32} {l2 : Int32} {l3 : Int32} {h0 : xm_H} {r0 : Int32} {h1 : xm_H} {r1 : Int32} {h2 : xm_H} {r2 : Int32} {h3 : xm_H} {r3 : Int32} {ro : Option Value} {ho : xm_H} (q0 : ¬ (l2 ≤ l3)) (q1 : xm_V X P d 245 [.ref l0, .int l2] h (some (.int r0)) h0) (q2 : X.1[l0]? = some (.inr 10)) (q3 : xm_V X P d 245 [.ref l0, .int l3] h0 (some (.int r1)) h1) (q4 : r0 = r1) (q5 : xm_V X P d 246 [.ref l0, .int l2] h1 (some (.int r2)) h2) (q6 : xm_V X P d 246 [.ref l0, .int l3] h2 (some (.int r3)) h3) (q7 : r2 = r3) (K : xm_E X P d co_X11_doubled 17 [some (.ref l0), some (.int (l1 ||| ((1 : Int32) <<< (l2 &&& 31)))), some (.int l2), some (.int (l3 + (1 : Int32)))] [] h3 ro ho) : xm_E X P d co_X11_doubled 17 [some (.ref l0), some (.int l1), some (.int l2), some (.int l3)] [] h ro ho := by
  refine xm_E_s r_X11_doubled_17 rfl rfl ?_
  refine xm_E_s r_X11_doubled_18 rfl rfl ?_
  refine xm_E_s r_X11_doubled_19 rfl rfl ?_
  refine xm_E_f q0 ?_
  refine xm_E_s r_X11_doubled_20 rfl rfl ?_
  refine xm_E_s r_X11_doubled_21 rfl rfl ?_
  refine xm_E_s r_X11_doubled_22 rfl rfl ?_
  refine xm_E_cv [.ref l0, .int l2] [.int l1] r_X11_doubled_23 rfl rfl (Nat.le_of_ble_eq_true rfl) (xm_rc q2 (by decide)) rfl q1 ?_
  refine xm_E_s r_X11_doubled_24 rfl rfl ?_
  refine xm_E_s r_X11_doubled_25 rfl rfl ?_
  refine xm_E_cv [.ref l0, .int l3] [.int r0, .int l1] r_X11_doubled_26 rfl rfl (Nat.le_of_ble_eq_true rfl) (xm_rc q2 (by decide)) rfl q3 ?_
  refine xm_E_s r_X11_doubled_27 rfl rfl ?_
  refine xm_E_t q4 ?_
  refine xm_E_s r_X11_doubled_28 rfl rfl ?_
  refine xm_E_s r_X11_doubled_29 rfl rfl ?_
  refine xm_E_cv [.ref l0, .int l2] [.int l1] r_X11_doubled_30 rfl rfl (Nat.le_of_ble_eq_true rfl) (xm_rc q2 (by decide)) rfl q5 ?_
  refine xm_E_s r_X11_doubled_31 rfl rfl ?_
  refine xm_E_s r_X11_doubled_32 rfl rfl ?_
  refine xm_E_cv [.ref l0, .int l3] [.int r2, .int l1] r_X11_doubled_33 rfl rfl (Nat.le_of_ble_eq_true rfl) (xm_rc q2 (by decide)) rfl q6 ?_
  refine xm_E_s r_X11_doubled_34 rfl rfl ?_
  refine xm_E_t q7 ?_
  refine xm_E_s r_X11_doubled_35 rfl rfl ?_
  refine xm_E_s r_X11_doubled_36 rfl rfl ?_
  refine xm_E_s r_X11_doubled_37 rfl rfl ?_
  refine xm_E_s r_X11_doubled_38 rfl rfl ?_
  refine xm_E_s r_X11_doubled_40 rfl rfl ?_
  refine xm_E_s (ls1 := [some (.ref l0), some (.int (l1 ||| ((1 : Int32) <<< (l2 &&& 31)))), some (.int l2), some (.int l3)]) r_X11_doubled_41 rfl rfl ?_
  refine xm_E_s (ls1 := [some (.ref l0), some (.int (l1 ||| ((1 : Int32) <<< (l2 &&& 31)))), some (.int l2), some (.int (l3 + (1 : Int32)))]) r_X11_doubled_42 rfl rfl ?_
  refine xm_E_s r_X11_doubled_43 rfl rfl ?_
  exact K
theorem p_X11_doubled_17_2 {X : xm_X} {P : List xm_M} {d : Nat} {h : xm_H} {l0 : Nat} {l1 : Int32} {l2 : Int32} {l3 : Int32} {h0 : xm_H} {r0 : Int32} {h1 : xm_H} {r1 : Int32} {h2 : xm_H} {r2 : Int32} {h3 : xm_H} {r3 : Int32} {ro : Option Value} {ho : xm_H} (q0 : ¬ (l2 ≤ l3)) (q1 : xm_V X P d 245 [.ref l0, .int l2] h (some (.int r0)) h0) (q2 : X.1[l0]? = some (.inr 10)) (q3 : xm_V X P d 245 [.ref l0, .int l3] h0 (some (.int r1)) h1) (q4 : r0 = r1) (q5 : xm_V X P d 246 [.ref l0, .int l2] h1 (some (.int r2)) h2) (q6 : xm_V X P d 246 [.ref l0, .int l3] h2 (some (.int r3)) h3) (q7 : ¬ (r2 = r3)) (K : xm_E X P d co_X11_doubled 17 [some (.ref l0), some (.int (l1 ||| (0 : Int32))), some (.int l2), some (.int (l3 + (1 : Int32)))] [] h3 ro ho) : xm_E X P d co_X11_doubled 17 [some (.ref l0), some (.int l1), some (.int l2), some (.int l3)] [] h ro ho := by
  refine xm_E_s r_X11_doubled_17 rfl rfl ?_
  refine xm_E_s r_X11_doubled_18 rfl rfl ?_
  refine xm_E_s r_X11_doubled_19 rfl rfl ?_
  refine xm_E_f q0 ?_
  refine xm_E_s r_X11_doubled_20 rfl rfl ?_
  refine xm_E_s r_X11_doubled_21 rfl rfl ?_
  refine xm_E_s r_X11_doubled_22 rfl rfl ?_
  refine xm_E_cv [.ref l0, .int l2] [.int l1] r_X11_doubled_23 rfl rfl (Nat.le_of_ble_eq_true rfl) (xm_rc q2 (by decide)) rfl q1 ?_
  refine xm_E_s r_X11_doubled_24 rfl rfl ?_
  refine xm_E_s r_X11_doubled_25 rfl rfl ?_
  refine xm_E_cv [.ref l0, .int l3] [.int r0, .int l1] r_X11_doubled_26 rfl rfl (Nat.le_of_ble_eq_true rfl) (xm_rc q2 (by decide)) rfl q3 ?_
  refine xm_E_s r_X11_doubled_27 rfl rfl ?_
  refine xm_E_t q4 ?_
  refine xm_E_s r_X11_doubled_28 rfl rfl ?_
  refine xm_E_s r_X11_doubled_29 rfl rfl ?_
  refine xm_E_cv [.ref l0, .int l2] [.int l1] r_X11_doubled_30 rfl rfl (Nat.le_of_ble_eq_true rfl) (xm_rc q2 (by decide)) rfl q5 ?_
  refine xm_E_s r_X11_doubled_31 rfl rfl ?_
  refine xm_E_s r_X11_doubled_32 rfl rfl ?_
  refine xm_E_cv [.ref l0, .int l3] [.int r2, .int l1] r_X11_doubled_33 rfl rfl (Nat.le_of_ble_eq_true rfl) (xm_rc q2 (by decide)) rfl q6 ?_
  refine xm_E_s r_X11_doubled_34 rfl rfl ?_
  refine xm_E_f q7 ?_
  refine xm_E_s r_X11_doubled_39 rfl rfl ?_
  refine xm_E_s r_X11_doubled_40 rfl rfl ?_
  refine xm_E_s (ls1 := [some (.ref l0), some (.int (l1 ||| (0 : Int32))), some (.int l2), some (.int l3)]) r_X11_doubled_41 rfl rfl ?_
  refine xm_E_s (ls1 := [some (.ref l0), some (.int (l1 ||| (0 : Int32))), some (.int l2), some (.int (l3 + (1 : Int32)))]) r_X11_doubled_42 rfl rfl ?_
  refine xm_E_s r_X11_doubled_43 rfl rfl ?_
  exact K
theorem p_X11_doubled_17_3 {X : xm_X} {P : List xm_M} {d : Nat} {h : xm_H} {l0 : Nat} {l1 : Int32} {l2 : Int32} {l3 : Int32} {h0 : xm_H} {r0 : Int32} {h1 : xm_H} {r1 : Int32} {ro : Option Value} {ho : xm_H} (q0 : ¬ (l2 ≤ l3)) (q1 : xm_V X P d 245 [.ref l0, .int l2] h (some (.int r0)) h0) (q2 : X.1[l0]? = some (.inr 10)) (q3 : xm_V X P d 245 [.ref l0, .int l3] h0 (some (.int r1)) h1) (q4 : ¬ (r0 = r1)) (K : xm_E X P d co_X11_doubled 17 [some (.ref l0), some (.int (l1 ||| (0 : Int32))), some (.int l2), some (.int (l3 + (1 : Int32)))] [] h1 ro ho) : xm_E X P d co_X11_doubled 17 [some (.ref l0), some (.int l1), some (.int l2), some (.int l3)] [] h ro ho := by
  refine xm_E_s r_X11_doubled_17 rfl rfl ?_
  refine xm_E_s r_X11_doubled_18 rfl rfl ?_
  refine xm_E_s r_X11_doubled_19 rfl rfl ?_
  refine xm_E_f q0 ?_
  refine xm_E_s r_X11_doubled_20 rfl rfl ?_
  refine xm_E_s r_X11_doubled_21 rfl rfl ?_
  refine xm_E_s r_X11_doubled_22 rfl rfl ?_
  refine xm_E_cv [.ref l0, .int l2] [.int l1] r_X11_doubled_23 rfl rfl (Nat.le_of_ble_eq_true rfl) (xm_rc q2 (by decide)) rfl q1 ?_
  refine xm_E_s r_X11_doubled_24 rfl rfl ?_
  refine xm_E_s r_X11_doubled_25 rfl rfl ?_
  refine xm_E_cv [.ref l0, .int l3] [.int r0, .int l1] r_X11_doubled_26 rfl rfl (Nat.le_of_ble_eq_true rfl) (xm_rc q2 (by decide)) rfl q3 ?_
  refine xm_E_s r_X11_doubled_27 rfl rfl ?_
  refine xm_E_f q4 ?_
  refine xm_E_s r_X11_doubled_39 rfl rfl ?_
  refine xm_E_s r_X11_doubled_40 rfl rfl ?_
  refine xm_E_s (ls1 := [some (.ref l0), some (.int (l1 ||| (0 : Int32))), some (.int l2), some (.int l3)]) r_X11_doubled_41 rfl rfl ?_
  refine xm_E_s (ls1 := [some (.ref l0), some (.int (l1 ||| (0 : Int32))), some (.int l2), some (.int (l3 + (1 : Int32)))]) r_X11_doubled_42 rfl rfl ?_
  refine xm_E_s r_X11_doubled_43 rfl rfl ?_
  exact K
theorem r_X11_right_0 : co_X11_right[0]? = some ((0, .aload_n 0, 0, 0, 0, 0, 0, 0, []) : xm_I) := rfl
theorem r_X11_right_1 : co_X11_right[1]? = some ((1, .iload_n 1, 0, 0, 0, 0, 0, 0, []) : xm_I) := rfl
theorem r_X11_right_2 : co_X11_right[2]? = some ((2, .i2l, 0, 0, 0, 0, 0, 0, []) : xm_I) := rfl
theorem r_X11_right_3 : co_X11_right[3]? = some ((3, .invokevirtual 347, 1747, 244, 2, 10, 0, 0, []) : xm_I) := rfl
theorem r_X11_right_4 : co_X11_right[4]? = some ((6, .ifCond .eq 13, 0, 0, 11, 0, 0, 0, []) : xm_I) := rfl
theorem r_X11_right_5 : co_X11_right[5]? = some ((9, .iload_n 2, 0, 0, 0, 0, 0, 0, []) : xm_I) := rfl
theorem r_X11_right_6 : co_X11_right[6]? = some ((10, .i2l, 0, 0, 0, 0, 0, 0, []) : xm_I) := rfl
theorem r_X11_right_7 : co_X11_right[7]? = some ((11, .lconst 0, 0, 0, 0, 0, 0, 0, []) : xm_I) := rfl
theorem r_X11_right_8 : co_X11_right[8]? = some ((12, .lconst 1, 0, 0, 0, 0, 0, 1, []) : xm_I) := rfl
theorem r_X11_right_9 : co_X11_right[9]? = some ((13, .invokestatic 84, 1503, 191, 3, 0, 0, 0, []) : xm_I) := rfl
theorem r_X11_right_10 : co_X11_right[10]? = some ((16, .ifCond .ne 6, 0, 0, 13, 0, 0, 0, []) : xm_I) := rfl
theorem r_X11_right_11 : co_X11_right[11]? = some ((19, .bipush (-2), 0, 0, 0, 0, (-2), 0, []) : xm_I) := rfl
theorem r_X11_right_12 : co_X11_right[12]? = some ((21, .ireturn, 0, 0, 0, 0, 0, 0, []) : xm_I) := rfl
theorem r_X11_right_13 : co_X11_right[13]? = some ((22, .aload_n 0, 0, 0, 0, 0, 0, 0, []) : xm_I) := rfl
theorem r_X11_right_14 : co_X11_right[14]? = some ((23, .aload_n 0, 0, 0, 0, 0, 0, 0, []) : xm_I) := rfl
theorem r_X11_right_15 : co_X11_right[15]? = some ((24, .iload_n 1, 0, 0, 0, 0, 0, 0, []) : xm_I) := rfl
theorem r_X11_right_16 : co_X11_right[16]? = some ((25, .invokevirtual 350, 1751, 245, 2, 10, 0, 0, []) : xm_I) := rfl
theorem r_X11_right_17 : co_X11_right[17]? = some ((28, .iconst 0, 0, 0, 0, 0, 0, 0, []) : xm_I) := rfl
theorem r_X11_right_18 : co_X11_right[18]? = some ((29, .invokevirtual 458, 1954, 295, 3, 10, 0, 0, []) : xm_I) := rfl
theorem r_X11_right_19 : co_X11_right[19]? = some ((32, .i2l, 0, 0, 0, 0, 0, 0, []) : xm_I) := rfl
theorem r_X11_right_20 : co_X11_right[20]? = some ((33, .aload_n 0, 0, 0, 0, 0, 0, 0, []) : xm_I) := rfl
theorem r_X11_right_21 : co_X11_right[21]? = some ((34, .aload_n 0, 0, 0, 0, 0, 0, 0, []) : xm_I) := rfl
theorem r_X11_right_22 : co_X11_right[22]? = some ((35, .iload_n 1, 0, 0, 0, 0, 0, 0, []) : xm_I) := rfl
theorem r_X11_right_23 : co_X11_right[23]? = some ((36, .invokevirtual 352, 1755, 246, 2, 10, 0, 0, []) : xm_I) := rfl
theorem r_X11_right_24 : co_X11_right[24]? = some ((39, .iconst 1, 0, 0, 0, 0, 1, 0, []) : xm_I) := rfl
theorem r_X11_right_25 : co_X11_right[25]? = some ((40, .invokevirtual 458, 1954, 295, 3, 10, 0, 0, []) : xm_I) := rfl
theorem r_X11_right_26 : co_X11_right[26]? = some ((43, .i2l, 0, 0, 0, 0, 0, 0, []) : xm_I) := rfl
theorem r_X11_right_27 : co_X11_right[27]? = some ((44, .lmul, 0, 0, 0, 0, 0, 0, []) : xm_I) := rfl
theorem r_X11_right_28 : co_X11_right[28]? = some ((45, .ldc2_w 461, 1961, 0, 0, 0, 0, 10000, []) : xm_I) := rfl
theorem r_X11_right_29 : co_X11_right[29]? = some ((48, .iload_n 2, 0, 0, 0, 0, 0, 0, []) : xm_I) := rfl
theorem r_X11_right_30 : co_X11_right[30]? = some ((49, .invokestatic 463, 1962, 297, 3, 0, 0, 0, []) : xm_I) := rfl
theorem r_X11_right_31 : co_X11_right[31]? = some ((52, .l2i, 0, 0, 0, 0, 0, 0, []) : xm_I) := rfl
theorem r_X11_right_32 : co_X11_right[32]? = some ((53, .ireturn, 0, 0, 0, 0, 0, 0, []) : xm_I) := rfl
theorem p_X11_right_0_0 {X : xm_X} {P : List xm_M} {d : Nat} {h : xm_H} {l0 : Nat} {l1 : Int32} {l2 : Int32} {h0 : xm_H} {r0 : Int32} (q0 : xm_V X P d 244 [.ref l0, .long l1.toInt64] h (some (.int r0)) h0) (q1 : X.1[l0]? = some (.inr 10)) (q2 : r0 = (0 : Int32)) : xm_E X P d co_X11_right 0 [some (.ref l0), some (.int l1), some (.int l2)] [] h (some (.int (-2 : Int32))) h0 := by
  refine xm_E_s r_X11_right_0 rfl rfl ?_
  refine xm_E_s r_X11_right_1 rfl rfl ?_
  refine xm_E_s r_X11_right_2 rfl rfl ?_
  refine xm_E_cv [.ref l0, .long l1.toInt64] [] r_X11_right_3 rfl rfl (Nat.le_of_ble_eq_true rfl) (xm_rc q1 (by decide)) rfl q0 ?_
  refine xm_E_s r_X11_right_4 rfl rfl ?_
  refine xm_E_t q2 ?_
  refine xm_E_s r_X11_right_11 rfl rfl ?_
  exact xm_E_iret r_X11_right_12 rfl rfl
theorem p_X11_right_0_1 {X : xm_X} {P : List xm_M} {d : Nat} {h : xm_H} {l0 : Nat} {l1 : Int32} {l2 : Int32} {h0 : xm_H} {r0 : Int32} {h1 : xm_H} {r1 : Int32} (q0 : xm_V X P d 244 [.ref l0, .long l1.toInt64] h (some (.int r0)) h0) (q1 : X.1[l0]? = some (.inr 10)) (q2 : ¬ (r0 = (0 : Int32))) (q3 : xm_V X P d 191 [.long l2.toInt64, .long (0 : Int64), .long (1 : Int64)] h0 (some (.int r1)) h1) (q4 : r1 = (0 : Int32)) : xm_E X P d co_X11_right 0 [some (.ref l0), some (.int l1), some (.int l2)] [] h (some (.int (-2 : Int32))) h1 := by
  refine xm_E_s r_X11_right_0 rfl rfl ?_
  refine xm_E_s r_X11_right_1 rfl rfl ?_
  refine xm_E_s r_X11_right_2 rfl rfl ?_
  refine xm_E_cv [.ref l0, .long l1.toInt64] [] r_X11_right_3 rfl rfl (Nat.le_of_ble_eq_true rfl) (xm_rc q1 (by decide)) rfl q0 ?_
  refine xm_E_s r_X11_right_4 rfl rfl ?_
  refine xm_E_f q2 ?_
  refine xm_E_s r_X11_right_5 rfl rfl ?_
  refine xm_E_s r_X11_right_6 rfl rfl ?_
  refine xm_E_s r_X11_right_7 rfl rfl ?_
  refine xm_E_s r_X11_right_8 rfl rfl ?_
  refine xm_E_cs [.long l2.toInt64, .long (0 : Int64), .long (1 : Int64)] [] r_X11_right_9 rfl rfl rfl (Nat.le_of_ble_eq_true rfl) rfl q3 ?_
  refine xm_E_s r_X11_right_10 rfl rfl ?_
  refine xm_E_t q4 ?_
  refine xm_E_s r_X11_right_11 rfl rfl ?_
  exact xm_E_iret r_X11_right_12 rfl rfl
theorem p_X11_right_0_2 {X : xm_X} {P : List xm_M} {d : Nat} {h : xm_H} {l0 : Nat} {l1 : Int32} {l2 : Int32} {h0 : xm_H} {r0 : Int32} {h1 : xm_H} {r1 : Int32} {h2 : xm_H} {r2 : Int32} {h3 : xm_H} {r3 : Int32} {h4 : xm_H} {r4 : Int32} {h5 : xm_H} {r5 : Int32} {h6 : xm_H} {r6 : Int64} (q0 : xm_V X P d 244 [.ref l0, .long l1.toInt64] h (some (.int r0)) h0) (q1 : X.1[l0]? = some (.inr 10)) (q2 : ¬ (r0 = (0 : Int32))) (q3 : xm_V X P d 191 [.long l2.toInt64, .long (0 : Int64), .long (1 : Int64)] h0 (some (.int r1)) h1) (q4 : ¬ (r1 = (0 : Int32))) (q5 : xm_V X P d 245 [.ref l0, .int l1] h1 (some (.int r2)) h2) (q6 : xm_V X P d 295 [.ref l0, .int r2, .int (0 : Int32)] h2 (some (.int r3)) h3) (q7 : xm_V X P d 246 [.ref l0, .int l1] h3 (some (.int r4)) h4) (q8 : xm_V X P d 295 [.ref l0, .int r4, .int (1 : Int32)] h4 (some (.int r5)) h5) (q9 : xm_V X P d 297 [.long (r3.toInt64 * r5.toInt64), .long (10000 : Int64), .int l2] h5 (some (.long r6)) h6) : xm_E X P d co_X11_right 0 [some (.ref l0), some (.int l1), some (.int l2)] [] h (some (.int r6.toInt32)) h6 := by
  refine xm_E_s r_X11_right_0 rfl rfl ?_
  refine xm_E_s r_X11_right_1 rfl rfl ?_
  refine xm_E_s r_X11_right_2 rfl rfl ?_
  refine xm_E_cv [.ref l0, .long l1.toInt64] [] r_X11_right_3 rfl rfl (Nat.le_of_ble_eq_true rfl) (xm_rc q1 (by decide)) rfl q0 ?_
  refine xm_E_s r_X11_right_4 rfl rfl ?_
  refine xm_E_f q2 ?_
  refine xm_E_s r_X11_right_5 rfl rfl ?_
  refine xm_E_s r_X11_right_6 rfl rfl ?_
  refine xm_E_s r_X11_right_7 rfl rfl ?_
  refine xm_E_s r_X11_right_8 rfl rfl ?_
  refine xm_E_cs [.long l2.toInt64, .long (0 : Int64), .long (1 : Int64)] [] r_X11_right_9 rfl rfl rfl (Nat.le_of_ble_eq_true rfl) rfl q3 ?_
  refine xm_E_s r_X11_right_10 rfl rfl ?_
  refine xm_E_f q4 ?_
  refine xm_E_s r_X11_right_13 rfl rfl ?_
  refine xm_E_s r_X11_right_14 rfl rfl ?_
  refine xm_E_s r_X11_right_15 rfl rfl ?_
  refine xm_E_cv [.ref l0, .int l1] [.ref l0] r_X11_right_16 rfl rfl (Nat.le_of_ble_eq_true rfl) (xm_rc q1 (by decide)) rfl q5 ?_
  refine xm_E_s r_X11_right_17 rfl rfl ?_
  refine xm_E_cv [.ref l0, .int r2, .int (0 : Int32)] [] r_X11_right_18 rfl rfl (Nat.le_of_ble_eq_true rfl) (xm_rc q1 (by decide)) rfl q6 ?_
  refine xm_E_s r_X11_right_19 rfl rfl ?_
  refine xm_E_s r_X11_right_20 rfl rfl ?_
  refine xm_E_s r_X11_right_21 rfl rfl ?_
  refine xm_E_s r_X11_right_22 rfl rfl ?_
  refine xm_E_cv [.ref l0, .int l1] [.ref l0, .long r3.toInt64] r_X11_right_23 rfl rfl (Nat.le_of_ble_eq_true rfl) (xm_rc q1 (by decide)) rfl q7 ?_
  refine xm_E_s r_X11_right_24 rfl rfl ?_
  refine xm_E_cv [.ref l0, .int r4, .int (1 : Int32)] [.long r3.toInt64] r_X11_right_25 rfl rfl (Nat.le_of_ble_eq_true rfl) (xm_rc q1 (by decide)) rfl q8 ?_
  refine xm_E_s r_X11_right_26 rfl rfl ?_
  refine xm_E_s r_X11_right_27 rfl rfl ?_
  refine xm_E_s r_X11_right_28 rfl rfl ?_
  refine xm_E_s r_X11_right_29 rfl rfl ?_
  refine xm_E_cs [.long (r3.toInt64 * r5.toInt64), .long (10000 : Int64), .int l2] [] r_X11_right_30 rfl rfl rfl (Nat.le_of_ble_eq_true rfl) rfl q9 ?_
  refine xm_E_s r_X11_right_31 rfl rfl ?_
  exact xm_E_iret r_X11_right_32 rfl rfl
theorem r_X11_rightOf_0 : co_X11_rightOf[0]? = some ((0, .iload_n 1, 0, 0, 0, 0, 0, 0, []) : xm_I) := rfl
theorem r_X11_rightOf_1 : co_X11_rightOf[1]? = some ((1, .invokestatic 456, 1958, 296, 1, 0, 0, 0, []) : xm_I) := rfl
theorem r_X11_rightOf_2 : co_X11_rightOf[2]? = some ((4, .ifCond .eq 18, 0, 0, 12, 0, 0, 0, []) : xm_I) := rfl
theorem r_X11_rightOf_3 : co_X11_rightOf[3]? = some ((7, .bipush 100, 0, 0, 0, 0, 100, 0, []) : xm_I) := rfl
theorem r_X11_rightOf_4 : co_X11_rightOf[4]? = some ((9, .aload_n 0, 0, 0, 0, 0, 0, 0, []) : xm_I) := rfl
theorem r_X11_rightOf_5 : co_X11_rightOf[5]? = some ((10, .getfield 9, 1381, 10, 1, 2, 0, 0, []) : xm_I) := rfl
theorem r_X11_rightOf_6 : co_X11_rightOf[6]? = some ((13, .bipush 11, 0, 0, 0, 0, 11, 0, []) : xm_I) := rfl
theorem r_X11_rightOf_7 : co_X11_rightOf[7]? = some ((15, .iload_n 2, 0, 0, 0, 0, 0, 0, []) : xm_I) := rfl
theorem r_X11_rightOf_8 : co_X11_rightOf[8]? = some ((16, .iadd, 0, 0, 0, 0, 0, 0, []) : xm_I) := rfl
theorem r_X11_rightOf_9 : co_X11_rightOf[9]? = some ((17, .iaload, 0, 0, 0, 0, 0, 0, []) : xm_I) := rfl
theorem r_X11_rightOf_10 : co_X11_rightOf[10]? = some ((18, .isub, 0, 0, 0, 0, 0, 0, []) : xm_I) := rfl
theorem r_X11_rightOf_11 : co_X11_rightOf[11]? = some ((19, .goto 5, 0, 0, 13, 0, 0, 0, []) : xm_I) := rfl
theorem r_X11_rightOf_12 : co_X11_rightOf[12]? = some ((22, .bipush 100, 0, 0, 0, 0, 100, 0, []) : xm_I) := rfl
theorem r_X11_rightOf_13 : co_X11_rightOf[13]? = some ((24, .ireturn, 0, 0, 0, 0, 0, 0, []) : xm_I) := rfl
theorem p_X11_rightOf_0_0 {X : xm_X} {P : List xm_M} {d : Nat} {h : xm_H} {l0 : Nat} {l1 : Int32} {l2 : Int32} {h0 : xm_H} {r0 : Int32} (q0 : xm_V X P d 296 [.int l1] h (some (.int r0)) h0) (q1 : r0 = (0 : Int32)) : xm_E X P d co_X11_rightOf 0 [some (.ref l0), some (.int l1), some (.int l2)] [] h (some (.int (100 : Int32))) h0 := by
  refine xm_E_s r_X11_rightOf_0 rfl rfl ?_
  refine xm_E_cs [.int l1] [] r_X11_rightOf_1 rfl rfl rfl (Nat.le_of_ble_eq_true rfl) rfl q0 ?_
  refine xm_E_s r_X11_rightOf_2 rfl rfl ?_
  refine xm_E_t q1 ?_
  refine xm_E_s r_X11_rightOf_12 rfl rfl ?_
  exact xm_E_iret r_X11_rightOf_13 rfl rfl
theorem p_X11_rightOf_0_1 {X : xm_X} {P : List xm_M} {d : Nat} {h : xm_H} {l0 : Nat} {l1 : Int32} {l2 : Int32} {h0 : xm_H} {r0 : Int32} {v1 : Nat} {n2 : Nat} (q0 : xm_V X P d 296 [.int l1] h (some (.int r0)) h0) (q1 : ¬ (r0 = (0 : Int32))) (q2 : X.1[l0]? = some (.inr 10)) (q3 : h0.2.2 l0 1 = some v1) (q4 : X.1[v1]? = some (.inl (0, n2))) (q5 : ¬ ((11 : Int32) + l2 < 0 ∨ n2 ≤ ((11 : Int32) + l2).toNatClampNeg)) : xm_E X P d co_X11_rightOf 0 [some (.ref l0), some (.int l1), some (.int l2)] [] h (some (.int ((100 : Int32) - (h0.1 v1 (((11 : Int32) + l2).toNatClampNeg))))) h0 := by
  refine xm_E_s r_X11_rightOf_0 rfl rfl ?_
  refine xm_E_cs [.int l1] [] r_X11_rightOf_1 rfl rfl rfl (Nat.le_of_ble_eq_true rfl) rfl q0 ?_
  refine xm_E_s r_X11_rightOf_2 rfl rfl ?_
  refine xm_E_f q1 ?_
  refine xm_E_s r_X11_rightOf_3 rfl rfl ?_
  refine xm_E_s r_X11_rightOf_4 rfl rfl ?_
  refine xm_E_s r_X11_rightOf_5 rfl (xm_T_gr rfl q2 rfl rfl q3) ?_
  refine xm_E_s r_X11_rightOf_6 rfl rfl ?_
  refine xm_E_s r_X11_rightOf_7 rfl rfl ?_
  refine xm_E_s r_X11_rightOf_8 rfl rfl ?_
  refine xm_E_s r_X11_rightOf_9 rfl (xm_T_iald rfl q4 (by decide) q5) ?_
  refine xm_E_s r_X11_rightOf_10 rfl rfl ?_
  refine xm_E_s r_X11_rightOf_11 rfl rfl ?_
  exact xm_E_iret r_X11_rightOf_13 rfl rfl
theorem r_X11_slips_0 : co_X11_slips[0]? = some ((0, .iload_n 0, 0, 0, 0, 0, 0, 0, []) : xm_I) := rfl
theorem r_X11_slips_1 : co_X11_slips[1]? = some ((1, .ifCond .eq 8, 0, 0, 5, 0, 0, 0, []) : xm_I) := rfl
theorem r_X11_slips_2 : co_X11_slips[2]? = some ((4, .iload_n 0, 0, 0, 0, 0, 0, 0, []) : xm_I) := rfl
theorem r_X11_slips_3 : co_X11_slips[3]? = some ((5, .iconst 1, 0, 0, 0, 0, 1, 0, []) : xm_I) := rfl
theorem r_X11_slips_4 : co_X11_slips[4]? = some ((6, .if_icmp .ne 7, 0, 0, 7, 0, 0, 0, []) : xm_I) := rfl
theorem r_X11_slips_5 : co_X11_slips[5]? = some ((9, .iconst 1, 0, 0, 0, 0, 1, 0, []) : xm_I) := rfl
theorem r_X11_slips_6 : co_X11_slips[6]? = some ((10, .goto 4, 0, 0, 8, 0, 0, 0, []) : xm_I) := rfl
theorem r_X11_slips_7 : co_X11_slips[7]? = some ((13, .iconst 0, 0, 0, 0, 0, 0, 0, []) : xm_I) := rfl
theorem r_X11_slips_8 : co_X11_slips[8]? = some ((14, .ireturn, 0, 0, 0, 3, 0, 0, []) : xm_I) := rfl
theorem p_X11_slips_0_0 {X : xm_X} {P : List xm_M} {d : Nat} {h : xm_H} {l0 : Int32} (q0 : l0 = (0 : Int32)) : xm_E X P d co_X11_slips 0 [some (.int l0)] [] h (some (.int (1 : Int32))) h := by
  refine xm_E_s r_X11_slips_0 rfl rfl ?_
  refine xm_E_s r_X11_slips_1 rfl rfl ?_
  refine xm_E_t q0 ?_
  refine xm_E_s r_X11_slips_5 rfl rfl ?_
  refine xm_E_s r_X11_slips_6 rfl rfl ?_
  exact xm_E_iret r_X11_slips_8 rfl rfl
theorem p_X11_slips_0_1 {X : xm_X} {P : List xm_M} {d : Nat} {h : xm_H} {l0 : Int32} (q0 : ¬ (l0 = (0 : Int32))) (q1 : l0 = (1 : Int32)) : xm_E X P d co_X11_slips 0 [some (.int l0)] [] h (some (.int (1 : Int32))) h := by
  refine xm_E_s r_X11_slips_0 rfl rfl ?_
  refine xm_E_s r_X11_slips_1 rfl rfl ?_
  refine xm_E_f q0 ?_
  refine xm_E_s r_X11_slips_2 rfl rfl ?_
  refine xm_E_s r_X11_slips_3 rfl rfl ?_
  refine xm_E_s r_X11_slips_4 rfl rfl ?_
  refine xm_E_t q1 ?_
  refine xm_E_s r_X11_slips_5 rfl rfl ?_
  refine xm_E_s r_X11_slips_6 rfl rfl ?_
  exact xm_E_iret r_X11_slips_8 rfl rfl
theorem p_X11_slips_0_2 {X : xm_X} {P : List xm_M} {d : Nat} {h : xm_H} {l0 : Int32} (q0 : ¬ (l0 = (0 : Int32))) (q1 : ¬ (l0 = (1 : Int32))) : xm_E X P d co_X11_slips 0 [some (.int l0)] [] h (some (.int (0 : Int32))) h := by
  refine xm_E_s r_X11_slips_0 rfl rfl ?_
  refine xm_E_s r_X11_slips_1 rfl rfl ?_
  refine xm_E_f q0 ?_
  refine xm_E_s r_X11_slips_2 rfl rfl ?_
  refine xm_E_s r_X11_slips_3 rfl rfl ?_
  refine xm_E_s r_X11_slips_4 rfl rfl ?_
  refine xm_E_f q1 ?_
  refine xm_E_s r_X11_slips_7 rfl rfl ?_
  exact xm_E_iret r_X11_slips_8 rfl rfl
theorem r_X11_part_0 : co_X11_part[0]? = some ((0, .iload 4, 0, 0, 0, 0, 0, 0, []) : xm_I) := rfl
theorem r_X11_part_1 : co_X11_part[1]? = some ((2, .ifCond .ne 7, 0, 0, 4, 0, 0, 0, []) : xm_I) := rfl
theorem r_X11_part_2 : co_X11_part[2]? = some ((5, .lload_n 0, 0, 0, 0, 0, 0, 0, []) : xm_I) := rfl
theorem r_X11_part_3 : co_X11_part[3]? = some ((6, .goto 4, 0, 0, 5, 0, 0, 0, []) : xm_I) := rfl
theorem r_X11_part_4 : co_X11_part[4]? = some ((9, .lload_n 2, 0, 0, 0, 0, 0, 0, []) : xm_I) := rfl
theorem r_X11_part_5 : co_X11_part[5]? = some ((10, .lload_n 0, 0, 0, 0, 0, 0, 0, []) : xm_I) := rfl
theorem r_X11_part_6 : co_X11_part[6]? = some ((11, .lload_n 2, 0, 0, 0, 0, 0, 0, []) : xm_I) := rfl
theorem r_X11_part_7 : co_X11_part[7]? = some ((12, .invokestatic 452, 1965, 298, 2, 0, 0, 0, []) : xm_I) := rfl
theorem r_X11_part_8 : co_X11_part[8]? = some ((15, .ldiv, 0, 0, 0, 0, 0, 0, []) : xm_I) := rfl
theorem r_X11_part_9 : co_X11_part[9]? = some ((16, .lreturn, 0, 0, 0, 0, 0, 0, []) : xm_I) := rfl
theorem p_X11_part_0_0 {X : xm_X} {P : List xm_M} {d : Nat} {h : xm_H} {l0 : Int64} {l2 : Int64} {l4 : Int32} {h0 : xm_H} {r0 : Int64} (q0 : l4 = (0 : Int32)) (q1 : xm_V X P d 298 [.long l0, .long l2] h (some (.long r0)) h0) (q2 : ¬ r0 = 0) : xm_E X P d co_X11_part 0 [some (.long l0), none, some (.long l2), none, some (.int l4)] [] h (some (.long (l0 / r0))) h0 := by
  refine xm_E_s r_X11_part_0 rfl rfl ?_
  refine xm_E_s r_X11_part_1 rfl rfl ?_
  refine xm_E_t q0 ?_
  refine xm_E_s r_X11_part_2 rfl rfl ?_
  refine xm_E_s r_X11_part_3 rfl rfl ?_
  refine xm_E_s r_X11_part_5 rfl rfl ?_
  refine xm_E_s r_X11_part_6 rfl rfl ?_
  refine xm_E_cs [.long l0, .long l2] [.long l0] r_X11_part_7 rfl rfl rfl (Nat.le_of_ble_eq_true rfl) rfl q1 ?_
  refine xm_E_s r_X11_part_8 rfl (xm_T_ldiv rfl q2) ?_
  exact xm_E_lret r_X11_part_9 rfl
theorem p_X11_part_0_1 {X : xm_X} {P : List xm_M} {d : Nat} {h : xm_H} {l0 : Int64} {l2 : Int64} {l4 : Int32} {h0 : xm_H} {r0 : Int64} (q0 : ¬ (l4 = (0 : Int32))) (q1 : xm_V X P d 298 [.long l0, .long l2] h (some (.long r0)) h0) (q2 : ¬ r0 = 0) : xm_E X P d co_X11_part 0 [some (.long l0), none, some (.long l2), none, some (.int l4)] [] h (some (.long (l2 / r0))) h0 := by
  refine xm_E_s r_X11_part_0 rfl rfl ?_
  refine xm_E_s r_X11_part_1 rfl rfl ?_
  refine xm_E_f q0 ?_
  refine xm_E_s r_X11_part_4 rfl rfl ?_
  refine xm_E_s r_X11_part_5 rfl rfl ?_
  refine xm_E_s r_X11_part_6 rfl rfl ?_
  refine xm_E_cs [.long l0, .long l2] [.long l2] r_X11_part_7 rfl rfl rfl (Nat.le_of_ble_eq_true rfl) rfl q1 ?_
  refine xm_E_s r_X11_part_8 rfl (xm_T_ldiv rfl q2) ?_
  exact xm_E_lret r_X11_part_9 rfl
theorem r_X11_divisor_0 : co_X11_divisor[0]? = some ((0, .lload_n 0, 0, 0, 0, 0, 0, 0, []) : xm_I) := rfl
theorem r_X11_divisor_1 : co_X11_divisor[1]? = some ((1, .lstore 4, 0, 0, 0, 0, 0, 0, []) : xm_I) := rfl
theorem r_X11_divisor_2 : co_X11_divisor[2]? = some ((3, .lload_n 2, 0, 0, 0, 0, 0, 0, []) : xm_I) := rfl
theorem r_X11_divisor_3 : co_X11_divisor[3]? = some ((4, .lstore 6, 0, 0, 0, 0, 0, 0, []) : xm_I) := rfl
theorem r_X11_divisor_4 : co_X11_divisor[4]? = some ((6, .lload 6, 0, 0, 0, 0, 0, 0, []) : xm_I) := rfl
theorem r_X11_divisor_5 : co_X11_divisor[5]? = some ((8, .lconst 0, 0, 0, 0, 0, 0, 0, []) : xm_I) := rfl
theorem r_X11_divisor_6 : co_X11_divisor[6]? = some ((9, .lcmp, 0, 0, 0, 0, 0, 0, []) : xm_I) := rfl
theorem r_X11_divisor_7 : co_X11_divisor[7]? = some ((10, .ifCond .eq 21, 0, 0, 17, 0, 0, 0, []) : xm_I) := rfl
theorem r_X11_divisor_8 : co_X11_divisor[8]? = some ((13, .lload 4, 0, 0, 0, 0, 0, 0, []) : xm_I) := rfl
theorem r_X11_divisor_9 : co_X11_divisor[9]? = some ((15, .lload 6, 0, 0, 0, 0, 0, 0, []) : xm_I) := rfl
theorem r_X11_divisor_10 : co_X11_divisor[10]? = some ((17, .lrem, 0, 0, 0, 0, 0, 0, []) : xm_I) := rfl
theorem r_X11_divisor_11 : co_X11_divisor[11]? = some ((18, .lstore 8, 0, 0, 0, 0, 0, 0, []) : xm_I) := rfl
theorem r_X11_divisor_12 : co_X11_divisor[12]? = some ((20, .lload 6, 0, 0, 0, 0, 0, 0, []) : xm_I) := rfl
theorem r_X11_divisor_13 : co_X11_divisor[13]? = some ((22, .lstore 4, 0, 0, 0, 0, 0, 0, []) : xm_I) := rfl
theorem r_X11_divisor_14 : co_X11_divisor[14]? = some ((24, .lload 8, 0, 0, 0, 0, 0, 0, []) : xm_I) := rfl
theorem r_X11_divisor_15 : co_X11_divisor[15]? = some ((26, .lstore 6, 0, 0, 0, 0, 0, 0, []) : xm_I) := rfl
theorem r_X11_divisor_16 : co_X11_divisor[16]? = some ((28, .goto (-22), 0, 0, 4, 0, 0, 0, []) : xm_I) := rfl
theorem r_X11_divisor_17 : co_X11_divisor[17]? = some ((31, .lload 4, 0, 0, 0, 0, 0, 0, []) : xm_I) := rfl
theorem r_X11_divisor_18 : co_X11_divisor[18]? = some ((33, .lreturn, 0, 0, 0, 0, 0, 0, []) : xm_I) := rfl
theorem p_X11_divisor_0_0 {X : xm_X} {P : List xm_M} {d : Nat} {h : xm_H} {l0 : Int64} {l2 : Int64} {ro : Option Value} {ho : xm_H}  (K : xm_E X P d co_X11_divisor 4 [some (.long l0), none, some (.long l2), none, some (.long l0), none, some (.long l2), none, none, none] [] h ro ho) : xm_E X P d co_X11_divisor 0 [some (.long l0), none, some (.long l2), none, none, none, none, none, none, none] [] h ro ho := by
  refine xm_E_s r_X11_divisor_0 rfl rfl ?_
  refine xm_E_s (ls1 := [some (.long l0), none, some (.long l2), none, some (.long l0), none, none, none, none, none]) r_X11_divisor_1 rfl rfl ?_
  refine xm_E_s r_X11_divisor_2 rfl rfl ?_
  refine xm_E_s (ls1 := [some (.long l0), none, some (.long l2), none, some (.long l0), none, some (.long l2), none, none, none]) r_X11_divisor_3 rfl rfl ?_
  exact K
theorem p_X11_divisor_4_0 {X : xm_X} {P : List xm_M} {d : Nat} {h : xm_H} {l0 : Int64} {l2 : Int64} {l4 : Int64} {l6 : Int64} {l8 : Option Value} (q0 : lg_cmp l6 (0 : Int64) = (0 : Int32)) : xm_E X P d co_X11_divisor 4 [some (.long l0), none, some (.long l2), none, some (.long l4), none, some (.long l6), none, l8, none] [] h (some (.long l4)) h := by
  refine xm_E_s r_X11_divisor_4 rfl rfl ?_
  refine xm_E_s r_X11_divisor_5 rfl rfl ?_
  refine xm_E_s r_X11_divisor_6 rfl rfl ?_
  refine xm_E_s r_X11_divisor_7 rfl rfl ?_
  refine xm_E_t q0 ?_
  refine xm_E_s r_X11_divisor_17 rfl rfl ?_
  exact xm_E_lret r_X11_divisor_18 rfl
theorem p_X11_divisor_4_1 {X : xm_X} {P : List xm_M} {d : Nat} {h : xm_H} {l0 : Int64} {l2 : Int64} {l4 : Int64} {l6 : Int64} {l8 : Option Value} {ro : Option Value} {ho : xm_H} (q0 : ¬ (lg_cmp l6 (0 : Int64) = (0 : Int32))) (q1 : ¬ l6 = 0) (K : xm_E X P d co_X11_divisor 4 [some (.long l0), none, some (.long l2), none, some (.long l6), none, some (.long (l4 - l4 / l6 * l6)), none, some (.long (l4 - l4 / l6 * l6)), none] [] h ro ho) : xm_E X P d co_X11_divisor 4 [some (.long l0), none, some (.long l2), none, some (.long l4), none, some (.long l6), none, l8, none] [] h ro ho := by
  refine xm_E_s r_X11_divisor_4 rfl rfl ?_
  refine xm_E_s r_X11_divisor_5 rfl rfl ?_
  refine xm_E_s r_X11_divisor_6 rfl rfl ?_
  refine xm_E_s r_X11_divisor_7 rfl rfl ?_
  refine xm_E_f q0 ?_
  refine xm_E_s r_X11_divisor_8 rfl rfl ?_
  refine xm_E_s r_X11_divisor_9 rfl rfl ?_
  refine xm_E_s r_X11_divisor_10 rfl (xm_T_lrem rfl q1) ?_
  refine xm_E_s (ls1 := [some (.long l0), none, some (.long l2), none, some (.long l4), none, some (.long l6), none, some (.long (l4 - l4 / l6 * l6)), none]) r_X11_divisor_11 rfl rfl ?_
  refine xm_E_s r_X11_divisor_12 rfl rfl ?_
  refine xm_E_s (ls1 := [some (.long l0), none, some (.long l2), none, some (.long l6), none, some (.long l6), none, some (.long (l4 - l4 / l6 * l6)), none]) r_X11_divisor_13 rfl rfl ?_
  refine xm_E_s r_X11_divisor_14 rfl rfl ?_
  refine xm_E_s (ls1 := [some (.long l0), none, some (.long l2), none, some (.long l6), none, some (.long (l4 - l4 / l6 * l6)), none, some (.long (l4 - l4 / l6 * l6)), none]) r_X11_divisor_15 rfl rfl ?_
  refine xm_E_s r_X11_divisor_16 rfl rfl ?_
  exact K
theorem r_X11_twists_0 : co_X11_twists[0]? = some ((0, .aload_n 0, 0, 0, 0, 0, 0, 0, []) : xm_I) := rfl
theorem r_X11_twists_1 : co_X11_twists[1]? = some ((1, .iload_n 1, 0, 0, 0, 0, 0, 0, []) : xm_I) := rfl
theorem r_X11_twists_2 : co_X11_twists[2]? = some ((2, .i2l, 0, 0, 0, 0, 0, 0, []) : xm_I) := rfl
theorem r_X11_twists_3 : co_X11_twists[3]? = some ((3, .invokevirtual 347, 1747, 244, 2, 10, 0, 0, []) : xm_I) := rfl
theorem r_X11_twists_4 : co_X11_twists[4]? = some ((6, .ifCond .eq 30, 0, 0, 20, 0, 0, 0, []) : xm_I) := rfl
theorem r_X11_twists_5 : co_X11_twists[5]? = some ((9, .iload_n 2, 0, 0, 0, 0, 0, 0, []) : xm_I) := rfl
theorem r_X11_twists_6 : co_X11_twists[6]? = some ((10, .i2l, 0, 0, 0, 0, 0, 0, []) : xm_I) := rfl
theorem r_X11_twists_7 : co_X11_twists[7]? = some ((11, .lconst 0, 0, 0, 0, 0, 0, 0, []) : xm_I) := rfl
theorem r_X11_twists_8 : co_X11_twists[8]? = some ((12, .lconst 1, 0, 0, 0, 0, 0, 1, []) : xm_I) := rfl
theorem r_X11_twists_9 : co_X11_twists[9]? = some ((13, .invokestatic 84, 1503, 191, 3, 0, 0, 0, []) : xm_I) := rfl
theorem r_X11_twists_10 : co_X11_twists[10]? = some ((16, .ifCond .eq 20, 0, 0, 20, 0, 0, 0, []) : xm_I) := rfl
theorem r_X11_twists_11 : co_X11_twists[11]? = some ((19, .aload_n 0, 0, 0, 0, 0, 0, 0, []) : xm_I) := rfl
theorem r_X11_twists_12 : co_X11_twists[12]? = some ((20, .iload_n 1, 0, 0, 0, 0, 0, 0, []) : xm_I) := rfl
theorem r_X11_twists_13 : co_X11_twists[13]? = some ((21, .invokevirtual 467, 1972, 300, 2, 10, 0, 0, []) : xm_I) := rfl
theorem r_X11_twists_14 : co_X11_twists[14]? = some ((24, .i2l, 0, 0, 0, 0, 0, 0, []) : xm_I) := rfl
theorem r_X11_twists_15 : co_X11_twists[15]? = some ((25, .ldc2_w 461, 1961, 0, 0, 0, 0, 10000, []) : xm_I) := rfl
theorem r_X11_twists_16 : co_X11_twists[16]? = some ((28, .iload_n 2, 0, 0, 0, 0, 0, 0, []) : xm_I) := rfl
theorem r_X11_twists_17 : co_X11_twists[17]? = some ((29, .invokestatic 463, 1962, 297, 3, 0, 0, 0, []) : xm_I) := rfl
theorem r_X11_twists_18 : co_X11_twists[18]? = some ((32, .l2i, 0, 0, 0, 0, 0, 0, []) : xm_I) := rfl
theorem r_X11_twists_19 : co_X11_twists[19]? = some ((33, .goto 5, 0, 0, 21, 0, 0, 0, []) : xm_I) := rfl
theorem r_X11_twists_20 : co_X11_twists[20]? = some ((36, .bipush (-2), 0, 0, 0, 0, (-2), 0, []) : xm_I) := rfl
theorem r_X11_twists_21 : co_X11_twists[21]? = some ((38, .ireturn, 0, 0, 0, 0, 0, 0, []) : xm_I) := rfl
theorem p_X11_twists_0_0 {X : xm_X} {P : List xm_M} {d : Nat} {h : xm_H} {l0 : Nat} {l1 : Int32} {l2 : Int32} {h0 : xm_H} {r0 : Int32} (q0 : xm_V X P d 244 [.ref l0, .long l1.toInt64] h (some (.int r0)) h0) (q1 : X.1[l0]? = some (.inr 10)) (q2 : r0 = (0 : Int32)) : xm_E X P d co_X11_twists 0 [some (.ref l0), some (.int l1), some (.int l2)] [] h (some (.int (-2 : Int32))) h0 := by
  refine xm_E_s r_X11_twists_0 rfl rfl ?_
  refine xm_E_s r_X11_twists_1 rfl rfl ?_
  refine xm_E_s r_X11_twists_2 rfl rfl ?_
  refine xm_E_cv [.ref l0, .long l1.toInt64] [] r_X11_twists_3 rfl rfl (Nat.le_of_ble_eq_true rfl) (xm_rc q1 (by decide)) rfl q0 ?_
  refine xm_E_s r_X11_twists_4 rfl rfl ?_
  refine xm_E_t q2 ?_
  refine xm_E_s r_X11_twists_20 rfl rfl ?_
  exact xm_E_iret r_X11_twists_21 rfl rfl
theorem p_X11_twists_0_1 {X : xm_X} {P : List xm_M} {d : Nat} {h : xm_H} {l0 : Nat} {l1 : Int32} {l2 : Int32} {h0 : xm_H} {r0 : Int32} {h1 : xm_H} {r1 : Int32} (q0 : xm_V X P d 244 [.ref l0, .long l1.toInt64] h (some (.int r0)) h0) (q1 : X.1[l0]? = some (.inr 10)) (q2 : ¬ (r0 = (0 : Int32))) (q3 : xm_V X P d 191 [.long l2.toInt64, .long (0 : Int64), .long (1 : Int64)] h0 (some (.int r1)) h1) (q4 : r1 = (0 : Int32)) : xm_E X P d co_X11_twists 0 [some (.ref l0), some (.int l1), some (.int l2)] [] h (some (.int (-2 : Int32))) h1 := by
  refine xm_E_s r_X11_twists_0 rfl rfl ?_
  refine xm_E_s r_X11_twists_1 rfl rfl ?_
  refine xm_E_s r_X11_twists_2 rfl rfl ?_
  refine xm_E_cv [.ref l0, .long l1.toInt64] [] r_X11_twists_3 rfl rfl (Nat.le_of_ble_eq_true rfl) (xm_rc q1 (by decide)) rfl q0 ?_
  refine xm_E_s r_X11_twists_4 rfl rfl ?_
  refine xm_E_f q2 ?_
  refine xm_E_s r_X11_twists_5 rfl rfl ?_
  refine xm_E_s r_X11_twists_6 rfl rfl ?_
  refine xm_E_s r_X11_twists_7 rfl rfl ?_
  refine xm_E_s r_X11_twists_8 rfl rfl ?_
  refine xm_E_cs [.long l2.toInt64, .long (0 : Int64), .long (1 : Int64)] [] r_X11_twists_9 rfl rfl rfl (Nat.le_of_ble_eq_true rfl) rfl q3 ?_
  refine xm_E_s r_X11_twists_10 rfl rfl ?_
  refine xm_E_t q4 ?_
  refine xm_E_s r_X11_twists_20 rfl rfl ?_
  exact xm_E_iret r_X11_twists_21 rfl rfl
theorem p_X11_twists_0_2 {X : xm_X} {P : List xm_M} {d : Nat} {h : xm_H} {l0 : Nat} {l1 : Int32} {l2 : Int32} {h0 : xm_H} {r0 : Int32} {h1 : xm_H} {r1 : Int32} {h2 : xm_H} {r2 : Int32} {h3 : xm_H} {r3 : Int64} (q0 : xm_V X P d 244 [.ref l0, .long l1.toInt64] h (some (.int r0)) h0) (q1 : X.1[l0]? = some (.inr 10)) (q2 : ¬ (r0 = (0 : Int32))) (q3 : xm_V X P d 191 [.long l2.toInt64, .long (0 : Int64), .long (1 : Int64)] h0 (some (.int r1)) h1) (q4 : ¬ (r1 = (0 : Int32))) (q5 : xm_V X P d 300 [.ref l0, .int l1] h1 (some (.int r2)) h2) (q6 : xm_V X P d 297 [.long r2.toInt64, .long (10000 : Int64), .int l2] h2 (some (.long r3)) h3) : xm_E X P d co_X11_twists 0 [some (.ref l0), some (.int l1), some (.int l2)] [] h (some (.int r3.toInt32)) h3 := by
  refine xm_E_s r_X11_twists_0 rfl rfl ?_
  refine xm_E_s r_X11_twists_1 rfl rfl ?_
  refine xm_E_s r_X11_twists_2 rfl rfl ?_
  refine xm_E_cv [.ref l0, .long l1.toInt64] [] r_X11_twists_3 rfl rfl (Nat.le_of_ble_eq_true rfl) (xm_rc q1 (by decide)) rfl q0 ?_
  refine xm_E_s r_X11_twists_4 rfl rfl ?_
  refine xm_E_f q2 ?_
  refine xm_E_s r_X11_twists_5 rfl rfl ?_
  refine xm_E_s r_X11_twists_6 rfl rfl ?_
  refine xm_E_s r_X11_twists_7 rfl rfl ?_
  refine xm_E_s r_X11_twists_8 rfl rfl ?_
  refine xm_E_cs [.long l2.toInt64, .long (0 : Int64), .long (1 : Int64)] [] r_X11_twists_9 rfl rfl rfl (Nat.le_of_ble_eq_true rfl) rfl q3 ?_
  refine xm_E_s r_X11_twists_10 rfl rfl ?_
  refine xm_E_f q4 ?_
  refine xm_E_s r_X11_twists_11 rfl rfl ?_
  refine xm_E_s r_X11_twists_12 rfl rfl ?_
  refine xm_E_cv [.ref l0, .int l1] [] r_X11_twists_13 rfl rfl (Nat.le_of_ble_eq_true rfl) (xm_rc q1 (by decide)) rfl q5 ?_
  refine xm_E_s r_X11_twists_14 rfl rfl ?_
  refine xm_E_s r_X11_twists_15 rfl rfl ?_
  refine xm_E_s r_X11_twists_16 rfl rfl ?_
  refine xm_E_cs [.long r2.toInt64, .long (10000 : Int64), .int l2] [] r_X11_twists_17 rfl rfl rfl (Nat.le_of_ble_eq_true rfl) rfl q6 ?_
  refine xm_E_s r_X11_twists_18 rfl rfl ?_
  refine xm_E_s r_X11_twists_19 rfl rfl ?_
  exact xm_E_iret r_X11_twists_21 rfl rfl
theorem r_X11_twistsOf_0 : co_X11_twistsOf[0]? = some ((0, .aload_n 0, 0, 0, 0, 0, 0, 0, []) : xm_I) := rfl
theorem r_X11_twistsOf_1 : co_X11_twistsOf[1]? = some ((1, .iload_n 1, 0, 0, 0, 0, 0, 0, []) : xm_I) := rfl
theorem r_X11_twistsOf_2 : co_X11_twistsOf[2]? = some ((2, .invokevirtual 350, 1751, 245, 2, 10, 0, 0, []) : xm_I) := rfl
theorem r_X11_twistsOf_3 : co_X11_twistsOf[3]? = some ((5, .invokestatic 456, 1958, 296, 1, 0, 0, 0, []) : xm_I) := rfl
theorem r_X11_twistsOf_4 : co_X11_twistsOf[4]? = some ((8, .ifCond .eq 14, 0, 0, 10, 0, 0, 0, []) : xm_I) := rfl
theorem r_X11_twistsOf_5 : co_X11_twistsOf[5]? = some ((11, .aload_n 0, 0, 0, 0, 0, 0, 0, []) : xm_I) := rfl
theorem r_X11_twistsOf_6 : co_X11_twistsOf[6]? = some ((12, .iload_n 1, 0, 0, 0, 0, 0, 0, []) : xm_I) := rfl
theorem r_X11_twistsOf_7 : co_X11_twistsOf[7]? = some ((13, .invokevirtual 352, 1755, 246, 2, 10, 0, 0, []) : xm_I) := rfl
theorem r_X11_twistsOf_8 : co_X11_twistsOf[8]? = some ((16, .invokestatic 456, 1958, 296, 1, 0, 0, 0, []) : xm_I) := rfl
theorem r_X11_twistsOf_9 : co_X11_twistsOf[9]? = some ((19, .ifCond .ne 5, 0, 0, 12, 0, 0, 0, []) : xm_I) := rfl
theorem r_X11_twistsOf_10 : co_X11_twistsOf[10]? = some ((22, .iconst 0, 0, 0, 0, 0, 0, 0, []) : xm_I) := rfl
theorem r_X11_twistsOf_11 : co_X11_twistsOf[11]? = some ((23, .ireturn, 0, 0, 0, 0, 0, 0, []) : xm_I) := rfl
theorem r_X11_twistsOf_12 : co_X11_twistsOf[12]? = some ((24, .aload_n 0, 0, 0, 0, 0, 0, 0, []) : xm_I) := rfl
theorem r_X11_twistsOf_13 : co_X11_twistsOf[13]? = some ((25, .getfield 9, 1381, 10, 1, 2, 0, 0, []) : xm_I) := rfl
theorem r_X11_twistsOf_14 : co_X11_twistsOf[14]? = some ((28, .bipush 11, 0, 0, 0, 0, 11, 0, []) : xm_I) := rfl
theorem r_X11_twistsOf_15 : co_X11_twistsOf[15]? = some ((30, .iaload, 0, 0, 0, 0, 0, 0, []) : xm_I) := rfl
theorem r_X11_twistsOf_16 : co_X11_twistsOf[16]? = some ((31, .istore_n 2, 0, 0, 0, 0, 0, 0, []) : xm_I) := rfl
theorem r_X11_twistsOf_17 : co_X11_twistsOf[17]? = some ((32, .aload_n 0, 0, 0, 0, 0, 0, 0, []) : xm_I) := rfl
theorem r_X11_twistsOf_18 : co_X11_twistsOf[18]? = some ((33, .getfield 9, 1381, 10, 1, 2, 0, 0, []) : xm_I) := rfl
theorem r_X11_twistsOf_19 : co_X11_twistsOf[19]? = some ((36, .bipush 12, 0, 0, 0, 0, 12, 0, []) : xm_I) := rfl
theorem r_X11_twistsOf_20 : co_X11_twistsOf[20]? = some ((38, .iaload, 0, 0, 0, 0, 0, 0, []) : xm_I) := rfl
theorem r_X11_twistsOf_21 : co_X11_twistsOf[21]? = some ((39, .istore_n 3, 0, 0, 0, 0, 0, 0, []) : xm_I) := rfl
theorem r_X11_twistsOf_22 : co_X11_twistsOf[22]? = some ((40, .iload_n 2, 0, 0, 0, 0, 0, 0, []) : xm_I) := rfl
theorem r_X11_twistsOf_23 : co_X11_twistsOf[23]? = some ((41, .bipush 100, 0, 0, 0, 0, 100, 0, []) : xm_I) := rfl
theorem r_X11_twistsOf_24 : co_X11_twistsOf[24]? = some ((43, .iload_n 3, 0, 0, 0, 0, 0, 0, []) : xm_I) := rfl
theorem r_X11_twistsOf_25 : co_X11_twistsOf[25]? = some ((44, .isub, 0, 0, 0, 0, 0, 0, []) : xm_I) := rfl
theorem r_X11_twistsOf_26 : co_X11_twistsOf[26]? = some ((45, .imul, 0, 0, 0, 0, 0, 0, []) : xm_I) := rfl
theorem r_X11_twistsOf_27 : co_X11_twistsOf[27]? = some ((46, .iload_n 3, 0, 0, 0, 0, 0, 0, []) : xm_I) := rfl
theorem r_X11_twistsOf_28 : co_X11_twistsOf[28]? = some ((47, .bipush 100, 0, 0, 0, 0, 100, 0, []) : xm_I) := rfl
theorem r_X11_twistsOf_29 : co_X11_twistsOf[29]? = some ((49, .iload_n 2, 0, 0, 0, 0, 0, 0, []) : xm_I) := rfl
theorem r_X11_twistsOf_30 : co_X11_twistsOf[30]? = some ((50, .isub, 0, 0, 0, 0, 0, 0, []) : xm_I) := rfl
theorem r_X11_twistsOf_31 : co_X11_twistsOf[31]? = some ((51, .imul, 0, 0, 0, 0, 0, 0, []) : xm_I) := rfl
theorem r_X11_twistsOf_32 : co_X11_twistsOf[32]? = some ((52, .iadd, 0, 0, 0, 0, 0, 0, []) : xm_I) := rfl
theorem r_X11_twistsOf_33 : co_X11_twistsOf[33]? = some ((53, .istore 4, 0, 0, 0, 0, 0, 0, []) : xm_I) := rfl
theorem r_X11_twistsOf_34 : co_X11_twistsOf[34]? = some ((55, .aload_n 0, 0, 0, 0, 0, 0, 0, []) : xm_I) := rfl
theorem r_X11_twistsOf_35 : co_X11_twistsOf[35]? = some ((56, .iload_n 1, 0, 0, 0, 0, 0, 0, []) : xm_I) := rfl
theorem r_X11_twistsOf_36 : co_X11_twistsOf[36]? = some ((57, .invokevirtual 350, 1751, 245, 2, 10, 0, 0, []) : xm_I) := rfl
theorem r_X11_twistsOf_37 : co_X11_twistsOf[37]? = some ((60, .aload_n 0, 0, 0, 0, 0, 0, 0, []) : xm_I) := rfl
theorem r_X11_twistsOf_38 : co_X11_twistsOf[38]? = some ((61, .iload_n 1, 0, 0, 0, 0, 0, 0, []) : xm_I) := rfl
theorem r_X11_twistsOf_39 : co_X11_twistsOf[39]? = some ((62, .invokevirtual 352, 1755, 246, 2, 10, 0, 0, []) : xm_I) := rfl
theorem r_X11_twistsOf_40 : co_X11_twistsOf[40]? = some ((65, .if_icmp .ne 8, 0, 0, 43, 0, 0, 0, []) : xm_I) := rfl
theorem r_X11_twistsOf_41 : co_X11_twistsOf[41]? = some ((68, .iload 4, 0, 0, 0, 0, 0, 0, []) : xm_I) := rfl
theorem r_X11_twistsOf_42 : co_X11_twistsOf[42]? = some ((70, .goto 9, 0, 0, 46, 0, 0, 0, []) : xm_I) := rfl
theorem r_X11_twistsOf_43 : co_X11_twistsOf[43]? = some ((73, .sipush 10000, 0, 0, 0, 0, 10000, 0, []) : xm_I) := rfl
theorem r_X11_twistsOf_44 : co_X11_twistsOf[44]? = some ((76, .iload 4, 0, 0, 0, 0, 0, 0, []) : xm_I) := rfl
theorem r_X11_twistsOf_45 : co_X11_twistsOf[45]? = some ((78, .isub, 0, 0, 0, 0, 0, 0, []) : xm_I) := rfl
theorem r_X11_twistsOf_46 : co_X11_twistsOf[46]? = some ((79, .ireturn, 0, 0, 0, 0, 0, 0, []) : xm_I) := rfl
theorem p_X11_twistsOf_0_0 {X : xm_X} {P : List xm_M} {d : Nat} {h : xm_H} {l0 : Nat} {l1 : Int32} {h0 : xm_H} {r0 : Int32} {h1 : xm_H} {r1 : Int32} (q0 : xm_V X P d 245 [.ref l0, .int l1] h (some (.int r0)) h0) (q1 : X.1[l0]? = some (.inr 10)) (q2 : xm_V X P d 296 [.int r0] h0 (some (.int r1)) h1) (q3 : r1 = (0 : Int32)) : xm_E X P d co_X11_twistsOf 0 [some (.ref l0), some (.int l1), none, none, none] [] h (some (.int (0 : Int32))) h1 := by
  refine xm_E_s r_X11_twistsOf_0 rfl rfl ?_
  refine xm_E_s r_X11_twistsOf_1 rfl rfl ?_
  refine xm_E_cv [.ref l0, .int l1] [] r_X11_twistsOf_2 rfl rfl (Nat.le_of_ble_eq_true rfl) (xm_rc q1 (by decide)) rfl q0 ?_
  refine xm_E_cs [.int r0] [] r_X11_twistsOf_3 rfl rfl rfl (Nat.le_of_ble_eq_true rfl) rfl q2 ?_
  refine xm_E_s r_X11_twistsOf_4 rfl rfl ?_
  refine xm_E_t q3 ?_
  refine xm_E_s r_X11_twistsOf_10 rfl rfl ?_
  exact xm_E_iret r_X11_twistsOf_11 rfl rfl
theorem p_X11_twistsOf_0_1 {X : xm_X} {P : List xm_M} {d : Nat} {h : xm_H} {l0 : Nat} {l1 : Int32} {h0 : xm_H} {r0 : Int32} {h1 : xm_H} {r1 : Int32} {h2 : xm_H} {r2 : Int32} {h3 : xm_H} {r3 : Int32} (q0 : xm_V X P d 245 [.ref l0, .int l1] h (some (.int r0)) h0) (q1 : X.1[l0]? = some (.inr 10)) (q2 : xm_V X P d 296 [.int r0] h0 (some (.int r1)) h1) (q3 : ¬ (r1 = (0 : Int32))) (q4 : xm_V X P d 246 [.ref l0, .int l1] h1 (some (.int r2)) h2) (q5 : xm_V X P d 296 [.int r2] h2 (some (.int r3)) h3) (q6 : r3 = (0 : Int32)) : xm_E X P d co_X11_twistsOf 0 [some (.ref l0), some (.int l1), none, none, none] [] h (some (.int (0 : Int32))) h3 := by
  refine xm_E_s r_X11_twistsOf_0 rfl rfl ?_
  refine xm_E_s r_X11_twistsOf_1 rfl rfl ?_
  refine xm_E_cv [.ref l0, .int l1] [] r_X11_twistsOf_2 rfl rfl (Nat.le_of_ble_eq_true rfl) (xm_rc q1 (by decide)) rfl q0 ?_
  refine xm_E_cs [.int r0] [] r_X11_twistsOf_3 rfl rfl rfl (Nat.le_of_ble_eq_true rfl) rfl q2 ?_
  refine xm_E_s r_X11_twistsOf_4 rfl rfl ?_
  refine xm_E_f q3 ?_
  refine xm_E_s r_X11_twistsOf_5 rfl rfl ?_
  refine xm_E_s r_X11_twistsOf_6 rfl rfl ?_
  refine xm_E_cv [.ref l0, .int l1] [] r_X11_twistsOf_7 rfl rfl (Nat.le_of_ble_eq_true rfl) (xm_rc q1 (by decide)) rfl q4 ?_
  refine xm_E_cs [.int r2] [] r_X11_twistsOf_8 rfl rfl rfl (Nat.le_of_ble_eq_true rfl) rfl q5 ?_
  refine xm_E_s r_X11_twistsOf_9 rfl rfl ?_
  refine xm_E_t q6 ?_
  refine xm_E_s r_X11_twistsOf_10 rfl rfl ?_
  exact xm_E_iret r_X11_twistsOf_11 rfl rfl
theorem p_X11_twistsOf_0_2 {X : xm_X} {P : List xm_M} {d : Nat} {h : xm_H} {l0 : Nat} {l1 : Int32} {h0 : xm_H} {r0 : Int32} {h1 : xm_H} {r1 : Int32} {h2 : xm_H} {r2 : Int32} {h3 : xm_H} {r3 : Int32} {v4 : Nat} {n5 : Nat} {h6 : xm_H} {r6 : Int32} {h7 : xm_H} {r7 : Int32} (q0 : xm_V X P d 245 [.ref l0, .int l1] h (some (.int r0)) h0) (q1 : X.1[l0]? = some (.inr 10)) (q2 : xm_V X P d 296 [.int r0] h0 (some (.int r1)) h1) (q3 : ¬ (r1 = (0 : Int32))) (q4 : xm_V X P d 246 [.ref l0, .int l1] h1 (some (.int r2)) h2) (q5 : xm_V X P d 296 [.int r2] h2 (some (.int r3)) h3) (q6 : ¬ (r3 = (0 : Int32))) (q7 : h3.2.2 l0 1 = some v4) (q8 : X.1[v4]? = some (.inl (0, n5))) (q9 : 11 < n5) (q10 : 12 < n5) (q11 : xm_V X P d 245 [.ref l0, .int l1] h3 (some (.int r6)) h6) (q12 : xm_V X P d 246 [.ref l0, .int l1] h6 (some (.int r7)) h7) (q13 : r6 = r7) : xm_E X P d co_X11_twistsOf 0 [some (.ref l0), some (.int l1), none, none, none] [] h (some (.int (((h3.1 v4 11) * ((100 : Int32) - (h3.1 v4 12))) + ((h3.1 v4 12) * ((100 : Int32) - (h3.1 v4 11)))))) h7 := by
  refine xm_E_s r_X11_twistsOf_0 rfl rfl ?_
  refine xm_E_s r_X11_twistsOf_1 rfl rfl ?_
  refine xm_E_cv [.ref l0, .int l1] [] r_X11_twistsOf_2 rfl rfl (Nat.le_of_ble_eq_true rfl) (xm_rc q1 (by decide)) rfl q0 ?_
  refine xm_E_cs [.int r0] [] r_X11_twistsOf_3 rfl rfl rfl (Nat.le_of_ble_eq_true rfl) rfl q2 ?_
  refine xm_E_s r_X11_twistsOf_4 rfl rfl ?_
  refine xm_E_f q3 ?_
  refine xm_E_s r_X11_twistsOf_5 rfl rfl ?_
  refine xm_E_s r_X11_twistsOf_6 rfl rfl ?_
  refine xm_E_cv [.ref l0, .int l1] [] r_X11_twistsOf_7 rfl rfl (Nat.le_of_ble_eq_true rfl) (xm_rc q1 (by decide)) rfl q4 ?_
  refine xm_E_cs [.int r2] [] r_X11_twistsOf_8 rfl rfl rfl (Nat.le_of_ble_eq_true rfl) rfl q5 ?_
  refine xm_E_s r_X11_twistsOf_9 rfl rfl ?_
  refine xm_E_f q6 ?_
  refine xm_E_s r_X11_twistsOf_12 rfl rfl ?_
  refine xm_E_s r_X11_twistsOf_13 rfl (xm_T_gr rfl q1 rfl rfl q7) ?_
  refine xm_E_s r_X11_twistsOf_14 rfl rfl ?_
  refine xm_E_s r_X11_twistsOf_15 rfl (xm_T_iald rfl q8 (by decide) (fun e => e.elim (fun e => absurd e (by decide)) (fun e => Nat.not_le.mpr q9 e))) ?_
  refine xm_E_s (ls1 := [some (.ref l0), some (.int l1), some (.int (h3.1 v4 11)), none, none]) r_X11_twistsOf_16 rfl rfl ?_
  refine xm_E_s r_X11_twistsOf_17 rfl rfl ?_
  refine xm_E_s r_X11_twistsOf_18 rfl (xm_T_gr rfl q1 rfl rfl q7) ?_
  refine xm_E_s r_X11_twistsOf_19 rfl rfl ?_
  refine xm_E_s r_X11_twistsOf_20 rfl (xm_T_iald rfl q8 (by decide) (fun e => e.elim (fun e => absurd e (by decide)) (fun e => Nat.not_le.mpr q10 e))) ?_
  refine xm_E_s (ls1 := [some (.ref l0), some (.int l1), some (.int (h3.1 v4 11)), some (.int (h3.1 v4 12)), none]) r_X11_twistsOf_21 rfl rfl ?_
  refine xm_E_s r_X11_twistsOf_22 rfl rfl ?_
  refine xm_E_s r_X11_twistsOf_23 rfl rfl ?_
  refine xm_E_s r_X11_twistsOf_24 rfl rfl ?_
  refine xm_E_s r_X11_twistsOf_25 rfl rfl ?_
  refine xm_E_s r_X11_twistsOf_26 rfl rfl ?_
  refine xm_E_s r_X11_twistsOf_27 rfl rfl ?_
  refine xm_E_s r_X11_twistsOf_28 rfl rfl ?_
  refine xm_E_s r_X11_twistsOf_29 rfl rfl ?_
  refine xm_E_s r_X11_twistsOf_30 rfl rfl ?_
  refine xm_E_s r_X11_twistsOf_31 rfl rfl ?_
  refine xm_E_s r_X11_twistsOf_32 rfl rfl ?_
  refine xm_E_s (ls1 := [some (.ref l0), some (.int l1), some (.int (h3.1 v4 11)), some (.int (h3.1 v4 12)), some (.int (((h3.1 v4 11) * ((100 : Int32) - (h3.1 v4 12))) + ((h3.1 v4 12) * ((100 : Int32) - (h3.1 v4 11)))))]) r_X11_twistsOf_33 rfl rfl ?_
  refine xm_E_s r_X11_twistsOf_34 rfl rfl ?_
  refine xm_E_s r_X11_twistsOf_35 rfl rfl ?_
  refine xm_E_cv [.ref l0, .int l1] [] r_X11_twistsOf_36 rfl rfl (Nat.le_of_ble_eq_true rfl) (xm_rc q1 (by decide)) rfl q11 ?_
  refine xm_E_s r_X11_twistsOf_37 rfl rfl ?_
  refine xm_E_s r_X11_twistsOf_38 rfl rfl ?_
  refine xm_E_cv [.ref l0, .int l1] [.int r6] r_X11_twistsOf_39 rfl rfl (Nat.le_of_ble_eq_true rfl) (xm_rc q1 (by decide)) rfl q12 ?_
  refine xm_E_s r_X11_twistsOf_40 rfl rfl ?_
  refine xm_E_t q13 ?_
  refine xm_E_s r_X11_twistsOf_41 rfl rfl ?_
  refine xm_E_s r_X11_twistsOf_42 rfl rfl ?_
  exact xm_E_iret r_X11_twistsOf_46 rfl rfl
theorem p_X11_twistsOf_0_3 {X : xm_X} {P : List xm_M} {d : Nat} {h : xm_H} {l0 : Nat} {l1 : Int32} {h0 : xm_H} {r0 : Int32} {h1 : xm_H} {r1 : Int32} {h2 : xm_H} {r2 : Int32} {h3 : xm_H} {r3 : Int32} {v4 : Nat} {n5 : Nat} {h6 : xm_H} {r6 : Int32} {h7 : xm_H} {r7 : Int32} (q0 : xm_V X P d 245 [.ref l0, .int l1] h (some (.int r0)) h0) (q1 : X.1[l0]? = some (.inr 10)) (q2 : xm_V X P d 296 [.int r0] h0 (some (.int r1)) h1) (q3 : ¬ (r1 = (0 : Int32))) (q4 : xm_V X P d 246 [.ref l0, .int l1] h1 (some (.int r2)) h2) (q5 : xm_V X P d 296 [.int r2] h2 (some (.int r3)) h3) (q6 : ¬ (r3 = (0 : Int32))) (q7 : h3.2.2 l0 1 = some v4) (q8 : X.1[v4]? = some (.inl (0, n5))) (q9 : 11 < n5) (q10 : 12 < n5) (q11 : xm_V X P d 245 [.ref l0, .int l1] h3 (some (.int r6)) h6) (q12 : xm_V X P d 246 [.ref l0, .int l1] h6 (some (.int r7)) h7) (q13 : ¬ (r6 = r7)) : xm_E X P d co_X11_twistsOf 0 [some (.ref l0), some (.int l1), none, none, none] [] h (some (.int ((10000 : Int32) - (((h3.1 v4 11) * ((100 : Int32) - (h3.1 v4 12))) + ((h3.1 v4 12) * ((100 : Int32) - (h3.1 v4 11))))))) h7 := by
  refine xm_E_s r_X11_twistsOf_0 rfl rfl ?_
  refine xm_E_s r_X11_twistsOf_1 rfl rfl ?_
  refine xm_E_cv [.ref l0, .int l1] [] r_X11_twistsOf_2 rfl rfl (Nat.le_of_ble_eq_true rfl) (xm_rc q1 (by decide)) rfl q0 ?_
  refine xm_E_cs [.int r0] [] r_X11_twistsOf_3 rfl rfl rfl (Nat.le_of_ble_eq_true rfl) rfl q2 ?_
  refine xm_E_s r_X11_twistsOf_4 rfl rfl ?_
  refine xm_E_f q3 ?_
  refine xm_E_s r_X11_twistsOf_5 rfl rfl ?_
  refine xm_E_s r_X11_twistsOf_6 rfl rfl ?_
  refine xm_E_cv [.ref l0, .int l1] [] r_X11_twistsOf_7 rfl rfl (Nat.le_of_ble_eq_true rfl) (xm_rc q1 (by decide)) rfl q4 ?_
  refine xm_E_cs [.int r2] [] r_X11_twistsOf_8 rfl rfl rfl (Nat.le_of_ble_eq_true rfl) rfl q5 ?_
  refine xm_E_s r_X11_twistsOf_9 rfl rfl ?_
  refine xm_E_f q6 ?_
  refine xm_E_s r_X11_twistsOf_12 rfl rfl ?_
  refine xm_E_s r_X11_twistsOf_13 rfl (xm_T_gr rfl q1 rfl rfl q7) ?_
  refine xm_E_s r_X11_twistsOf_14 rfl rfl ?_
  refine xm_E_s r_X11_twistsOf_15 rfl (xm_T_iald rfl q8 (by decide) (fun e => e.elim (fun e => absurd e (by decide)) (fun e => Nat.not_le.mpr q9 e))) ?_
  refine xm_E_s (ls1 := [some (.ref l0), some (.int l1), some (.int (h3.1 v4 11)), none, none]) r_X11_twistsOf_16 rfl rfl ?_
  refine xm_E_s r_X11_twistsOf_17 rfl rfl ?_
  refine xm_E_s r_X11_twistsOf_18 rfl (xm_T_gr rfl q1 rfl rfl q7) ?_
  refine xm_E_s r_X11_twistsOf_19 rfl rfl ?_
  refine xm_E_s r_X11_twistsOf_20 rfl (xm_T_iald rfl q8 (by decide) (fun e => e.elim (fun e => absurd e (by decide)) (fun e => Nat.not_le.mpr q10 e))) ?_
  refine xm_E_s (ls1 := [some (.ref l0), some (.int l1), some (.int (h3.1 v4 11)), some (.int (h3.1 v4 12)), none]) r_X11_twistsOf_21 rfl rfl ?_
  refine xm_E_s r_X11_twistsOf_22 rfl rfl ?_
  refine xm_E_s r_X11_twistsOf_23 rfl rfl ?_
  refine xm_E_s r_X11_twistsOf_24 rfl rfl ?_
  refine xm_E_s r_X11_twistsOf_25 rfl rfl ?_
  refine xm_E_s r_X11_twistsOf_26 rfl rfl ?_
  refine xm_E_s r_X11_twistsOf_27 rfl rfl ?_
  refine xm_E_s r_X11_twistsOf_28 rfl rfl ?_
  refine xm_E_s r_X11_twistsOf_29 rfl rfl ?_
  refine xm_E_s r_X11_twistsOf_30 rfl rfl ?_
  refine xm_E_s r_X11_twistsOf_31 rfl rfl ?_
  refine xm_E_s r_X11_twistsOf_32 rfl rfl ?_
  refine xm_E_s (ls1 := [some (.ref l0), some (.int l1), some (.int (h3.1 v4 11)), some (.int (h3.1 v4 12)), some (.int (((h3.1 v4 11) * ((100 : Int32) - (h3.1 v4 12))) + ((h3.1 v4 12) * ((100 : Int32) - (h3.1 v4 11)))))]) r_X11_twistsOf_33 rfl rfl ?_
  refine xm_E_s r_X11_twistsOf_34 rfl rfl ?_
  refine xm_E_s r_X11_twistsOf_35 rfl rfl ?_
  refine xm_E_cv [.ref l0, .int l1] [] r_X11_twistsOf_36 rfl rfl (Nat.le_of_ble_eq_true rfl) (xm_rc q1 (by decide)) rfl q11 ?_
  refine xm_E_s r_X11_twistsOf_37 rfl rfl ?_
  refine xm_E_s r_X11_twistsOf_38 rfl rfl ?_
  refine xm_E_cv [.ref l0, .int l1] [.int r6] r_X11_twistsOf_39 rfl rfl (Nat.le_of_ble_eq_true rfl) (xm_rc q1 (by decide)) rfl q12 ?_
  refine xm_E_s r_X11_twistsOf_40 rfl rfl ?_
  refine xm_E_f q13 ?_
  refine xm_E_s r_X11_twistsOf_43 rfl rfl ?_
  refine xm_E_s r_X11_twistsOf_44 rfl rfl ?_
  refine xm_E_s r_X11_twistsOf_45 rfl rfl ?_
  exact xm_E_iret r_X11_twistsOf_46 rfl rfl
theorem r_X11_mend_0 : co_X11_mend[0]? = some ((0, .aload_n 0, 0, 0, 0, 0, 0, 0, []) : xm_I) := rfl
theorem r_X11_mend_1 : co_X11_mend[1]? = some ((1, .iload_n 1, 0, 0, 0, 0, 0, 0, []) : xm_I) := rfl
theorem r_X11_mend_2 : co_X11_mend[2]? = some ((2, .i2l, 0, 0, 0, 0, 0, 0, []) : xm_I) := rfl
theorem r_X11_mend_3 : co_X11_mend[3]? = some ((3, .invokevirtual 347, 1747, 244, 2, 10, 0, 0, []) : xm_I) := rfl
theorem r_X11_mend_4 : co_X11_mend[4]? = some ((6, .ifCond .eq 30, 0, 0, 20, 0, 0, 0, []) : xm_I) := rfl
theorem r_X11_mend_5 : co_X11_mend[5]? = some ((9, .iload_n 2, 0, 0, 0, 0, 0, 0, []) : xm_I) := rfl
theorem r_X11_mend_6 : co_X11_mend[6]? = some ((10, .i2l, 0, 0, 0, 0, 0, 0, []) : xm_I) := rfl
theorem r_X11_mend_7 : co_X11_mend[7]? = some ((11, .lconst 0, 0, 0, 0, 0, 0, 0, []) : xm_I) := rfl
theorem r_X11_mend_8 : co_X11_mend[8]? = some ((12, .lconst 1, 0, 0, 0, 0, 0, 1, []) : xm_I) := rfl
theorem r_X11_mend_9 : co_X11_mend[9]? = some ((13, .invokestatic 84, 1503, 191, 3, 0, 0, 0, []) : xm_I) := rfl
theorem r_X11_mend_10 : co_X11_mend[10]? = some ((16, .ifCond .eq 20, 0, 0, 20, 0, 0, 0, []) : xm_I) := rfl
theorem r_X11_mend_11 : co_X11_mend[11]? = some ((19, .aload_n 0, 0, 0, 0, 0, 0, 0, []) : xm_I) := rfl
theorem r_X11_mend_12 : co_X11_mend[12]? = some ((20, .iload_n 1, 0, 0, 0, 0, 0, 0, []) : xm_I) := rfl
theorem r_X11_mend_13 : co_X11_mend[13]? = some ((21, .invokevirtual 350, 1751, 245, 2, 10, 0, 0, []) : xm_I) := rfl
theorem r_X11_mend_14 : co_X11_mend[14]? = some ((24, .aload_n 0, 0, 0, 0, 0, 0, 0, []) : xm_I) := rfl
theorem r_X11_mend_15 : co_X11_mend[15]? = some ((25, .iload_n 1, 0, 0, 0, 0, 0, 0, []) : xm_I) := rfl
theorem r_X11_mend_16 : co_X11_mend[16]? = some ((26, .invokevirtual 352, 1755, 246, 2, 10, 0, 0, []) : xm_I) := rfl
theorem r_X11_mend_17 : co_X11_mend[17]? = some ((29, .invokestatic 354, 1759, 247, 2, 0, 0, 0, []) : xm_I) := rfl
theorem r_X11_mend_18 : co_X11_mend[18]? = some ((32, .iconst 1, 0, 0, 0, 0, 1, 0, []) : xm_I) := rfl
theorem r_X11_mend_19 : co_X11_mend[19]? = some ((33, .if_icmp .le 6, 0, 0, 22, 0, 0, 0, []) : xm_I) := rfl
theorem r_X11_mend_20 : co_X11_mend[20]? = some ((36, .bipush (-2), 0, 0, 0, 0, (-2), 0, []) : xm_I) := rfl
theorem r_X11_mend_21 : co_X11_mend[21]? = some ((38, .ireturn, 0, 0, 0, 0, 0, 0, []) : xm_I) := rfl
theorem r_X11_mend_22 : co_X11_mend[22]? = some ((39, .aload_n 0, 0, 0, 0, 0, 0, 0, []) : xm_I) := rfl
theorem r_X11_mend_23 : co_X11_mend[23]? = some ((40, .iload_n 1, 0, 0, 0, 0, 0, 0, []) : xm_I) := rfl
theorem r_X11_mend_24 : co_X11_mend[24]? = some ((41, .invokevirtual 467, 1972, 300, 2, 10, 0, 0, []) : xm_I) := rfl
theorem r_X11_mend_25 : co_X11_mend[25]? = some ((44, .istore_n 3, 0, 0, 0, 0, 0, 0, []) : xm_I) := rfl
theorem r_X11_mend_26 : co_X11_mend[26]? = some ((45, .ldc2_w 461, 1961, 0, 0, 0, 0, 10000, []) : xm_I) := rfl
theorem r_X11_mend_27 : co_X11_mend[27]? = some ((48, .aload_n 0, 0, 0, 0, 0, 0, 0, []) : xm_I) := rfl
theorem r_X11_mend_28 : co_X11_mend[28]? = some ((49, .getfield 9, 1381, 10, 1, 2, 0, 0, []) : xm_I) := rfl
theorem r_X11_mend_29 : co_X11_mend[29]? = some ((52, .iconst 5, 0, 0, 0, 0, 5, 0, []) : xm_I) := rfl
theorem r_X11_mend_30 : co_X11_mend[30]? = some ((53, .iaload, 0, 0, 0, 0, 0, 0, []) : xm_I) := rfl
theorem r_X11_mend_31 : co_X11_mend[31]? = some ((54, .i2l, 0, 0, 0, 0, 0, 0, []) : xm_I) := rfl
theorem r_X11_mend_32 : co_X11_mend[32]? = some ((55, .lmul, 0, 0, 0, 0, 0, 0, []) : xm_I) := rfl
theorem r_X11_mend_33 : co_X11_mend[33]? = some ((56, .iload_n 3, 0, 0, 0, 0, 0, 0, []) : xm_I) := rfl
theorem r_X11_mend_34 : co_X11_mend[34]? = some ((57, .i2l, 0, 0, 0, 0, 0, 0, []) : xm_I) := rfl
theorem r_X11_mend_35 : co_X11_mend[35]? = some ((58, .aload_n 0, 0, 0, 0, 0, 0, 0, []) : xm_I) := rfl
theorem r_X11_mend_36 : co_X11_mend[36]? = some ((59, .getfield 9, 1381, 10, 1, 2, 0, 0, []) : xm_I) := rfl
theorem r_X11_mend_37 : co_X11_mend[37]? = some ((62, .bipush 10, 0, 0, 0, 0, 10, 0, []) : xm_I) := rfl
theorem r_X11_mend_38 : co_X11_mend[38]? = some ((64, .iaload, 0, 0, 0, 0, 0, 0, []) : xm_I) := rfl
theorem r_X11_mend_39 : co_X11_mend[39]? = some ((65, .i2l, 0, 0, 0, 0, 0, 0, []) : xm_I) := rfl
theorem r_X11_mend_40 : co_X11_mend[40]? = some ((66, .lmul, 0, 0, 0, 0, 0, 0, []) : xm_I) := rfl
theorem r_X11_mend_41 : co_X11_mend[41]? = some ((67, .ladd, 0, 0, 0, 0, 0, 0, []) : xm_I) := rfl
theorem r_X11_mend_42 : co_X11_mend[42]? = some ((68, .ldc2_w 461, 1961, 0, 0, 0, 0, 10000, []) : xm_I) := rfl
theorem r_X11_mend_43 : co_X11_mend[43]? = some ((71, .iload_n 3, 0, 0, 0, 0, 0, 0, []) : xm_I) := rfl
theorem r_X11_mend_44 : co_X11_mend[44]? = some ((72, .i2l, 0, 0, 0, 0, 0, 0, []) : xm_I) := rfl
theorem r_X11_mend_45 : co_X11_mend[45]? = some ((73, .lsub, 0, 0, 0, 0, 0, 0, []) : xm_I) := rfl
theorem r_X11_mend_46 : co_X11_mend[46]? = some ((74, .iload_n 2, 0, 0, 0, 0, 0, 0, []) : xm_I) := rfl
theorem r_X11_mend_47 : co_X11_mend[47]? = some ((75, .invokestatic 463, 1962, 297, 3, 0, 0, 0, []) : xm_I) := rfl
theorem r_X11_mend_48 : co_X11_mend[48]? = some ((78, .l2i, 0, 0, 0, 0, 0, 0, []) : xm_I) := rfl
theorem r_X11_mend_49 : co_X11_mend[49]? = some ((79, .ireturn, 0, 0, 0, 0, 0, 0, []) : xm_I) := rfl
theorem p_X11_mend_0_0 {X : xm_X} {P : List xm_M} {d : Nat} {h : xm_H} {l0 : Nat} {l1 : Int32} {l2 : Int32} {h0 : xm_H} {r0 : Int32} (q0 : xm_V X P d 244 [.ref l0, .long l1.toInt64] h (some (.int r0)) h0) (q1 : X.1[l0]? = some (.inr 10)) (q2 : r0 = (0 : Int32)) : xm_E X P d co_X11_mend 0 [some (.ref l0), some (.int l1), some (.int l2), none] [] h (some (.int (-2 : Int32))) h0 := by
  refine xm_E_s r_X11_mend_0 rfl rfl ?_
  refine xm_E_s r_X11_mend_1 rfl rfl ?_
  refine xm_E_s r_X11_mend_2 rfl rfl ?_
  refine xm_E_cv [.ref l0, .long l1.toInt64] [] r_X11_mend_3 rfl rfl (Nat.le_of_ble_eq_true rfl) (xm_rc q1 (by decide)) rfl q0 ?_
  refine xm_E_s r_X11_mend_4 rfl rfl ?_
  refine xm_E_t q2 ?_
  refine xm_E_s r_X11_mend_20 rfl rfl ?_
  exact xm_E_iret r_X11_mend_21 rfl rfl
theorem p_X11_mend_0_1 {X : xm_X} {P : List xm_M} {d : Nat} {h : xm_H} {l0 : Nat} {l1 : Int32} {l2 : Int32} {h0 : xm_H} {r0 : Int32} {h1 : xm_H} {r1 : Int32} (q0 : xm_V X P d 244 [.ref l0, .long l1.toInt64] h (some (.int r0)) h0) (q1 : X.1[l0]? = some (.inr 10)) (q2 : ¬ (r0 = (0 : Int32))) (q3 : xm_V X P d 191 [.long l2.toInt64, .long (0 : Int64), .long (1 : Int64)] h0 (some (.int r1)) h1) (q4 : r1 = (0 : Int32)) : xm_E X P d co_X11_mend 0 [some (.ref l0), some (.int l1), some (.int l2), none] [] h (some (.int (-2 : Int32))) h1 := by
  refine xm_E_s r_X11_mend_0 rfl rfl ?_
  refine xm_E_s r_X11_mend_1 rfl rfl ?_
  refine xm_E_s r_X11_mend_2 rfl rfl ?_
  refine xm_E_cv [.ref l0, .long l1.toInt64] [] r_X11_mend_3 rfl rfl (Nat.le_of_ble_eq_true rfl) (xm_rc q1 (by decide)) rfl q0 ?_
  refine xm_E_s r_X11_mend_4 rfl rfl ?_
  refine xm_E_f q2 ?_
  refine xm_E_s r_X11_mend_5 rfl rfl ?_
  refine xm_E_s r_X11_mend_6 rfl rfl ?_
  refine xm_E_s r_X11_mend_7 rfl rfl ?_
  refine xm_E_s r_X11_mend_8 rfl rfl ?_
  refine xm_E_cs [.long l2.toInt64, .long (0 : Int64), .long (1 : Int64)] [] r_X11_mend_9 rfl rfl rfl (Nat.le_of_ble_eq_true rfl) rfl q3 ?_
  refine xm_E_s r_X11_mend_10 rfl rfl ?_
  refine xm_E_t q4 ?_
  refine xm_E_s r_X11_mend_20 rfl rfl ?_
  exact xm_E_iret r_X11_mend_21 rfl rfl
theorem p_X11_mend_0_2 {X : xm_X} {P : List xm_M} {d : Nat} {h : xm_H} {l0 : Nat} {l1 : Int32} {l2 : Int32} {h0 : xm_H} {r0 : Int32} {h1 : xm_H} {r1 : Int32} {h2 : xm_H} {r2 : Int32} {h3 : xm_H} {r3 : Int32} {h4 : xm_H} {r4 : Int32} {h5 : xm_H} {r5 : Int32} {v6 : Nat} {n7 : Nat} {h8 : xm_H} {r8 : Int64} (q0 : xm_V X P d 244 [.ref l0, .long l1.toInt64] h (some (.int r0)) h0) (q1 : X.1[l0]? = some (.inr 10)) (q2 : ¬ (r0 = (0 : Int32))) (q3 : xm_V X P d 191 [.long l2.toInt64, .long (0 : Int64), .long (1 : Int64)] h0 (some (.int r1)) h1) (q4 : ¬ (r1 = (0 : Int32))) (q5 : xm_V X P d 245 [.ref l0, .int l1] h1 (some (.int r2)) h2) (q6 : xm_V X P d 246 [.ref l0, .int l1] h2 (some (.int r3)) h3) (q7 : xm_V X P d 247 [.int r2, .int r3] h3 (some (.int r4)) h4) (q8 : r4 ≤ (1 : Int32)) (q9 : xm_V X P d 300 [.ref l0, .int l1] h4 (some (.int r5)) h5) (q10 : h5.2.2 l0 1 = some v6) (q11 : X.1[v6]? = some (.inl (0, n7))) (q12 : 5 < n7) (q13 : 10 < n7) (q14 : xm_V X P d 297 [.long (((10000 : Int64) * ((h5.1 v6 5).toInt64)) + (r5.toInt64 * ((h5.1 v6 10).toInt64))), .long ((10000 : Int64) - r5.toInt64), .int l2] h5 (some (.long r8)) h8) : xm_E X P d co_X11_mend 0 [some (.ref l0), some (.int l1), some (.int l2), none] [] h (some (.int r8.toInt32)) h8 := by
  refine xm_E_s r_X11_mend_0 rfl rfl ?_
  refine xm_E_s r_X11_mend_1 rfl rfl ?_
  refine xm_E_s r_X11_mend_2 rfl rfl ?_
  refine xm_E_cv [.ref l0, .long l1.toInt64] [] r_X11_mend_3 rfl rfl (Nat.le_of_ble_eq_true rfl) (xm_rc q1 (by decide)) rfl q0 ?_
  refine xm_E_s r_X11_mend_4 rfl rfl ?_
  refine xm_E_f q2 ?_
  refine xm_E_s r_X11_mend_5 rfl rfl ?_
  refine xm_E_s r_X11_mend_6 rfl rfl ?_
  refine xm_E_s r_X11_mend_7 rfl rfl ?_
  refine xm_E_s r_X11_mend_8 rfl rfl ?_
  refine xm_E_cs [.long l2.toInt64, .long (0 : Int64), .long (1 : Int64)] [] r_X11_mend_9 rfl rfl rfl (Nat.le_of_ble_eq_true rfl) rfl q3 ?_
  refine xm_E_s r_X11_mend_10 rfl rfl ?_
  refine xm_E_f q4 ?_
  refine xm_E_s r_X11_mend_11 rfl rfl ?_
  refine xm_E_s r_X11_mend_12 rfl rfl ?_
  refine xm_E_cv [.ref l0, .int l1] [] r_X11_mend_13 rfl rfl (Nat.le_of_ble_eq_true rfl) (xm_rc q1 (by decide)) rfl q5 ?_
  refine xm_E_s r_X11_mend_14 rfl rfl ?_
  refine xm_E_s r_X11_mend_15 rfl rfl ?_
  refine xm_E_cv [.ref l0, .int l1] [.int r2] r_X11_mend_16 rfl rfl (Nat.le_of_ble_eq_true rfl) (xm_rc q1 (by decide)) rfl q6 ?_
  refine xm_E_cs [.int r2, .int r3] [] r_X11_mend_17 rfl rfl rfl (Nat.le_of_ble_eq_true rfl) rfl q7 ?_
  refine xm_E_s r_X11_mend_18 rfl rfl ?_
  refine xm_E_s r_X11_mend_19 rfl rfl ?_
  refine xm_E_t q8 ?_
  refine xm_E_s r_X11_mend_22 rfl rfl ?_
  refine xm_E_s r_X11_mend_23 rfl rfl ?_
  refine xm_E_cv [.ref l0, .int l1] [] r_X11_mend_24 rfl rfl (Nat.le_of_ble_eq_true rfl) (xm_rc q1 (by decide)) rfl q9 ?_
  refine xm_E_s (ls1 := [some (.ref l0), some (.int l1), some (.int l2), some (.int r5)]) r_X11_mend_25 rfl rfl ?_
  refine xm_E_s r_X11_mend_26 rfl rfl ?_
  refine xm_E_s r_X11_mend_27 rfl rfl ?_
  refine xm_E_s r_X11_mend_28 rfl (xm_T_gr rfl q1 rfl rfl q10) ?_
  refine xm_E_s r_X11_mend_29 rfl rfl ?_
  refine xm_E_s r_X11_mend_30 rfl (xm_T_iald rfl q11 (by decide) (fun e => e.elim (fun e => absurd e (by decide)) (fun e => Nat.not_le.mpr q12 e))) ?_
  refine xm_E_s r_X11_mend_31 rfl rfl ?_
  refine xm_E_s r_X11_mend_32 rfl rfl ?_
  refine xm_E_s r_X11_mend_33 rfl rfl ?_
  refine xm_E_s r_X11_mend_34 rfl rfl ?_
  refine xm_E_s r_X11_mend_35 rfl rfl ?_
  refine xm_E_s r_X11_mend_36 rfl (xm_T_gr rfl q1 rfl rfl q10) ?_
  refine xm_E_s r_X11_mend_37 rfl rfl ?_
  refine xm_E_s r_X11_mend_38 rfl (xm_T_iald rfl q11 (by decide) (fun e => e.elim (fun e => absurd e (by decide)) (fun e => Nat.not_le.mpr q13 e))) ?_
  refine xm_E_s r_X11_mend_39 rfl rfl ?_
  refine xm_E_s r_X11_mend_40 rfl rfl ?_
  refine xm_E_s r_X11_mend_41 rfl rfl ?_
  refine xm_E_s r_X11_mend_42 rfl rfl ?_
  refine xm_E_s r_X11_mend_43 rfl rfl ?_
  refine xm_E_s r_X11_mend_44 rfl rfl ?_
  refine xm_E_s r_X11_mend_45 rfl rfl ?_
  refine xm_E_s r_X11_mend_46 rfl rfl ?_
  refine xm_E_cs [.long (((10000 : Int64) * ((h5.1 v6 5).toInt64)) + (r5.toInt64 * ((h5.1 v6 10).toInt64))), .long ((10000 : Int64) - r5.toInt64), .int l2] [] r_X11_mend_47 rfl rfl rfl (Nat.le_of_ble_eq_true rfl) rfl q14 ?_
  refine xm_E_s r_X11_mend_48 rfl rfl ?_
  exact xm_E_iret r_X11_mend_49 rfl rfl
theorem p_X11_mend_0_3 {X : xm_X} {P : List xm_M} {d : Nat} {h : xm_H} {l0 : Nat} {l1 : Int32} {l2 : Int32} {h0 : xm_H} {r0 : Int32} {h1 : xm_H} {r1 : Int32} {h2 : xm_H} {r2 : Int32} {h3 : xm_H} {r3 : Int32} {h4 : xm_H} {r4 : Int32} (q0 : xm_V X P d 244 [.ref l0, .long l1.toInt64] h (some (.int r0)) h0) (q1 : X.1[l0]? = some (.inr 10)) (q2 : ¬ (r0 = (0 : Int32))) (q3 : xm_V X P d 191 [.long l2.toInt64, .long (0 : Int64), .long (1 : Int64)] h0 (some (.int r1)) h1) (q4 : ¬ (r1 = (0 : Int32))) (q5 : xm_V X P d 245 [.ref l0, .int l1] h1 (some (.int r2)) h2) (q6 : xm_V X P d 246 [.ref l0, .int l1] h2 (some (.int r3)) h3) (q7 : xm_V X P d 247 [.int r2, .int r3] h3 (some (.int r4)) h4) (q8 : ¬ (r4 ≤ (1 : Int32))) : xm_E X P d co_X11_mend 0 [some (.ref l0), some (.int l1), some (.int l2), none] [] h (some (.int (-2 : Int32))) h4 := by
  refine xm_E_s r_X11_mend_0 rfl rfl ?_
  refine xm_E_s r_X11_mend_1 rfl rfl ?_
  refine xm_E_s r_X11_mend_2 rfl rfl ?_
  refine xm_E_cv [.ref l0, .long l1.toInt64] [] r_X11_mend_3 rfl rfl (Nat.le_of_ble_eq_true rfl) (xm_rc q1 (by decide)) rfl q0 ?_
  refine xm_E_s r_X11_mend_4 rfl rfl ?_
  refine xm_E_f q2 ?_
  refine xm_E_s r_X11_mend_5 rfl rfl ?_
  refine xm_E_s r_X11_mend_6 rfl rfl ?_
  refine xm_E_s r_X11_mend_7 rfl rfl ?_
  refine xm_E_s r_X11_mend_8 rfl rfl ?_
  refine xm_E_cs [.long l2.toInt64, .long (0 : Int64), .long (1 : Int64)] [] r_X11_mend_9 rfl rfl rfl (Nat.le_of_ble_eq_true rfl) rfl q3 ?_
  refine xm_E_s r_X11_mend_10 rfl rfl ?_
  refine xm_E_f q4 ?_
  refine xm_E_s r_X11_mend_11 rfl rfl ?_
  refine xm_E_s r_X11_mend_12 rfl rfl ?_
  refine xm_E_cv [.ref l0, .int l1] [] r_X11_mend_13 rfl rfl (Nat.le_of_ble_eq_true rfl) (xm_rc q1 (by decide)) rfl q5 ?_
  refine xm_E_s r_X11_mend_14 rfl rfl ?_
  refine xm_E_s r_X11_mend_15 rfl rfl ?_
  refine xm_E_cv [.ref l0, .int l1] [.int r2] r_X11_mend_16 rfl rfl (Nat.le_of_ble_eq_true rfl) (xm_rc q1 (by decide)) rfl q6 ?_
  refine xm_E_cs [.int r2, .int r3] [] r_X11_mend_17 rfl rfl rfl (Nat.le_of_ble_eq_true rfl) rfl q7 ?_
  refine xm_E_s r_X11_mend_18 rfl rfl ?_
  refine xm_E_s r_X11_mend_19 rfl rfl ?_
  refine xm_E_f q8 ?_
  refine xm_E_s r_X11_mend_20 rfl rfl ?_
  exact xm_E_iret r_X11_mend_21 rfl rfl
theorem r_X11_chance_0 : co_X11_chance[0]? = some ((0, .aload_n 0, 0, 0, 0, 0, 0, 0, []) : xm_I) := rfl
theorem r_X11_chance_1 : co_X11_chance[1]? = some ((1, .iload_n 1, 0, 0, 0, 0, 0, 0, []) : xm_I) := rfl
theorem r_X11_chance_2 : co_X11_chance[2]? = some ((2, .iload_n 2, 0, 0, 0, 0, 0, 0, []) : xm_I) := rfl
theorem r_X11_chance_3 : co_X11_chance[3]? = some ((3, .i2l, 0, 0, 0, 0, 0, 0, []) : xm_I) := rfl
theorem r_X11_chance_4 : co_X11_chance[4]? = some ((4, .lconst 0, 0, 0, 0, 0, 0, 0, []) : xm_I) := rfl
theorem r_X11_chance_5 : co_X11_chance[5]? = some ((5, .lconst 1, 0, 0, 0, 0, 0, 1, []) : xm_I) := rfl
theorem r_X11_chance_6 : co_X11_chance[6]? = some ((6, .invokestatic 84, 1503, 191, 3, 0, 0, 0, []) : xm_I) := rfl
theorem r_X11_chance_7 : co_X11_chance[7]? = some ((9, .iconst 1, 0, 0, 0, 0, 1, 0, []) : xm_I) := rfl
theorem r_X11_chance_8 : co_X11_chance[8]? = some ((10, .invokevirtual 373, 1778, 252, 4, 10, 0, 0, []) : xm_I) := rfl
theorem r_X11_chance_9 : co_X11_chance[9]? = some ((13, .istore_n 3, 0, 0, 0, 0, 0, 0, []) : xm_I) := rfl
theorem r_X11_chance_10 : co_X11_chance[10]? = some ((14, .iload_n 3, 0, 0, 0, 0, 0, 0, []) : xm_I) := rfl
theorem r_X11_chance_11 : co_X11_chance[11]? = some ((15, .ifCond .ge 6, 0, 0, 15, 0, 0, 0, []) : xm_I) := rfl
theorem r_X11_chance_12 : co_X11_chance[12]? = some ((18, .iload_n 3, 0, 0, 0, 0, 0, 0, []) : xm_I) := rfl
theorem r_X11_chance_13 : co_X11_chance[13]? = some ((19, .i2l, 0, 0, 0, 0, 0, 0, []) : xm_I) := rfl
theorem r_X11_chance_14 : co_X11_chance[14]? = some ((20, .lreturn, 0, 0, 0, 0, 0, 0, []) : xm_I) := rfl
theorem r_X11_chance_15 : co_X11_chance[15]? = some ((21, .lconst 1, 0, 0, 0, 0, 0, 1, []) : xm_I) := rfl
theorem r_X11_chance_16 : co_X11_chance[16]? = some ((22, .lstore 4, 0, 0, 0, 0, 0, 0, []) : xm_I) := rfl
theorem r_X11_chance_17 : co_X11_chance[17]? = some ((24, .lconst 1, 0, 0, 0, 0, 0, 1, []) : xm_I) := rfl
theorem r_X11_chance_18 : co_X11_chance[18]? = some ((25, .lstore 6, 0, 0, 0, 0, 0, 0, []) : xm_I) := rfl
theorem r_X11_chance_19 : co_X11_chance[19]? = some ((27, .iconst 0, 0, 0, 0, 0, 0, 0, []) : xm_I) := rfl
theorem r_X11_chance_20 : co_X11_chance[20]? = some ((28, .istore 8, 0, 0, 0, 0, 0, 0, []) : xm_I) := rfl
theorem r_X11_chance_21 : co_X11_chance[21]? = some ((30, .iconst 0, 0, 0, 0, 0, 0, 0, []) : xm_I) := rfl
theorem r_X11_chance_22 : co_X11_chance[22]? = some ((31, .istore 9, 0, 0, 0, 0, 0, 0, []) : xm_I) := rfl
theorem r_X11_chance_23 : co_X11_chance[23]? = some ((33, .iload 9, 0, 0, 0, 0, 0, 0, []) : xm_I) := rfl
theorem r_X11_chance_24 : co_X11_chance[24]? = some ((35, .aload_n 0, 0, 0, 0, 0, 0, 0, []) : xm_I) := rfl
theorem r_X11_chance_25 : co_X11_chance[25]? = some ((36, .getfield 67, 1415, 10, 35, 2, 0, 0, []) : xm_I) := rfl
theorem r_X11_chance_26 : co_X11_chance[26]? = some ((39, .iload_n 1, 0, 0, 0, 0, 0, 0, []) : xm_I) := rfl
theorem r_X11_chance_27 : co_X11_chance[27]? = some ((40, .iaload, 0, 0, 0, 0, 0, 0, []) : xm_I) := rfl
theorem r_X11_chance_28 : co_X11_chance[28]? = some ((41, .if_icmp .ge 110, 0, 0, 79, 0, 0, 0, []) : xm_I) := rfl
theorem r_X11_chance_29 : co_X11_chance[29]? = some ((44, .iload 8, 0, 0, 0, 0, 0, 0, []) : xm_I) := rfl
theorem r_X11_chance_30 : co_X11_chance[30]? = some ((46, .bipush 8, 0, 0, 0, 0, 8, 0, []) : xm_I) := rfl
theorem r_X11_chance_31 : co_X11_chance[31]? = some ((48, .if_icmp .gt 103, 0, 0, 79, 0, 0, 0, []) : xm_I) := rfl
theorem r_X11_chance_32 : co_X11_chance[32]? = some ((51, .aload_n 0, 0, 0, 0, 0, 0, 0, []) : xm_I) := rfl
theorem r_X11_chance_33 : co_X11_chance[33]? = some ((52, .iload_n 1, 0, 0, 0, 0, 0, 0, []) : xm_I) := rfl
theorem r_X11_chance_34 : co_X11_chance[34]? = some ((53, .iload 9, 0, 0, 0, 0, 0, 0, []) : xm_I) := rfl
theorem r_X11_chance_35 : co_X11_chance[35]? = some ((55, .invokevirtual 360, 1786, 254, 3, 10, 0, 0, []) : xm_I) := rfl
theorem r_X11_chance_36 : co_X11_chance[36]? = some ((58, .l2i, 0, 0, 0, 0, 0, 0, []) : xm_I) := rfl
theorem r_X11_chance_37 : co_X11_chance[37]? = some ((59, .istore 10, 0, 0, 0, 0, 0, 0, []) : xm_I) := rfl
theorem r_X11_chance_38 : co_X11_chance[38]? = some ((61, .iconst 0, 0, 0, 0, 0, 0, 0, []) : xm_I) := rfl
theorem r_X11_chance_39 : co_X11_chance[39]? = some ((62, .istore 11, 0, 0, 0, 0, 0, 0, []) : xm_I) := rfl
theorem r_X11_chance_40 : co_X11_chance[40]? = some ((64, .iload 11, 0, 0, 0, 0, 0, 0, []) : xm_I) := rfl
theorem r_X11_chance_41 : co_X11_chance[41]? = some ((66, .iconst 2, 0, 0, 0, 0, 2, 0, []) : xm_I) := rfl
theorem r_X11_chance_42 : co_X11_chance[42]? = some ((67, .if_icmp .ge 78, 0, 0, 77, 0, 0, 0, []) : xm_I) := rfl
theorem r_X11_chance_43 : co_X11_chance[43]? = some ((70, .iload 11, 0, 0, 0, 0, 0, 0, []) : xm_I) := rfl
theorem r_X11_chance_44 : co_X11_chance[44]? = some ((72, .ifCond .ne 12, 0, 0, 49, 0, 0, 0, []) : xm_I) := rfl
theorem r_X11_chance_45 : co_X11_chance[45]? = some ((75, .aload_n 0, 0, 0, 0, 0, 0, 0, []) : xm_I) := rfl
theorem r_X11_chance_46 : co_X11_chance[46]? = some ((76, .iload 10, 0, 0, 0, 0, 0, 0, []) : xm_I) := rfl
theorem r_X11_chance_47 : co_X11_chance[47]? = some ((78, .invokevirtual 350, 1751, 245, 2, 10, 0, 0, []) : xm_I) := rfl
theorem r_X11_chance_48 : co_X11_chance[48]? = some ((81, .goto 9, 0, 0, 52, 0, 0, 0, []) : xm_I) := rfl
theorem r_X11_chance_49 : co_X11_chance[49]? = some ((84, .aload_n 0, 0, 0, 0, 0, 0, 0, []) : xm_I) := rfl
theorem r_X11_chance_50 : co_X11_chance[50]? = some ((85, .iload 10, 0, 0, 0, 0, 0, 0, []) : xm_I) := rfl
theorem r_X11_chance_51 : co_X11_chance[51]? = some ((87, .invokevirtual 352, 1755, 246, 2, 10, 0, 0, []) : xm_I) := rfl
theorem r_X11_chance_52 : co_X11_chance[52]? = some ((90, .istore 12, 0, 0, 0, 0, 0, 0, []) : xm_I) := rfl
theorem r_X11_chance_53 : co_X11_chance[53]? = some ((92, .iload 12, 0, 0, 0, 0, 0, 0, []) : xm_I) := rfl
theorem r_X11_chance_54 : co_X11_chance[54]? = some ((94, .invokestatic 456, 1958, 296, 1, 0, 0, 0, []) : xm_I) := rfl
theorem r_X11_chance_55 : co_X11_chance[55]? = some ((97, .ifCond .ne 6, 0, 0, 57, 0, 0, 0, []) : xm_I) := rfl
theorem r_X11_chance_56 : co_X11_chance[56]? = some ((100, .goto 39, 0, 0, 75, 0, 0, 0, []) : xm_I) := rfl
theorem r_X11_chance_57 : co_X11_chance[57]? = some ((103, .iinc 8 1, 0, 0, 0, 0, 1, 0, []) : xm_I) := rfl
theorem r_X11_chance_58 : co_X11_chance[58]? = some ((106, .iload 8, 0, 0, 0, 0, 0, 0, []) : xm_I) := rfl
theorem r_X11_chance_59 : co_X11_chance[59]? = some ((108, .bipush 8, 0, 0, 0, 0, 8, 0, []) : xm_I) := rfl
theorem r_X11_chance_60 : co_X11_chance[60]? = some ((110, .if_icmp .le 7, 0, 0, 63, 0, 0, 0, []) : xm_I) := rfl
theorem r_X11_chance_61 : co_X11_chance[61]? = some ((113, .ldc2_w 470, 1984, 0, 0, 0, 0, (-1), []) : xm_I) := rfl
theorem r_X11_chance_62 : co_X11_chance[62]? = some ((116, .lreturn, 0, 0, 0, 0, 0, 0, []) : xm_I) := rfl
theorem r_X11_chance_63 : co_X11_chance[63]? = some ((117, .lload 4, 0, 0, 0, 0, 0, 0, []) : xm_I) := rfl
theorem r_X11_chance_64 : co_X11_chance[64]? = some ((119, .aload_n 0, 0, 0, 0, 0, 0, 0, []) : xm_I) := rfl
theorem r_X11_chance_65 : co_X11_chance[65]? = some ((120, .iload 12, 0, 0, 0, 0, 0, 0, []) : xm_I) := rfl
theorem r_X11_chance_66 : co_X11_chance[66]? = some ((122, .iload 11, 0, 0, 0, 0, 0, 0, []) : xm_I) := rfl
theorem r_X11_chance_67 : co_X11_chance[67]? = some ((124, .invokevirtual 458, 1954, 295, 3, 10, 0, 0, []) : xm_I) := rfl
theorem r_X11_chance_68 : co_X11_chance[68]? = some ((127, .i2l, 0, 0, 0, 0, 0, 0, []) : xm_I) := rfl
theorem r_X11_chance_69 : co_X11_chance[69]? = some ((128, .lmul, 0, 0, 0, 0, 0, 0, []) : xm_I) := rfl
theorem r_X11_chance_70 : co_X11_chance[70]? = some ((129, .lstore 4, 0, 0, 0, 0, 0, 0, []) : xm_I) := rfl
theorem r_X11_chance_71 : co_X11_chance[71]? = some ((131, .lload 6, 0, 0, 0, 0, 0, 0, []) : xm_I) := rfl
theorem r_X11_chance_72 : co_X11_chance[72]? = some ((133, .ldc2_w 472, 1985, 0, 0, 0, 0, 100, []) : xm_I) := rfl
theorem r_X11_chance_73 : co_X11_chance[73]? = some ((136, .lmul, 0, 0, 0, 0, 0, 0, []) : xm_I) := rfl
theorem r_X11_chance_74 : co_X11_chance[74]? = some ((137, .lstore 6, 0, 0, 0, 0, 0, 0, []) : xm_I) := rfl
theorem r_X11_chance_75 : co_X11_chance[75]? = some ((139, .iinc 11 1, 0, 0, 0, 0, 1, 0, []) : xm_I) := rfl
theorem r_X11_chance_76 : co_X11_chance[76]? = some ((142, .goto (-78), 0, 0, 40, 0, 0, 0, []) : xm_I) := rfl
theorem r_X11_chance_77 : co_X11_chance[77]? = some ((145, .iinc 9 1, 0, 0, 0, 0, 1, 0, []) : xm_I) := rfl
theorem r_X11_chance_78 : co_X11_chance[78]? = some ((148, .goto (-115), 0, 0, 23, 0, 0, 0, []) : xm_I) := rfl
theorem r_X11_chance_79 : co_X11_chance[79]? = some ((151, .lload 4, 0, 0, 0, 0, 0, 0, []) : xm_I) := rfl
theorem r_X11_chance_80 : co_X11_chance[80]? = some ((153, .lload 6, 0, 0, 0, 0, 0, 0, []) : xm_I) := rfl
theorem r_X11_chance_81 : co_X11_chance[81]? = some ((155, .iload_n 2, 0, 0, 0, 0, 0, 0, []) : xm_I) := rfl
theorem r_X11_chance_82 : co_X11_chance[82]? = some ((156, .invokestatic 463, 1962, 297, 3, 0, 0, 0, []) : xm_I) := rfl
theorem r_X11_chance_83 : co_X11_chance[83]? = some ((159, .lreturn, 0, 0, 0, 0, 0, 0, []) : xm_I) := rfl
theorem p_X11_chance_0_0 {X : xm_X} {P : List xm_M} {d : Nat} {h : xm_H} {l0 : Nat} {l1 : Int32} {l2 : Int32} {h0 : xm_H} {r0 : Int32} {h1 : xm_H} {r1 : Int32} {ro : Option Value} {ho : xm_H} (q0 : xm_V X P d 191 [.long l2.toInt64, .long (0 : Int64), .long (1 : Int64)] h (some (.int r0)) h0) (q1 : xm_V X P d 252 [.ref l0, .int l1, .int r0, .int (1 : Int32)] h0 (some (.int r1)) h1) (q2 : X.1[l0]? = some (.inr 10)) (q3 : (0 : Int32) ≤ r1) (K : xm_E X P d co_X11_chance 23 [some (.ref l0), some (.int l1), some (.int l2), some (.int r1), some (.long (1 : Int64)), none, some (.long (1 : Int64)), none, some (.int (0 : Int32)), some (.int (0 : Int32)), none, none, none] [] h1 ro ho) : xm_E X P d co_X11_chance 0 [some (.ref l0), some (.int l1), some (.int l2), none, none, none, none, none, none, none, none, none, none] [] h ro ho := by
  refine xm_E_s r_X11_chance_0 rfl rfl ?_
  refine xm_E_s r_X11_chance_1 rfl rfl ?_
  refine xm_E_s r_X11_chance_2 rfl rfl ?_
  refine xm_E_s r_X11_chance_3 rfl rfl ?_
  refine xm_E_s r_X11_chance_4 rfl rfl ?_
  refine xm_E_s r_X11_chance_5 rfl rfl ?_
  refine xm_E_cs [.long l2.toInt64, .long (0 : Int64), .long (1 : Int64)] [.int l1, .ref l0] r_X11_chance_6 rfl rfl rfl (Nat.le_of_ble_eq_true rfl) rfl q0 ?_
  refine xm_E_s r_X11_chance_7 rfl rfl ?_
  refine xm_E_cv [.ref l0, .int l1, .int r0, .int (1 : Int32)] [] r_X11_chance_8 rfl rfl (Nat.le_of_ble_eq_true rfl) (xm_rc q2 (by decide)) rfl q1 ?_
  refine xm_E_s (ls1 := [some (.ref l0), some (.int l1), some (.int l2), some (.int r1), none, none, none, none, none, none, none, none, none]) r_X11_chance_9 rfl rfl ?_
  refine xm_E_s r_X11_chance_10 rfl rfl ?_
  refine xm_E_s r_X11_chance_11 rfl rfl ?_
  refine xm_E_t q3 ?_
  refine xm_E_s r_X11_chance_15 rfl rfl ?_
  refine xm_E_s (ls1 := [some (.ref l0), some (.int l1), some (.int l2), some (.int r1), some (.long (1 : Int64)), none, none, none, none, none, none, none, none]) r_X11_chance_16 rfl rfl ?_
  refine xm_E_s r_X11_chance_17 rfl rfl ?_
  refine xm_E_s (ls1 := [some (.ref l0), some (.int l1), some (.int l2), some (.int r1), some (.long (1 : Int64)), none, some (.long (1 : Int64)), none, none, none, none, none, none]) r_X11_chance_18 rfl rfl ?_
  refine xm_E_s r_X11_chance_19 rfl rfl ?_
  refine xm_E_s (ls1 := [some (.ref l0), some (.int l1), some (.int l2), some (.int r1), some (.long (1 : Int64)), none, some (.long (1 : Int64)), none, some (.int (0 : Int32)), none, none, none, none]) r_X11_chance_20 rfl rfl ?_
  refine xm_E_s r_X11_chance_21 rfl rfl ?_
  refine xm_E_s (ls1 := [some (.ref l0), some (.int l1), some (.int l2), some (.int r1), some (.long (1 : Int64)), none, some (.long (1 : Int64)), none, some (.int (0 : Int32)), some (.int (0 : Int32)), none, none, none]) r_X11_chance_22 rfl rfl ?_
  exact K
theorem p_X11_chance_0_1 {X : xm_X} {P : List xm_M} {d : Nat} {h : xm_H} {l0 : Nat} {l1 : Int32} {l2 : Int32} {h0 : xm_H} {r0 : Int32} {h1 : xm_H} {r1 : Int32} (q0 : xm_V X P d 191 [.long l2.toInt64, .long (0 : Int64), .long (1 : Int64)] h (some (.int r0)) h0) (q1 : xm_V X P d 252 [.ref l0, .int l1, .int r0, .int (1 : Int32)] h0 (some (.int r1)) h1) (q2 : X.1[l0]? = some (.inr 10)) (q3 : ¬ ((0 : Int32) ≤ r1)) : xm_E X P d co_X11_chance 0 [some (.ref l0), some (.int l1), some (.int l2), none, none, none, none, none, none, none, none, none, none] [] h (some (.long r1.toInt64)) h1 := by
  refine xm_E_s r_X11_chance_0 rfl rfl ?_
  refine xm_E_s r_X11_chance_1 rfl rfl ?_
  refine xm_E_s r_X11_chance_2 rfl rfl ?_
  refine xm_E_s r_X11_chance_3 rfl rfl ?_
  refine xm_E_s r_X11_chance_4 rfl rfl ?_
  refine xm_E_s r_X11_chance_5 rfl rfl ?_
  refine xm_E_cs [.long l2.toInt64, .long (0 : Int64), .long (1 : Int64)] [.int l1, .ref l0] r_X11_chance_6 rfl rfl rfl (Nat.le_of_ble_eq_true rfl) rfl q0 ?_
  refine xm_E_s r_X11_chance_7 rfl rfl ?_
  refine xm_E_cv [.ref l0, .int l1, .int r0, .int (1 : Int32)] [] r_X11_chance_8 rfl rfl (Nat.le_of_ble_eq_true rfl) (xm_rc q2 (by decide)) rfl q1 ?_
  refine xm_E_s (ls1 := [some (.ref l0), some (.int l1), some (.int l2), some (.int r1), none, none, none, none, none, none, none, none, none]) r_X11_chance_9 rfl rfl ?_
  refine xm_E_s r_X11_chance_10 rfl rfl ?_
  refine xm_E_s r_X11_chance_11 rfl rfl ?_
  refine xm_E_f q3 ?_
  refine xm_E_s r_X11_chance_12 rfl rfl ?_
  refine xm_E_s r_X11_chance_13 rfl rfl ?_
  exact xm_E_lret r_X11_chance_14 rfl
theorem p_X11_chance_23_0 {X : xm_X} {P : List xm_M} {d : Nat} {h : xm_H} {l0 : Nat} {l1 : Int32} {l2 : Int32} {l3 : Int32} {l4 : Int64} {l6 : Int64} {l8 : Int32} {l9 : Int32} {l10 : Option Value} {l11 : Option Value} {l12 : Option Value} {v0 : Nat} {n1 : Nat} {h2 : xm_H} {r2 : Int64} (q0 : X.1[l0]? = some (.inr 10)) (q1 : h.2.2 l0 35 = some v0) (q2 : X.1[v0]? = some (.inl (0, n1))) (q3 : ¬ (l1 < 0 ∨ n1 ≤ l1.toNatClampNeg)) (q4 : h.1 v0 l1.toNatClampNeg ≤ l9) (q5 : xm_V X P d 297 [.long l4, .long l6, .int l2] h (some (.long r2)) h2) : xm_E X P d co_X11_chance 23 [some (.ref l0), some (.int l1), some (.int l2), some (.int l3), some (.long l4), none, some (.long l6), none, some (.int l8), some (.int l9), l10, l11, l12] [] h (some (.long r2)) h2 := by
  refine xm_E_s r_X11_chance_23 rfl rfl ?_
  refine xm_E_s r_X11_chance_24 rfl rfl ?_
  refine xm_E_s r_X11_chance_25 rfl (xm_T_gr rfl q0 rfl rfl q1) ?_
  refine xm_E_s r_X11_chance_26 rfl rfl ?_
  refine xm_E_s r_X11_chance_27 rfl (xm_T_iald rfl q2 (by decide) q3) ?_
  refine xm_E_s r_X11_chance_28 rfl rfl ?_
  refine xm_E_t q4 ?_
  refine xm_E_s r_X11_chance_79 rfl rfl ?_
  refine xm_E_s r_X11_chance_80 rfl rfl ?_
  refine xm_E_s r_X11_chance_81 rfl rfl ?_
  refine xm_E_cs [.long l4, .long l6, .int l2] [] r_X11_chance_82 rfl rfl rfl (Nat.le_of_ble_eq_true rfl) rfl q5 ?_
  exact xm_E_lret r_X11_chance_83 rfl
theorem p_X11_chance_23_1 {X : xm_X} {P : List xm_M} {d : Nat} {h : xm_H} {l0 : Nat} {l1 : Int32} {l2 : Int32} {l3 : Int32} {l4 : Int64} {l6 : Int64} {l8 : Int32} {l9 : Int32} {l10 : Option Value} {l11 : Option Value} {l12 : Option Value} {v0 : Nat} {n1 : Nat} {h2 : xm_H} {r2 : Int64} (q0 : X.1[l0]? = some (.inr 10)) (q1 : h.2.2 l0 35 = some v0) (q2 : X.1[v0]? = some (.inl (0, n1))) (q3 : ¬ (l1 < 0 ∨ n1 ≤ l1.toNatClampNeg)) (q4 : ¬ (h.1 v0 l1.toNatClampNeg ≤ l9)) (q5 : (8 : Int32) < l8) (q6 : xm_V X P d 297 [.long l4, .long l6, .int l2] h (some (.long r2)) h2) : xm_E X P d co_X11_chance 23 [some (.ref l0), some (.int l1), some (.int l2), some (.int l3), some (.long l4), none, some (.long l6), none, some (.int l8), some (.int l9), l10, l11, l12] [] h (some (.long r2)) h2 := by
  refine xm_E_s r_X11_chance_23 rfl rfl ?_
  refine xm_E_s r_X11_chance_24 rfl rfl ?_
  refine xm_E_s r_X11_chance_25 rfl (xm_T_gr rfl q0 rfl rfl q1) ?_
  refine xm_E_s r_X11_chance_26 rfl rfl ?_
  refine xm_E_s r_X11_chance_27 rfl (xm_T_iald rfl q2 (by decide) q3) ?_
  refine xm_E_s r_X11_chance_28 rfl rfl ?_
  refine xm_E_f q4 ?_
  refine xm_E_s r_X11_chance_29 rfl rfl ?_
  refine xm_E_s r_X11_chance_30 rfl rfl ?_
  refine xm_E_s r_X11_chance_31 rfl rfl ?_
  refine xm_E_t q5 ?_
  refine xm_E_s r_X11_chance_79 rfl rfl ?_
  refine xm_E_s r_X11_chance_80 rfl rfl ?_
  refine xm_E_s r_X11_chance_81 rfl rfl ?_
  refine xm_E_cs [.long l4, .long l6, .int l2] [] r_X11_chance_82 rfl rfl rfl (Nat.le_of_ble_eq_true rfl) rfl q6 ?_
  exact xm_E_lret r_X11_chance_83 rfl
theorem p_X11_chance_23_2 {X : xm_X} {P : List xm_M} {d : Nat} {h : xm_H} {l0 : Nat} {l1 : Int32} {l2 : Int32} {l3 : Int32} {l4 : Int64} {l6 : Int64} {l8 : Int32} {l9 : Int32} {l10 : Option Value} {l11 : Option Value} {l12 : Option Value} {v0 : Nat} {n1 : Nat} {h2 : xm_H} {r2 : Int64} {ro : Option Value} {ho : xm_H} (q0 : X.1[l0]? = some (.inr 10)) (q1 : h.2.2 l0 35 = some v0) (q2 : X.1[v0]? = some (.inl (0, n1))) (q3 : ¬ (l1 < 0 ∨ n1 ≤ l1.toNatClampNeg)) (q4 : ¬ (h.1 v0 l1.toNatClampNeg ≤ l9)) (q5 : ¬ ((8 : Int32) < l8)) (q6 : xm_V X P d 254 [.ref l0, .int l1, .int l9] h (some (.long r2)) h2) (K : xm_E X P d co_X11_chance 40 [some (.ref l0), some (.int l1), some (.int l2), some (.int l3), some (.long l4), none, some (.long l6), none, some (.int l8), some (.int l9), some (.int r2.toInt32), some (.int (0 : Int32)), l12] [] h2 ro ho) : xm_E X P d co_X11_chance 23 [some (.ref l0), some (.int l1), some (.int l2), some (.int l3), some (.long l4), none, some (.long l6), none, some (.int l8), some (.int l9), l10, l11, l12] [] h ro ho := by
  refine xm_E_s r_X11_chance_23 rfl rfl ?_
  refine xm_E_s r_X11_chance_24 rfl rfl ?_
  refine xm_E_s r_X11_chance_25 rfl (xm_T_gr rfl q0 rfl rfl q1) ?_
  refine xm_E_s r_X11_chance_26 rfl rfl ?_
  refine xm_E_s r_X11_chance_27 rfl (xm_T_iald rfl q2 (by decide) q3) ?_
  refine xm_E_s r_X11_chance_28 rfl rfl ?_
  refine xm_E_f q4 ?_
  refine xm_E_s r_X11_chance_29 rfl rfl ?_
  refine xm_E_s r_X11_chance_30 rfl rfl ?_
  refine xm_E_s r_X11_chance_31 rfl rfl ?_
  refine xm_E_f q5 ?_
  refine xm_E_s r_X11_chance_32 rfl rfl ?_
  refine xm_E_s r_X11_chance_33 rfl rfl ?_
  refine xm_E_s r_X11_chance_34 rfl rfl ?_
  refine xm_E_cv [.ref l0, .int l1, .int l9] [] r_X11_chance_35 rfl rfl (Nat.le_of_ble_eq_true rfl) (xm_rc q0 (by decide)) rfl q6 ?_
  refine xm_E_s r_X11_chance_36 rfl rfl ?_
  refine xm_E_s (ls1 := [some (.ref l0), some (.int l1), some (.int l2), some (.int l3), some (.long l4), none, some (.long l6), none, some (.int l8), some (.int l9), some (.int r2.toInt32), l11, l12]) r_X11_chance_37 rfl rfl ?_
  refine xm_E_s r_X11_chance_38 rfl rfl ?_
  refine xm_E_s (ls1 := [some (.ref l0), some (.int l1), some (.int l2), some (.int l3), some (.long l4), none, some (.long l6), none, some (.int l8), some (.int l9), some (.int r2.toInt32), some (.int (0 : Int32)), l12]) r_X11_chance_39 rfl rfl ?_
  exact K
theorem p_X11_chance_40_0 {X : xm_X} {P : List xm_M} {d : Nat} {h : xm_H} {l0 : Nat} {l1 : Int32} {l2 : Int32} {l3 : Int32} {l4 : Int64} {l6 : Int64} {l8 : Int32} {l9 : Int32} {l10 : Int32} {l11 : Int32} {l12 : Option Value} {ro : Option Value} {ho : xm_H} (q0 : (2 : Int32) ≤ l11) (K : xm_E X P d co_X11_chance 23 [some (.ref l0), some (.int l1), some (.int l2), some (.int l3), some (.long l4), none, some (.long l6), none, some (.int l8), some (.int (l9 + (1 : Int32))), some (.int l10), some (.int l11), l12] [] h ro ho) : xm_E X P d co_X11_chance 40 [some (.ref l0), some (.int l1), some (.int l2), some (.int l3), some (.long l4), none, some (.long l6), none, some (.int l8), some (.int l9), some (.int l10), some (.int l11), l12] [] h ro ho := by
  refine xm_E_s r_X11_chance_40 rfl rfl ?_
  refine xm_E_s r_X11_chance_41 rfl rfl ?_
  refine xm_E_s r_X11_chance_42 rfl rfl ?_
  refine xm_E_t q0 ?_
  refine xm_E_s (ls1 := [some (.ref l0), some (.int l1), some (.int l2), some (.int l3), some (.long l4), none, some (.long l6), none, some (.int l8), some (.int (l9 + (1 : Int32))), some (.int l10), some (.int l11), l12]) r_X11_chance_77 rfl rfl ?_
  refine xm_E_s r_X11_chance_78 rfl rfl ?_
  exact K
theorem p_X11_chance_40_1 {X : xm_X} {P : List xm_M} {d : Nat} {h : xm_H} {l0 : Nat} {l1 : Int32} {l2 : Int32} {l3 : Int32} {l4 : Int64} {l6 : Int64} {l8 : Int32} {l9 : Int32} {l10 : Int32} {l11 : Int32} {l12 : Option Value} {h0 : xm_H} {r0 : Int32} {h1 : xm_H} {r1 : Int32} {ro : Option Value} {ho : xm_H} (q0 : ¬ ((2 : Int32) ≤ l11)) (q1 : l11 = (0 : Int32)) (q2 : xm_V X P d 245 [.ref l0, .int l10] h (some (.int r0)) h0) (q3 : X.1[l0]? = some (.inr 10)) (q4 : xm_V X P d 296 [.int r0] h0 (some (.int r1)) h1) (q5 : r1 = (0 : Int32)) (K : xm_E X P d co_X11_chance 40 [some (.ref l0), some (.int l1), some (.int l2), some (.int l3), some (.long l4), none, some (.long l6), none, some (.int l8), some (.int l9), some (.int l10), some (.int (l11 + (1 : Int32))), some (.int r0)] [] h1 ro ho) : xm_E X P d co_X11_chance 40 [some (.ref l0), some (.int l1), some (.int l2), some (.int l3), some (.long l4), none, some (.long l6), none, some (.int l8), some (.int l9), some (.int l10), some (.int l11), l12] [] h ro ho := by
  refine xm_E_s r_X11_chance_40 rfl rfl ?_
  refine xm_E_s r_X11_chance_41 rfl rfl ?_
  refine xm_E_s r_X11_chance_42 rfl rfl ?_
  refine xm_E_f q0 ?_
  refine xm_E_s r_X11_chance_43 rfl rfl ?_
  refine xm_E_s r_X11_chance_44 rfl rfl ?_
  refine xm_E_t q1 ?_
  refine xm_E_s r_X11_chance_45 rfl rfl ?_
  refine xm_E_s r_X11_chance_46 rfl rfl ?_
  refine xm_E_cv [.ref l0, .int l10] [] r_X11_chance_47 rfl rfl (Nat.le_of_ble_eq_true rfl) (xm_rc q3 (by decide)) rfl q2 ?_
  refine xm_E_s r_X11_chance_48 rfl rfl ?_
  refine xm_E_s (ls1 := [some (.ref l0), some (.int l1), some (.int l2), some (.int l3), some (.long l4), none, some (.long l6), none, some (.int l8), some (.int l9), some (.int l10), some (.int l11), some (.int r0)]) r_X11_chance_52 rfl rfl ?_
  refine xm_E_s r_X11_chance_53 rfl rfl ?_
  refine xm_E_cs [.int r0] [] r_X11_chance_54 rfl rfl rfl (Nat.le_of_ble_eq_true rfl) rfl q4 ?_
  refine xm_E_s r_X11_chance_55 rfl rfl ?_
  refine xm_E_t q5 ?_
  refine xm_E_s r_X11_chance_56 rfl rfl ?_
  refine xm_E_s (ls1 := [some (.ref l0), some (.int l1), some (.int l2), some (.int l3), some (.long l4), none, some (.long l6), none, some (.int l8), some (.int l9), some (.int l10), some (.int (l11 + (1 : Int32))), some (.int r0)]) r_X11_chance_75 rfl rfl ?_
  refine xm_E_s r_X11_chance_76 rfl rfl ?_
  exact K
theorem p_X11_chance_40_2 {X : xm_X} {P : List xm_M} {d : Nat} {h : xm_H} {l0 : Nat} {l1 : Int32} {l2 : Int32} {l3 : Int32} {l4 : Int64} {l6 : Int64} {l8 : Int32} {l9 : Int32} {l10 : Int32} {l11 : Int32} {l12 : Option Value} {h0 : xm_H} {r0 : Int32} {h1 : xm_H} {r1 : Int32} {h2 : xm_H} {r2 : Int32} {ro : Option Value} {ho : xm_H} (q0 : ¬ ((2 : Int32) ≤ l11)) (q1 : l11 = (0 : Int32)) (q2 : xm_V X P d 245 [.ref l0, .int l10] h (some (.int r0)) h0) (q3 : X.1[l0]? = some (.inr 10)) (q4 : xm_V X P d 296 [.int r0] h0 (some (.int r1)) h1) (q5 : ¬ (r1 = (0 : Int32))) (q6 : l8 + (1 : Int32) ≤ (8 : Int32)) (q7 : xm_V X P d 295 [.ref l0, .int r0, .int l11] h1 (some (.int r2)) h2) (K : xm_E X P d co_X11_chance 40 [some (.ref l0), some (.int l1), some (.int l2), some (.int l3), some (.long (l4 * r2.toInt64)), none, some (.long (l6 * (100 : Int64))), none, some (.int (l8 + (1 : Int32))), some (.int l9), some (.int l10), some (.int (l11 + (1 : Int32))), some (.int r0)] [] h2 ro ho) : xm_E X P d co_X11_chance 40 [some (.ref l0), some (.int l1), some (.int l2), some (.int l3), some (.long l4), none, some (.long l6), none, some (.int l8), some (.int l9), some (.int l10), some (.int l11), l12] [] h ro ho := by
  refine xm_E_s r_X11_chance_40 rfl rfl ?_
  refine xm_E_s r_X11_chance_41 rfl rfl ?_
  refine xm_E_s r_X11_chance_42 rfl rfl ?_
  refine xm_E_f q0 ?_
  refine xm_E_s r_X11_chance_43 rfl rfl ?_
  refine xm_E_s r_X11_chance_44 rfl rfl ?_
  refine xm_E_t q1 ?_
  refine xm_E_s r_X11_chance_45 rfl rfl ?_
  refine xm_E_s r_X11_chance_46 rfl rfl ?_
  refine xm_E_cv [.ref l0, .int l10] [] r_X11_chance_47 rfl rfl (Nat.le_of_ble_eq_true rfl) (xm_rc q3 (by decide)) rfl q2 ?_
  refine xm_E_s r_X11_chance_48 rfl rfl ?_
  refine xm_E_s (ls1 := [some (.ref l0), some (.int l1), some (.int l2), some (.int l3), some (.long l4), none, some (.long l6), none, some (.int l8), some (.int l9), some (.int l10), some (.int l11), some (.int r0)]) r_X11_chance_52 rfl rfl ?_
  refine xm_E_s r_X11_chance_53 rfl rfl ?_
  refine xm_E_cs [.int r0] [] r_X11_chance_54 rfl rfl rfl (Nat.le_of_ble_eq_true rfl) rfl q4 ?_
  refine xm_E_s r_X11_chance_55 rfl rfl ?_
  refine xm_E_f q5 ?_
  refine xm_E_s (ls1 := [some (.ref l0), some (.int l1), some (.int l2), some (.int l3), some (.long l4), none, some (.long l6), none, some (.int (l8 + (1 : Int32))), some (.int l9), some (.int l10), some (.int l11), some (.int r0)]) r_X11_chance_57 rfl rfl ?_
  refine xm_E_s r_X11_chance_58 rfl rfl ?_
  refine xm_E_s r_X11_chance_59 rfl rfl ?_
  refine xm_E_s r_X11_chance_60 rfl rfl ?_
  refine xm_E_t q6 ?_
  refine xm_E_s r_X11_chance_63 rfl rfl ?_
  refine xm_E_s r_X11_chance_64 rfl rfl ?_
  refine xm_E_s r_X11_chance_65 rfl rfl ?_
  refine xm_E_s r_X11_chance_66 rfl rfl ?_
  refine xm_E_cv [.ref l0, .int r0, .int l11] [.long l4] r_X11_chance_67 rfl rfl (Nat.le_of_ble_eq_true rfl) (xm_rc q3 (by decide)) rfl q7 ?_
  refine xm_E_s r_X11_chance_68 rfl rfl ?_
  refine xm_E_s r_X11_chance_69 rfl rfl ?_
  refine xm_E_s (ls1 := [some (.ref l0), some (.int l1), some (.int l2), some (.int l3), some (.long (l4 * r2.toInt64)), none, some (.long l6), none, some (.int (l8 + (1 : Int32))), some (.int l9), some (.int l10), some (.int l11), some (.int r0)]) r_X11_chance_70 rfl rfl ?_
  refine xm_E_s r_X11_chance_71 rfl rfl ?_
  refine xm_E_s r_X11_chance_72 rfl rfl ?_
  refine xm_E_s r_X11_chance_73 rfl rfl ?_
  refine xm_E_s (ls1 := [some (.ref l0), some (.int l1), some (.int l2), some (.int l3), some (.long (l4 * r2.toInt64)), none, some (.long (l6 * (100 : Int64))), none, some (.int (l8 + (1 : Int32))), some (.int l9), some (.int l10), some (.int l11), some (.int r0)]) r_X11_chance_74 rfl rfl ?_
  refine xm_E_s (ls1 := [some (.ref l0), some (.int l1), some (.int l2), some (.int l3), some (.long (l4 * r2.toInt64)), none, some (.long (l6 * (100 : Int64))), none, some (.int (l8 + (1 : Int32))), some (.int l9), some (.int l10), some (.int (l11 + (1 : Int32))), some (.int r0)]) r_X11_chance_75 rfl rfl ?_
  refine xm_E_s r_X11_chance_76 rfl rfl ?_
  exact K
theorem p_X11_chance_40_3 {X : xm_X} {P : List xm_M} {d : Nat} {h : xm_H} {l0 : Nat} {l1 : Int32} {l2 : Int32} {l3 : Int32} {l4 : Int64} {l6 : Int64} {l8 : Int32} {l9 : Int32} {l10 : Int32} {l11 : Int32} {l12 : Option Value} {h0 : xm_H} {r0 : Int32} {h1 : xm_H} {r1 : Int32} (q0 : ¬ ((2 : Int32) ≤ l11)) (q1 : l11 = (0 : Int32)) (q2 : xm_V X P d 245 [.ref l0, .int l10] h (some (.int r0)) h0) (q3 : X.1[l0]? = some (.inr 10)) (q4 : xm_V X P d 296 [.int r0] h0 (some (.int r1)) h1) (q5 : ¬ (r1 = (0 : Int32))) (q6 : ¬ (l8 + (1 : Int32) ≤ (8 : Int32))) : xm_E X P d co_X11_chance 40 [some (.ref l0), some (.int l1), some (.int l2), some (.int l3), some (.long l4), none, some (.long l6), none, some (.int l8), some (.int l9), some (.int l10), some (.int l11), l12] [] h (some (.long (-1 : Int64))) h1 := by
  refine xm_E_s r_X11_chance_40 rfl rfl ?_
  refine xm_E_s r_X11_chance_41 rfl rfl ?_
  refine xm_E_s r_X11_chance_42 rfl rfl ?_
  refine xm_E_f q0 ?_
  refine xm_E_s r_X11_chance_43 rfl rfl ?_
  refine xm_E_s r_X11_chance_44 rfl rfl ?_
  refine xm_E_t q1 ?_
  refine xm_E_s r_X11_chance_45 rfl rfl ?_
  refine xm_E_s r_X11_chance_46 rfl rfl ?_
  refine xm_E_cv [.ref l0, .int l10] [] r_X11_chance_47 rfl rfl (Nat.le_of_ble_eq_true rfl) (xm_rc q3 (by decide)) rfl q2 ?_
  refine xm_E_s r_X11_chance_48 rfl rfl ?_
  refine xm_E_s (ls1 := [some (.ref l0), some (.int l1), some (.int l2), some (.int l3), some (.long l4), none, some (.long l6), none, some (.int l8), some (.int l9), some (.int l10), some (.int l11), some (.int r0)]) r_X11_chance_52 rfl rfl ?_
  refine xm_E_s r_X11_chance_53 rfl rfl ?_
  refine xm_E_cs [.int r0] [] r_X11_chance_54 rfl rfl rfl (Nat.le_of_ble_eq_true rfl) rfl q4 ?_
  refine xm_E_s r_X11_chance_55 rfl rfl ?_
  refine xm_E_f q5 ?_
  refine xm_E_s (ls1 := [some (.ref l0), some (.int l1), some (.int l2), some (.int l3), some (.long l4), none, some (.long l6), none, some (.int (l8 + (1 : Int32))), some (.int l9), some (.int l10), some (.int l11), some (.int r0)]) r_X11_chance_57 rfl rfl ?_
  refine xm_E_s r_X11_chance_58 rfl rfl ?_
  refine xm_E_s r_X11_chance_59 rfl rfl ?_
  refine xm_E_s r_X11_chance_60 rfl rfl ?_
  refine xm_E_f q6 ?_
  refine xm_E_s r_X11_chance_61 rfl rfl ?_
  exact xm_E_lret r_X11_chance_62 rfl
theorem p_X11_chance_40_4 {X : xm_X} {P : List xm_M} {d : Nat} {h : xm_H} {l0 : Nat} {l1 : Int32} {l2 : Int32} {l3 : Int32} {l4 : Int64} {l6 : Int64} {l8 : Int32} {l9 : Int32} {l10 : Int32} {l11 : Int32} {l12 : Option Value} {h0 : xm_H} {r0 : Int32} {h1 : xm_H} {r1 : Int32} {ro : Option Value} {ho : xm_H} (q0 : ¬ ((2 : Int32) ≤ l11)) (q1 : ¬ (l11 = (0 : Int32))) (q2 : xm_V X P d 246 [.ref l0, .int l10] h (some (.int r0)) h0) (q3 : X.1[l0]? = some (.inr 10)) (q4 : xm_V X P d 296 [.int r0] h0 (some (.int r1)) h1) (q5 : r1 = (0 : Int32)) (K : xm_E X P d co_X11_chance 40 [some (.ref l0), some (.int l1), some (.int l2), some (.int l3), some (.long l4), none, some (.long l6), none, some (.int l8), some (.int l9), some (.int l10), some (.int (l11 + (1 : Int32))), some (.int r0)] [] h1 ro ho) : xm_E X P d co_X11_chance 40 [some (.ref l0), some (.int l1), some (.int l2), some (.int l3), some (.long l4), none, some (.long l6), none, some (.int l8), some (.int l9), some (.int l10), some (.int l11), l12] [] h ro ho := by
  refine xm_E_s r_X11_chance_40 rfl rfl ?_
  refine xm_E_s r_X11_chance_41 rfl rfl ?_
  refine xm_E_s r_X11_chance_42 rfl rfl ?_
  refine xm_E_f q0 ?_
  refine xm_E_s r_X11_chance_43 rfl rfl ?_
  refine xm_E_s r_X11_chance_44 rfl rfl ?_
  refine xm_E_f q1 ?_
  refine xm_E_s r_X11_chance_49 rfl rfl ?_
  refine xm_E_s r_X11_chance_50 rfl rfl ?_
  refine xm_E_cv [.ref l0, .int l10] [] r_X11_chance_51 rfl rfl (Nat.le_of_ble_eq_true rfl) (xm_rc q3 (by decide)) rfl q2 ?_
  refine xm_E_s (ls1 := [some (.ref l0), some (.int l1), some (.int l2), some (.int l3), some (.long l4), none, some (.long l6), none, some (.int l8), some (.int l9), some (.int l10), some (.int l11), some (.int r0)]) r_X11_chance_52 rfl rfl ?_
  refine xm_E_s r_X11_chance_53 rfl rfl ?_
  refine xm_E_cs [.int r0] [] r_X11_chance_54 rfl rfl rfl (Nat.le_of_ble_eq_true rfl) rfl q4 ?_
  refine xm_E_s r_X11_chance_55 rfl rfl ?_
  refine xm_E_t q5 ?_
  refine xm_E_s r_X11_chance_56 rfl rfl ?_
  refine xm_E_s (ls1 := [some (.ref l0), some (.int l1), some (.int l2), some (.int l3), some (.long l4), none, some (.long l6), none, some (.int l8), some (.int l9), some (.int l10), some (.int (l11 + (1 : Int32))), some (.int r0)]) r_X11_chance_75 rfl rfl ?_
  refine xm_E_s r_X11_chance_76 rfl rfl ?_
  exact K
theorem p_X11_chance_40_5 {X : xm_X} {P : List xm_M} {d : Nat} {h : xm_H} {l0 : Nat} {l1 : Int32} {l2 : Int32} {l3 : Int32} {l4 : Int64} {l6 : Int64} {l8 : Int32} {l9 : Int32} {l10 : Int32} {l11 : Int32} {l12 : Option Value} {h0 : xm_H} {r0 : Int32} {h1 : xm_H} {r1 : Int32} {h2 : xm_H} {r2 : Int32} {ro : Option Value} {ho : xm_H} (q0 : ¬ ((2 : Int32) ≤ l11)) (q1 : ¬ (l11 = (0 : Int32))) (q2 : xm_V X P d 246 [.ref l0, .int l10] h (some (.int r0)) h0) (q3 : X.1[l0]? = some (.inr 10)) (q4 : xm_V X P d 296 [.int r0] h0 (some (.int r1)) h1) (q5 : ¬ (r1 = (0 : Int32))) (q6 : l8 + (1 : Int32) ≤ (8 : Int32)) (q7 : xm_V X P d 295 [.ref l0, .int r0, .int l11] h1 (some (.int r2)) h2) (K : xm_E X P d co_X11_chance 40 [some (.ref l0), some (.int l1), some (.int l2), some (.int l3), some (.long (l4 * r2.toInt64)), none, some (.long (l6 * (100 : Int64))), none, some (.int (l8 + (1 : Int32))), some (.int l9), some (.int l10), some (.int (l11 + (1 : Int32))), some (.int r0)] [] h2 ro ho) : xm_E X P d co_X11_chance 40 [some (.ref l0), some (.int l1), some (.int l2), some (.int l3), some (.long l4), none, some (.long l6), none, some (.int l8), some (.int l9), some (.int l10), some (.int l11), l12] [] h ro ho := by
  refine xm_E_s r_X11_chance_40 rfl rfl ?_
  refine xm_E_s r_X11_chance_41 rfl rfl ?_
  refine xm_E_s r_X11_chance_42 rfl rfl ?_
  refine xm_E_f q0 ?_
  refine xm_E_s r_X11_chance_43 rfl rfl ?_
  refine xm_E_s r_X11_chance_44 rfl rfl ?_
  refine xm_E_f q1 ?_
  refine xm_E_s r_X11_chance_49 rfl rfl ?_
  refine xm_E_s r_X11_chance_50 rfl rfl ?_
  refine xm_E_cv [.ref l0, .int l10] [] r_X11_chance_51 rfl rfl (Nat.le_of_ble_eq_true rfl) (xm_rc q3 (by decide)) rfl q2 ?_
  refine xm_E_s (ls1 := [some (.ref l0), some (.int l1), some (.int l2), some (.int l3), some (.long l4), none, some (.long l6), none, some (.int l8), some (.int l9), some (.int l10), some (.int l11), some (.int r0)]) r_X11_chance_52 rfl rfl ?_
  refine xm_E_s r_X11_chance_53 rfl rfl ?_
  refine xm_E_cs [.int r0] [] r_X11_chance_54 rfl rfl rfl (Nat.le_of_ble_eq_true rfl) rfl q4 ?_
  refine xm_E_s r_X11_chance_55 rfl rfl ?_
  refine xm_E_f q5 ?_
  refine xm_E_s (ls1 := [some (.ref l0), some (.int l1), some (.int l2), some (.int l3), some (.long l4), none, some (.long l6), none, some (.int (l8 + (1 : Int32))), some (.int l9), some (.int l10), some (.int l11), some (.int r0)]) r_X11_chance_57 rfl rfl ?_
  refine xm_E_s r_X11_chance_58 rfl rfl ?_
  refine xm_E_s r_X11_chance_59 rfl rfl ?_
  refine xm_E_s r_X11_chance_60 rfl rfl ?_
  refine xm_E_t q6 ?_
  refine xm_E_s r_X11_chance_63 rfl rfl ?_
  refine xm_E_s r_X11_chance_64 rfl rfl ?_
  refine xm_E_s r_X11_chance_65 rfl rfl ?_
  refine xm_E_s r_X11_chance_66 rfl rfl ?_
  refine xm_E_cv [.ref l0, .int r0, .int l11] [.long l4] r_X11_chance_67 rfl rfl (Nat.le_of_ble_eq_true rfl) (xm_rc q3 (by decide)) rfl q7 ?_
  refine xm_E_s r_X11_chance_68 rfl rfl ?_
  refine xm_E_s r_X11_chance_69 rfl rfl ?_
  refine xm_E_s (ls1 := [some (.ref l0), some (.int l1), some (.int l2), some (.int l3), some (.long (l4 * r2.toInt64)), none, some (.long l6), none, some (.int (l8 + (1 : Int32))), some (.int l9), some (.int l10), some (.int l11), some (.int r0)]) r_X11_chance_70 rfl rfl ?_
  refine xm_E_s r_X11_chance_71 rfl rfl ?_
  refine xm_E_s r_X11_chance_72 rfl rfl ?_
  refine xm_E_s r_X11_chance_73 rfl rfl ?_
  refine xm_E_s (ls1 := [some (.ref l0), some (.int l1), some (.int l2), some (.int l3), some (.long (l4 * r2.toInt64)), none, some (.long (l6 * (100 : Int64))), none, some (.int (l8 + (1 : Int32))), some (.int l9), some (.int l10), some (.int l11), some (.int r0)]) r_X11_chance_74 rfl rfl ?_
  refine xm_E_s (ls1 := [some (.ref l0), some (.int l1), some (.int l2), some (.int l3), some (.long (l4 * r2.toInt64)), none, some (.long (l6 * (100 : Int64))), none, some (.int (l8 + (1 : Int32))), some (.int l9), some (.int l10), some (.int (l11 + (1 : Int32))), some (.int r0)]) r_X11_chance_75 rfl rfl ?_
  refine xm_E_s r_X11_chance_76 rfl rfl ?_
  exact K
theorem p_X11_chance_40_6 {X : xm_X} {P : List xm_M} {d : Nat} {h : xm_H} {l0 : Nat} {l1 : Int32} {l2 : Int32} {l3 : Int32} {l4 : Int64} {l6 : Int64} {l8 : Int32} {l9 : Int32} {l10 : Int32} {l11 : Int32} {l12 : Option Value} {h0 : xm_H} {r0 : Int32} {h1 : xm_H} {r1 : Int32} (q0 : ¬ ((2 : Int32) ≤ l11)) (q1 : ¬ (l11 = (0 : Int32))) (q2 : xm_V X P d 246 [.ref l0, .int l10] h (some (.int r0)) h0) (q3 : X.1[l0]? = some (.inr 10)) (q4 : xm_V X P d 296 [.int r0] h0 (some (.int r1)) h1) (q5 : ¬ (r1 = (0 : Int32))) (q6 : ¬ (l8 + (1 : Int32) ≤ (8 : Int32))) : xm_E X P d co_X11_chance 40 [some (.ref l0), some (.int l1), some (.int l2), some (.int l3), some (.long l4), none, some (.long l6), none, some (.int l8), some (.int l9), some (.int l10), some (.int l11), l12] [] h (some (.long (-1 : Int64))) h1 := by
  refine xm_E_s r_X11_chance_40 rfl rfl ?_
  refine xm_E_s r_X11_chance_41 rfl rfl ?_
  refine xm_E_s r_X11_chance_42 rfl rfl ?_
  refine xm_E_f q0 ?_
  refine xm_E_s r_X11_chance_43 rfl rfl ?_
  refine xm_E_s r_X11_chance_44 rfl rfl ?_
  refine xm_E_f q1 ?_
  refine xm_E_s r_X11_chance_49 rfl rfl ?_
  refine xm_E_s r_X11_chance_50 rfl rfl ?_
  refine xm_E_cv [.ref l0, .int l10] [] r_X11_chance_51 rfl rfl (Nat.le_of_ble_eq_true rfl) (xm_rc q3 (by decide)) rfl q2 ?_
  refine xm_E_s (ls1 := [some (.ref l0), some (.int l1), some (.int l2), some (.int l3), some (.long l4), none, some (.long l6), none, some (.int l8), some (.int l9), some (.int l10), some (.int l11), some (.int r0)]) r_X11_chance_52 rfl rfl ?_
  refine xm_E_s r_X11_chance_53 rfl rfl ?_
  refine xm_E_cs [.int r0] [] r_X11_chance_54 rfl rfl rfl (Nat.le_of_ble_eq_true rfl) rfl q4 ?_
  refine xm_E_s r_X11_chance_55 rfl rfl ?_
  refine xm_E_f q5 ?_
  refine xm_E_s (ls1 := [some (.ref l0), some (.int l1), some (.int l2), some (.int l3), some (.long l4), none, some (.long l6), none, some (.int (l8 + (1 : Int32))), some (.int l9), some (.int l10), some (.int l11), some (.int r0)]) r_X11_chance_57 rfl rfl ?_
  refine xm_E_s r_X11_chance_58 rfl rfl ?_
  refine xm_E_s r_X11_chance_59 rfl rfl ?_
  refine xm_E_s r_X11_chance_60 rfl rfl ?_
  refine xm_E_f q6 ?_
  refine xm_E_s r_X11_chance_61 rfl rfl ?_
  exact xm_E_lret r_X11_chance_62 rfl
theorem r_X11_out_0 : co_X11_out[0]? = some ((0, .aload_n 0, 0, 0, 0, 0, 0, 0, []) : xm_I) := rfl
theorem r_X11_out_1 : co_X11_out[1]? = some ((1, .invokevirtual 324, 1643, 216, 1, 10, 0, 0, []) : xm_I) := rfl
theorem r_X11_out_2 : co_X11_out[2]? = some ((4, .ifCond .eq 13, 0, 0, 9, 0, 0, 0, []) : xm_I) := rfl
theorem r_X11_out_3 : co_X11_out[3]? = some ((7, .iload_n 1, 0, 0, 0, 0, 0, 0, []) : xm_I) := rfl
theorem r_X11_out_4 : co_X11_out[4]? = some ((8, .i2l, 0, 0, 0, 0, 0, 0, []) : xm_I) := rfl
theorem r_X11_out_5 : co_X11_out[5]? = some ((9, .lconst 0, 0, 0, 0, 0, 0, 0, []) : xm_I) := rfl
theorem r_X11_out_6 : co_X11_out[6]? = some ((10, .lconst 1, 0, 0, 0, 0, 0, 1, []) : xm_I) := rfl
theorem r_X11_out_7 : co_X11_out[7]? = some ((11, .invokestatic 84, 1503, 191, 3, 0, 0, 0, []) : xm_I) := rfl
theorem r_X11_out_8 : co_X11_out[8]? = some ((14, .ifCond .ne 6, 0, 0, 11, 0, 0, 0, []) : xm_I) := rfl
theorem r_X11_out_9 : co_X11_out[9]? = some ((17, .bipush (-2), 0, 0, 0, 0, (-2), 0, []) : xm_I) := rfl
theorem r_X11_out_10 : co_X11_out[10]? = some ((19, .ireturn, 0, 0, 0, 0, 0, 0, []) : xm_I) := rfl
theorem r_X11_out_11 : co_X11_out[11]? = some ((20, .aload_n 0, 0, 0, 0, 0, 0, 0, []) : xm_I) := rfl
theorem r_X11_out_12 : co_X11_out[12]? = some ((21, .invokevirtual 331, 1651, 218, 1, 10, 0, 0, []) : xm_I) := rfl
theorem r_X11_out_13 : co_X11_out[13]? = some ((24, .invokestatic 280, 1686, 228, 1, 0, 0, 0, []) : xm_I) := rfl
theorem r_X11_out_14 : co_X11_out[14]? = some ((27, .invokestatic 474, 1990, 0, 0, 4, 0, 0, []) : xm_I) := rfl
theorem r_X11_out_15 : co_X11_out[15]? = some ((30, .istore_n 2, 0, 0, 0, 0, 0, 0, []) : xm_I) := rfl
theorem r_X11_out_16 : co_X11_out[16]? = some ((31, .iload_n 1, 0, 0, 0, 0, 0, 0, []) : xm_I) := rfl
theorem r_X11_out_17 : co_X11_out[17]? = some ((32, .ifCond .ne 7, 0, 0, 20, 0, 0, 0, []) : xm_I) := rfl
theorem r_X11_out_18 : co_X11_out[18]? = some ((35, .iload_n 2, 0, 0, 0, 0, 0, 0, []) : xm_I) := rfl
theorem r_X11_out_19 : co_X11_out[19]? = some ((36, .goto 11, 0, 0, 25, 0, 0, 0, []) : xm_I) := rfl
theorem r_X11_out_20 : co_X11_out[20]? = some ((39, .iload_n 2, 0, 0, 0, 0, 0, 0, []) : xm_I) := rfl
theorem r_X11_out_21 : co_X11_out[21]? = some ((40, .aload_n 0, 0, 0, 0, 0, 0, 0, []) : xm_I) := rfl
theorem r_X11_out_22 : co_X11_out[22]? = some ((41, .bipush 9, 0, 0, 0, 0, 9, 0, []) : xm_I) := rfl
theorem r_X11_out_23 : co_X11_out[23]? = some ((43, .invokevirtual 302, 1708, 234, 2, 10, 0, 0, []) : xm_I) := rfl
theorem r_X11_out_24 : co_X11_out[24]? = some ((46, .imul, 0, 0, 0, 0, 0, 0, []) : xm_I) := rfl
theorem r_X11_out_25 : co_X11_out[25]? = some ((47, .ireturn, 0, 0, 0, 0, 0, 0, []) : xm_I) := rfl
theorem p_X11_out_0_0 {X : xm_X} {P : List xm_M} {d : Nat} {h : xm_H} {l0 : Nat} {l1 : Int32} {h0 : xm_H} {r0 : Int32} (q0 : xm_V X P d 216 [.ref l0] h (some (.int r0)) h0) (q1 : X.1[l0]? = some (.inr 10)) (q2 : r0 = (0 : Int32)) : xm_E X P d co_X11_out 0 [some (.ref l0), some (.int l1), none] [] h (some (.int (-2 : Int32))) h0 := by
  refine xm_E_s r_X11_out_0 rfl rfl ?_
  refine xm_E_cv [.ref l0] [] r_X11_out_1 rfl rfl (Nat.le_of_ble_eq_true rfl) (xm_rc q1 (by decide)) rfl q0 ?_
  refine xm_E_s r_X11_out_2 rfl rfl ?_
  refine xm_E_t q2 ?_
  refine xm_E_s r_X11_out_9 rfl rfl ?_
  exact xm_E_iret r_X11_out_10 rfl rfl
theorem p_X11_out_0_1 {X : xm_X} {P : List xm_M} {d : Nat} {h : xm_H} {l0 : Nat} {l1 : Int32} {h0 : xm_H} {r0 : Int32} {h1 : xm_H} {r1 : Int32} (q0 : xm_V X P d 216 [.ref l0] h (some (.int r0)) h0) (q1 : X.1[l0]? = some (.inr 10)) (q2 : ¬ (r0 = (0 : Int32))) (q3 : xm_V X P d 191 [.long l1.toInt64, .long (0 : Int64), .long (1 : Int64)] h0 (some (.int r1)) h1) (q4 : r1 = (0 : Int32)) : xm_E X P d co_X11_out 0 [some (.ref l0), some (.int l1), none] [] h (some (.int (-2 : Int32))) h1 := by
  refine xm_E_s r_X11_out_0 rfl rfl ?_
  refine xm_E_cv [.ref l0] [] r_X11_out_1 rfl rfl (Nat.le_of_ble_eq_true rfl) (xm_rc q1 (by decide)) rfl q0 ?_
  refine xm_E_s r_X11_out_2 rfl rfl ?_
  refine xm_E_f q2 ?_
  refine xm_E_s r_X11_out_3 rfl rfl ?_
  refine xm_E_s r_X11_out_4 rfl rfl ?_
  refine xm_E_s r_X11_out_5 rfl rfl ?_
  refine xm_E_s r_X11_out_6 rfl rfl ?_
  refine xm_E_cs [.long l1.toInt64, .long (0 : Int64), .long (1 : Int64)] [] r_X11_out_7 rfl rfl rfl (Nat.le_of_ble_eq_true rfl) rfl q3 ?_
  refine xm_E_s r_X11_out_8 rfl rfl ?_
  refine xm_E_t q4 ?_
  refine xm_E_s r_X11_out_9 rfl rfl ?_
  exact xm_E_iret r_X11_out_10 rfl rfl
theorem p_X11_out_0_2 {X : xm_X} {P : List xm_M} {d : Nat} {h : xm_H} {l0 : Nat} {l1 : Int32} {h0 : xm_H} {r0 : Int32} {h1 : xm_H} {r1 : Int32} {h2 : xm_H} {r2 : Int32} {h3 : xm_H} {r3 : Int32} (q0 : xm_V X P d 216 [.ref l0] h (some (.int r0)) h0) (q1 : X.1[l0]? = some (.inr 10)) (q2 : ¬ (r0 = (0 : Int32))) (q3 : xm_V X P d 191 [.long l1.toInt64, .long (0 : Int64), .long (1 : Int64)] h0 (some (.int r1)) h1) (q4 : ¬ (r1 = (0 : Int32))) (q5 : xm_V X P d 218 [.ref l0] h1 (some (.int r2)) h2) (q6 : xm_V X P d 228 [.int r2] h2 (some (.int r3)) h3) (q7 : l1 = (0 : Int32)) : xm_E X P d co_X11_out 0 [some (.ref l0), some (.int l1), none] [] h (some (.int (if 0 ≤ r3 then r3 else 0 - r3))) h3 := by
  refine xm_E_s r_X11_out_0 rfl rfl ?_
  refine xm_E_cv [.ref l0] [] r_X11_out_1 rfl rfl (Nat.le_of_ble_eq_true rfl) (xm_rc q1 (by decide)) rfl q0 ?_
  refine xm_E_s r_X11_out_2 rfl rfl ?_
  refine xm_E_f q2 ?_
  refine xm_E_s r_X11_out_3 rfl rfl ?_
  refine xm_E_s r_X11_out_4 rfl rfl ?_
  refine xm_E_s r_X11_out_5 rfl rfl ?_
  refine xm_E_s r_X11_out_6 rfl rfl ?_
  refine xm_E_cs [.long l1.toInt64, .long (0 : Int64), .long (1 : Int64)] [] r_X11_out_7 rfl rfl rfl (Nat.le_of_ble_eq_true rfl) rfl q3 ?_
  refine xm_E_s r_X11_out_8 rfl rfl ?_
  refine xm_E_f q4 ?_
  refine xm_E_s r_X11_out_11 rfl rfl ?_
  refine xm_E_cv [.ref l0] [] r_X11_out_12 rfl rfl (Nat.le_of_ble_eq_true rfl) (xm_rc q1 (by decide)) rfl q5 ?_
  refine xm_E_cs [.int r2] [] r_X11_out_13 rfl rfl rfl (Nat.le_of_ble_eq_true rfl) rfl q6 ?_
  refine xm_E_s r_X11_out_14 rfl rfl ?_
  refine xm_E_s (ls1 := [some (.ref l0), some (.int l1), some (.int (if 0 ≤ r3 then r3 else 0 - r3))]) r_X11_out_15 rfl rfl ?_
  refine xm_E_s r_X11_out_16 rfl rfl ?_
  refine xm_E_s r_X11_out_17 rfl rfl ?_
  refine xm_E_t q7 ?_
  refine xm_E_s r_X11_out_18 rfl rfl ?_
  refine xm_E_s r_X11_out_19 rfl rfl ?_
  exact xm_E_iret r_X11_out_25 rfl rfl
theorem p_X11_out_0_3 {X : xm_X} {P : List xm_M} {d : Nat} {h : xm_H} {l0 : Nat} {l1 : Int32} {h0 : xm_H} {r0 : Int32} {h1 : xm_H} {r1 : Int32} {h2 : xm_H} {r2 : Int32} {h3 : xm_H} {r3 : Int32} {h4 : xm_H} {r4 : Int32} (q0 : xm_V X P d 216 [.ref l0] h (some (.int r0)) h0) (q1 : X.1[l0]? = some (.inr 10)) (q2 : ¬ (r0 = (0 : Int32))) (q3 : xm_V X P d 191 [.long l1.toInt64, .long (0 : Int64), .long (1 : Int64)] h0 (some (.int r1)) h1) (q4 : ¬ (r1 = (0 : Int32))) (q5 : xm_V X P d 218 [.ref l0] h1 (some (.int r2)) h2) (q6 : xm_V X P d 228 [.int r2] h2 (some (.int r3)) h3) (q7 : ¬ (l1 = (0 : Int32))) (q8 : xm_V X P d 234 [.ref l0, .int (9 : Int32)] h3 (some (.int r4)) h4) : xm_E X P d co_X11_out 0 [some (.ref l0), some (.int l1), none] [] h (some (.int ((if 0 ≤ r3 then r3 else 0 - r3) * r4))) h4 := by
  refine xm_E_s r_X11_out_0 rfl rfl ?_
  refine xm_E_cv [.ref l0] [] r_X11_out_1 rfl rfl (Nat.le_of_ble_eq_true rfl) (xm_rc q1 (by decide)) rfl q0 ?_
  refine xm_E_s r_X11_out_2 rfl rfl ?_
  refine xm_E_f q2 ?_
  refine xm_E_s r_X11_out_3 rfl rfl ?_
  refine xm_E_s r_X11_out_4 rfl rfl ?_
  refine xm_E_s r_X11_out_5 rfl rfl ?_
  refine xm_E_s r_X11_out_6 rfl rfl ?_
  refine xm_E_cs [.long l1.toInt64, .long (0 : Int64), .long (1 : Int64)] [] r_X11_out_7 rfl rfl rfl (Nat.le_of_ble_eq_true rfl) rfl q3 ?_
  refine xm_E_s r_X11_out_8 rfl rfl ?_
  refine xm_E_f q4 ?_
  refine xm_E_s r_X11_out_11 rfl rfl ?_
  refine xm_E_cv [.ref l0] [] r_X11_out_12 rfl rfl (Nat.le_of_ble_eq_true rfl) (xm_rc q1 (by decide)) rfl q5 ?_
  refine xm_E_cs [.int r2] [] r_X11_out_13 rfl rfl rfl (Nat.le_of_ble_eq_true rfl) rfl q6 ?_
  refine xm_E_s r_X11_out_14 rfl rfl ?_
  refine xm_E_s (ls1 := [some (.ref l0), some (.int l1), some (.int (if 0 ≤ r3 then r3 else 0 - r3))]) r_X11_out_15 rfl rfl ?_
  refine xm_E_s r_X11_out_16 rfl rfl ?_
  refine xm_E_s r_X11_out_17 rfl rfl ?_
  refine xm_E_f q7 ?_
  refine xm_E_s r_X11_out_20 rfl rfl ?_
  refine xm_E_s r_X11_out_21 rfl rfl ?_
  refine xm_E_s r_X11_out_22 rfl rfl ?_
  refine xm_E_cv [.ref l0, .int (9 : Int32)] [.int (if 0 ≤ r3 then r3 else 0 - r3)] r_X11_out_23 rfl rfl (Nat.le_of_ble_eq_true rfl) (xm_rc q1 (by decide)) rfl q8 ?_
  refine xm_E_s r_X11_out_24 rfl rfl ?_
  exact xm_E_iret r_X11_out_25 rfl rfl
theorem r_X11_fits_0 : co_X11_fits[0]? = some ((0, .aload_n 0, 0, 0, 0, 0, 0, 0, []) : xm_I) := rfl
theorem r_X11_fits_1 : co_X11_fits[1]? = some ((1, .invokevirtual 324, 1643, 216, 1, 10, 0, 0, []) : xm_I) := rfl
theorem r_X11_fits_2 : co_X11_fits[2]? = some ((4, .ifCond .ne 8, 0, 0, 5, 0, 0, 0, []) : xm_I) := rfl
theorem r_X11_fits_3 : co_X11_fits[3]? = some ((7, .bipush (-2), 0, 0, 0, 0, (-2), 0, []) : xm_I) := rfl
theorem r_X11_fits_4 : co_X11_fits[4]? = some ((9, .goto 29, 0, 0, 19, 0, 0, 0, []) : xm_I) := rfl
theorem r_X11_fits_5 : co_X11_fits[5]? = some ((12, .aload_n 0, 0, 0, 0, 0, 0, 0, []) : xm_I) := rfl
theorem r_X11_fits_6 : co_X11_fits[6]? = some ((13, .getfield 9, 1381, 10, 1, 2, 0, 0, []) : xm_I) := rfl
theorem r_X11_fits_7 : co_X11_fits[7]? = some ((16, .bipush 18, 0, 0, 0, 0, 18, 0, []) : xm_I) := rfl
theorem r_X11_fits_8 : co_X11_fits[8]? = some ((18, .iaload, 0, 0, 0, 0, 0, 0, []) : xm_I) := rfl
theorem r_X11_fits_9 : co_X11_fits[9]? = some ((19, .ifCond .ne 7, 0, 0, 12, 0, 0, 0, []) : xm_I) := rfl
theorem r_X11_fits_10 : co_X11_fits[10]? = some ((22, .iconst (-1), 0, 0, 0, 0, (-1), 0, []) : xm_I) := rfl
theorem r_X11_fits_11 : co_X11_fits[11]? = some ((23, .goto 15, 0, 0, 19, 0, 0, 0, []) : xm_I) := rfl
theorem r_X11_fits_12 : co_X11_fits[12]? = some ((26, .aload_n 0, 0, 0, 0, 0, 0, 0, []) : xm_I) := rfl
theorem r_X11_fits_13 : co_X11_fits[13]? = some ((27, .getfield 9, 1381, 10, 1, 2, 0, 0, []) : xm_I) := rfl
theorem r_X11_fits_14 : co_X11_fits[14]? = some ((30, .bipush 18, 0, 0, 0, 0, 18, 0, []) : xm_I) := rfl
theorem r_X11_fits_15 : co_X11_fits[15]? = some ((32, .iaload, 0, 0, 0, 0, 0, 0, []) : xm_I) := rfl
theorem r_X11_fits_16 : co_X11_fits[16]? = some ((33, .aload_n 0, 0, 0, 0, 0, 0, 0, []) : xm_I) := rfl
theorem r_X11_fits_17 : co_X11_fits[17]? = some ((34, .invokevirtual 477, 1995, 305, 1, 10, 0, 0, []) : xm_I) := rfl
theorem r_X11_fits_18 : co_X11_fits[18]? = some ((37, .idiv, 0, 0, 0, 0, 0, 0, []) : xm_I) := rfl
theorem r_X11_fits_19 : co_X11_fits[19]? = some ((38, .ireturn, 0, 0, 0, 0, 0, 0, []) : xm_I) := rfl
theorem p_X11_fits_0_0 {X : xm_X} {P : List xm_M} {d : Nat} {h : xm_H} {l0 : Nat} {h0 : xm_H} {r0 : Int32} (q0 : xm_V X P d 216 [.ref l0] h (some (.int r0)) h0) (q1 : X.1[l0]? = some (.inr 10)) (q2 : r0 = (0 : Int32)) : xm_E X P d co_X11_fits 0 [some (.ref l0)] [] h (some (.int (-2 : Int32))) h0 := by
  refine xm_E_s r_X11_fits_0 rfl rfl ?_
  refine xm_E_cv [.ref l0] [] r_X11_fits_1 rfl rfl (Nat.le_of_ble_eq_true rfl) (xm_rc q1 (by decide)) rfl q0 ?_
  refine xm_E_s r_X11_fits_2 rfl rfl ?_
  refine xm_E_t q2 ?_
  refine xm_E_s r_X11_fits_3 rfl rfl ?_
  refine xm_E_s r_X11_fits_4 rfl rfl ?_
  exact xm_E_iret r_X11_fits_19 rfl rfl
theorem p_X11_fits_0_1 {X : xm_X} {P : List xm_M} {d : Nat} {h : xm_H} {l0 : Nat} {h0 : xm_H} {r0 : Int32} {v1 : Nat} {n2 : Nat} (q0 : xm_V X P d 216 [.ref l0] h (some (.int r0)) h0) (q1 : X.1[l0]? = some (.inr 10)) (q2 : ¬ (r0 = (0 : Int32))) (q3 : h0.2.2 l0 1 = some v1) (q4 : X.1[v1]? = some (.inl (0, n2))) (q5 : 18 < n2) (q6 : h0.1 v1 18 = (0 : Int32)) : xm_E X P d co_X11_fits 0 [some (.ref l0)] [] h (some (.int (-1 : Int32))) h0 := by
  refine xm_E_s r_X11_fits_0 rfl rfl ?_
  refine xm_E_cv [.ref l0] [] r_X11_fits_1 rfl rfl (Nat.le_of_ble_eq_true rfl) (xm_rc q1 (by decide)) rfl q0 ?_
  refine xm_E_s r_X11_fits_2 rfl rfl ?_
  refine xm_E_f q2 ?_
  refine xm_E_s r_X11_fits_5 rfl rfl ?_
  refine xm_E_s r_X11_fits_6 rfl (xm_T_gr rfl q1 rfl rfl q3) ?_
  refine xm_E_s r_X11_fits_7 rfl rfl ?_
  refine xm_E_s r_X11_fits_8 rfl (xm_T_iald rfl q4 (by decide) (fun e => e.elim (fun e => absurd e (by decide)) (fun e => Nat.not_le.mpr q5 e))) ?_
  refine xm_E_s r_X11_fits_9 rfl rfl ?_
  refine xm_E_t q6 ?_
  refine xm_E_s r_X11_fits_10 rfl rfl ?_
  refine xm_E_s r_X11_fits_11 rfl rfl ?_
  exact xm_E_iret r_X11_fits_19 rfl rfl
theorem p_X11_fits_0_2 {X : xm_X} {P : List xm_M} {d : Nat} {h : xm_H} {l0 : Nat} {h0 : xm_H} {r0 : Int32} {v1 : Nat} {n2 : Nat} {h3 : xm_H} {r3 : Int32} (q0 : xm_V X P d 216 [.ref l0] h (some (.int r0)) h0) (q1 : X.1[l0]? = some (.inr 10)) (q2 : ¬ (r0 = (0 : Int32))) (q3 : h0.2.2 l0 1 = some v1) (q4 : X.1[v1]? = some (.inl (0, n2))) (q5 : 18 < n2) (q6 : ¬ (h0.1 v1 18 = (0 : Int32))) (q7 : xm_V X P d 305 [.ref l0] h0 (some (.int r3)) h3) (q8 : ¬ r3 = 0) : xm_E X P d co_X11_fits 0 [some (.ref l0)] [] h (some (.int ((h0.1 v1 18) / r3))) h3 := by
  refine xm_E_s r_X11_fits_0 rfl rfl ?_
  refine xm_E_cv [.ref l0] [] r_X11_fits_1 rfl rfl (Nat.le_of_ble_eq_true rfl) (xm_rc q1 (by decide)) rfl q0 ?_
  refine xm_E_s r_X11_fits_2 rfl rfl ?_
  refine xm_E_f q2 ?_
  refine xm_E_s r_X11_fits_5 rfl rfl ?_
  refine xm_E_s r_X11_fits_6 rfl (xm_T_gr rfl q1 rfl rfl q3) ?_
  refine xm_E_s r_X11_fits_7 rfl rfl ?_
  refine xm_E_s r_X11_fits_8 rfl (xm_T_iald rfl q4 (by decide) (fun e => e.elim (fun e => absurd e (by decide)) (fun e => Nat.not_le.mpr q5 e))) ?_
  refine xm_E_s r_X11_fits_9 rfl rfl ?_
  refine xm_E_f q6 ?_
  refine xm_E_s r_X11_fits_12 rfl rfl ?_
  refine xm_E_s r_X11_fits_13 rfl (xm_T_gr rfl q1 rfl rfl q3) ?_
  refine xm_E_s r_X11_fits_14 rfl rfl ?_
  refine xm_E_s r_X11_fits_15 rfl (xm_T_iald rfl q4 (by decide) (fun e => e.elim (fun e => absurd e (by decide)) (fun e => Nat.not_le.mpr q5 e))) ?_
  refine xm_E_s r_X11_fits_16 rfl rfl ?_
  refine xm_E_cv [.ref l0] [.int (h0.1 v1 18)] r_X11_fits_17 rfl rfl (Nat.le_of_ble_eq_true rfl) (xm_rc q1 (by decide)) rfl q7 ?_
  refine xm_E_s r_X11_fits_18 rfl (xm_T_idiv rfl q8) ?_
  exact xm_E_iret r_X11_fits_19 rfl rfl
theorem r_X11_highNow_0 : co_X11_highNow[0]? = some ((0, .aload_n 0, 0, 0, 0, 0, 0, 0, []) : xm_I) := rfl
theorem r_X11_highNow_1 : co_X11_highNow[1]? = some ((1, .aload_n 0, 0, 0, 0, 0, 0, 0, []) : xm_I) := rfl
theorem r_X11_highNow_2 : co_X11_highNow[2]? = some ((2, .invokevirtual 331, 1651, 218, 1, 10, 0, 0, []) : xm_I) := rfl
theorem r_X11_highNow_3 : co_X11_highNow[3]? = some ((5, .invokevirtual 317, 1719, 237, 2, 10, 0, 0, []) : xm_I) := rfl
theorem r_X11_highNow_4 : co_X11_highNow[4]? = some ((8, .aload_n 0, 0, 0, 0, 0, 0, 0, []) : xm_I) := rfl
theorem r_X11_highNow_5 : co_X11_highNow[5]? = some ((9, .getfield 9, 1381, 10, 1, 2, 0, 0, []) : xm_I) := rfl
theorem r_X11_highNow_6 : co_X11_highNow[6]? = some ((12, .iconst 2, 0, 0, 0, 0, 2, 0, []) : xm_I) := rfl
theorem r_X11_highNow_7 : co_X11_highNow[7]? = some ((13, .iaload, 0, 0, 0, 0, 0, 0, []) : xm_I) := rfl
theorem r_X11_highNow_8 : co_X11_highNow[8]? = some ((14, .imul, 0, 0, 0, 0, 0, 0, []) : xm_I) := rfl
theorem r_X11_highNow_9 : co_X11_highNow[9]? = some ((15, .ireturn, 0, 0, 0, 0, 0, 0, []) : xm_I) := rfl
theorem p_X11_highNow_0_0 {X : xm_X} {P : List xm_M} {d : Nat} {h : xm_H} {l0 : Nat} {h0 : xm_H} {r0 : Int32} {h1 : xm_H} {r1 : Int32} {v2 : Nat} {n3 : Nat} (q0 : xm_V X P d 218 [.ref l0] h (some (.int r0)) h0) (q1 : X.1[l0]? = some (.inr 10)) (q2 : xm_V X P d 237 [.ref l0, .int r0] h0 (some (.int r1)) h1) (q3 : h1.2.2 l0 1 = some v2) (q4 : X.1[v2]? = some (.inl (0, n3))) (q5 : 2 < n3) : xm_E X P d co_X11_highNow 0 [some (.ref l0)] [] h (some (.int (r1 * (h1.1 v2 2)))) h1 := by
  refine xm_E_s r_X11_highNow_0 rfl rfl ?_
  refine xm_E_s r_X11_highNow_1 rfl rfl ?_
  refine xm_E_cv [.ref l0] [.ref l0] r_X11_highNow_2 rfl rfl (Nat.le_of_ble_eq_true rfl) (xm_rc q1 (by decide)) rfl q0 ?_
  refine xm_E_cv [.ref l0, .int r0] [] r_X11_highNow_3 rfl rfl (Nat.le_of_ble_eq_true rfl) (xm_rc q1 (by decide)) rfl q2 ?_
  refine xm_E_s r_X11_highNow_4 rfl rfl ?_
  refine xm_E_s r_X11_highNow_5 rfl (xm_T_gr rfl q1 rfl rfl q3) ?_
  refine xm_E_s r_X11_highNow_6 rfl rfl ?_
  refine xm_E_s r_X11_highNow_7 rfl (xm_T_iald rfl q4 (by decide) (fun e => e.elim (fun e => absurd e (by decide)) (fun e => Nat.not_le.mpr q5 e))) ?_
  refine xm_E_s r_X11_highNow_8 rfl rfl ?_
  exact xm_E_iret r_X11_highNow_9 rfl rfl
theorem r_X11_packs_0 : co_X11_packs[0]? = some ((0, .iload_n 1, 0, 0, 0, 0, 0, 0, []) : xm_I) := rfl
theorem r_X11_packs_1 : co_X11_packs[1]? = some ((1, .invokestatic 357, 1782, 253, 1, 0, 0, 0, []) : xm_I) := rfl
theorem r_X11_packs_2 : co_X11_packs[2]? = some ((4, .ifCond .eq 20, 0, 0, 12, 0, 0, 0, []) : xm_I) := rfl
theorem r_X11_packs_3 : co_X11_packs[3]? = some ((7, .aload_n 0, 0, 0, 0, 0, 0, 0, []) : xm_I) := rfl
theorem r_X11_packs_4 : co_X11_packs[4]? = some ((8, .invokevirtual 324, 1643, 216, 1, 10, 0, 0, []) : xm_I) := rfl
theorem r_X11_packs_5 : co_X11_packs[5]? = some ((11, .ifCond .eq 13, 0, 0, 12, 0, 0, 0, []) : xm_I) := rfl
theorem r_X11_packs_6 : co_X11_packs[6]? = some ((14, .iload_n 2, 0, 0, 0, 0, 0, 0, []) : xm_I) := rfl
theorem r_X11_packs_7 : co_X11_packs[7]? = some ((15, .i2l, 0, 0, 0, 0, 0, 0, []) : xm_I) := rfl
theorem r_X11_packs_8 : co_X11_packs[8]? = some ((16, .lconst 0, 0, 0, 0, 0, 0, 0, []) : xm_I) := rfl
theorem r_X11_packs_9 : co_X11_packs[9]? = some ((17, .lconst 1, 0, 0, 0, 0, 0, 1, []) : xm_I) := rfl
theorem r_X11_packs_10 : co_X11_packs[10]? = some ((18, .invokestatic 84, 1503, 191, 3, 0, 0, 0, []) : xm_I) := rfl
theorem r_X11_packs_11 : co_X11_packs[11]? = some ((21, .ifCond .ne 6, 0, 0, 14, 0, 0, 0, []) : xm_I) := rfl
theorem r_X11_packs_12 : co_X11_packs[12]? = some ((24, .bipush (-2), 0, 0, 0, 0, (-2), 0, []) : xm_I) := rfl
theorem r_X11_packs_13 : co_X11_packs[13]? = some ((26, .ireturn, 0, 0, 0, 0, 0, 0, []) : xm_I) := rfl
theorem r_X11_packs_14 : co_X11_packs[14]? = some ((27, .aload_n 0, 0, 0, 0, 0, 0, 0, []) : xm_I) := rfl
theorem r_X11_packs_15 : co_X11_packs[15]? = some ((28, .getfield 67, 1415, 10, 35, 2, 0, 0, []) : xm_I) := rfl
theorem r_X11_packs_16 : co_X11_packs[16]? = some ((31, .iload_n 1, 0, 0, 0, 0, 0, 0, []) : xm_I) := rfl
theorem r_X11_packs_17 : co_X11_packs[17]? = some ((32, .iaload, 0, 0, 0, 0, 0, 0, []) : xm_I) := rfl
theorem r_X11_packs_18 : co_X11_packs[18]? = some ((33, .iconst (-1), 0, 0, 0, 0, (-1), 0, []) : xm_I) := rfl
theorem r_X11_packs_19 : co_X11_packs[19]? = some ((34, .if_icmp .ne 6, 0, 0, 22, 0, 0, 0, []) : xm_I) := rfl
theorem r_X11_packs_20 : co_X11_packs[20]? = some ((37, .bipush (-6), 0, 0, 0, 0, (-6), 0, []) : xm_I) := rfl
theorem r_X11_packs_21 : co_X11_packs[21]? = some ((39, .ireturn, 0, 0, 0, 0, 0, 0, []) : xm_I) := rfl
theorem r_X11_packs_22 : co_X11_packs[22]? = some ((40, .iconst 0, 0, 0, 0, 0, 0, 0, []) : xm_I) := rfl
theorem r_X11_packs_23 : co_X11_packs[23]? = some ((41, .istore_n 3, 0, 0, 0, 0, 0, 0, []) : xm_I) := rfl
theorem r_X11_packs_24 : co_X11_packs[24]? = some ((42, .iload_n 3, 0, 0, 0, 0, 0, 0, []) : xm_I) := rfl
theorem r_X11_packs_25 : co_X11_packs[25]? = some ((43, .aload_n 0, 0, 0, 0, 0, 0, 0, []) : xm_I) := rfl
theorem r_X11_packs_26 : co_X11_packs[26]? = some ((44, .getfield 67, 1415, 10, 35, 2, 0, 0, []) : xm_I) := rfl
theorem r_X11_packs_27 : co_X11_packs[27]? = some ((47, .iload_n 1, 0, 0, 0, 0, 0, 0, []) : xm_I) := rfl
theorem r_X11_packs_28 : co_X11_packs[28]? = some ((48, .iaload, 0, 0, 0, 0, 0, 0, []) : xm_I) := rfl
theorem r_X11_packs_29 : co_X11_packs[29]? = some ((49, .if_icmp .ge 23, 0, 0, 41, 0, 0, 0, []) : xm_I) := rfl
theorem r_X11_packs_30 : co_X11_packs[30]? = some ((52, .aload_n 0, 0, 0, 0, 0, 0, 0, []) : xm_I) := rfl
theorem r_X11_packs_31 : co_X11_packs[31]? = some ((53, .iload_n 1, 0, 0, 0, 0, 0, 0, []) : xm_I) := rfl
theorem r_X11_packs_32 : co_X11_packs[32]? = some ((54, .iload_n 3, 0, 0, 0, 0, 0, 0, []) : xm_I) := rfl
theorem r_X11_packs_33 : co_X11_packs[33]? = some ((55, .invokevirtual 360, 1786, 254, 3, 10, 0, 0, []) : xm_I) := rfl
theorem r_X11_packs_34 : co_X11_packs[34]? = some ((58, .lconst 0, 0, 0, 0, 0, 0, 0, []) : xm_I) := rfl
theorem r_X11_packs_35 : co_X11_packs[35]? = some ((59, .lcmp, 0, 0, 0, 0, 0, 0, []) : xm_I) := rfl
theorem r_X11_packs_36 : co_X11_packs[36]? = some ((60, .ifCond .ge 6, 0, 0, 39, 0, 0, 0, []) : xm_I) := rfl
theorem r_X11_packs_37 : co_X11_packs[37]? = some ((63, .bipush (-2), 0, 0, 0, 0, (-2), 0, []) : xm_I) := rfl
theorem r_X11_packs_38 : co_X11_packs[38]? = some ((65, .ireturn, 0, 0, 0, 0, 0, 0, []) : xm_I) := rfl
theorem r_X11_packs_39 : co_X11_packs[39]? = some ((66, .iinc 3 1, 0, 0, 0, 0, 1, 0, []) : xm_I) := rfl
theorem r_X11_packs_40 : co_X11_packs[40]? = some ((69, .goto (-27), 0, 0, 24, 0, 0, 0, []) : xm_I) := rfl
theorem r_X11_packs_41 : co_X11_packs[41]? = some ((72, .aload_n 0, 0, 0, 0, 0, 0, 0, []) : xm_I) := rfl
theorem r_X11_packs_42 : co_X11_packs[42]? = some ((73, .getfield 9, 1381, 10, 1, 2, 0, 0, []) : xm_I) := rfl
theorem r_X11_packs_43 : co_X11_packs[43]? = some ((76, .bipush 18, 0, 0, 0, 0, 18, 0, []) : xm_I) := rfl
theorem r_X11_packs_44 : co_X11_packs[44]? = some ((78, .iaload, 0, 0, 0, 0, 0, 0, []) : xm_I) := rfl
theorem r_X11_packs_45 : co_X11_packs[45]? = some ((79, .ifCond .ne 7, 0, 0, 48, 0, 0, 0, []) : xm_I) := rfl
theorem r_X11_packs_46 : co_X11_packs[46]? = some ((82, .iconst (-1), 0, 0, 0, 0, (-1), 0, []) : xm_I) := rfl
theorem r_X11_packs_47 : co_X11_packs[47]? = some ((83, .goto 20, 0, 0, 57, 0, 0, 0, []) : xm_I) := rfl
theorem r_X11_packs_48 : co_X11_packs[48]? = some ((86, .iload_n 2, 0, 0, 0, 0, 0, 0, []) : xm_I) := rfl
theorem r_X11_packs_49 : co_X11_packs[49]? = some ((87, .ifCond .ne 11, 0, 0, 54, 0, 0, 0, []) : xm_I) := rfl
theorem r_X11_packs_50 : co_X11_packs[50]? = some ((90, .aload_n 0, 0, 0, 0, 0, 0, 0, []) : xm_I) := rfl
theorem r_X11_packs_51 : co_X11_packs[51]? = some ((91, .iload_n 1, 0, 0, 0, 0, 0, 0, []) : xm_I) := rfl
theorem r_X11_packs_52 : co_X11_packs[52]? = some ((92, .invokevirtual 486, 2003, 307, 2, 10, 0, 0, []) : xm_I) := rfl
theorem r_X11_packs_53 : co_X11_packs[53]? = some ((95, .goto 8, 0, 0, 57, 0, 0, 0, []) : xm_I) := rfl
theorem r_X11_packs_54 : co_X11_packs[54]? = some ((98, .aload_n 0, 0, 0, 0, 0, 0, 0, []) : xm_I) := rfl
theorem r_X11_packs_55 : co_X11_packs[55]? = some ((99, .iload_n 1, 0, 0, 0, 0, 0, 0, []) : xm_I) := rfl
theorem r_X11_packs_56 : co_X11_packs[56]? = some ((100, .invokevirtual 489, 2007, 308, 2, 10, 0, 0, []) : xm_I) := rfl
theorem r_X11_packs_57 : co_X11_packs[57]? = some ((103, .ireturn, 0, 0, 0, 0, 0, 0, []) : xm_I) := rfl
theorem p_X11_packs_0_0 {X : xm_X} {P : List xm_M} {d : Nat} {h : xm_H} {l0 : Nat} {l1 : Int32} {l2 : Int32} {h0 : xm_H} {r0 : Int32} (q0 : xm_V X P d 253 [.int l1] h (some (.int r0)) h0) (q1 : r0 = (0 : Int32)) : xm_E X P d co_X11_packs 0 [some (.ref l0), some (.int l1), some (.int l2), none] [] h (some (.int (-2 : Int32))) h0 := by
  refine xm_E_s r_X11_packs_0 rfl rfl ?_
  refine xm_E_cs [.int l1] [] r_X11_packs_1 rfl rfl rfl (Nat.le_of_ble_eq_true rfl) rfl q0 ?_
  refine xm_E_s r_X11_packs_2 rfl rfl ?_
  refine xm_E_t q1 ?_
  refine xm_E_s r_X11_packs_12 rfl rfl ?_
  exact xm_E_iret r_X11_packs_13 rfl rfl
theorem p_X11_packs_0_1 {X : xm_X} {P : List xm_M} {d : Nat} {h : xm_H} {l0 : Nat} {l1 : Int32} {l2 : Int32} {h0 : xm_H} {r0 : Int32} {h1 : xm_H} {r1 : Int32} (q0 : xm_V X P d 253 [.int l1] h (some (.int r0)) h0) (q1 : ¬ (r0 = (0 : Int32))) (q2 : xm_V X P d 216 [.ref l0] h0 (some (.int r1)) h1) (q3 : X.1[l0]? = some (.inr 10)) (q4 : r1 = (0 : Int32)) : xm_E X P d co_X11_packs 0 [some (.ref l0), some (.int l1), some (.int l2), none] [] h (some (.int (-2 : Int32))) h1 := by
  refine xm_E_s r_X11_packs_0 rfl rfl ?_
  refine xm_E_cs [.int l1] [] r_X11_packs_1 rfl rfl rfl (Nat.le_of_ble_eq_true rfl) rfl q0 ?_
  refine xm_E_s r_X11_packs_2 rfl rfl ?_
  refine xm_E_f q1 ?_
  refine xm_E_s r_X11_packs_3 rfl rfl ?_
  refine xm_E_cv [.ref l0] [] r_X11_packs_4 rfl rfl (Nat.le_of_ble_eq_true rfl) (xm_rc q3 (by decide)) rfl q2 ?_
  refine xm_E_s r_X11_packs_5 rfl rfl ?_
  refine xm_E_t q4 ?_
  refine xm_E_s r_X11_packs_12 rfl rfl ?_
  exact xm_E_iret r_X11_packs_13 rfl rfl
theorem p_X11_packs_0_2 {X : xm_X} {P : List xm_M} {d : Nat} {h : xm_H} {l0 : Nat} {l1 : Int32} {l2 : Int32} {h0 : xm_H} {r0 : Int32} {h1 : xm_H} {r1 : Int32} {h2 : xm_H} {r2 : Int32} (q0 : xm_V X P d 253 [.int l1] h (some (.int r0)) h0) (q1 : ¬ (r0 = (0 : Int32))) (q2 : xm_V X P d 216 [.ref l0] h0 (some (.int r1)) h1) (q3 : X.1[l0]? = some (.inr 10)) (q4 : ¬ (r1 = (0 : Int32))) (q5 : xm_V X P d 191 [.long l2.toInt64, .long (0 : Int64), .long (1 : Int64)] h1 (some (.int r2)) h2) (q6 : r2 = (0 : Int32)) : xm_E X P d co_X11_packs 0 [some (.ref l0), some (.int l1), some (.int l2), none] [] h (some (.int (-2 : Int32))) h2 := by
  refine xm_E_s r_X11_packs_0 rfl rfl ?_
  refine xm_E_cs [.int l1] [] r_X11_packs_1 rfl rfl rfl (Nat.le_of_ble_eq_true rfl) rfl q0 ?_
  refine xm_E_s r_X11_packs_2 rfl rfl ?_
  refine xm_E_f q1 ?_
  refine xm_E_s r_X11_packs_3 rfl rfl ?_
  refine xm_E_cv [.ref l0] [] r_X11_packs_4 rfl rfl (Nat.le_of_ble_eq_true rfl) (xm_rc q3 (by decide)) rfl q2 ?_
  refine xm_E_s r_X11_packs_5 rfl rfl ?_
  refine xm_E_f q4 ?_
  refine xm_E_s r_X11_packs_6 rfl rfl ?_
  refine xm_E_s r_X11_packs_7 rfl rfl ?_
  refine xm_E_s r_X11_packs_8 rfl rfl ?_
  refine xm_E_s r_X11_packs_9 rfl rfl ?_
  refine xm_E_cs [.long l2.toInt64, .long (0 : Int64), .long (1 : Int64)] [] r_X11_packs_10 rfl rfl rfl (Nat.le_of_ble_eq_true rfl) rfl q5 ?_
  refine xm_E_s r_X11_packs_11 rfl rfl ?_
  refine xm_E_t q6 ?_
  refine xm_E_s r_X11_packs_12 rfl rfl ?_
  exact xm_E_iret r_X11_packs_13 rfl rfl
theorem p_X11_packs_0_3 {X : xm_X} {P : List xm_M} {d : Nat} {h : xm_H} {l0 : Nat} {l1 : Int32} {l2 : Int32} {h0 : xm_H} {r0 : Int32} {h1 : xm_H} {r1 : Int32} {h2 : xm_H} {r2 : Int32} {v3 : Nat} {n4 : Nat} (q0 : xm_V X P d 253 [.int l1] h (some (.int r0)) h0) (q1 : ¬ (r0 = (0 : Int32))) (q2 : xm_V X P d 216 [.ref l0] h0 (some (.int r1)) h1) (q3 : X.1[l0]? = some (.inr 10)) (q4 : ¬ (r1 = (0 : Int32))) (q5 : xm_V X P d 191 [.long l2.toInt64, .long (0 : Int64), .long (1 : Int64)] h1 (some (.int r2)) h2) (q6 : ¬ (r2 = (0 : Int32))) (q7 : h2.2.2 l0 35 = some v3) (q8 : X.1[v3]? = some (.inl (0, n4))) (q9 : ¬ (l1 < 0 ∨ n4 ≤ l1.toNatClampNeg)) (q10 : h2.1 v3 l1.toNatClampNeg = (-1 : Int32)) : xm_E X P d co_X11_packs 0 [some (.ref l0), some (.int l1), some (.int l2), none] [] h (some (.int (-6 : Int32))) h2 := by
  refine xm_E_s r_X11_packs_0 rfl rfl ?_
  refine xm_E_cs [.int l1] [] r_X11_packs_1 rfl rfl rfl (Nat.le_of_ble_eq_true rfl) rfl q0 ?_
  refine xm_E_s r_X11_packs_2 rfl rfl ?_
  refine xm_E_f q1 ?_
  refine xm_E_s r_X11_packs_3 rfl rfl ?_
  refine xm_E_cv [.ref l0] [] r_X11_packs_4 rfl rfl (Nat.le_of_ble_eq_true rfl) (xm_rc q3 (by decide)) rfl q2 ?_
  refine xm_E_s r_X11_packs_5 rfl rfl ?_
  refine xm_E_f q4 ?_
  refine xm_E_s r_X11_packs_6 rfl rfl ?_
  refine xm_E_s r_X11_packs_7 rfl rfl ?_
  refine xm_E_s r_X11_packs_8 rfl rfl ?_
  refine xm_E_s r_X11_packs_9 rfl rfl ?_
  refine xm_E_cs [.long l2.toInt64, .long (0 : Int64), .long (1 : Int64)] [] r_X11_packs_10 rfl rfl rfl (Nat.le_of_ble_eq_true rfl) rfl q5 ?_
  refine xm_E_s r_X11_packs_11 rfl rfl ?_
  refine xm_E_f q6 ?_
  refine xm_E_s r_X11_packs_14 rfl rfl ?_
  refine xm_E_s r_X11_packs_15 rfl (xm_T_gr rfl q3 rfl rfl q7) ?_
  refine xm_E_s r_X11_packs_16 rfl rfl ?_
  refine xm_E_s r_X11_packs_17 rfl (xm_T_iald rfl q8 (by decide) q9) ?_
  refine xm_E_s r_X11_packs_18 rfl rfl ?_
  refine xm_E_s r_X11_packs_19 rfl rfl ?_
  refine xm_E_t q10 ?_
  refine xm_E_s r_X11_packs_20 rfl rfl ?_
  exact xm_E_iret r_X11_packs_21 rfl rfl
theorem p_X11_packs_0_4 {X : xm_X} {P : List xm_M} {d : Nat} {h : xm_H} {l0 : Nat} {l1 : Int32} {l2 : Int32} {h0 : xm_H} {r0 : Int32} {h1 : xm_H} {r1 : Int32} {h2 : xm_H} {r2 : Int32} {v3 : Nat} {n4 : Nat} {ro : Option Value} {ho : xm_H} (q0 : xm_V X P d 253 [.int l1] h (some (.int r0)) h0) (q1 : ¬ (r0 = (0 : Int32))) (q2 : xm_V X P d 216 [.ref l0] h0 (some (.int r1)) h1) (q3 : X.1[l0]? = some (.inr 10)) (q4 : ¬ (r1 = (0 : Int32))) (q5 : xm_V X P d 191 [.long l2.toInt64, .long (0 : Int64), .long (1 : Int64)] h1 (some (.int r2)) h2) (q6 : ¬ (r2 = (0 : Int32))) (q7 : h2.2.2 l0 35 = some v3) (q8 : X.1[v3]? = some (.inl (0, n4))) (q9 : ¬ (l1 < 0 ∨ n4 ≤ l1.toNatClampNeg)) (q10 : ¬ (h2.1 v3 l1.toNatClampNeg = (-1 : Int32))) (K : xm_E X P d co_X11_packs 24 [some (.ref l0), some (.int l1), some (.int l2), some (.int (0 : Int32))] [] h2 ro ho) : xm_E X P d co_X11_packs 0 [some (.ref l0), some (.int l1), some (.int l2), none] [] h ro ho := by
  refine xm_E_s r_X11_packs_0 rfl rfl ?_
  refine xm_E_cs [.int l1] [] r_X11_packs_1 rfl rfl rfl (Nat.le_of_ble_eq_true rfl) rfl q0 ?_
  refine xm_E_s r_X11_packs_2 rfl rfl ?_
  refine xm_E_f q1 ?_
  refine xm_E_s r_X11_packs_3 rfl rfl ?_
  refine xm_E_cv [.ref l0] [] r_X11_packs_4 rfl rfl (Nat.le_of_ble_eq_true rfl) (xm_rc q3 (by decide)) rfl q2 ?_
  refine xm_E_s r_X11_packs_5 rfl rfl ?_
  refine xm_E_f q4 ?_
  refine xm_E_s r_X11_packs_6 rfl rfl ?_
  refine xm_E_s r_X11_packs_7 rfl rfl ?_
  refine xm_E_s r_X11_packs_8 rfl rfl ?_
  refine xm_E_s r_X11_packs_9 rfl rfl ?_
  refine xm_E_cs [.long l2.toInt64, .long (0 : Int64), .long (1 : Int64)] [] r_X11_packs_10 rfl rfl rfl (Nat.le_of_ble_eq_true rfl) rfl q5 ?_
  refine xm_E_s r_X11_packs_11 rfl rfl ?_
  refine xm_E_f q6 ?_
  refine xm_E_s r_X11_packs_14 rfl rfl ?_
  refine xm_E_s r_X11_packs_15 rfl (xm_T_gr rfl q3 rfl rfl q7) ?_
  refine xm_E_s r_X11_packs_16 rfl rfl ?_
  refine xm_E_s r_X11_packs_17 rfl (xm_T_iald rfl q8 (by decide) q9) ?_
  refine xm_E_s r_X11_packs_18 rfl rfl ?_
  refine xm_E_s r_X11_packs_19 rfl rfl ?_
  refine xm_E_f q10 ?_
  refine xm_E_s r_X11_packs_22 rfl rfl ?_
  refine xm_E_s (ls1 := [some (.ref l0), some (.int l1), some (.int l2), some (.int (0 : Int32))]) r_X11_packs_23 rfl rfl ?_
  exact K
theorem p_X11_packs_24_0 {X : xm_X} {P : List xm_M} {d : Nat} {h : xm_H} {l0 : Nat} {l1 : Int32} {l2 : Int32} {l3 : Int32} {v0 : Nat} {n1 : Nat} {v2 : Nat} {n3 : Nat} (q0 : X.1[l0]? = some (.inr 10)) (q1 : h.2.2 l0 35 = some v0) (q2 : X.1[v0]? = some (.inl (0, n1))) (q3 : ¬ (l1 < 0 ∨ n1 ≤ l1.toNatClampNeg)) (q4 : h.1 v0 l1.toNatClampNeg ≤ l3) (q5 : h.2.2 l0 1 = some v2) (q6 : X.1[v2]? = some (.inl (0, n3))) (q7 : 18 < n3) (q8 : h.1 v2 18 = (0 : Int32)) : xm_E X P d co_X11_packs 24 [some (.ref l0), some (.int l1), some (.int l2), some (.int l3)] [] h (some (.int (-1 : Int32))) h := by
  refine xm_E_s r_X11_packs_24 rfl rfl ?_
  refine xm_E_s r_X11_packs_25 rfl rfl ?_
  refine xm_E_s r_X11_packs_26 rfl (xm_T_gr rfl q0 rfl rfl q1) ?_
  refine xm_E_s r_X11_packs_27 rfl rfl ?_
  refine xm_E_s r_X11_packs_28 rfl (xm_T_iald rfl q2 (by decide) q3) ?_
  refine xm_E_s r_X11_packs_29 rfl rfl ?_
  refine xm_E_t q4 ?_
  refine xm_E_s r_X11_packs_41 rfl rfl ?_
  refine xm_E_s r_X11_packs_42 rfl (xm_T_gr rfl q0 rfl rfl q5) ?_
  refine xm_E_s r_X11_packs_43 rfl rfl ?_
  refine xm_E_s r_X11_packs_44 rfl (xm_T_iald rfl q6 (by decide) (fun e => e.elim (fun e => absurd e (by decide)) (fun e => Nat.not_le.mpr q7 e))) ?_
  refine xm_E_s r_X11_packs_45 rfl rfl ?_
  refine xm_E_t q8 ?_
  refine xm_E_s r_X11_packs_46 rfl rfl ?_
  refine xm_E_s r_X11_packs_47 rfl rfl ?_
  exact xm_E_iret r_X11_packs_57 rfl rfl
theorem p_X11_packs_24_1 {X : xm_X} {P : List xm_M} {d : Nat} {h : xm_H} {l0 : Nat} {l1 : Int32} {l2 : Int32} {l3 : Int32} {v0 : Nat} {n1 : Nat} {v2 : Nat} {n3 : Nat} {h4 : xm_H} {r4 : Int32} (q0 : X.1[l0]? = some (.inr 10)) (q1 : h.2.2 l0 35 = some v0) (q2 : X.1[v0]? = some (.inl (0, n1))) (q3 : ¬ (l1 < 0 ∨ n1 ≤ l1.toNatClampNeg)) (q4 : h.1 v0 l1.toNatClampNeg ≤ l3) (q5 : h.2.2 l0 1 = some v2) (q6 : X.1[v2]? = some (.inl (0, n3))) (q7 : 18 < n3) (q8 : ¬ (h.1 v2 18 = (0 : Int32))) (q9 : l2 = (0 : Int32)) (q10 : xm_V X P d 307 [.ref l0, .int l1] h (some (.int r4)) h4) : xm_E X P d co_X11_packs 24 [some (.ref l0), some (.int l1), some (.int l2), some (.int l3)] [] h (some (.int r4)) h4 := by
  refine xm_E_s r_X11_packs_24 rfl rfl ?_
  refine xm_E_s r_X11_packs_25 rfl rfl ?_
  refine xm_E_s r_X11_packs_26 rfl (xm_T_gr rfl q0 rfl rfl q1) ?_
  refine xm_E_s r_X11_packs_27 rfl rfl ?_
  refine xm_E_s r_X11_packs_28 rfl (xm_T_iald rfl q2 (by decide) q3) ?_
  refine xm_E_s r_X11_packs_29 rfl rfl ?_
  refine xm_E_t q4 ?_
  refine xm_E_s r_X11_packs_41 rfl rfl ?_
  refine xm_E_s r_X11_packs_42 rfl (xm_T_gr rfl q0 rfl rfl q5) ?_
  refine xm_E_s r_X11_packs_43 rfl rfl ?_
  refine xm_E_s r_X11_packs_44 rfl (xm_T_iald rfl q6 (by decide) (fun e => e.elim (fun e => absurd e (by decide)) (fun e => Nat.not_le.mpr q7 e))) ?_
  refine xm_E_s r_X11_packs_45 rfl rfl ?_
  refine xm_E_f q8 ?_
  refine xm_E_s r_X11_packs_48 rfl rfl ?_
  refine xm_E_s r_X11_packs_49 rfl rfl ?_
  refine xm_E_t q9 ?_
  refine xm_E_s r_X11_packs_50 rfl rfl ?_
  refine xm_E_s r_X11_packs_51 rfl rfl ?_
  refine xm_E_cv [.ref l0, .int l1] [] r_X11_packs_52 rfl rfl (Nat.le_of_ble_eq_true rfl) (xm_rc q0 (by decide)) rfl q10 ?_
  refine xm_E_s r_X11_packs_53 rfl rfl ?_
  exact xm_E_iret r_X11_packs_57 rfl rfl
theorem p_X11_packs_24_2 {X : xm_X} {P : List xm_M} {d : Nat} {h : xm_H} {l0 : Nat} {l1 : Int32} {l2 : Int32} {l3 : Int32} {v0 : Nat} {n1 : Nat} {v2 : Nat} {n3 : Nat} {h4 : xm_H} {r4 : Int32} (q0 : X.1[l0]? = some (.inr 10)) (q1 : h.2.2 l0 35 = some v0) (q2 : X.1[v0]? = some (.inl (0, n1))) (q3 : ¬ (l1 < 0 ∨ n1 ≤ l1.toNatClampNeg)) (q4 : h.1 v0 l1.toNatClampNeg ≤ l3) (q5 : h.2.2 l0 1 = some v2) (q6 : X.1[v2]? = some (.inl (0, n3))) (q7 : 18 < n3) (q8 : ¬ (h.1 v2 18 = (0 : Int32))) (q9 : ¬ (l2 = (0 : Int32))) (q10 : xm_V X P d 308 [.ref l0, .int l1] h (some (.int r4)) h4) : xm_E X P d co_X11_packs 24 [some (.ref l0), some (.int l1), some (.int l2), some (.int l3)] [] h (some (.int r4)) h4 := by
  refine xm_E_s r_X11_packs_24 rfl rfl ?_
  refine xm_E_s r_X11_packs_25 rfl rfl ?_
  refine xm_E_s r_X11_packs_26 rfl (xm_T_gr rfl q0 rfl rfl q1) ?_
  refine xm_E_s r_X11_packs_27 rfl rfl ?_
  refine xm_E_s r_X11_packs_28 rfl (xm_T_iald rfl q2 (by decide) q3) ?_
  refine xm_E_s r_X11_packs_29 rfl rfl ?_
  refine xm_E_t q4 ?_
  refine xm_E_s r_X11_packs_41 rfl rfl ?_
  refine xm_E_s r_X11_packs_42 rfl (xm_T_gr rfl q0 rfl rfl q5) ?_
  refine xm_E_s r_X11_packs_43 rfl rfl ?_
  refine xm_E_s r_X11_packs_44 rfl (xm_T_iald rfl q6 (by decide) (fun e => e.elim (fun e => absurd e (by decide)) (fun e => Nat.not_le.mpr q7 e))) ?_
  refine xm_E_s r_X11_packs_45 rfl rfl ?_
  refine xm_E_f q8 ?_
  refine xm_E_s r_X11_packs_48 rfl rfl ?_
  refine xm_E_s r_X11_packs_49 rfl rfl ?_
  refine xm_E_f q9 ?_
  refine xm_E_s r_X11_packs_54 rfl rfl ?_
  refine xm_E_s r_X11_packs_55 rfl rfl ?_
  refine xm_E_cv [.ref l0, .int l1] [] r_X11_packs_56 rfl rfl (Nat.le_of_ble_eq_true rfl) (xm_rc q0 (by decide)) rfl q10 ?_
  exact xm_E_iret r_X11_packs_57 rfl rfl
theorem p_X11_packs_24_3 {X : xm_X} {P : List xm_M} {d : Nat} {h : xm_H} {l0 : Nat} {l1 : Int32} {l2 : Int32} {l3 : Int32} {v0 : Nat} {n1 : Nat} {h2 : xm_H} {r2 : Int64} {ro : Option Value} {ho : xm_H} (q0 : X.1[l0]? = some (.inr 10)) (q1 : h.2.2 l0 35 = some v0) (q2 : X.1[v0]? = some (.inl (0, n1))) (q3 : ¬ (l1 < 0 ∨ n1 ≤ l1.toNatClampNeg)) (q4 : ¬ (h.1 v0 l1.toNatClampNeg ≤ l3)) (q5 : xm_V X P d 254 [.ref l0, .int l1, .int l3] h (some (.long r2)) h2) (q6 : (0 : Int32) ≤ lg_cmp r2 (0 : Int64)) (K : xm_E X P d co_X11_packs 24 [some (.ref l0), some (.int l1), some (.int l2), some (.int (l3 + (1 : Int32)))] [] h2 ro ho) : xm_E X P d co_X11_packs 24 [some (.ref l0), some (.int l1), some (.int l2), some (.int l3)] [] h ro ho := by
  refine xm_E_s r_X11_packs_24 rfl rfl ?_
  refine xm_E_s r_X11_packs_25 rfl rfl ?_
  refine xm_E_s r_X11_packs_26 rfl (xm_T_gr rfl q0 rfl rfl q1) ?_
  refine xm_E_s r_X11_packs_27 rfl rfl ?_
  refine xm_E_s r_X11_packs_28 rfl (xm_T_iald rfl q2 (by decide) q3) ?_
  refine xm_E_s r_X11_packs_29 rfl rfl ?_
  refine xm_E_f q4 ?_
  refine xm_E_s r_X11_packs_30 rfl rfl ?_
  refine xm_E_s r_X11_packs_31 rfl rfl ?_
  refine xm_E_s r_X11_packs_32 rfl rfl ?_
  refine xm_E_cv [.ref l0, .int l1, .int l3] [] r_X11_packs_33 rfl rfl (Nat.le_of_ble_eq_true rfl) (xm_rc q0 (by decide)) rfl q5 ?_
  refine xm_E_s r_X11_packs_34 rfl rfl ?_
  refine xm_E_s r_X11_packs_35 rfl rfl ?_
  refine xm_E_s r_X11_packs_36 rfl rfl ?_
  refine xm_E_t q6 ?_
  refine xm_E_s (ls1 := [some (.ref l0), some (.int l1), some (.int l2), some (.int (l3 + (1 : Int32)))]) r_X11_packs_39 rfl rfl ?_
  refine xm_E_s r_X11_packs_40 rfl rfl ?_
  exact K
theorem p_X11_packs_24_4 {X : xm_X} {P : List xm_M} {d : Nat} {h : xm_H} {l0 : Nat} {l1 : Int32} {l2 : Int32} {l3 : Int32} {v0 : Nat} {n1 : Nat} {h2 : xm_H} {r2 : Int64} (q0 : X.1[l0]? = some (.inr 10)) (q1 : h.2.2 l0 35 = some v0) (q2 : X.1[v0]? = some (.inl (0, n1))) (q3 : ¬ (l1 < 0 ∨ n1 ≤ l1.toNatClampNeg)) (q4 : ¬ (h.1 v0 l1.toNatClampNeg ≤ l3)) (q5 : xm_V X P d 254 [.ref l0, .int l1, .int l3] h (some (.long r2)) h2) (q6 : ¬ ((0 : Int32) ≤ lg_cmp r2 (0 : Int64))) : xm_E X P d co_X11_packs 24 [some (.ref l0), some (.int l1), some (.int l2), some (.int l3)] [] h (some (.int (-2 : Int32))) h2 := by
  refine xm_E_s r_X11_packs_24 rfl rfl ?_
  refine xm_E_s r_X11_packs_25 rfl rfl ?_
  refine xm_E_s r_X11_packs_26 rfl (xm_T_gr rfl q0 rfl rfl q1) ?_
  refine xm_E_s r_X11_packs_27 rfl rfl ?_
  refine xm_E_s r_X11_packs_28 rfl (xm_T_iald rfl q2 (by decide) q3) ?_
  refine xm_E_s r_X11_packs_29 rfl rfl ?_
  refine xm_E_f q4 ?_
  refine xm_E_s r_X11_packs_30 rfl rfl ?_
  refine xm_E_s r_X11_packs_31 rfl rfl ?_
  refine xm_E_s r_X11_packs_32 rfl rfl ?_
  refine xm_E_cv [.ref l0, .int l1, .int l3] [] r_X11_packs_33 rfl rfl (Nat.le_of_ble_eq_true rfl) (xm_rc q0 (by decide)) rfl q5 ?_
  refine xm_E_s r_X11_packs_34 rfl rfl ?_
  refine xm_E_s r_X11_packs_35 rfl rfl ?_
  refine xm_E_s r_X11_packs_36 rfl rfl ?_
  refine xm_E_f q6 ?_
  refine xm_E_s r_X11_packs_37 rfl rfl ?_
  exact xm_E_iret r_X11_packs_38 rfl rfl
theorem r_X11_highest_0 : co_X11_highest[0]? = some ((0, .iconst 0, 0, 0, 0, 0, 0, 0, []) : xm_I) := rfl
theorem r_X11_highest_1 : co_X11_highest[1]? = some ((1, .istore_n 2, 0, 0, 0, 0, 0, 0, []) : xm_I) := rfl
theorem r_X11_highest_2 : co_X11_highest[2]? = some ((2, .iload_n 2, 0, 0, 0, 0, 0, 0, []) : xm_I) := rfl
theorem r_X11_highest_3 : co_X11_highest[3]? = some ((3, .aload_n 0, 0, 0, 0, 0, 0, 0, []) : xm_I) := rfl
theorem r_X11_highest_4 : co_X11_highest[4]? = some ((4, .getfield 58, 1410, 10, 30, 2, 0, 0, []) : xm_I) := rfl
theorem r_X11_highest_5 : co_X11_highest[5]? = some ((7, .arraylength, 0, 0, 0, 0, 0, 0, []) : xm_I) := rfl
theorem r_X11_highest_6 : co_X11_highest[6]? = some ((8, .if_icmp .ge 24, 0, 0, 18, 0, 0, 0, []) : xm_I) := rfl
theorem r_X11_highest_7 : co_X11_highest[7]? = some ((11, .aload_n 0, 0, 0, 0, 0, 0, 0, []) : xm_I) := rfl
theorem r_X11_highest_8 : co_X11_highest[8]? = some ((12, .getfield 58, 1410, 10, 30, 2, 0, 0, []) : xm_I) := rfl
theorem r_X11_highest_9 : co_X11_highest[9]? = some ((15, .iload_n 2, 0, 0, 0, 0, 0, 0, []) : xm_I) := rfl
theorem r_X11_highest_10 : co_X11_highest[10]? = some ((16, .iload_n 2, 0, 0, 0, 0, 0, 0, []) : xm_I) := rfl
theorem r_X11_highest_11 : co_X11_highest[11]? = some ((17, .ifCond .ne 7, 0, 0, 14, 0, 0, 0, []) : xm_I) := rfl
theorem r_X11_highest_12 : co_X11_highest[12]? = some ((20, .iconst 1, 0, 0, 0, 0, 1, 0, []) : xm_I) := rfl
theorem r_X11_highest_13 : co_X11_highest[13]? = some ((21, .goto 4, 0, 0, 15, 0, 0, 0, []) : xm_I) := rfl
theorem r_X11_highest_14 : co_X11_highest[14]? = some ((24, .iconst 0, 0, 0, 0, 0, 0, 0, []) : xm_I) := rfl
theorem r_X11_highest_15 : co_X11_highest[15]? = some ((25, .bastore, 0, 0, 0, 0, 0, 0, []) : xm_I) := rfl
theorem r_X11_highest_16 : co_X11_highest[16]? = some ((26, .iinc 2 1, 0, 0, 0, 0, 1, 0, []) : xm_I) := rfl
theorem r_X11_highest_17 : co_X11_highest[17]? = some ((29, .goto (-27), 0, 0, 2, 0, 0, 0, []) : xm_I) := rfl
theorem r_X11_highest_18 : co_X11_highest[18]? = some ((32, .iconst 0, 0, 0, 0, 0, 0, 0, []) : xm_I) := rfl
theorem r_X11_highest_19 : co_X11_highest[19]? = some ((33, .istore_n 2, 0, 0, 0, 0, 0, 0, []) : xm_I) := rfl
theorem r_X11_highest_20 : co_X11_highest[20]? = some ((34, .iload_n 2, 0, 0, 0, 0, 0, 0, []) : xm_I) := rfl
theorem r_X11_highest_21 : co_X11_highest[21]? = some ((35, .aload_n 0, 0, 0, 0, 0, 0, 0, []) : xm_I) := rfl
theorem r_X11_highest_22 : co_X11_highest[22]? = some ((36, .getfield 67, 1415, 10, 35, 2, 0, 0, []) : xm_I) := rfl
theorem r_X11_highest_23 : co_X11_highest[23]? = some ((39, .iload_n 1, 0, 0, 0, 0, 0, 0, []) : xm_I) := rfl
theorem r_X11_highest_24 : co_X11_highest[24]? = some ((40, .iaload, 0, 0, 0, 0, 0, 0, []) : xm_I) := rfl
theorem r_X11_highest_25 : co_X11_highest[25]? = some ((41, .if_icmp .ge 91, 0, 0, 75, 0, 0, 0, []) : xm_I) := rfl
theorem r_X11_highest_26 : co_X11_highest[26]? = some ((44, .aload_n 0, 0, 0, 0, 0, 0, 0, []) : xm_I) := rfl
theorem r_X11_highest_27 : co_X11_highest[27]? = some ((45, .iload_n 1, 0, 0, 0, 0, 0, 0, []) : xm_I) := rfl
theorem r_X11_highest_28 : co_X11_highest[28]? = some ((46, .iload_n 2, 0, 0, 0, 0, 0, 0, []) : xm_I) := rfl
theorem r_X11_highest_29 : co_X11_highest[29]? = some ((47, .invokevirtual 360, 1786, 254, 3, 10, 0, 0, []) : xm_I) := rfl
theorem r_X11_highest_30 : co_X11_highest[30]? = some ((50, .lstore_n 3, 0, 0, 0, 0, 0, 0, []) : xm_I) := rfl
theorem r_X11_highest_31 : co_X11_highest[31]? = some ((51, .lload_n 3, 0, 0, 0, 0, 0, 0, []) : xm_I) := rfl
theorem r_X11_highest_32 : co_X11_highest[32]? = some ((52, .aload_n 0, 0, 0, 0, 0, 0, 0, []) : xm_I) := rfl
theorem r_X11_highest_33 : co_X11_highest[33]? = some ((53, .getfield 9, 1381, 10, 1, 2, 0, 0, []) : xm_I) := rfl
theorem r_X11_highest_34 : co_X11_highest[34]? = some ((56, .bipush 18, 0, 0, 0, 0, 18, 0, []) : xm_I) := rfl
theorem r_X11_highest_35 : co_X11_highest[35]? = some ((58, .iaload, 0, 0, 0, 0, 0, 0, []) : xm_I) := rfl
theorem r_X11_highest_36 : co_X11_highest[36]? = some ((59, .i2l, 0, 0, 0, 0, 0, 0, []) : xm_I) := rfl
theorem r_X11_highest_37 : co_X11_highest[37]? = some ((60, .lcmp, 0, 0, 0, 0, 0, 0, []) : xm_I) := rfl
theorem r_X11_highest_38 : co_X11_highest[38]? = some ((61, .ifCond .le 6, 0, 0, 40, 0, 0, 0, []) : xm_I) := rfl
theorem r_X11_highest_39 : co_X11_highest[39]? = some ((64, .goto 62, 0, 0, 73, 0, 0, 0, []) : xm_I) := rfl
theorem r_X11_highest_40 : co_X11_highest[40]? = some ((67, .aload_n 0, 0, 0, 0, 0, 0, 0, []) : xm_I) := rfl
theorem r_X11_highest_41 : co_X11_highest[41]? = some ((68, .getfield 9, 1381, 10, 1, 2, 0, 0, []) : xm_I) := rfl
theorem r_X11_highest_42 : co_X11_highest[42]? = some ((71, .bipush 18, 0, 0, 0, 0, 18, 0, []) : xm_I) := rfl
theorem r_X11_highest_43 : co_X11_highest[43]? = some ((73, .iaload, 0, 0, 0, 0, 0, 0, []) : xm_I) := rfl
theorem r_X11_highest_44 : co_X11_highest[44]? = some ((74, .istore 5, 0, 0, 0, 0, 0, 0, []) : xm_I) := rfl
theorem r_X11_highest_45 : co_X11_highest[45]? = some ((76, .iload 5, 0, 0, 0, 0, 0, 0, []) : xm_I) := rfl
theorem r_X11_highest_46 : co_X11_highest[46]? = some ((78, .i2l, 0, 0, 0, 0, 0, 0, []) : xm_I) := rfl
theorem r_X11_highest_47 : co_X11_highest[47]? = some ((79, .lload_n 3, 0, 0, 0, 0, 0, 0, []) : xm_I) := rfl
theorem r_X11_highest_48 : co_X11_highest[48]? = some ((80, .lcmp, 0, 0, 0, 0, 0, 0, []) : xm_I) := rfl
theorem r_X11_highest_49 : co_X11_highest[49]? = some ((81, .ifCond .lt 45, 0, 0, 73, 0, 0, 0, []) : xm_I) := rfl
theorem r_X11_highest_50 : co_X11_highest[50]? = some ((84, .aload_n 0, 0, 0, 0, 0, 0, 0, []) : xm_I) := rfl
theorem r_X11_highest_51 : co_X11_highest[51]? = some ((85, .getfield 58, 1410, 10, 30, 2, 0, 0, []) : xm_I) := rfl
theorem r_X11_highest_52 : co_X11_highest[52]? = some ((88, .iload 5, 0, 0, 0, 0, 0, 0, []) : xm_I) := rfl
theorem r_X11_highest_53 : co_X11_highest[53]? = some ((90, .aload_n 0, 0, 0, 0, 0, 0, 0, []) : xm_I) := rfl
theorem r_X11_highest_54 : co_X11_highest[54]? = some ((91, .getfield 58, 1410, 10, 30, 2, 0, 0, []) : xm_I) := rfl
theorem r_X11_highest_55 : co_X11_highest[55]? = some ((94, .iload 5, 0, 0, 0, 0, 0, 0, []) : xm_I) := rfl
theorem r_X11_highest_56 : co_X11_highest[56]? = some ((96, .baload, 0, 0, 0, 0, 0, 0, []) : xm_I) := rfl
theorem r_X11_highest_57 : co_X11_highest[57]? = some ((97, .ifCond .ne 17, 0, 0, 67, 0, 0, 0, []) : xm_I) := rfl
theorem r_X11_highest_58 : co_X11_highest[58]? = some ((100, .aload_n 0, 0, 0, 0, 0, 0, 0, []) : xm_I) := rfl
theorem r_X11_highest_59 : co_X11_highest[59]? = some ((101, .getfield 58, 1410, 10, 30, 2, 0, 0, []) : xm_I) := rfl
theorem r_X11_highest_60 : co_X11_highest[60]? = some ((104, .iload 5, 0, 0, 0, 0, 0, 0, []) : xm_I) := rfl
theorem r_X11_highest_61 : co_X11_highest[61]? = some ((106, .i2l, 0, 0, 0, 0, 0, 0, []) : xm_I) := rfl
theorem r_X11_highest_62 : co_X11_highest[62]? = some ((107, .lload_n 3, 0, 0, 0, 0, 0, 0, []) : xm_I) := rfl
theorem r_X11_highest_63 : co_X11_highest[63]? = some ((108, .lsub, 0, 0, 0, 0, 0, 0, []) : xm_I) := rfl
theorem r_X11_highest_64 : co_X11_highest[64]? = some ((109, .l2i, 0, 0, 0, 0, 0, 0, []) : xm_I) := rfl
theorem r_X11_highest_65 : co_X11_highest[65]? = some ((110, .baload, 0, 0, 0, 0, 0, 0, []) : xm_I) := rfl
theorem r_X11_highest_66 : co_X11_highest[66]? = some ((111, .ifCond .eq 7, 0, 0, 69, 0, 0, 0, []) : xm_I) := rfl
theorem r_X11_highest_67 : co_X11_highest[67]? = some ((114, .iconst 1, 0, 0, 0, 0, 1, 0, []) : xm_I) := rfl
theorem r_X11_highest_68 : co_X11_highest[68]? = some ((115, .goto 4, 0, 0, 70, 0, 0, 0, []) : xm_I) := rfl
theorem r_X11_highest_69 : co_X11_highest[69]? = some ((118, .iconst 0, 0, 0, 0, 0, 0, 0, []) : xm_I) := rfl
theorem r_X11_highest_70 : co_X11_highest[70]? = some ((119, .bastore, 0, 0, 0, 0, 0, 0, []) : xm_I) := rfl
theorem r_X11_highest_71 : co_X11_highest[71]? = some ((120, .iinc 5 (-1), 0, 0, 0, 0, (-1), 0, []) : xm_I) := rfl
theorem r_X11_highest_72 : co_X11_highest[72]? = some ((123, .goto (-47), 0, 0, 45, 0, 0, 0, []) : xm_I) := rfl
theorem r_X11_highest_73 : co_X11_highest[73]? = some ((126, .iinc 2 1, 0, 0, 0, 0, 1, 0, []) : xm_I) := rfl
theorem r_X11_highest_74 : co_X11_highest[74]? = some ((129, .goto (-95), 0, 0, 20, 0, 0, 0, []) : xm_I) := rfl
theorem r_X11_highest_75 : co_X11_highest[75]? = some ((132, .aload_n 0, 0, 0, 0, 0, 0, 0, []) : xm_I) := rfl
theorem r_X11_highest_76 : co_X11_highest[76]? = some ((133, .getfield 9, 1381, 10, 1, 2, 0, 0, []) : xm_I) := rfl
theorem r_X11_highest_77 : co_X11_highest[77]? = some ((136, .bipush 18, 0, 0, 0, 0, 18, 0, []) : xm_I) := rfl
theorem r_X11_highest_78 : co_X11_highest[78]? = some ((138, .iaload, 0, 0, 0, 0, 0, 0, []) : xm_I) := rfl
theorem r_X11_highest_79 : co_X11_highest[79]? = some ((139, .istore_n 2, 0, 0, 0, 0, 0, 0, []) : xm_I) := rfl
theorem r_X11_highest_80 : co_X11_highest[80]? = some ((140, .aload_n 0, 0, 0, 0, 0, 0, 0, []) : xm_I) := rfl
theorem r_X11_highest_81 : co_X11_highest[81]? = some ((141, .getfield 58, 1410, 10, 30, 2, 0, 0, []) : xm_I) := rfl
theorem r_X11_highest_82 : co_X11_highest[82]? = some ((144, .iload_n 2, 0, 0, 0, 0, 0, 0, []) : xm_I) := rfl
theorem r_X11_highest_83 : co_X11_highest[83]? = some ((145, .baload, 0, 0, 0, 0, 0, 0, []) : xm_I) := rfl
theorem r_X11_highest_84 : co_X11_highest[84]? = some ((146, .ifCond .ne 9, 0, 0, 87, 0, 0, 0, []) : xm_I) := rfl
theorem r_X11_highest_85 : co_X11_highest[85]? = some ((149, .iinc 2 (-1), 0, 0, 0, 0, (-1), 0, []) : xm_I) := rfl
theorem r_X11_highest_86 : co_X11_highest[86]? = some ((152, .goto (-12), 0, 0, 80, 0, 0, 0, []) : xm_I) := rfl
theorem r_X11_highest_87 : co_X11_highest[87]? = some ((155, .iload_n 2, 0, 0, 0, 0, 0, 0, []) : xm_I) := rfl
theorem r_X11_highest_88 : co_X11_highest[88]? = some ((156, .ireturn, 0, 0, 0, 0, 0, 0, []) : xm_I) := rfl
theorem p_X11_highest_0_0 {X : xm_X} {P : List xm_M} {d : Nat} {h : xm_H} {l0 : Nat} {l1 : Int32} {ro : Option Value} {ho : xm_H}  (K : xm_E X P d co_X11_highest 2 [some (.ref l0), some (.int l1), some (.int (0 : Int32)), none, none, none] [] h ro ho) : xm_E X P d co_X11_highest 0 [some (.ref l0), some (.int l1), none, none, none, none] [] h ro ho := by
  refine xm_E_s r_X11_highest_0 rfl rfl ?_
  refine xm_E_s (ls1 := [some (.ref l0), some (.int l1), some (.int (0 : Int32)), none, none, none]) r_X11_highest_1 rfl rfl ?_
  exact K
theorem p_X11_highest_2_0 {X : xm_X} {P : List xm_M} {d : Nat} {h : xm_H} {l0 : Nat} {l1 : Int32} {l2 : Int32} {v0 : Nat} {n1 : Nat} {ro : Option Value} {ho : xm_H} (q0 : X.1[l0]? = some (.inr 10)) (q1 : h.2.2 l0 30 = some v0) (q2 : X.1[v0]? = some (.inl (2, n1))) (q3 : Int32.ofNat n1 ≤ l2) (K : xm_E X P d co_X11_highest 20 [some (.ref l0), some (.int l1), some (.int (0 : Int32)), none, none, none] [] h ro ho) : xm_E X P d co_X11_highest 2 [some (.ref l0), some (.int l1), some (.int l2), none, none, none] [] h ro ho := by
  refine xm_E_s r_X11_highest_2 rfl rfl ?_
  refine xm_E_s r_X11_highest_3 rfl rfl ?_
  refine xm_E_s r_X11_highest_4 rfl (xm_T_gr rfl q0 rfl rfl q1) ?_
  refine xm_E_s r_X11_highest_5 rfl (xm_T_alen rfl q2 (by decide)) ?_
  refine xm_E_s r_X11_highest_6 rfl rfl ?_
  refine xm_E_t q3 ?_
  refine xm_E_s r_X11_highest_18 rfl rfl ?_
  refine xm_E_s (ls1 := [some (.ref l0), some (.int l1), some (.int (0 : Int32)), none, none, none]) r_X11_highest_19 rfl rfl ?_
  exact K
theorem p_X11_highest_2_1 {X : xm_X} {P : List xm_M} {d : Nat} {h : xm_H} {l0 : Nat} {l1 : Int32} {l2 : Int32} {v0 : Nat} {n1 : Nat} {ro : Option Value} {ho : xm_H} (q0 : X.1[l0]? = some (.inr 10)) (q1 : h.2.2 l0 30 = some v0) (q2 : X.1[v0]? = some (.inl (2, n1))) (q3 : ¬ (Int32.ofNat n1 ≤ l2)) (q4 : l2 = (0 : Int32)) (q5 : ¬ (l2 < 0 ∨ n1 ≤ l2.toNatClampNeg)) (K : xm_E X P d co_X11_highest 2 [some (.ref l0), some (.int l1), some (.int (l2 + (1 : Int32))), none, none, none] [] (xm_si h v0 l2.toNatClampNeg (vp_nar .boolean (1 : Int32))) ro ho) : xm_E X P d co_X11_highest 2 [some (.ref l0), some (.int l1), some (.int l2), none, none, none] [] h ro ho := by
  refine xm_E_s r_X11_highest_2 rfl rfl ?_
  refine xm_E_s r_X11_highest_3 rfl rfl ?_
  refine xm_E_s r_X11_highest_4 rfl (xm_T_gr rfl q0 rfl rfl q1) ?_
  refine xm_E_s r_X11_highest_5 rfl (xm_T_alen rfl q2 (by decide)) ?_
  refine xm_E_s r_X11_highest_6 rfl rfl ?_
  refine xm_E_f q3 ?_
  refine xm_E_s r_X11_highest_7 rfl rfl ?_
  refine xm_E_s r_X11_highest_8 rfl (xm_T_gr rfl q0 rfl rfl q1) ?_
  refine xm_E_s r_X11_highest_9 rfl rfl ?_
  refine xm_E_s r_X11_highest_10 rfl rfl ?_
  refine xm_E_s r_X11_highest_11 rfl rfl ?_
  refine xm_E_t q4 ?_
  refine xm_E_s r_X11_highest_12 rfl rfl ?_
  refine xm_E_s r_X11_highest_13 rfl rfl ?_
  refine xm_E_s r_X11_highest_15 rfl (xm_T_asz rfl q2 q5) ?_
  refine xm_E_s (ls1 := [some (.ref l0), some (.int l1), some (.int (l2 + (1 : Int32))), none, none, none]) r_X11_highest_16 rfl rfl ?_
  refine xm_E_s r_X11_highest_17 rfl rfl ?_
  exact K
theorem p_X11_highest_2_2 {X : xm_X} {P : List xm_M} {d : Nat} {h : xm_H} {l0 : Nat} {l1 : Int32} {l2 : Int32} {v0 : Nat} {n1 : Nat} {ro : Option Value} {ho : xm_H} (q0 : X.1[l0]? = some (.inr 10)) (q1 : h.2.2 l0 30 = some v0) (q2 : X.1[v0]? = some (.inl (2, n1))) (q3 : ¬ (Int32.ofNat n1 ≤ l2)) (q4 : ¬ (l2 = (0 : Int32))) (q5 : ¬ (l2 < 0 ∨ n1 ≤ l2.toNatClampNeg)) (K : xm_E X P d co_X11_highest 2 [some (.ref l0), some (.int l1), some (.int (l2 + (1 : Int32))), none, none, none] [] (xm_si h v0 l2.toNatClampNeg (vp_nar .boolean (0 : Int32))) ro ho) : xm_E X P d co_X11_highest 2 [some (.ref l0), some (.int l1), some (.int l2), none, none, none] [] h ro ho := by
  refine xm_E_s r_X11_highest_2 rfl rfl ?_
  refine xm_E_s r_X11_highest_3 rfl rfl ?_
  refine xm_E_s r_X11_highest_4 rfl (xm_T_gr rfl q0 rfl rfl q1) ?_
  refine xm_E_s r_X11_highest_5 rfl (xm_T_alen rfl q2 (by decide)) ?_
  refine xm_E_s r_X11_highest_6 rfl rfl ?_
  refine xm_E_f q3 ?_
  refine xm_E_s r_X11_highest_7 rfl rfl ?_
  refine xm_E_s r_X11_highest_8 rfl (xm_T_gr rfl q0 rfl rfl q1) ?_
  refine xm_E_s r_X11_highest_9 rfl rfl ?_
  refine xm_E_s r_X11_highest_10 rfl rfl ?_
  refine xm_E_s r_X11_highest_11 rfl rfl ?_
  refine xm_E_f q4 ?_
  refine xm_E_s r_X11_highest_14 rfl rfl ?_
  refine xm_E_s r_X11_highest_15 rfl (xm_T_asz rfl q2 q5) ?_
  refine xm_E_s (ls1 := [some (.ref l0), some (.int l1), some (.int (l2 + (1 : Int32))), none, none, none]) r_X11_highest_16 rfl rfl ?_
  refine xm_E_s r_X11_highest_17 rfl rfl ?_
  exact K
theorem p_X11_highest_20_0 {X : xm_X} {P : List xm_M} {d : Nat} {h : xm_H} {l0 : Nat} {l1 : Int32} {l2 : Int32} {l3 : Option Value} {l5 : Option Value} {v0 : Nat} {n1 : Nat} {v2 : Nat} {n3 : Nat} {ro : Option Value} {ho : xm_H} (q0 : X.1[l0]? = some (.inr 10)) (q1 : h.2.2 l0 35 = some v0) (q2 : X.1[v0]? = some (.inl (0, n1))) (q3 : ¬ (l1 < 0 ∨ n1 ≤ l1.toNatClampNeg)) (q4 : h.1 v0 l1.toNatClampNeg ≤ l2) (q5 : h.2.2 l0 1 = some v2) (q6 : X.1[v2]? = some (.inl (0, n3))) (q7 : 18 < n3) (K : xm_E X P d co_X11_highest 80 [some (.ref l0), some (.int l1), some (.int (h.1 v2 18)), l3, none, l5] [] h ro ho) : xm_E X P d co_X11_highest 20 [some (.ref l0), some (.int l1), some (.int l2), l3, none, l5] [] h ro ho := by
  refine xm_E_s r_X11_highest_20 rfl rfl ?_
  refine xm_E_s r_X11_highest_21 rfl rfl ?_
  refine xm_E_s r_X11_highest_22 rfl (xm_T_gr rfl q0 rfl rfl q1) ?_
  refine xm_E_s r_X11_highest_23 rfl rfl ?_
  refine xm_E_s r_X11_highest_24 rfl (xm_T_iald rfl q2 (by decide) q3) ?_
  refine xm_E_s r_X11_highest_25 rfl rfl ?_
  refine xm_E_t q4 ?_
  refine xm_E_s r_X11_highest_75 rfl rfl ?_
  refine xm_E_s r_X11_highest_76 rfl (xm_T_gr rfl q0 rfl rfl q5) ?_
  refine xm_E_s r_X11_highest_77 rfl rfl ?_
  refine xm_E_s r_X11_highest_78 rfl (xm_T_iald rfl q6 (by decide) (fun e => e.elim (fun e => absurd e (by decide)) (fun e => Nat.not_le.mpr q7 e))) ?_
  refine xm_E_s (ls1 := [some (.ref l0), some (.int l1), some (.int (h.1 v2 18)), l3, none, l5]) r_X11_highest_79 rfl rfl ?_
  exact K
theorem p_X11_highest_20_1 {X : xm_X} {P : List xm_M} {d : Nat} {h : xm_H} {l0 : Nat} {l1 : Int32} {l2 : Int32} {l3 : Option Value} {l5 : Option Value} {v0 : Nat} {n1 : Nat} {h2 : xm_H} {r2 : Int64} {v3 : Nat} {n4 : Nat} {ro : Option Value} {ho : xm_H} (q0 : X.1[l0]? = some (.inr 10)) (q1 : h.2.2 l0 35 = some v0) (q2 : X.1[v0]? = some (.inl (0, n1))) (q3 : ¬ (l1 < 0 ∨ n1 ≤ l1.toNatClampNeg)) (q4 : ¬ (h.1 v0 l1.toNatClampNeg ≤ l2)) (q5 : xm_V X P d 254 [.ref l0, .int l1, .int l2] h (some (.long r2)) h2) (q6 : h2.2.2 l0 1 = some v3) (q7 : X.1[v3]? = some (.inl (0, n4))) (q8 : 18 < n4) (q9 : lg_cmp r2 ((h2.1 v3 18).toInt64) ≤ (0 : Int32)) (K : xm_E X P d co_X11_highest 45 [some (.ref l0), some (.int l1), some (.int l2), some (.long r2), none, some (.int (h2.1 v3 18))] [] h2 ro ho) : xm_E X P d co_X11_highest 20 [some (.ref l0), some (.int l1), some (.int l2), l3, none, l5] [] h ro ho := by
  refine xm_E_s r_X11_highest_20 rfl rfl ?_
  refine xm_E_s r_X11_highest_21 rfl rfl ?_
  refine xm_E_s r_X11_highest_22 rfl (xm_T_gr rfl q0 rfl rfl q1) ?_
  refine xm_E_s r_X11_highest_23 rfl rfl ?_
  refine xm_E_s r_X11_highest_24 rfl (xm_T_iald rfl q2 (by decide) q3) ?_
  refine xm_E_s r_X11_highest_25 rfl rfl ?_
  refine xm_E_f q4 ?_
  refine xm_E_s r_X11_highest_26 rfl rfl ?_
  refine xm_E_s r_X11_highest_27 rfl rfl ?_
  refine xm_E_s r_X11_highest_28 rfl rfl ?_
  refine xm_E_cv [.ref l0, .int l1, .int l2] [] r_X11_highest_29 rfl rfl (Nat.le_of_ble_eq_true rfl) (xm_rc q0 (by decide)) rfl q5 ?_
  refine xm_E_s (ls1 := [some (.ref l0), some (.int l1), some (.int l2), some (.long r2), none, l5]) r_X11_highest_30 rfl rfl ?_
  refine xm_E_s r_X11_highest_31 rfl rfl ?_
  refine xm_E_s r_X11_highest_32 rfl rfl ?_
  refine xm_E_s r_X11_highest_33 rfl (xm_T_gr rfl q0 rfl rfl q6) ?_
  refine xm_E_s r_X11_highest_34 rfl rfl ?_
  refine xm_E_s r_X11_highest_35 rfl (xm_T_iald rfl q7 (by decide) (fun e => e.elim (fun e => absurd e (by decide)) (fun e => Nat.not_le.mpr q8 e))) ?_
  refine xm_E_s r_X11_highest_36 rfl rfl ?_
  refine xm_E_s r_X11_highest_37 rfl rfl ?_
  refine xm_E_s r_X11_highest_38 rfl rfl ?_
  refine xm_E_t q9 ?_
  refine xm_E_s r_X11_highest_40 rfl rfl ?_
  refine xm_E_s r_X11_highest_41 rfl (xm_T_gr rfl q0 rfl rfl q6) ?_
  refine xm_E_s r_X11_highest_42 rfl rfl ?_
  refine xm_E_s r_X11_highest_43 rfl (xm_T_iald rfl q7 (by decide) (fun e => e.elim (fun e => absurd e (by decide)) (fun e => Nat.not_le.mpr q8 e))) ?_
  refine xm_E_s (ls1 := [some (.ref l0), some (.int l1), some (.int l2), some (.long r2), none, some (.int (h2.1 v3 18))]) r_X11_highest_44 rfl rfl ?_
  exact K
theorem p_X11_highest_20_2 {X : xm_X} {P : List xm_M} {d : Nat} {h : xm_H} {l0 : Nat} {l1 : Int32} {l2 : Int32} {l3 : Option Value} {l5 : Option Value} {v0 : Nat} {n1 : Nat} {h2 : xm_H} {r2 : Int64} {v3 : Nat} {n4 : Nat} {ro : Option Value} {ho : xm_H} (q0 : X.1[l0]? = some (.inr 10)) (q1 : h.2.2 l0 35 = some v0) (q2 : X.1[v0]? = some (.inl (0, n1))) (q3 : ¬ (l1 < 0 ∨ n1 ≤ l1.toNatClampNeg)) (q4 : ¬ (h.1 v0 l1.toNatClampNeg ≤ l2)) (q5 : xm_V X P d 254 [.ref l0, .int l1, .int l2] h (some (.long r2)) h2) (q6 : h2.2.2 l0 1 = some v3) (q7 : X.1[v3]? = some (.inl (0, n4))) (q8 : 18 < n4) (q9 : ¬ (lg_cmp r2 ((h2.1 v3 18).toInt64) ≤ (0 : Int32))) (K : xm_E X P d co_X11_highest 20 [some (.ref l0), some (.int l1), some (.int (l2 + (1 : Int32))), some (.long r2), none, l5] [] h2 ro ho) : xm_E X P d co_X11_highest 20 [some (.ref l0), some (.int l1), some (.int l2), l3, none, l5] [] h ro ho := by
  refine xm_E_s r_X11_highest_20 rfl rfl ?_
  refine xm_E_s r_X11_highest_21 rfl rfl ?_
  refine xm_E_s r_X11_highest_22 rfl (xm_T_gr rfl q0 rfl rfl q1) ?_
  refine xm_E_s r_X11_highest_23 rfl rfl ?_
  refine xm_E_s r_X11_highest_24 rfl (xm_T_iald rfl q2 (by decide) q3) ?_
  refine xm_E_s r_X11_highest_25 rfl rfl ?_
  refine xm_E_f q4 ?_
  refine xm_E_s r_X11_highest_26 rfl rfl ?_
  refine xm_E_s r_X11_highest_27 rfl rfl ?_
  refine xm_E_s r_X11_highest_28 rfl rfl ?_
  refine xm_E_cv [.ref l0, .int l1, .int l2] [] r_X11_highest_29 rfl rfl (Nat.le_of_ble_eq_true rfl) (xm_rc q0 (by decide)) rfl q5 ?_
  refine xm_E_s (ls1 := [some (.ref l0), some (.int l1), some (.int l2), some (.long r2), none, l5]) r_X11_highest_30 rfl rfl ?_
  refine xm_E_s r_X11_highest_31 rfl rfl ?_
  refine xm_E_s r_X11_highest_32 rfl rfl ?_
  refine xm_E_s r_X11_highest_33 rfl (xm_T_gr rfl q0 rfl rfl q6) ?_
  refine xm_E_s r_X11_highest_34 rfl rfl ?_
  refine xm_E_s r_X11_highest_35 rfl (xm_T_iald rfl q7 (by decide) (fun e => e.elim (fun e => absurd e (by decide)) (fun e => Nat.not_le.mpr q8 e))) ?_
  refine xm_E_s r_X11_highest_36 rfl rfl ?_
  refine xm_E_s r_X11_highest_37 rfl rfl ?_
  refine xm_E_s r_X11_highest_38 rfl rfl ?_
  refine xm_E_f q9 ?_
  refine xm_E_s r_X11_highest_39 rfl rfl ?_
  refine xm_E_s (ls1 := [some (.ref l0), some (.int l1), some (.int (l2 + (1 : Int32))), some (.long r2), none, l5]) r_X11_highest_73 rfl rfl ?_
  refine xm_E_s r_X11_highest_74 rfl rfl ?_
  exact K
theorem p_X11_highest_45_0 {X : xm_X} {P : List xm_M} {d : Nat} {h : xm_H} {l0 : Nat} {l1 : Int32} {l2 : Int32} {l3 : Int64} {l5 : Int32} {ro : Option Value} {ho : xm_H} (q0 : lg_cmp l5.toInt64 l3 < (0 : Int32)) (K : xm_E X P d co_X11_highest 20 [some (.ref l0), some (.int l1), some (.int (l2 + (1 : Int32))), some (.long l3), none, some (.int l5)] [] h ro ho) : xm_E X P d co_X11_highest 45 [some (.ref l0), some (.int l1), some (.int l2), some (.long l3), none, some (.int l5)] [] h ro ho := by
  refine xm_E_s r_X11_highest_45 rfl rfl ?_
  refine xm_E_s r_X11_highest_46 rfl rfl ?_
  refine xm_E_s r_X11_highest_47 rfl rfl ?_
  refine xm_E_s r_X11_highest_48 rfl rfl ?_
  refine xm_E_s r_X11_highest_49 rfl rfl ?_
  refine xm_E_t q0 ?_
  refine xm_E_s (ls1 := [some (.ref l0), some (.int l1), some (.int (l2 + (1 : Int32))), some (.long l3), none, some (.int l5)]) r_X11_highest_73 rfl rfl ?_
  refine xm_E_s r_X11_highest_74 rfl rfl ?_
  exact K
theorem p_X11_highest_45_1 {X : xm_X} {P : List xm_M} {d : Nat} {h : xm_H} {l0 : Nat} {l1 : Int32} {l2 : Int32} {l3 : Int64} {l5 : Int32} {v0 : Nat} {n1 : Nat} {b1 : Nat} {ro : Option Value} {ho : xm_H} (q0 : ¬ (lg_cmp l5.toInt64 l3 < (0 : Int32))) (q1 : X.1[l0]? = some (.inr 10)) (q2 : h.2.2 l0 30 = some v0) (q3 : X.1[v0]? = some (.inl (b1, n1))) (q4 : ¬ (l5 < 0 ∨ n1 ≤ l5.toNatClampNeg)) (q5 : 1 ≤ b1 ∧ b1 ≤ 2) (q6 : h.1 v0 l5.toNatClampNeg = (0 : Int32)) (q7 : ¬ ((l5.toInt64 - l3).toInt32 < 0 ∨ n1 ≤ ((l5.toInt64 - l3).toInt32).toNatClampNeg)) (q8 : h.1 v0 (((l5.toInt64 - l3).toInt32).toNatClampNeg) = (0 : Int32)) (q9 : X.1[v0]? = some (.inl (2, n1))) (K : xm_E X P d co_X11_highest 45 [some (.ref l0), some (.int l1), some (.int l2), some (.long l3), none, some (.int (l5 + (-1 : Int32)))] [] (xm_si h v0 l5.toNatClampNeg (vp_nar .boolean (0 : Int32))) ro ho) : xm_E X P d co_X11_highest 45 [some (.ref l0), some (.int l1), some (.int l2), some (.long l3), none, some (.int l5)] [] h ro ho := by
  refine xm_E_s r_X11_highest_45 rfl rfl ?_
  refine xm_E_s r_X11_highest_46 rfl rfl ?_
  refine xm_E_s r_X11_highest_47 rfl rfl ?_
  refine xm_E_s r_X11_highest_48 rfl rfl ?_
  refine xm_E_s r_X11_highest_49 rfl rfl ?_
  refine xm_E_f q0 ?_
  refine xm_E_s r_X11_highest_50 rfl rfl ?_
  refine xm_E_s r_X11_highest_51 rfl (xm_T_gr rfl q1 rfl rfl q2) ?_
  refine xm_E_s r_X11_highest_52 rfl rfl ?_
  refine xm_E_s r_X11_highest_53 rfl rfl ?_
  refine xm_E_s r_X11_highest_54 rfl (xm_T_gr rfl q1 rfl rfl q2) ?_
  refine xm_E_s r_X11_highest_55 rfl rfl ?_
  refine xm_E_s r_X11_highest_56 rfl (xm_T_bald rfl q3 q5 q4) ?_
  refine xm_E_s r_X11_highest_57 rfl rfl ?_
  refine xm_E_t q6 ?_
  refine xm_E_s r_X11_highest_58 rfl rfl ?_
  refine xm_E_s r_X11_highest_59 rfl (xm_T_gr rfl q1 rfl rfl q2) ?_
  refine xm_E_s r_X11_highest_60 rfl rfl ?_
  refine xm_E_s r_X11_highest_61 rfl rfl ?_
  refine xm_E_s r_X11_highest_62 rfl rfl ?_
  refine xm_E_s r_X11_highest_63 rfl rfl ?_
  refine xm_E_s r_X11_highest_64 rfl rfl ?_
  refine xm_E_s r_X11_highest_65 rfl (xm_T_bald rfl q3 q5 q7) ?_
  refine xm_E_s r_X11_highest_66 rfl rfl ?_
  refine xm_E_t q8 ?_
  refine xm_E_s r_X11_highest_69 rfl rfl ?_
  refine xm_E_s r_X11_highest_70 rfl (xm_T_asz rfl q9 q4) ?_
  refine xm_E_s (ls1 := [some (.ref l0), some (.int l1), some (.int l2), some (.long l3), none, some (.int (l5 + (-1 : Int32)))]) r_X11_highest_71 rfl rfl ?_
  refine xm_E_s r_X11_highest_72 rfl rfl ?_
  exact K
theorem p_X11_highest_45_2 {X : xm_X} {P : List xm_M} {d : Nat} {h : xm_H} {l0 : Nat} {l1 : Int32} {l2 : Int32} {l3 : Int64} {l5 : Int32} {v0 : Nat} {n1 : Nat} {b1 : Nat} {ro : Option Value} {ho : xm_H} (q0 : ¬ (lg_cmp l5.toInt64 l3 < (0 : Int32))) (q1 : X.1[l0]? = some (.inr 10)) (q2 : h.2.2 l0 30 = some v0) (q3 : X.1[v0]? = some (.inl (b1, n1))) (q4 : ¬ (l5 < 0 ∨ n1 ≤ l5.toNatClampNeg)) (q5 : 1 ≤ b1 ∧ b1 ≤ 2) (q6 : h.1 v0 l5.toNatClampNeg = (0 : Int32)) (q7 : ¬ ((l5.toInt64 - l3).toInt32 < 0 ∨ n1 ≤ ((l5.toInt64 - l3).toInt32).toNatClampNeg)) (q8 : ¬ (h.1 v0 (((l5.toInt64 - l3).toInt32).toNatClampNeg) = (0 : Int32))) (q9 : X.1[v0]? = some (.inl (2, n1))) (K : xm_E X P d co_X11_highest 45 [some (.ref l0), some (.int l1), some (.int l2), some (.long l3), none, some (.int (l5 + (-1 : Int32)))] [] (xm_si h v0 l5.toNatClampNeg (vp_nar .boolean (1 : Int32))) ro ho) : xm_E X P d co_X11_highest 45 [some (.ref l0), some (.int l1), some (.int l2), some (.long l3), none, some (.int l5)] [] h ro ho := by
  refine xm_E_s r_X11_highest_45 rfl rfl ?_
  refine xm_E_s r_X11_highest_46 rfl rfl ?_
  refine xm_E_s r_X11_highest_47 rfl rfl ?_
  refine xm_E_s r_X11_highest_48 rfl rfl ?_
  refine xm_E_s r_X11_highest_49 rfl rfl ?_
  refine xm_E_f q0 ?_
  refine xm_E_s r_X11_highest_50 rfl rfl ?_
  refine xm_E_s r_X11_highest_51 rfl (xm_T_gr rfl q1 rfl rfl q2) ?_
  refine xm_E_s r_X11_highest_52 rfl rfl ?_
  refine xm_E_s r_X11_highest_53 rfl rfl ?_
  refine xm_E_s r_X11_highest_54 rfl (xm_T_gr rfl q1 rfl rfl q2) ?_
  refine xm_E_s r_X11_highest_55 rfl rfl ?_
  refine xm_E_s r_X11_highest_56 rfl (xm_T_bald rfl q3 q5 q4) ?_
  refine xm_E_s r_X11_highest_57 rfl rfl ?_
  refine xm_E_t q6 ?_
  refine xm_E_s r_X11_highest_58 rfl rfl ?_
  refine xm_E_s r_X11_highest_59 rfl (xm_T_gr rfl q1 rfl rfl q2) ?_
  refine xm_E_s r_X11_highest_60 rfl rfl ?_
  refine xm_E_s r_X11_highest_61 rfl rfl ?_
  refine xm_E_s r_X11_highest_62 rfl rfl ?_
  refine xm_E_s r_X11_highest_63 rfl rfl ?_
  refine xm_E_s r_X11_highest_64 rfl rfl ?_
  refine xm_E_s r_X11_highest_65 rfl (xm_T_bald rfl q3 q5 q7) ?_
  refine xm_E_s r_X11_highest_66 rfl rfl ?_
  refine xm_E_f q8 ?_
  refine xm_E_s r_X11_highest_67 rfl rfl ?_
  refine xm_E_s r_X11_highest_68 rfl rfl ?_
  refine xm_E_s r_X11_highest_70 rfl (xm_T_asz rfl q9 q4) ?_
  refine xm_E_s (ls1 := [some (.ref l0), some (.int l1), some (.int l2), some (.long l3), none, some (.int (l5 + (-1 : Int32)))]) r_X11_highest_71 rfl rfl ?_
  refine xm_E_s r_X11_highest_72 rfl rfl ?_
  exact K
theorem p_X11_highest_45_3 {X : xm_X} {P : List xm_M} {d : Nat} {h : xm_H} {l0 : Nat} {l1 : Int32} {l2 : Int32} {l3 : Int64} {l5 : Int32} {v0 : Nat} {n1 : Nat} {b1 : Nat} {ro : Option Value} {ho : xm_H} (q0 : ¬ (lg_cmp l5.toInt64 l3 < (0 : Int32))) (q1 : X.1[l0]? = some (.inr 10)) (q2 : h.2.2 l0 30 = some v0) (q3 : X.1[v0]? = some (.inl (b1, n1))) (q4 : ¬ (l5 < 0 ∨ n1 ≤ l5.toNatClampNeg)) (q5 : 1 ≤ b1 ∧ b1 ≤ 2) (q6 : ¬ (h.1 v0 l5.toNatClampNeg = (0 : Int32))) (q7 : X.1[v0]? = some (.inl (2, n1))) (K : xm_E X P d co_X11_highest 45 [some (.ref l0), some (.int l1), some (.int l2), some (.long l3), none, some (.int (l5 + (-1 : Int32)))] [] (xm_si h v0 l5.toNatClampNeg (vp_nar .boolean (1 : Int32))) ro ho) : xm_E X P d co_X11_highest 45 [some (.ref l0), some (.int l1), some (.int l2), some (.long l3), none, some (.int l5)] [] h ro ho := by
  refine xm_E_s r_X11_highest_45 rfl rfl ?_
  refine xm_E_s r_X11_highest_46 rfl rfl ?_
  refine xm_E_s r_X11_highest_47 rfl rfl ?_
  refine xm_E_s r_X11_highest_48 rfl rfl ?_
  refine xm_E_s r_X11_highest_49 rfl rfl ?_
  refine xm_E_f q0 ?_
  refine xm_E_s r_X11_highest_50 rfl rfl ?_
  refine xm_E_s r_X11_highest_51 rfl (xm_T_gr rfl q1 rfl rfl q2) ?_
  refine xm_E_s r_X11_highest_52 rfl rfl ?_
  refine xm_E_s r_X11_highest_53 rfl rfl ?_
  refine xm_E_s r_X11_highest_54 rfl (xm_T_gr rfl q1 rfl rfl q2) ?_
  refine xm_E_s r_X11_highest_55 rfl rfl ?_
  refine xm_E_s r_X11_highest_56 rfl (xm_T_bald rfl q3 q5 q4) ?_
  refine xm_E_s r_X11_highest_57 rfl rfl ?_
  refine xm_E_f q6 ?_
  refine xm_E_s r_X11_highest_67 rfl rfl ?_
  refine xm_E_s r_X11_highest_68 rfl rfl ?_
  refine xm_E_s r_X11_highest_70 rfl (xm_T_asz rfl q7 q4) ?_
  refine xm_E_s (ls1 := [some (.ref l0), some (.int l1), some (.int l2), some (.long l3), none, some (.int (l5 + (-1 : Int32)))]) r_X11_highest_71 rfl rfl ?_
  refine xm_E_s r_X11_highest_72 rfl rfl ?_
  exact K
theorem p_X11_highest_80_0 {X : xm_X} {P : List xm_M} {d : Nat} {h : xm_H} {l0 : Nat} {l1 : Int32} {l2 : Int32} {l3 : Option Value} {l5 : Option Value} {v0 : Nat} {n1 : Nat} {b1 : Nat} {ro : Option Value} {ho : xm_H} (q0 : X.1[l0]? = some (.inr 10)) (q1 : h.2.2 l0 30 = some v0) (q2 : X.1[v0]? = some (.inl (b1, n1))) (q3 : ¬ (l2 < 0 ∨ n1 ≤ l2.toNatClampNeg)) (q4 : 1 ≤ b1 ∧ b1 ≤ 2) (q5 : h.1 v0 l2.toNatClampNeg = (0 : Int32)) (K : xm_E X P d co_X11_highest 80 [some (.ref l0), some (.int l1), some (.int (l2 + (-1 : Int32))), l3, none, l5] [] h ro ho) : xm_E X P d co_X11_highest 80 [some (.ref l0), some (.int l1), some (.int l2), l3, none, l5] [] h ro ho := by
  refine xm_E_s r_X11_highest_80 rfl rfl ?_
  refine xm_E_s r_X11_highest_81 rfl (xm_T_gr rfl q0 rfl rfl q1) ?_
  refine xm_E_s r_X11_highest_82 rfl rfl ?_
  refine xm_E_s r_X11_highest_83 rfl (xm_T_bald rfl q2 q4 q3) ?_
  refine xm_E_s r_X11_highest_84 rfl rfl ?_
  refine xm_E_t q5 ?_
  refine xm_E_s (ls1 := [some (.ref l0), some (.int l1), some (.int (l2 + (-1 : Int32))), l3, none, l5]) r_X11_highest_85 rfl rfl ?_
  refine xm_E_s r_X11_highest_86 rfl rfl ?_
  exact K
theorem p_X11_highest_80_1 {X : xm_X} {P : List xm_M} {d : Nat} {h : xm_H} {l0 : Nat} {l1 : Int32} {l2 : Int32} {l3 : Option Value} {l5 : Option Value} {v0 : Nat} {n1 : Nat} {b1 : Nat} (q0 : X.1[l0]? = some (.inr 10)) (q1 : h.2.2 l0 30 = some v0) (q2 : X.1[v0]? = some (.inl (b1, n1))) (q3 : ¬ (l2 < 0 ∨ n1 ≤ l2.toNatClampNeg)) (q4 : 1 ≤ b1 ∧ b1 ≤ 2) (q5 : ¬ (h.1 v0 l2.toNatClampNeg = (0 : Int32))) : xm_E X P d co_X11_highest 80 [some (.ref l0), some (.int l1), some (.int l2), l3, none, l5] [] h (some (.int l2)) h := by
  refine xm_E_s r_X11_highest_80 rfl rfl ?_
  refine xm_E_s r_X11_highest_81 rfl (xm_T_gr rfl q0 rfl rfl q1) ?_
  refine xm_E_s r_X11_highest_82 rfl rfl ?_
  refine xm_E_s r_X11_highest_83 rfl (xm_T_bald rfl q2 q4 q3) ?_
  refine xm_E_s r_X11_highest_84 rfl rfl ?_
  refine xm_E_f q5 ?_
  refine xm_E_s r_X11_highest_87 rfl rfl ?_
  exact xm_E_iret r_X11_highest_88 rfl rfl
theorem r_X11_mostIn_0 : co_X11_mostIn[0]? = some ((0, .aload_n 0, 0, 0, 0, 0, 0, 0, []) : xm_I) := rfl
theorem r_X11_mostIn_1 : co_X11_mostIn[1]? = some ((1, .getfield 9, 1381, 10, 1, 2, 0, 0, []) : xm_I) := rfl
theorem r_X11_mostIn_2 : co_X11_mostIn[2]? = some ((4, .bipush 18, 0, 0, 0, 0, 18, 0, []) : xm_I) := rfl
theorem r_X11_mostIn_3 : co_X11_mostIn[3]? = some ((6, .iaload, 0, 0, 0, 0, 0, 0, []) : xm_I) := rfl
theorem r_X11_mostIn_4 : co_X11_mostIn[4]? = some ((7, .i2l, 0, 0, 0, 0, 0, 0, []) : xm_I) := rfl
theorem r_X11_mostIn_5 : co_X11_mostIn[5]? = some ((8, .lstore_n 2, 0, 0, 0, 0, 0, 0, []) : xm_I) := rfl
theorem r_X11_mostIn_6 : co_X11_mostIn[6]? = some ((9, .ldc2_w 470, 1984, 0, 0, 0, 0, (-1), []) : xm_I) := rfl
theorem r_X11_mostIn_7 : co_X11_mostIn[7]? = some ((12, .lstore 4, 0, 0, 0, 0, 0, 0, []) : xm_I) := rfl
theorem r_X11_mostIn_8 : co_X11_mostIn[8]? = some ((14, .iconst 0, 0, 0, 0, 0, 0, 0, []) : xm_I) := rfl
theorem r_X11_mostIn_9 : co_X11_mostIn[9]? = some ((15, .istore 6, 0, 0, 0, 0, 0, 0, []) : xm_I) := rfl
theorem r_X11_mostIn_10 : co_X11_mostIn[10]? = some ((17, .ldc2_w 482, 2011, 0, 0, 0, 0, 9223372036854775807, []) : xm_I) := rfl
theorem r_X11_mostIn_11 : co_X11_mostIn[11]? = some ((20, .lstore 7, 0, 0, 0, 0, 0, 0, []) : xm_I) := rfl
theorem r_X11_mostIn_12 : co_X11_mostIn[12]? = some ((22, .iconst 0, 0, 0, 0, 0, 0, 0, []) : xm_I) := rfl
theorem r_X11_mostIn_13 : co_X11_mostIn[13]? = some ((23, .istore 9, 0, 0, 0, 0, 0, 0, []) : xm_I) := rfl
theorem r_X11_mostIn_14 : co_X11_mostIn[14]? = some ((25, .iload 9, 0, 0, 0, 0, 0, 0, []) : xm_I) := rfl
theorem r_X11_mostIn_15 : co_X11_mostIn[15]? = some ((27, .aload_n 0, 0, 0, 0, 0, 0, 0, []) : xm_I) := rfl
theorem r_X11_mostIn_16 : co_X11_mostIn[16]? = some ((28, .getfield 67, 1415, 10, 35, 2, 0, 0, []) : xm_I) := rfl
theorem r_X11_mostIn_17 : co_X11_mostIn[17]? = some ((31, .iload_n 1, 0, 0, 0, 0, 0, 0, []) : xm_I) := rfl
theorem r_X11_mostIn_18 : co_X11_mostIn[18]? = some ((32, .iaload, 0, 0, 0, 0, 0, 0, []) : xm_I) := rfl
theorem r_X11_mostIn_19 : co_X11_mostIn[19]? = some ((33, .if_icmp .ge 36, 0, 0, 36, 0, 0, 0, []) : xm_I) := rfl
theorem r_X11_mostIn_20 : co_X11_mostIn[20]? = some ((36, .aload_n 0, 0, 0, 0, 0, 0, 0, []) : xm_I) := rfl
theorem r_X11_mostIn_21 : co_X11_mostIn[21]? = some ((37, .iload_n 1, 0, 0, 0, 0, 0, 0, []) : xm_I) := rfl
theorem r_X11_mostIn_22 : co_X11_mostIn[22]? = some ((38, .iload 9, 0, 0, 0, 0, 0, 0, []) : xm_I) := rfl
theorem r_X11_mostIn_23 : co_X11_mostIn[23]? = some ((40, .invokevirtual 360, 1786, 254, 3, 10, 0, 0, []) : xm_I) := rfl
theorem r_X11_mostIn_24 : co_X11_mostIn[24]? = some ((43, .lload 4, 0, 0, 0, 0, 0, 0, []) : xm_I) := rfl
theorem r_X11_mostIn_25 : co_X11_mostIn[25]? = some ((45, .lcmp, 0, 0, 0, 0, 0, 0, []) : xm_I) := rfl
theorem r_X11_mostIn_26 : co_X11_mostIn[26]? = some ((46, .ifCond .le 17, 0, 0, 34, 0, 0, 0, []) : xm_I) := rfl
theorem r_X11_mostIn_27 : co_X11_mostIn[27]? = some ((49, .lload 7, 0, 0, 0, 0, 0, 0, []) : xm_I) := rfl
theorem r_X11_mostIn_28 : co_X11_mostIn[28]? = some ((51, .aload_n 0, 0, 0, 0, 0, 0, 0, []) : xm_I) := rfl
theorem r_X11_mostIn_29 : co_X11_mostIn[29]? = some ((52, .iload_n 1, 0, 0, 0, 0, 0, 0, []) : xm_I) := rfl
theorem r_X11_mostIn_30 : co_X11_mostIn[30]? = some ((53, .iload 9, 0, 0, 0, 0, 0, 0, []) : xm_I) := rfl
theorem r_X11_mostIn_31 : co_X11_mostIn[31]? = some ((55, .invokevirtual 360, 1786, 254, 3, 10, 0, 0, []) : xm_I) := rfl
theorem r_X11_mostIn_32 : co_X11_mostIn[32]? = some ((58, .invokestatic 484, 2012, 0, 0, 5, 0, 0, []) : xm_I) := rfl
theorem r_X11_mostIn_33 : co_X11_mostIn[33]? = some ((61, .lstore 7, 0, 0, 0, 0, 0, 0, []) : xm_I) := rfl
theorem r_X11_mostIn_34 : co_X11_mostIn[34]? = some ((63, .iinc 9 1, 0, 0, 0, 0, 1, 0, []) : xm_I) := rfl
theorem r_X11_mostIn_35 : co_X11_mostIn[35]? = some ((66, .goto (-41), 0, 0, 14, 0, 0, 0, []) : xm_I) := rfl
theorem r_X11_mostIn_36 : co_X11_mostIn[36]? = some ((69, .lload 7, 0, 0, 0, 0, 0, 0, []) : xm_I) := rfl
theorem r_X11_mostIn_37 : co_X11_mostIn[37]? = some ((71, .lload_n 2, 0, 0, 0, 0, 0, 0, []) : xm_I) := rfl
theorem r_X11_mostIn_38 : co_X11_mostIn[38]? = some ((72, .lcmp, 0, 0, 0, 0, 0, 0, []) : xm_I) := rfl
theorem r_X11_mostIn_39 : co_X11_mostIn[39]? = some ((73, .ifCond .le 6, 0, 0, 42, 0, 0, 0, []) : xm_I) := rfl
theorem r_X11_mostIn_40 : co_X11_mostIn[40]? = some ((76, .iload 6, 0, 0, 0, 0, 0, 0, []) : xm_I) := rfl
theorem r_X11_mostIn_41 : co_X11_mostIn[41]? = some ((78, .ireturn, 0, 0, 0, 0, 0, 0, []) : xm_I) := rfl
theorem r_X11_mostIn_42 : co_X11_mostIn[42]? = some ((79, .iconst 0, 0, 0, 0, 0, 0, 0, []) : xm_I) := rfl
theorem r_X11_mostIn_43 : co_X11_mostIn[43]? = some ((80, .istore 9, 0, 0, 0, 0, 0, 0, []) : xm_I) := rfl
theorem r_X11_mostIn_44 : co_X11_mostIn[44]? = some ((82, .iload 9, 0, 0, 0, 0, 0, 0, []) : xm_I) := rfl
theorem r_X11_mostIn_45 : co_X11_mostIn[45]? = some ((84, .aload_n 0, 0, 0, 0, 0, 0, 0, []) : xm_I) := rfl
theorem r_X11_mostIn_46 : co_X11_mostIn[46]? = some ((85, .getfield 67, 1415, 10, 35, 2, 0, 0, []) : xm_I) := rfl
theorem r_X11_mostIn_47 : co_X11_mostIn[47]? = some ((88, .iload_n 1, 0, 0, 0, 0, 0, 0, []) : xm_I) := rfl
theorem r_X11_mostIn_48 : co_X11_mostIn[48]? = some ((89, .iaload, 0, 0, 0, 0, 0, 0, []) : xm_I) := rfl
theorem r_X11_mostIn_49 : co_X11_mostIn[49]? = some ((90, .if_icmp .ge 40, 0, 0, 69, 0, 0, 0, []) : xm_I) := rfl
theorem r_X11_mostIn_50 : co_X11_mostIn[50]? = some ((93, .aload_n 0, 0, 0, 0, 0, 0, 0, []) : xm_I) := rfl
theorem r_X11_mostIn_51 : co_X11_mostIn[51]? = some ((94, .iload_n 1, 0, 0, 0, 0, 0, 0, []) : xm_I) := rfl
theorem r_X11_mostIn_52 : co_X11_mostIn[52]? = some ((95, .iload 9, 0, 0, 0, 0, 0, 0, []) : xm_I) := rfl
theorem r_X11_mostIn_53 : co_X11_mostIn[53]? = some ((97, .invokevirtual 360, 1786, 254, 3, 10, 0, 0, []) : xm_I) := rfl
theorem r_X11_mostIn_54 : co_X11_mostIn[54]? = some ((100, .lload 7, 0, 0, 0, 0, 0, 0, []) : xm_I) := rfl
theorem r_X11_mostIn_55 : co_X11_mostIn[55]? = some ((102, .lcmp, 0, 0, 0, 0, 0, 0, []) : xm_I) := rfl
theorem r_X11_mostIn_56 : co_X11_mostIn[56]? = some ((103, .ifCond .ne 21, 0, 0, 67, 0, 0, 0, []) : xm_I) := rfl
theorem r_X11_mostIn_57 : co_X11_mostIn[57]? = some ((106, .lload 7, 0, 0, 0, 0, 0, 0, []) : xm_I) := rfl
theorem r_X11_mostIn_58 : co_X11_mostIn[58]? = some ((108, .lload_n 2, 0, 0, 0, 0, 0, 0, []) : xm_I) := rfl
theorem r_X11_mostIn_59 : co_X11_mostIn[59]? = some ((109, .lcmp, 0, 0, 0, 0, 0, 0, []) : xm_I) := rfl
theorem r_X11_mostIn_60 : co_X11_mostIn[60]? = some ((110, .ifCond .le 6, 0, 0, 62, 0, 0, 0, []) : xm_I) := rfl
theorem r_X11_mostIn_61 : co_X11_mostIn[61]? = some ((113, .goto 11, 0, 0, 67, 0, 0, 0, []) : xm_I) := rfl
theorem r_X11_mostIn_62 : co_X11_mostIn[62]? = some ((116, .lload_n 2, 0, 0, 0, 0, 0, 0, []) : xm_I) := rfl
theorem r_X11_mostIn_63 : co_X11_mostIn[63]? = some ((117, .lload 7, 0, 0, 0, 0, 0, 0, []) : xm_I) := rfl
theorem r_X11_mostIn_64 : co_X11_mostIn[64]? = some ((119, .lsub, 0, 0, 0, 0, 0, 0, []) : xm_I) := rfl
theorem r_X11_mostIn_65 : co_X11_mostIn[65]? = some ((120, .lstore_n 2, 0, 0, 0, 0, 0, 0, []) : xm_I) := rfl
theorem r_X11_mostIn_66 : co_X11_mostIn[66]? = some ((121, .iinc 6 1, 0, 0, 0, 0, 1, 0, []) : xm_I) := rfl
theorem r_X11_mostIn_67 : co_X11_mostIn[67]? = some ((124, .iinc 9 1, 0, 0, 0, 0, 1, 0, []) : xm_I) := rfl
theorem r_X11_mostIn_68 : co_X11_mostIn[68]? = some ((127, .goto (-45), 0, 0, 44, 0, 0, 0, []) : xm_I) := rfl
theorem r_X11_mostIn_69 : co_X11_mostIn[69]? = some ((130, .lload 7, 0, 0, 0, 0, 0, 0, []) : xm_I) := rfl
theorem r_X11_mostIn_70 : co_X11_mostIn[70]? = some ((132, .lstore 4, 0, 0, 0, 0, 0, 0, []) : xm_I) := rfl
theorem r_X11_mostIn_71 : co_X11_mostIn[71]? = some ((134, .goto (-117), 0, 0, 10, 0, 0, 0, []) : xm_I) := rfl
theorem p_X11_mostIn_0_0 {X : xm_X} {P : List xm_M} {d : Nat} {h : xm_H} {l0 : Nat} {l1 : Int32} {v0 : Nat} {n1 : Nat} {ro : Option Value} {ho : xm_H} (q0 : X.1[l0]? = some (.inr 10)) (q1 : h.2.2 l0 1 = some v0) (q2 : X.1[v0]? = some (.inl (0, n1))) (q3 : 18 < n1) (K : xm_E X P d co_X11_mostIn 10 [some (.ref l0), some (.int l1), some (.long ((h.1 v0 18).toInt64)), none, some (.long (-1 : Int64)), none, some (.int (0 : Int32)), none, none, none] [] h ro ho) : xm_E X P d co_X11_mostIn 0 [some (.ref l0), some (.int l1), none, none, none, none, none, none, none, none] [] h ro ho := by
  refine xm_E_s r_X11_mostIn_0 rfl rfl ?_
  refine xm_E_s r_X11_mostIn_1 rfl (xm_T_gr rfl q0 rfl rfl q1) ?_
  refine xm_E_s r_X11_mostIn_2 rfl rfl ?_
  refine xm_E_s r_X11_mostIn_3 rfl (xm_T_iald rfl q2 (by decide) (fun e => e.elim (fun e => absurd e (by decide)) (fun e => Nat.not_le.mpr q3 e))) ?_
  refine xm_E_s r_X11_mostIn_4 rfl rfl ?_
  refine xm_E_s (ls1 := [some (.ref l0), some (.int l1), some (.long ((h.1 v0 18).toInt64)), none, none, none, none, none, none, none]) r_X11_mostIn_5 rfl rfl ?_
  refine xm_E_s r_X11_mostIn_6 rfl rfl ?_
  refine xm_E_s (ls1 := [some (.ref l0), some (.int l1), some (.long ((h.1 v0 18).toInt64)), none, some (.long (-1 : Int64)), none, none, none, none, none]) r_X11_mostIn_7 rfl rfl ?_
  refine xm_E_s r_X11_mostIn_8 rfl rfl ?_
  refine xm_E_s (ls1 := [some (.ref l0), some (.int l1), some (.long ((h.1 v0 18).toInt64)), none, some (.long (-1 : Int64)), none, some (.int (0 : Int32)), none, none, none]) r_X11_mostIn_9 rfl rfl ?_
  exact K
theorem p_X11_mostIn_10_0 {X : xm_X} {P : List xm_M} {d : Nat} {h : xm_H} {l0 : Nat} {l1 : Int32} {l2 : Int64} {l4 : Int64} {l6 : Int32} {l7 : Option Value} {l9 : Option Value} {ro : Option Value} {ho : xm_H}  (K : xm_E X P d co_X11_mostIn 14 [some (.ref l0), some (.int l1), some (.long l2), none, some (.long l4), none, some (.int l6), some (.long (9223372036854775807 : Int64)), none, some (.int (0 : Int32))] [] h ro ho) : xm_E X P d co_X11_mostIn 10 [some (.ref l0), some (.int l1), some (.long l2), none, some (.long l4), none, some (.int l6), l7, none, l9] [] h ro ho := by
  refine xm_E_s r_X11_mostIn_10 rfl rfl ?_
  refine xm_E_s (ls1 := [some (.ref l0), some (.int l1), some (.long l2), none, some (.long l4), none, some (.int l6), some (.long (9223372036854775807 : Int64)), none, l9]) r_X11_mostIn_11 rfl rfl ?_
  refine xm_E_s r_X11_mostIn_12 rfl rfl ?_
  refine xm_E_s (ls1 := [some (.ref l0), some (.int l1), some (.long l2), none, some (.long l4), none, some (.int l6), some (.long (9223372036854775807 : Int64)), none, some (.int (0 : Int32))]) r_X11_mostIn_13 rfl rfl ?_
  exact K
theorem p_X11_mostIn_14_0 {X : xm_X} {P : List xm_M} {d : Nat} {h : xm_H} {l0 : Nat} {l1 : Int32} {l2 : Int64} {l4 : Int64} {l6 : Int32} {l7 : Int64} {l9 : Int32} {v0 : Nat} {n1 : Nat} {ro : Option Value} {ho : xm_H} (q0 : X.1[l0]? = some (.inr 10)) (q1 : h.2.2 l0 35 = some v0) (q2 : X.1[v0]? = some (.inl (0, n1))) (q3 : ¬ (l1 < 0 ∨ n1 ≤ l1.toNatClampNeg)) (q4 : h.1 v0 l1.toNatClampNeg ≤ l9) (q5 : lg_cmp l7 l2 ≤ (0 : Int32)) (K : xm_E X P d co_X11_mostIn 44 [some (.ref l0), some (.int l1), some (.long l2), none, some (.long l4), none, some (.int l6), some (.long l7), none, some (.int (0 : Int32))] [] h ro ho) : xm_E X P d co_X11_mostIn 14 [some (.ref l0), some (.int l1), some (.long l2), none, some (.long l4), none, some (.int l6), some (.long l7), none, some (.int l9)] [] h ro ho := by
  refine xm_E_s r_X11_mostIn_14 rfl rfl ?_
  refine xm_E_s r_X11_mostIn_15 rfl rfl ?_
  refine xm_E_s r_X11_mostIn_16 rfl (xm_T_gr rfl q0 rfl rfl q1) ?_
  refine xm_E_s r_X11_mostIn_17 rfl rfl ?_
  refine xm_E_s r_X11_mostIn_18 rfl (xm_T_iald rfl q2 (by decide) q3) ?_
  refine xm_E_s r_X11_mostIn_19 rfl rfl ?_
  refine xm_E_t q4 ?_
  refine xm_E_s r_X11_mostIn_36 rfl rfl ?_
  refine xm_E_s r_X11_mostIn_37 rfl rfl ?_
  refine xm_E_s r_X11_mostIn_38 rfl rfl ?_
  refine xm_E_s r_X11_mostIn_39 rfl rfl ?_
  refine xm_E_t q5 ?_
  refine xm_E_s r_X11_mostIn_42 rfl rfl ?_
  refine xm_E_s (ls1 := [some (.ref l0), some (.int l1), some (.long l2), none, some (.long l4), none, some (.int l6), some (.long l7), none, some (.int (0 : Int32))]) r_X11_mostIn_43 rfl rfl ?_
  exact K
theorem p_X11_mostIn_14_1 {X : xm_X} {P : List xm_M} {d : Nat} {h : xm_H} {l0 : Nat} {l1 : Int32} {l2 : Int64} {l4 : Int64} {l6 : Int32} {l7 : Int64} {l9 : Int32} {v0 : Nat} {n1 : Nat} (q0 : X.1[l0]? = some (.inr 10)) (q1 : h.2.2 l0 35 = some v0) (q2 : X.1[v0]? = some (.inl (0, n1))) (q3 : ¬ (l1 < 0 ∨ n1 ≤ l1.toNatClampNeg)) (q4 : h.1 v0 l1.toNatClampNeg ≤ l9) (q5 : ¬ (lg_cmp l7 l2 ≤ (0 : Int32))) : xm_E X P d co_X11_mostIn 14 [some (.ref l0), some (.int l1), some (.long l2), none, some (.long l4), none, some (.int l6), some (.long l7), none, some (.int l9)] [] h (some (.int l6)) h := by
  refine xm_E_s r_X11_mostIn_14 rfl rfl ?_
  refine xm_E_s r_X11_mostIn_15 rfl rfl ?_
  refine xm_E_s r_X11_mostIn_16 rfl (xm_T_gr rfl q0 rfl rfl q1) ?_
  refine xm_E_s r_X11_mostIn_17 rfl rfl ?_
  refine xm_E_s r_X11_mostIn_18 rfl (xm_T_iald rfl q2 (by decide) q3) ?_
  refine xm_E_s r_X11_mostIn_19 rfl rfl ?_
  refine xm_E_t q4 ?_
  refine xm_E_s r_X11_mostIn_36 rfl rfl ?_
  refine xm_E_s r_X11_mostIn_37 rfl rfl ?_
  refine xm_E_s r_X11_mostIn_38 rfl rfl ?_
  refine xm_E_s r_X11_mostIn_39 rfl rfl ?_
  refine xm_E_f q5 ?_
  refine xm_E_s r_X11_mostIn_40 rfl rfl ?_
  exact xm_E_iret r_X11_mostIn_41 rfl rfl
theorem p_X11_mostIn_14_2 {X : xm_X} {P : List xm_M} {d : Nat} {h : xm_H} {l0 : Nat} {l1 : Int32} {l2 : Int64} {l4 : Int64} {l6 : Int32} {l7 : Int64} {l9 : Int32} {v0 : Nat} {n1 : Nat} {h2 : xm_H} {r2 : Int64} {ro : Option Value} {ho : xm_H} (q0 : X.1[l0]? = some (.inr 10)) (q1 : h.2.2 l0 35 = some v0) (q2 : X.1[v0]? = some (.inl (0, n1))) (q3 : ¬ (l1 < 0 ∨ n1 ≤ l1.toNatClampNeg)) (q4 : ¬ (h.1 v0 l1.toNatClampNeg ≤ l9)) (q5 : xm_V X P d 254 [.ref l0, .int l1, .int l9] h (some (.long r2)) h2) (q6 : lg_cmp r2 l4 ≤ (0 : Int32)) (K : xm_E X P d co_X11_mostIn 14 [some (.ref l0), some (.int l1), some (.long l2), none, some (.long l4), none, some (.int l6), some (.long l7), none, some (.int (l9 + (1 : Int32)))] [] h2 ro ho) : xm_E X P d co_X11_mostIn 14 [some (.ref l0), some (.int l1), some (.long l2), none, some (.long l4), none, some (.int l6), some (.long l7), none, some (.int l9)] [] h ro ho := by
  refine xm_E_s r_X11_mostIn_14 rfl rfl ?_
  refine xm_E_s r_X11_mostIn_15 rfl rfl ?_
  refine xm_E_s r_X11_mostIn_16 rfl (xm_T_gr rfl q0 rfl rfl q1) ?_
  refine xm_E_s r_X11_mostIn_17 rfl rfl ?_
  refine xm_E_s r_X11_mostIn_18 rfl (xm_T_iald rfl q2 (by decide) q3) ?_
  refine xm_E_s r_X11_mostIn_19 rfl rfl ?_
  refine xm_E_f q4 ?_
  refine xm_E_s r_X11_mostIn_20 rfl rfl ?_
  refine xm_E_s r_X11_mostIn_21 rfl rfl ?_
  refine xm_E_s r_X11_mostIn_22 rfl rfl ?_
  refine xm_E_cv [.ref l0, .int l1, .int l9] [] r_X11_mostIn_23 rfl rfl (Nat.le_of_ble_eq_true rfl) (xm_rc q0 (by decide)) rfl q5 ?_
  refine xm_E_s r_X11_mostIn_24 rfl rfl ?_
  refine xm_E_s r_X11_mostIn_25 rfl rfl ?_
  refine xm_E_s r_X11_mostIn_26 rfl rfl ?_
  refine xm_E_t q6 ?_
  refine xm_E_s (ls1 := [some (.ref l0), some (.int l1), some (.long l2), none, some (.long l4), none, some (.int l6), some (.long l7), none, some (.int (l9 + (1 : Int32)))]) r_X11_mostIn_34 rfl rfl ?_
  refine xm_E_s r_X11_mostIn_35 rfl rfl ?_
  exact K
theorem p_X11_mostIn_14_3 {X : xm_X} {P : List xm_M} {d : Nat} {h : xm_H} {l0 : Nat} {l1 : Int32} {l2 : Int64} {l4 : Int64} {l6 : Int32} {l7 : Int64} {l9 : Int32} {v0 : Nat} {n1 : Nat} {h2 : xm_H} {r2 : Int64} {h3 : xm_H} {r3 : Int64} {ro : Option Value} {ho : xm_H} (q0 : X.1[l0]? = some (.inr 10)) (q1 : h.2.2 l0 35 = some v0) (q2 : X.1[v0]? = some (.inl (0, n1))) (q3 : ¬ (l1 < 0 ∨ n1 ≤ l1.toNatClampNeg)) (q4 : ¬ (h.1 v0 l1.toNatClampNeg ≤ l9)) (q5 : xm_V X P d 254 [.ref l0, .int l1, .int l9] h (some (.long r2)) h2) (q6 : ¬ (lg_cmp r2 l4 ≤ (0 : Int32))) (q7 : xm_V X P d 254 [.ref l0, .int l1, .int l9] h2 (some (.long r3)) h3) (K : xm_E X P d co_X11_mostIn 14 [some (.ref l0), some (.int l1), some (.long l2), none, some (.long l4), none, some (.int l6), some (.long (if r3 < l7 then r3 else l7)), none, some (.int (l9 + (1 : Int32)))] [] h3 ro ho) : xm_E X P d co_X11_mostIn 14 [some (.ref l0), some (.int l1), some (.long l2), none, some (.long l4), none, some (.int l6), some (.long l7), none, some (.int l9)] [] h ro ho := by
  refine xm_E_s r_X11_mostIn_14 rfl rfl ?_
  refine xm_E_s r_X11_mostIn_15 rfl rfl ?_
  refine xm_E_s r_X11_mostIn_16 rfl (xm_T_gr rfl q0 rfl rfl q1) ?_
  refine xm_E_s r_X11_mostIn_17 rfl rfl ?_
  refine xm_E_s r_X11_mostIn_18 rfl (xm_T_iald rfl q2 (by decide) q3) ?_
  refine xm_E_s r_X11_mostIn_19 rfl rfl ?_
  refine xm_E_f q4 ?_
  refine xm_E_s r_X11_mostIn_20 rfl rfl ?_
  refine xm_E_s r_X11_mostIn_21 rfl rfl ?_
  refine xm_E_s r_X11_mostIn_22 rfl rfl ?_
  refine xm_E_cv [.ref l0, .int l1, .int l9] [] r_X11_mostIn_23 rfl rfl (Nat.le_of_ble_eq_true rfl) (xm_rc q0 (by decide)) rfl q5 ?_
  refine xm_E_s r_X11_mostIn_24 rfl rfl ?_
  refine xm_E_s r_X11_mostIn_25 rfl rfl ?_
  refine xm_E_s r_X11_mostIn_26 rfl rfl ?_
  refine xm_E_f q6 ?_
  refine xm_E_s r_X11_mostIn_27 rfl rfl ?_
  refine xm_E_s r_X11_mostIn_28 rfl rfl ?_
  refine xm_E_s r_X11_mostIn_29 rfl rfl ?_
  refine xm_E_s r_X11_mostIn_30 rfl rfl ?_
  refine xm_E_cv [.ref l0, .int l1, .int l9] [.long l7] r_X11_mostIn_31 rfl rfl (Nat.le_of_ble_eq_true rfl) (xm_rc q0 (by decide)) rfl q7 ?_
  refine xm_E_s r_X11_mostIn_32 rfl rfl ?_
  refine xm_E_s (ls1 := [some (.ref l0), some (.int l1), some (.long l2), none, some (.long l4), none, some (.int l6), some (.long (if r3 < l7 then r3 else l7)), none, some (.int l9)]) r_X11_mostIn_33 rfl rfl ?_
  refine xm_E_s (ls1 := [some (.ref l0), some (.int l1), some (.long l2), none, some (.long l4), none, some (.int l6), some (.long (if r3 < l7 then r3 else l7)), none, some (.int (l9 + (1 : Int32)))]) r_X11_mostIn_34 rfl rfl ?_
  refine xm_E_s r_X11_mostIn_35 rfl rfl ?_
  exact K
theorem p_X11_mostIn_44_0 {X : xm_X} {P : List xm_M} {d : Nat} {h : xm_H} {l0 : Nat} {l1 : Int32} {l2 : Int64} {l4 : Int64} {l6 : Int32} {l7 : Int64} {l9 : Int32} {v0 : Nat} {n1 : Nat} {ro : Option Value} {ho : xm_H} (q0 : X.1[l0]? = some (.inr 10)) (q1 : h.2.2 l0 35 = some v0) (q2 : X.1[v0]? = some (.inl (0, n1))) (q3 : ¬ (l1 < 0 ∨ n1 ≤ l1.toNatClampNeg)) (q4 : h.1 v0 l1.toNatClampNeg ≤ l9) (K : xm_E X P d co_X11_mostIn 10 [some (.ref l0), some (.int l1), some (.long l2), none, some (.long l7), none, some (.int l6), some (.long l7), none, some (.int l9)] [] h ro ho) : xm_E X P d co_X11_mostIn 44 [some (.ref l0), some (.int l1), some (.long l2), none, some (.long l4), none, some (.int l6), some (.long l7), none, some (.int l9)] [] h ro ho := by
  refine xm_E_s r_X11_mostIn_44 rfl rfl ?_
  refine xm_E_s r_X11_mostIn_45 rfl rfl ?_
  refine xm_E_s r_X11_mostIn_46 rfl (xm_T_gr rfl q0 rfl rfl q1) ?_
  refine xm_E_s r_X11_mostIn_47 rfl rfl ?_
  refine xm_E_s r_X11_mostIn_48 rfl (xm_T_iald rfl q2 (by decide) q3) ?_
  refine xm_E_s r_X11_mostIn_49 rfl rfl ?_
  refine xm_E_t q4 ?_
  refine xm_E_s r_X11_mostIn_69 rfl rfl ?_
  refine xm_E_s (ls1 := [some (.ref l0), some (.int l1), some (.long l2), none, some (.long l7), none, some (.int l6), some (.long l7), none, some (.int l9)]) r_X11_mostIn_70 rfl rfl ?_
  refine xm_E_s r_X11_mostIn_71 rfl rfl ?_
  exact K
theorem p_X11_mostIn_44_1 {X : xm_X} {P : List xm_M} {d : Nat} {h : xm_H} {l0 : Nat} {l1 : Int32} {l2 : Int64} {l4 : Int64} {l6 : Int32} {l7 : Int64} {l9 : Int32} {v0 : Nat} {n1 : Nat} {h2 : xm_H} {r2 : Int64} {ro : Option Value} {ho : xm_H} (q0 : X.1[l0]? = some (.inr 10)) (q1 : h.2.2 l0 35 = some v0) (q2 : X.1[v0]? = some (.inl (0, n1))) (q3 : ¬ (l1 < 0 ∨ n1 ≤ l1.toNatClampNeg)) (q4 : ¬ (h.1 v0 l1.toNatClampNeg ≤ l9)) (q5 : xm_V X P d 254 [.ref l0, .int l1, .int l9] h (some (.long r2)) h2) (q6 : lg_cmp r2 l7 = (0 : Int32)) (q7 : lg_cmp l7 l2 ≤ (0 : Int32)) (K : xm_E X P d co_X11_mostIn 44 [some (.ref l0), some (.int l1), some (.long (l2 - l7)), none, some (.long l4), none, some (.int (l6 + (1 : Int32))), some (.long l7), none, some (.int (l9 + (1 : Int32)))] [] h2 ro ho) : xm_E X P d co_X11_mostIn 44 [some (.ref l0), some (.int l1), some (.long l2), none, some (.long l4), none, some (.int l6), some (.long l7), none, some (.int l9)] [] h ro ho := by
  refine xm_E_s r_X11_mostIn_44 rfl rfl ?_
  refine xm_E_s r_X11_mostIn_45 rfl rfl ?_
  refine xm_E_s r_X11_mostIn_46 rfl (xm_T_gr rfl q0 rfl rfl q1) ?_
  refine xm_E_s r_X11_mostIn_47 rfl rfl ?_
  refine xm_E_s r_X11_mostIn_48 rfl (xm_T_iald rfl q2 (by decide) q3) ?_
  refine xm_E_s r_X11_mostIn_49 rfl rfl ?_
  refine xm_E_f q4 ?_
  refine xm_E_s r_X11_mostIn_50 rfl rfl ?_
  refine xm_E_s r_X11_mostIn_51 rfl rfl ?_
  refine xm_E_s r_X11_mostIn_52 rfl rfl ?_
  refine xm_E_cv [.ref l0, .int l1, .int l9] [] r_X11_mostIn_53 rfl rfl (Nat.le_of_ble_eq_true rfl) (xm_rc q0 (by decide)) rfl q5 ?_
  refine xm_E_s r_X11_mostIn_54 rfl rfl ?_
  refine xm_E_s r_X11_mostIn_55 rfl rfl ?_
  refine xm_E_s r_X11_mostIn_56 rfl rfl ?_
  refine xm_E_t q6 ?_
  refine xm_E_s r_X11_mostIn_57 rfl rfl ?_
  refine xm_E_s r_X11_mostIn_58 rfl rfl ?_
  refine xm_E_s r_X11_mostIn_59 rfl rfl ?_
  refine xm_E_s r_X11_mostIn_60 rfl rfl ?_
  refine xm_E_t q7 ?_
  refine xm_E_s r_X11_mostIn_62 rfl rfl ?_
  refine xm_E_s r_X11_mostIn_63 rfl rfl ?_
  refine xm_E_s r_X11_mostIn_64 rfl rfl ?_
  refine xm_E_s (ls1 := [some (.ref l0), some (.int l1), some (.long (l2 - l7)), none, some (.long l4), none, some (.int l6), some (.long l7), none, some (.int l9)]) r_X11_mostIn_65 rfl rfl ?_
  refine xm_E_s (ls1 := [some (.ref l0), some (.int l1), some (.long (l2 - l7)), none, some (.long l4), none, some (.int (l6 + (1 : Int32))), some (.long l7), none, some (.int l9)]) r_X11_mostIn_66 rfl rfl ?_
  refine xm_E_s (ls1 := [some (.ref l0), some (.int l1), some (.long (l2 - l7)), none, some (.long l4), none, some (.int (l6 + (1 : Int32))), some (.long l7), none, some (.int (l9 + (1 : Int32)))]) r_X11_mostIn_67 rfl rfl ?_
  refine xm_E_s r_X11_mostIn_68 rfl rfl ?_
  exact K
theorem p_X11_mostIn_44_2 {X : xm_X} {P : List xm_M} {d : Nat} {h : xm_H} {l0 : Nat} {l1 : Int32} {l2 : Int64} {l4 : Int64} {l6 : Int32} {l7 : Int64} {l9 : Int32} {v0 : Nat} {n1 : Nat} {h2 : xm_H} {r2 : Int64} {ro : Option Value} {ho : xm_H} (q0 : X.1[l0]? = some (.inr 10)) (q1 : h.2.2 l0 35 = some v0) (q2 : X.1[v0]? = some (.inl (0, n1))) (q3 : ¬ (l1 < 0 ∨ n1 ≤ l1.toNatClampNeg)) (q4 : ¬ (h.1 v0 l1.toNatClampNeg ≤ l9)) (q5 : xm_V X P d 254 [.ref l0, .int l1, .int l9] h (some (.long r2)) h2) (q6 : lg_cmp r2 l7 = (0 : Int32)) (q7 : ¬ (lg_cmp l7 l2 ≤ (0 : Int32))) (K : xm_E X P d co_X11_mostIn 44 [some (.ref l0), some (.int l1), some (.long l2), none, some (.long l4), none, some (.int l6), some (.long l7), none, some (.int (l9 + (1 : Int32)))] [] h2 ro ho) : xm_E X P d co_X11_mostIn 44 [some (.ref l0), some (.int l1), some (.long l2), none, some (.long l4), none, some (.int l6), some (.long l7), none, some (.int l9)] [] h ro ho := by
  refine xm_E_s r_X11_mostIn_44 rfl rfl ?_
  refine xm_E_s r_X11_mostIn_45 rfl rfl ?_
  refine xm_E_s r_X11_mostIn_46 rfl (xm_T_gr rfl q0 rfl rfl q1) ?_
  refine xm_E_s r_X11_mostIn_47 rfl rfl ?_
  refine xm_E_s r_X11_mostIn_48 rfl (xm_T_iald rfl q2 (by decide) q3) ?_
  refine xm_E_s r_X11_mostIn_49 rfl rfl ?_
  refine xm_E_f q4 ?_
  refine xm_E_s r_X11_mostIn_50 rfl rfl ?_
  refine xm_E_s r_X11_mostIn_51 rfl rfl ?_
  refine xm_E_s r_X11_mostIn_52 rfl rfl ?_
  refine xm_E_cv [.ref l0, .int l1, .int l9] [] r_X11_mostIn_53 rfl rfl (Nat.le_of_ble_eq_true rfl) (xm_rc q0 (by decide)) rfl q5 ?_
  refine xm_E_s r_X11_mostIn_54 rfl rfl ?_
  refine xm_E_s r_X11_mostIn_55 rfl rfl ?_
  refine xm_E_s r_X11_mostIn_56 rfl rfl ?_
  refine xm_E_t q6 ?_
  refine xm_E_s r_X11_mostIn_57 rfl rfl ?_
  refine xm_E_s r_X11_mostIn_58 rfl rfl ?_
  refine xm_E_s r_X11_mostIn_59 rfl rfl ?_
  refine xm_E_s r_X11_mostIn_60 rfl rfl ?_
  refine xm_E_f q7 ?_
  refine xm_E_s r_X11_mostIn_61 rfl rfl ?_
  refine xm_E_s (ls1 := [some (.ref l0), some (.int l1), some (.long l2), none, some (.long l4), none, some (.int l6), some (.long l7), none, some (.int (l9 + (1 : Int32)))]) r_X11_mostIn_67 rfl rfl ?_
  refine xm_E_s r_X11_mostIn_68 rfl rfl ?_
  exact K
theorem p_X11_mostIn_44_3 {X : xm_X} {P : List xm_M} {d : Nat} {h : xm_H} {l0 : Nat} {l1 : Int32} {l2 : Int64} {l4 : Int64} {l6 : Int32} {l7 : Int64} {l9 : Int32} {v0 : Nat} {n1 : Nat} {h2 : xm_H} {r2 : Int64} {ro : Option Value} {ho : xm_H} (q0 : X.1[l0]? = some (.inr 10)) (q1 : h.2.2 l0 35 = some v0) (q2 : X.1[v0]? = some (.inl (0, n1))) (q3 : ¬ (l1 < 0 ∨ n1 ≤ l1.toNatClampNeg)) (q4 : ¬ (h.1 v0 l1.toNatClampNeg ≤ l9)) (q5 : xm_V X P d 254 [.ref l0, .int l1, .int l9] h (some (.long r2)) h2) (q6 : ¬ (lg_cmp r2 l7 = (0 : Int32))) (K : xm_E X P d co_X11_mostIn 44 [some (.ref l0), some (.int l1), some (.long l2), none, some (.long l4), none, some (.int l6), some (.long l7), none, some (.int (l9 + (1 : Int32)))] [] h2 ro ho) : xm_E X P d co_X11_mostIn 44 [some (.ref l0), some (.int l1), some (.long l2), none, some (.long l4), none, some (.int l6), some (.long l7), none, some (.int l9)] [] h ro ho := by
  refine xm_E_s r_X11_mostIn_44 rfl rfl ?_
  refine xm_E_s r_X11_mostIn_45 rfl rfl ?_
  refine xm_E_s r_X11_mostIn_46 rfl (xm_T_gr rfl q0 rfl rfl q1) ?_
  refine xm_E_s r_X11_mostIn_47 rfl rfl ?_
  refine xm_E_s r_X11_mostIn_48 rfl (xm_T_iald rfl q2 (by decide) q3) ?_
  refine xm_E_s r_X11_mostIn_49 rfl rfl ?_
  refine xm_E_f q4 ?_
  refine xm_E_s r_X11_mostIn_50 rfl rfl ?_
  refine xm_E_s r_X11_mostIn_51 rfl rfl ?_
  refine xm_E_s r_X11_mostIn_52 rfl rfl ?_
  refine xm_E_cv [.ref l0, .int l1, .int l9] [] r_X11_mostIn_53 rfl rfl (Nat.le_of_ble_eq_true rfl) (xm_rc q0 (by decide)) rfl q5 ?_
  refine xm_E_s r_X11_mostIn_54 rfl rfl ?_
  refine xm_E_s r_X11_mostIn_55 rfl rfl ?_
  refine xm_E_s r_X11_mostIn_56 rfl rfl ?_
  refine xm_E_f q6 ?_
  refine xm_E_s (ls1 := [some (.ref l0), some (.int l1), some (.long l2), none, some (.long l4), none, some (.int l6), some (.long l7), none, some (.int (l9 + (1 : Int32)))]) r_X11_mostIn_67 rfl rfl ?_
  refine xm_E_s r_X11_mostIn_68 rfl rfl ?_
  exact K
theorem r_X11_thin_0 : co_X11_thin[0]? = some ((0, .aload_n 0, 0, 0, 0, 0, 0, 0, []) : xm_I) := rfl
theorem r_X11_thin_1 : co_X11_thin[1]? = some ((1, .invokevirtual 324, 1643, 216, 1, 10, 0, 0, []) : xm_I) := rfl
theorem r_X11_thin_2 : co_X11_thin[2]? = some ((4, .ifCond .ne 6, 0, 0, 5, 0, 0, 0, []) : xm_I) := rfl
theorem r_X11_thin_3 : co_X11_thin[3]? = some ((7, .bipush (-2), 0, 0, 0, 0, (-2), 0, []) : xm_I) := rfl
theorem r_X11_thin_4 : co_X11_thin[4]? = some ((9, .ireturn, 0, 0, 0, 0, 0, 0, []) : xm_I) := rfl
theorem r_X11_thin_5 : co_X11_thin[5]? = some ((10, .aload_n 0, 0, 0, 0, 0, 0, 0, []) : xm_I) := rfl
theorem r_X11_thin_6 : co_X11_thin[6]? = some ((11, .getfield 9, 1381, 10, 1, 2, 0, 0, []) : xm_I) := rfl
theorem r_X11_thin_7 : co_X11_thin[7]? = some ((14, .bipush 18, 0, 0, 0, 0, 18, 0, []) : xm_I) := rfl
theorem r_X11_thin_8 : co_X11_thin[8]? = some ((16, .iaload, 0, 0, 0, 0, 0, 0, []) : xm_I) := rfl
theorem r_X11_thin_9 : co_X11_thin[9]? = some ((17, .ifCond .ne 5, 0, 0, 12, 0, 0, 0, []) : xm_I) := rfl
theorem r_X11_thin_10 : co_X11_thin[10]? = some ((20, .iconst (-1), 0, 0, 0, 0, (-1), 0, []) : xm_I) := rfl
theorem r_X11_thin_11 : co_X11_thin[11]? = some ((21, .ireturn, 0, 0, 0, 0, 0, 0, []) : xm_I) := rfl
theorem r_X11_thin_12 : co_X11_thin[12]? = some ((22, .aload_n 0, 0, 0, 0, 0, 0, 0, []) : xm_I) := rfl
theorem r_X11_thin_13 : co_X11_thin[13]? = some ((23, .invokevirtual 477, 1995, 305, 1, 10, 0, 0, []) : xm_I) := rfl
theorem r_X11_thin_14 : co_X11_thin[14]? = some ((26, .istore_n 1, 0, 0, 0, 0, 0, 0, []) : xm_I) := rfl
theorem r_X11_thin_15 : co_X11_thin[15]? = some ((27, .aload_n 0, 0, 0, 0, 0, 0, 0, []) : xm_I) := rfl
theorem r_X11_thin_16 : co_X11_thin[16]? = some ((28, .getfield 9, 1381, 10, 1, 2, 0, 0, []) : xm_I) := rfl
theorem r_X11_thin_17 : co_X11_thin[17]? = some ((31, .bipush 18, 0, 0, 0, 0, 18, 0, []) : xm_I) := rfl
theorem r_X11_thin_18 : co_X11_thin[18]? = some ((33, .iaload, 0, 0, 0, 0, 0, 0, []) : xm_I) := rfl
theorem r_X11_thin_19 : co_X11_thin[19]? = some ((34, .aload_n 0, 0, 0, 0, 0, 0, 0, []) : xm_I) := rfl
theorem r_X11_thin_20 : co_X11_thin[20]? = some ((35, .getfield 9, 1381, 10, 1, 2, 0, 0, []) : xm_I) := rfl
theorem r_X11_thin_21 : co_X11_thin[21]? = some ((38, .bipush 18, 0, 0, 0, 0, 18, 0, []) : xm_I) := rfl
theorem r_X11_thin_22 : co_X11_thin[22]? = some ((40, .iaload, 0, 0, 0, 0, 0, 0, []) : xm_I) := rfl
theorem r_X11_thin_23 : co_X11_thin[23]? = some ((41, .iload_n 1, 0, 0, 0, 0, 0, 0, []) : xm_I) := rfl
theorem r_X11_thin_24 : co_X11_thin[24]? = some ((42, .idiv, 0, 0, 0, 0, 0, 0, []) : xm_I) := rfl
theorem r_X11_thin_25 : co_X11_thin[25]? = some ((43, .iconst 1, 0, 0, 0, 0, 1, 0, []) : xm_I) := rfl
theorem r_X11_thin_26 : co_X11_thin[26]? = some ((44, .iadd, 0, 0, 0, 0, 0, 0, []) : xm_I) := rfl
theorem r_X11_thin_27 : co_X11_thin[27]? = some ((45, .idiv, 0, 0, 0, 0, 0, 0, []) : xm_I) := rfl
theorem r_X11_thin_28 : co_X11_thin[28]? = some ((46, .istore_n 2, 0, 0, 0, 0, 0, 0, []) : xm_I) := rfl
theorem r_X11_thin_29 : co_X11_thin[29]? = some ((47, .iload_n 2, 0, 0, 0, 0, 0, 0, []) : xm_I) := rfl
theorem r_X11_thin_30 : co_X11_thin[30]? = some ((48, .ifCond .ne 7, 0, 0, 33, 0, 0, 0, []) : xm_I) := rfl
theorem r_X11_thin_31 : co_X11_thin[31]? = some ((51, .iconst (-1), 0, 0, 0, 0, (-1), 0, []) : xm_I) := rfl
theorem r_X11_thin_32 : co_X11_thin[32]? = some ((52, .goto 6, 0, 0, 36, 0, 0, 0, []) : xm_I) := rfl
theorem r_X11_thin_33 : co_X11_thin[33]? = some ((55, .iload_n 1, 0, 0, 0, 0, 0, 0, []) : xm_I) := rfl
theorem r_X11_thin_34 : co_X11_thin[34]? = some ((56, .iload_n 2, 0, 0, 0, 0, 0, 0, []) : xm_I) := rfl
theorem r_X11_thin_35 : co_X11_thin[35]? = some ((57, .isub, 0, 0, 0, 0, 0, 0, []) : xm_I) := rfl
theorem r_X11_thin_36 : co_X11_thin[36]? = some ((58, .ireturn, 0, 0, 0, 0, 0, 0, []) : xm_I) := rfl
theorem p_X11_thin_0_0 {X : xm_X} {P : List xm_M} {d : Nat} {h : xm_H} {l0 : Nat} {h0 : xm_H} {r0 : Int32} (q0 : xm_V X P d 216 [.ref l0] h (some (.int r0)) h0) (q1 : X.1[l0]? = some (.inr 10)) (q2 : r0 = (0 : Int32)) : xm_E X P d co_X11_thin 0 [some (.ref l0), none, none] [] h (some (.int (-2 : Int32))) h0 := by
  refine xm_E_s r_X11_thin_0 rfl rfl ?_
  refine xm_E_cv [.ref l0] [] r_X11_thin_1 rfl rfl (Nat.le_of_ble_eq_true rfl) (xm_rc q1 (by decide)) rfl q0 ?_
  refine xm_E_s r_X11_thin_2 rfl rfl ?_
  refine xm_E_t q2 ?_
  refine xm_E_s r_X11_thin_3 rfl rfl ?_
  exact xm_E_iret r_X11_thin_4 rfl rfl
theorem p_X11_thin_0_1 {X : xm_X} {P : List xm_M} {d : Nat} {h : xm_H} {l0 : Nat} {h0 : xm_H} {r0 : Int32} {v1 : Nat} {n2 : Nat} (q0 : xm_V X P d 216 [.ref l0] h (some (.int r0)) h0) (q1 : X.1[l0]? = some (.inr 10)) (q2 : ¬ (r0 = (0 : Int32))) (q3 : h0.2.2 l0 1 = some v1) (q4 : X.1[v1]? = some (.inl (0, n2))) (q5 : 18 < n2) (q6 : h0.1 v1 18 = (0 : Int32)) : xm_E X P d co_X11_thin 0 [some (.ref l0), none, none] [] h (some (.int (-1 : Int32))) h0 := by
  refine xm_E_s r_X11_thin_0 rfl rfl ?_
  refine xm_E_cv [.ref l0] [] r_X11_thin_1 rfl rfl (Nat.le_of_ble_eq_true rfl) (xm_rc q1 (by decide)) rfl q0 ?_
  refine xm_E_s r_X11_thin_2 rfl rfl ?_
  refine xm_E_f q2 ?_
  refine xm_E_s r_X11_thin_5 rfl rfl ?_
  refine xm_E_s r_X11_thin_6 rfl (xm_T_gr rfl q1 rfl rfl q3) ?_
  refine xm_E_s r_X11_thin_7 rfl rfl ?_
  refine xm_E_s r_X11_thin_8 rfl (xm_T_iald rfl q4 (by decide) (fun e => e.elim (fun e => absurd e (by decide)) (fun e => Nat.not_le.mpr q5 e))) ?_
  refine xm_E_s r_X11_thin_9 rfl rfl ?_
  refine xm_E_t q6 ?_
  refine xm_E_s r_X11_thin_10 rfl rfl ?_
  exact xm_E_iret r_X11_thin_11 rfl rfl
theorem p_X11_thin_0_2 {X : xm_X} {P : List xm_M} {d : Nat} {h : xm_H} {l0 : Nat} {h0 : xm_H} {r0 : Int32} {v1 : Nat} {n2 : Nat} {h3 : xm_H} {r3 : Int32} {v4 : Nat} {n5 : Nat} (q0 : xm_V X P d 216 [.ref l0] h (some (.int r0)) h0) (q1 : X.1[l0]? = some (.inr 10)) (q2 : ¬ (r0 = (0 : Int32))) (q3 : h0.2.2 l0 1 = some v1) (q4 : X.1[v1]? = some (.inl (0, n2))) (q5 : 18 < n2) (q6 : ¬ (h0.1 v1 18 = (0 : Int32))) (q7 : xm_V X P d 305 [.ref l0] h0 (some (.int r3)) h3) (q8 : h3.2.2 l0 1 = some v4) (q9 : X.1[v4]? = some (.inl (0, n5))) (q10 : 18 < n5) (q11 : ¬ r3 = 0) (q12 : ¬ (((h3.1 v4 18) / r3) + (1 : Int32)) = 0) (q13 : (h3.1 v4 18) / (((h3.1 v4 18) / r3) + (1 : Int32)) = (0 : Int32)) : xm_E X P d co_X11_thin 0 [some (.ref l0), none, none] [] h (some (.int (-1 : Int32))) h3 := by
  refine xm_E_s r_X11_thin_0 rfl rfl ?_
  refine xm_E_cv [.ref l0] [] r_X11_thin_1 rfl rfl (Nat.le_of_ble_eq_true rfl) (xm_rc q1 (by decide)) rfl q0 ?_
  refine xm_E_s r_X11_thin_2 rfl rfl ?_
  refine xm_E_f q2 ?_
  refine xm_E_s r_X11_thin_5 rfl rfl ?_
  refine xm_E_s r_X11_thin_6 rfl (xm_T_gr rfl q1 rfl rfl q3) ?_
  refine xm_E_s r_X11_thin_7 rfl rfl ?_
  refine xm_E_s r_X11_thin_8 rfl (xm_T_iald rfl q4 (by decide) (fun e => e.elim (fun e => absurd e (by decide)) (fun e => Nat.not_le.mpr q5 e))) ?_
  refine xm_E_s r_X11_thin_9 rfl rfl ?_
  refine xm_E_f q6 ?_
  refine xm_E_s r_X11_thin_12 rfl rfl ?_
  refine xm_E_cv [.ref l0] [] r_X11_thin_13 rfl rfl (Nat.le_of_ble_eq_true rfl) (xm_rc q1 (by decide)) rfl q7 ?_
  refine xm_E_s (ls1 := [some (.ref l0), some (.int r3), none]) r_X11_thin_14 rfl rfl ?_
  refine xm_E_s r_X11_thin_15 rfl rfl ?_
  refine xm_E_s r_X11_thin_16 rfl (xm_T_gr rfl q1 rfl rfl q8) ?_
  refine xm_E_s r_X11_thin_17 rfl rfl ?_
  refine xm_E_s r_X11_thin_18 rfl (xm_T_iald rfl q9 (by decide) (fun e => e.elim (fun e => absurd e (by decide)) (fun e => Nat.not_le.mpr q10 e))) ?_
  refine xm_E_s r_X11_thin_19 rfl rfl ?_
  refine xm_E_s r_X11_thin_20 rfl (xm_T_gr rfl q1 rfl rfl q8) ?_
  refine xm_E_s r_X11_thin_21 rfl rfl ?_
  refine xm_E_s r_X11_thin_22 rfl (xm_T_iald rfl q9 (by decide) (fun e => e.elim (fun e => absurd e (by decide)) (fun e => Nat.not_le.mpr q10 e))) ?_
  refine xm_E_s r_X11_thin_23 rfl rfl ?_
  refine xm_E_s r_X11_thin_24 rfl (xm_T_idiv rfl q11) ?_
  refine xm_E_s r_X11_thin_25 rfl rfl ?_
  refine xm_E_s r_X11_thin_26 rfl rfl ?_
  refine xm_E_s r_X11_thin_27 rfl (xm_T_idiv rfl q12) ?_
  refine xm_E_s (ls1 := [some (.ref l0), some (.int r3), some (.int ((h3.1 v4 18) / (((h3.1 v4 18) / r3) + (1 : Int32))))]) r_X11_thin_28 rfl rfl ?_
  refine xm_E_s r_X11_thin_29 rfl rfl ?_
  refine xm_E_s r_X11_thin_30 rfl rfl ?_
  refine xm_E_t q13 ?_
  refine xm_E_s r_X11_thin_31 rfl rfl ?_
  refine xm_E_s r_X11_thin_32 rfl rfl ?_
  exact xm_E_iret r_X11_thin_36 rfl rfl
theorem p_X11_thin_0_3 {X : xm_X} {P : List xm_M} {d : Nat} {h : xm_H} {l0 : Nat} {h0 : xm_H} {r0 : Int32} {v1 : Nat} {n2 : Nat} {h3 : xm_H} {r3 : Int32} {v4 : Nat} {n5 : Nat} (q0 : xm_V X P d 216 [.ref l0] h (some (.int r0)) h0) (q1 : X.1[l0]? = some (.inr 10)) (q2 : ¬ (r0 = (0 : Int32))) (q3 : h0.2.2 l0 1 = some v1) (q4 : X.1[v1]? = some (.inl (0, n2))) (q5 : 18 < n2) (q6 : ¬ (h0.1 v1 18 = (0 : Int32))) (q7 : xm_V X P d 305 [.ref l0] h0 (some (.int r3)) h3) (q8 : h3.2.2 l0 1 = some v4) (q9 : X.1[v4]? = some (.inl (0, n5))) (q10 : 18 < n5) (q11 : ¬ r3 = 0) (q12 : ¬ (((h3.1 v4 18) / r3) + (1 : Int32)) = 0) (q13 : ¬ ((h3.1 v4 18) / (((h3.1 v4 18) / r3) + (1 : Int32)) = (0 : Int32))) : xm_E X P d co_X11_thin 0 [some (.ref l0), none, none] [] h (some (.int (r3 - ((h3.1 v4 18) / (((h3.1 v4 18) / r3) + (1 : Int32)))))) h3 := by
  refine xm_E_s r_X11_thin_0 rfl rfl ?_
  refine xm_E_cv [.ref l0] [] r_X11_thin_1 rfl rfl (Nat.le_of_ble_eq_true rfl) (xm_rc q1 (by decide)) rfl q0 ?_
  refine xm_E_s r_X11_thin_2 rfl rfl ?_
  refine xm_E_f q2 ?_
  refine xm_E_s r_X11_thin_5 rfl rfl ?_
  refine xm_E_s r_X11_thin_6 rfl (xm_T_gr rfl q1 rfl rfl q3) ?_
  refine xm_E_s r_X11_thin_7 rfl rfl ?_
  refine xm_E_s r_X11_thin_8 rfl (xm_T_iald rfl q4 (by decide) (fun e => e.elim (fun e => absurd e (by decide)) (fun e => Nat.not_le.mpr q5 e))) ?_
  refine xm_E_s r_X11_thin_9 rfl rfl ?_
  refine xm_E_f q6 ?_
  refine xm_E_s r_X11_thin_12 rfl rfl ?_
  refine xm_E_cv [.ref l0] [] r_X11_thin_13 rfl rfl (Nat.le_of_ble_eq_true rfl) (xm_rc q1 (by decide)) rfl q7 ?_
  refine xm_E_s (ls1 := [some (.ref l0), some (.int r3), none]) r_X11_thin_14 rfl rfl ?_
  refine xm_E_s r_X11_thin_15 rfl rfl ?_
  refine xm_E_s r_X11_thin_16 rfl (xm_T_gr rfl q1 rfl rfl q8) ?_
  refine xm_E_s r_X11_thin_17 rfl rfl ?_
  refine xm_E_s r_X11_thin_18 rfl (xm_T_iald rfl q9 (by decide) (fun e => e.elim (fun e => absurd e (by decide)) (fun e => Nat.not_le.mpr q10 e))) ?_
  refine xm_E_s r_X11_thin_19 rfl rfl ?_
  refine xm_E_s r_X11_thin_20 rfl (xm_T_gr rfl q1 rfl rfl q8) ?_
  refine xm_E_s r_X11_thin_21 rfl rfl ?_
  refine xm_E_s r_X11_thin_22 rfl (xm_T_iald rfl q9 (by decide) (fun e => e.elim (fun e => absurd e (by decide)) (fun e => Nat.not_le.mpr q10 e))) ?_
  refine xm_E_s r_X11_thin_23 rfl rfl ?_
  refine xm_E_s r_X11_thin_24 rfl (xm_T_idiv rfl q11) ?_
  refine xm_E_s r_X11_thin_25 rfl rfl ?_
  refine xm_E_s r_X11_thin_26 rfl rfl ?_
  refine xm_E_s r_X11_thin_27 rfl (xm_T_idiv rfl q12) ?_
  refine xm_E_s (ls1 := [some (.ref l0), some (.int r3), some (.int ((h3.1 v4 18) / (((h3.1 v4 18) / r3) + (1 : Int32))))]) r_X11_thin_28 rfl rfl ?_
  refine xm_E_s r_X11_thin_29 rfl rfl ?_
  refine xm_E_s r_X11_thin_30 rfl rfl ?_
  refine xm_E_f q13 ?_
  refine xm_E_s r_X11_thin_33 rfl rfl ?_
  refine xm_E_s r_X11_thin_34 rfl rfl ?_
  refine xm_E_s r_X11_thin_35 rfl rfl ?_
  exact xm_E_iret r_X11_thin_36 rfl rfl
theorem r_X11_learn_0 : co_X11_learn[0]? = some ((0, .aload_n 0, 0, 0, 0, 0, 0, 0, []) : xm_I) := rfl
theorem r_X11_learn_1 : co_X11_learn[1]? = some ((1, .iload_n 1, 0, 0, 0, 0, 0, 0, []) : xm_I) := rfl
theorem r_X11_learn_2 : co_X11_learn[2]? = some ((2, .invokevirtual 495, 2023, 311, 2, 10, 0, 0, []) : xm_I) := rfl
theorem r_X11_learn_3 : co_X11_learn[3]? = some ((5, .ifCond .eq 24, 0, 0, 15, 0, 0, 0, []) : xm_I) := rfl
theorem r_X11_learn_4 : co_X11_learn[4]? = some ((8, .iload_n 2, 0, 0, 0, 0, 0, 0, []) : xm_I) := rfl
theorem r_X11_learn_5 : co_X11_learn[5]? = some ((9, .i2l, 0, 0, 0, 0, 0, 0, []) : xm_I) := rfl
theorem r_X11_learn_6 : co_X11_learn[6]? = some ((10, .lconst 0, 0, 0, 0, 0, 0, 0, []) : xm_I) := rfl
theorem r_X11_learn_7 : co_X11_learn[7]? = some ((11, .ldc2_w 498, 2027, 0, 0, 0, 0, 999, []) : xm_I) := rfl
theorem r_X11_learn_8 : co_X11_learn[8]? = some ((14, .invokestatic 84, 1503, 191, 3, 0, 0, 0, []) : xm_I) := rfl
theorem r_X11_learn_9 : co_X11_learn[9]? = some ((17, .ifCond .eq 12, 0, 0, 15, 0, 0, 0, []) : xm_I) := rfl
theorem r_X11_learn_10 : co_X11_learn[10]? = some ((20, .aload_n 0, 0, 0, 0, 0, 0, 0, []) : xm_I) := rfl
theorem r_X11_learn_11 : co_X11_learn[11]? = some ((21, .iload_n 1, 0, 0, 0, 0, 0, 0, []) : xm_I) := rfl
theorem r_X11_learn_12 : co_X11_learn[12]? = some ((22, .iload_n 2, 0, 0, 0, 0, 0, 0, []) : xm_I) := rfl
theorem r_X11_learn_13 : co_X11_learn[13]? = some ((23, .invokevirtual 500, 2028, 312, 3, 10, 0, 0, []) : xm_I) := rfl
theorem r_X11_learn_14 : co_X11_learn[14]? = some ((26, .goto 5, 0, 0, 16, 0, 0, 0, []) : xm_I) := rfl
theorem r_X11_learn_15 : co_X11_learn[15]? = some ((29, .bipush (-2), 0, 0, 0, 0, (-2), 0, []) : xm_I) := rfl
theorem r_X11_learn_16 : co_X11_learn[16]? = some ((31, .ireturn, 0, 0, 0, 0, 0, 0, []) : xm_I) := rfl
theorem p_X11_learn_0_0 {X : xm_X} {P : List xm_M} {d : Nat} {h : xm_H} {l0 : Nat} {l1 : Int32} {l2 : Int32} {h0 : xm_H} {r0 : Int32} (q0 : xm_V X P d 311 [.ref l0, .int l1] h (some (.int r0)) h0) (q1 : X.1[l0]? = some (.inr 10)) (q2 : r0 = (0 : Int32)) : xm_E X P d co_X11_learn 0 [some (.ref l0), some (.int l1), some (.int l2)] [] h (some (.int (-2 : Int32))) h0 := by
  refine xm_E_s r_X11_learn_0 rfl rfl ?_
  refine xm_E_s r_X11_learn_1 rfl rfl ?_
  refine xm_E_cv [.ref l0, .int l1] [] r_X11_learn_2 rfl rfl (Nat.le_of_ble_eq_true rfl) (xm_rc q1 (by decide)) rfl q0 ?_
  refine xm_E_s r_X11_learn_3 rfl rfl ?_
  refine xm_E_t q2 ?_
  refine xm_E_s r_X11_learn_15 rfl rfl ?_
  exact xm_E_iret r_X11_learn_16 rfl rfl
theorem p_X11_learn_0_1 {X : xm_X} {P : List xm_M} {d : Nat} {h : xm_H} {l0 : Nat} {l1 : Int32} {l2 : Int32} {h0 : xm_H} {r0 : Int32} {h1 : xm_H} {r1 : Int32} (q0 : xm_V X P d 311 [.ref l0, .int l1] h (some (.int r0)) h0) (q1 : X.1[l0]? = some (.inr 10)) (q2 : ¬ (r0 = (0 : Int32))) (q3 : xm_V X P d 191 [.long l2.toInt64, .long (0 : Int64), .long (999 : Int64)] h0 (some (.int r1)) h1) (q4 : r1 = (0 : Int32)) : xm_E X P d co_X11_learn 0 [some (.ref l0), some (.int l1), some (.int l2)] [] h (some (.int (-2 : Int32))) h1 := by
  refine xm_E_s r_X11_learn_0 rfl rfl ?_
  refine xm_E_s r_X11_learn_1 rfl rfl ?_
  refine xm_E_cv [.ref l0, .int l1] [] r_X11_learn_2 rfl rfl (Nat.le_of_ble_eq_true rfl) (xm_rc q1 (by decide)) rfl q0 ?_
  refine xm_E_s r_X11_learn_3 rfl rfl ?_
  refine xm_E_f q2 ?_
  refine xm_E_s r_X11_learn_4 rfl rfl ?_
  refine xm_E_s r_X11_learn_5 rfl rfl ?_
  refine xm_E_s r_X11_learn_6 rfl rfl ?_
  refine xm_E_s r_X11_learn_7 rfl rfl ?_
  refine xm_E_cs [.long l2.toInt64, .long (0 : Int64), .long (999 : Int64)] [] r_X11_learn_8 rfl rfl rfl (Nat.le_of_ble_eq_true rfl) rfl q3 ?_
  refine xm_E_s r_X11_learn_9 rfl rfl ?_
  refine xm_E_t q4 ?_
  refine xm_E_s r_X11_learn_15 rfl rfl ?_
  exact xm_E_iret r_X11_learn_16 rfl rfl
theorem p_X11_learn_0_2 {X : xm_X} {P : List xm_M} {d : Nat} {h : xm_H} {l0 : Nat} {l1 : Int32} {l2 : Int32} {h0 : xm_H} {r0 : Int32} {h1 : xm_H} {r1 : Int32} {h2 : xm_H} {r2 : Int32} (q0 : xm_V X P d 311 [.ref l0, .int l1] h (some (.int r0)) h0) (q1 : X.1[l0]? = some (.inr 10)) (q2 : ¬ (r0 = (0 : Int32))) (q3 : xm_V X P d 191 [.long l2.toInt64, .long (0 : Int64), .long (999 : Int64)] h0 (some (.int r1)) h1) (q4 : ¬ (r1 = (0 : Int32))) (q5 : xm_V X P d 312 [.ref l0, .int l1, .int l2] h1 (some (.int r2)) h2) : xm_E X P d co_X11_learn 0 [some (.ref l0), some (.int l1), some (.int l2)] [] h (some (.int r2)) h2 := by
  refine xm_E_s r_X11_learn_0 rfl rfl ?_
  refine xm_E_s r_X11_learn_1 rfl rfl ?_
  refine xm_E_cv [.ref l0, .int l1] [] r_X11_learn_2 rfl rfl (Nat.le_of_ble_eq_true rfl) (xm_rc q1 (by decide)) rfl q0 ?_
  refine xm_E_s r_X11_learn_3 rfl rfl ?_
  refine xm_E_f q2 ?_
  refine xm_E_s r_X11_learn_4 rfl rfl ?_
  refine xm_E_s r_X11_learn_5 rfl rfl ?_
  refine xm_E_s r_X11_learn_6 rfl rfl ?_
  refine xm_E_s r_X11_learn_7 rfl rfl ?_
  refine xm_E_cs [.long l2.toInt64, .long (0 : Int64), .long (999 : Int64)] [] r_X11_learn_8 rfl rfl rfl (Nat.le_of_ble_eq_true rfl) rfl q3 ?_
  refine xm_E_s r_X11_learn_9 rfl rfl ?_
  refine xm_E_f q4 ?_
  refine xm_E_s r_X11_learn_10 rfl rfl ?_
  refine xm_E_s r_X11_learn_11 rfl rfl ?_
  refine xm_E_s r_X11_learn_12 rfl rfl ?_
  refine xm_E_cv [.ref l0, .int l1, .int l2] [] r_X11_learn_13 rfl rfl (Nat.le_of_ble_eq_true rfl) (xm_rc q1 (by decide)) rfl q5 ?_
  refine xm_E_s r_X11_learn_14 rfl rfl ?_
  exact xm_E_iret r_X11_learn_16 rfl rfl
theorem r_X11_isPair_0 : co_X11_isPair[0]? = some ((0, .iload_n 1, 0, 0, 0, 0, 0, 0, []) : xm_I) := rfl
theorem r_X11_isPair_1 : co_X11_isPair[1]? = some ((1, .i2l, 0, 0, 0, 0, 0, 0, []) : xm_I) := rfl
theorem r_X11_isPair_2 : co_X11_isPair[2]? = some ((2, .lconst 0, 0, 0, 0, 0, 0, 0, []) : xm_I) := rfl
theorem r_X11_isPair_3 : co_X11_isPair[3]? = some ((3, .aload_n 0, 0, 0, 0, 0, 0, 0, []) : xm_I) := rfl
theorem r_X11_isPair_4 : co_X11_isPair[4]? = some ((4, .getfield 9, 1381, 10, 1, 2, 0, 0, []) : xm_I) := rfl
theorem r_X11_isPair_5 : co_X11_isPair[5]? = some ((7, .bipush 20, 0, 0, 0, 0, 20, 0, []) : xm_I) := rfl
theorem r_X11_isPair_6 : co_X11_isPair[6]? = some ((9, .iaload, 0, 0, 0, 0, 0, 0, []) : xm_I) := rfl
theorem r_X11_isPair_7 : co_X11_isPair[7]? = some ((10, .iconst 1, 0, 0, 0, 0, 1, 0, []) : xm_I) := rfl
theorem r_X11_isPair_8 : co_X11_isPair[8]? = some ((11, .isub, 0, 0, 0, 0, 0, 0, []) : xm_I) := rfl
theorem r_X11_isPair_9 : co_X11_isPair[9]? = some ((12, .i2l, 0, 0, 0, 0, 0, 0, []) : xm_I) := rfl
theorem r_X11_isPair_10 : co_X11_isPair[10]? = some ((13, .invokestatic 84, 1503, 191, 3, 0, 0, 0, []) : xm_I) := rfl
theorem r_X11_isPair_11 : co_X11_isPair[11]? = some ((16, .ireturn, 0, 0, 0, 3, 0, 0, []) : xm_I) := rfl
theorem p_X11_isPair_0_0 {X : xm_X} {P : List xm_M} {d : Nat} {h : xm_H} {l0 : Nat} {l1 : Int32} {v0 : Nat} {n1 : Nat} {h2 : xm_H} {r2 : Int32} (q0 : X.1[l0]? = some (.inr 10)) (q1 : h.2.2 l0 1 = some v0) (q2 : X.1[v0]? = some (.inl (0, n1))) (q3 : 20 < n1) (q4 : xm_V X P d 191 [.long l1.toInt64, .long (0 : Int64), .long (((h.1 v0 20) - (1 : Int32)).toInt64)] h (some (.int r2)) h2) (q5 : xm_okr 3 r2 = true) : xm_E X P d co_X11_isPair 0 [some (.ref l0), some (.int l1)] [] h (some (.int r2)) h2 := by
  refine xm_E_s r_X11_isPair_0 rfl rfl ?_
  refine xm_E_s r_X11_isPair_1 rfl rfl ?_
  refine xm_E_s r_X11_isPair_2 rfl rfl ?_
  refine xm_E_s r_X11_isPair_3 rfl rfl ?_
  refine xm_E_s r_X11_isPair_4 rfl (xm_T_gr rfl q0 rfl rfl q1) ?_
  refine xm_E_s r_X11_isPair_5 rfl rfl ?_
  refine xm_E_s r_X11_isPair_6 rfl (xm_T_iald rfl q2 (by decide) (fun e => e.elim (fun e => absurd e (by decide)) (fun e => Nat.not_le.mpr q3 e))) ?_
  refine xm_E_s r_X11_isPair_7 rfl rfl ?_
  refine xm_E_s r_X11_isPair_8 rfl rfl ?_
  refine xm_E_s r_X11_isPair_9 rfl rfl ?_
  refine xm_E_cs [.long l1.toInt64, .long (0 : Int64), .long (((h.1 v0 20) - (1 : Int32)).toInt64)] [] r_X11_isPair_10 rfl rfl rfl (Nat.le_of_ble_eq_true rfl) rfl q4 ?_
  exact xm_E_iret r_X11_isPair_11 rfl q5
theorem r_X11_learnOf_0 : co_X11_learnOf[0]? = some ((0, .aload_n 0, 0, 0, 0, 0, 0, 0, []) : xm_I) := rfl
theorem r_X11_learnOf_1 : co_X11_learnOf[1]? = some ((1, .aload_n 0, 0, 0, 0, 0, 0, 0, []) : xm_I) := rfl
theorem r_X11_learnOf_2 : co_X11_learnOf[2]? = some ((2, .getfield 9, 1381, 10, 1, 2, 0, 0, []) : xm_I) := rfl
theorem r_X11_learnOf_3 : co_X11_learnOf[3]? = some ((5, .bipush 36, 0, 0, 0, 0, 36, 0, []) : xm_I) := rfl
theorem r_X11_learnOf_4 : co_X11_learnOf[4]? = some ((7, .iconst 2, 0, 0, 0, 0, 2, 0, []) : xm_I) := rfl
theorem r_X11_learnOf_5 : co_X11_learnOf[5]? = some ((8, .iload_n 1, 0, 0, 0, 0, 0, 0, []) : xm_I) := rfl
theorem r_X11_learnOf_6 : co_X11_learnOf[6]? = some ((9, .imul, 0, 0, 0, 0, 0, 0, []) : xm_I) := rfl
theorem r_X11_learnOf_7 : co_X11_learnOf[7]? = some ((10, .iadd, 0, 0, 0, 0, 0, 0, []) : xm_I) := rfl
theorem r_X11_learnOf_8 : co_X11_learnOf[8]? = some ((11, .iaload, 0, 0, 0, 0, 0, 0, []) : xm_I) := rfl
theorem r_X11_learnOf_9 : co_X11_learnOf[9]? = some ((12, .aload_n 0, 0, 0, 0, 0, 0, 0, []) : xm_I) := rfl
theorem r_X11_learnOf_10 : co_X11_learnOf[10]? = some ((13, .getfield 9, 1381, 10, 1, 2, 0, 0, []) : xm_I) := rfl
theorem r_X11_learnOf_11 : co_X11_learnOf[11]? = some ((16, .bipush 36, 0, 0, 0, 0, 36, 0, []) : xm_I) := rfl
theorem r_X11_learnOf_12 : co_X11_learnOf[12]? = some ((18, .iconst 2, 0, 0, 0, 0, 2, 0, []) : xm_I) := rfl
theorem r_X11_learnOf_13 : co_X11_learnOf[13]? = some ((19, .iload_n 1, 0, 0, 0, 0, 0, 0, []) : xm_I) := rfl
theorem r_X11_learnOf_14 : co_X11_learnOf[14]? = some ((20, .imul, 0, 0, 0, 0, 0, 0, []) : xm_I) := rfl
theorem r_X11_learnOf_15 : co_X11_learnOf[15]? = some ((21, .iadd, 0, 0, 0, 0, 0, 0, []) : xm_I) := rfl
theorem r_X11_learnOf_16 : co_X11_learnOf[16]? = some ((22, .iconst 1, 0, 0, 0, 0, 1, 0, []) : xm_I) := rfl
theorem r_X11_learnOf_17 : co_X11_learnOf[17]? = some ((23, .iadd, 0, 0, 0, 0, 0, 0, []) : xm_I) := rfl
theorem r_X11_learnOf_18 : co_X11_learnOf[18]? = some ((24, .iaload, 0, 0, 0, 0, 0, 0, []) : xm_I) := rfl
theorem r_X11_learnOf_19 : co_X11_learnOf[19]? = some ((25, .iload_n 2, 0, 0, 0, 0, 0, 0, []) : xm_I) := rfl
theorem r_X11_learnOf_20 : co_X11_learnOf[20]? = some ((26, .invokevirtual 492, 2032, 313, 4, 10, 0, 0, []) : xm_I) := rfl
theorem r_X11_learnOf_21 : co_X11_learnOf[21]? = some ((29, .ireturn, 0, 0, 0, 0, 0, 0, []) : xm_I) := rfl
theorem p_X11_learnOf_0_0 {X : xm_X} {P : List xm_M} {d : Nat} {h : xm_H} {l0 : Nat} {l1 : Int32} {l2 : Int32} {v0 : Nat} {n1 : Nat} {h2 : xm_H} {r2 : Int32} (q0 : X.1[l0]? = some (.inr 10)) (q1 : h.2.2 l0 1 = some v0) (q2 : X.1[v0]? = some (.inl (0, n1))) (q3 : ¬ ((36 : Int32) + ((2 : Int32) * l1) < 0 ∨ n1 ≤ ((36 : Int32) + ((2 : Int32) * l1)).toNatClampNeg)) (q4 : ¬ (((36 : Int32) + ((2 : Int32) * l1)) + (1 : Int32) < 0 ∨ n1 ≤ (((36 : Int32) + ((2 : Int32) * l1)) + (1 : Int32)).toNatClampNeg)) (q5 : xm_V X P d 313 [.ref l0, .int (h.1 v0 (((36 : Int32) + ((2 : Int32) * l1)).toNatClampNeg)), .int (h.1 v0 ((((36 : Int32) + ((2 : Int32) * l1)) + (1 : Int32)).toNatClampNeg)), .int l2] h (some (.int r2)) h2) : xm_E X P d co_X11_learnOf 0 [some (.ref l0), some (.int l1), some (.int l2)] [] h (some (.int r2)) h2 := by
  refine xm_E_s r_X11_learnOf_0 rfl rfl ?_
  refine xm_E_s r_X11_learnOf_1 rfl rfl ?_
  refine xm_E_s r_X11_learnOf_2 rfl (xm_T_gr rfl q0 rfl rfl q1) ?_
  refine xm_E_s r_X11_learnOf_3 rfl rfl ?_
  refine xm_E_s r_X11_learnOf_4 rfl rfl ?_
  refine xm_E_s r_X11_learnOf_5 rfl rfl ?_
  refine xm_E_s r_X11_learnOf_6 rfl rfl ?_
  refine xm_E_s r_X11_learnOf_7 rfl rfl ?_
  refine xm_E_s r_X11_learnOf_8 rfl (xm_T_iald rfl q2 (by decide) q3) ?_
  refine xm_E_s r_X11_learnOf_9 rfl rfl ?_
  refine xm_E_s r_X11_learnOf_10 rfl (xm_T_gr rfl q0 rfl rfl q1) ?_
  refine xm_E_s r_X11_learnOf_11 rfl rfl ?_
  refine xm_E_s r_X11_learnOf_12 rfl rfl ?_
  refine xm_E_s r_X11_learnOf_13 rfl rfl ?_
  refine xm_E_s r_X11_learnOf_14 rfl rfl ?_
  refine xm_E_s r_X11_learnOf_15 rfl rfl ?_
  refine xm_E_s r_X11_learnOf_16 rfl rfl ?_
  refine xm_E_s r_X11_learnOf_17 rfl rfl ?_
  refine xm_E_s r_X11_learnOf_18 rfl (xm_T_iald rfl q2 (by decide) q4) ?_
  refine xm_E_s r_X11_learnOf_19 rfl rfl ?_
  refine xm_E_cv [.ref l0, .int (h.1 v0 (((36 : Int32) + ((2 : Int32) * l1)).toNatClampNeg)), .int (h.1 v0 ((((36 : Int32) + ((2 : Int32) * l1)) + (1 : Int32)).toNatClampNeg)), .int l2] [] r_X11_learnOf_20 rfl rfl (Nat.le_of_ble_eq_true rfl) (xm_rc q0 (by decide)) rfl q5 ?_
  exact xm_E_iret r_X11_learnOf_21 rfl rfl
theorem r_X11_learnBy_0 : co_X11_learnBy[0]? = some ((0, .iconst 0, 0, 0, 0, 0, 0, 0, []) : xm_I) := rfl
theorem r_X11_learnBy_1 : co_X11_learnBy[1]? = some ((1, .istore 4, 0, 0, 0, 0, 0, 0, []) : xm_I) := rfl
theorem r_X11_learnBy_2 : co_X11_learnBy[2]? = some ((3, .iconst 0, 0, 0, 0, 0, 0, 0, []) : xm_I) := rfl
theorem r_X11_learnBy_3 : co_X11_learnBy[3]? = some ((4, .istore 5, 0, 0, 0, 0, 0, 0, []) : xm_I) := rfl
theorem r_X11_learnBy_4 : co_X11_learnBy[4]? = some ((6, .iload 5, 0, 0, 0, 0, 0, 0, []) : xm_I) := rfl
theorem r_X11_learnBy_5 : co_X11_learnBy[5]? = some ((8, .iload_n 3, 0, 0, 0, 0, 0, 0, []) : xm_I) := rfl
theorem r_X11_learnBy_6 : co_X11_learnBy[6]? = some ((9, .if_icmp .ge 22, 0, 0, 19, 0, 0, 0, []) : xm_I) := rfl
theorem r_X11_learnBy_7 : co_X11_learnBy[7]? = some ((12, .iload 4, 0, 0, 0, 0, 0, 0, []) : xm_I) := rfl
theorem r_X11_learnBy_8 : co_X11_learnBy[8]? = some ((14, .iload_n 1, 0, 0, 0, 0, 0, 0, []) : xm_I) := rfl
theorem r_X11_learnBy_9 : co_X11_learnBy[9]? = some ((15, .iload_n 2, 0, 0, 0, 0, 0, 0, []) : xm_I) := rfl
theorem r_X11_learnBy_10 : co_X11_learnBy[10]? = some ((16, .iload 5, 0, 0, 0, 0, 0, 0, []) : xm_I) := rfl
theorem r_X11_learnBy_11 : co_X11_learnBy[11]? = some ((18, .iconst 1, 0, 0, 0, 0, 1, 0, []) : xm_I) := rfl
theorem r_X11_learnBy_12 : co_X11_learnBy[12]? = some ((19, .iadd, 0, 0, 0, 0, 0, 0, []) : xm_I) := rfl
theorem r_X11_learnBy_13 : co_X11_learnBy[13]? = some ((20, .idiv, 0, 0, 0, 0, 0, 0, []) : xm_I) := rfl
theorem r_X11_learnBy_14 : co_X11_learnBy[14]? = some ((21, .iadd, 0, 0, 0, 0, 0, 0, []) : xm_I) := rfl
theorem r_X11_learnBy_15 : co_X11_learnBy[15]? = some ((22, .iadd, 0, 0, 0, 0, 0, 0, []) : xm_I) := rfl
theorem r_X11_learnBy_16 : co_X11_learnBy[16]? = some ((23, .istore 4, 0, 0, 0, 0, 0, 0, []) : xm_I) := rfl
theorem r_X11_learnBy_17 : co_X11_learnBy[17]? = some ((25, .iinc 5 1, 0, 0, 0, 0, 1, 0, []) : xm_I) := rfl
theorem r_X11_learnBy_18 : co_X11_learnBy[18]? = some ((28, .goto (-22), 0, 0, 4, 0, 0, 0, []) : xm_I) := rfl
theorem r_X11_learnBy_19 : co_X11_learnBy[19]? = some ((31, .iload 4, 0, 0, 0, 0, 0, 0, []) : xm_I) := rfl
theorem r_X11_learnBy_20 : co_X11_learnBy[20]? = some ((33, .ireturn, 0, 0, 0, 0, 0, 0, []) : xm_I) := rfl
theorem p_X11_learnBy_0_0 {X : xm_X} {P : List xm_M} {d : Nat} {h : xm_H} {l0 : Nat} {l1 : Int32} {l2 : Int32} {l3 : Int32} {ro : Option Value} {ho : xm_H}  (K : xm_E X P d co_X11_learnBy 4 [some (.ref l0), some (.int l1), some (.int l2), some (.int l3), some (.int (0 : Int32)), some (.int (0 : Int32))] [] h ro ho) : xm_E X P d co_X11_learnBy 0 [some (.ref l0), some (.int l1), some (.int l2), some (.int l3), none, none] [] h ro ho := by
  refine xm_E_s r_X11_learnBy_0 rfl rfl ?_
  refine xm_E_s (ls1 := [some (.ref l0), some (.int l1), some (.int l2), some (.int l3), some (.int (0 : Int32)), none]) r_X11_learnBy_1 rfl rfl ?_
  refine xm_E_s r_X11_learnBy_2 rfl rfl ?_
  refine xm_E_s (ls1 := [some (.ref l0), some (.int l1), some (.int l2), some (.int l3), some (.int (0 : Int32)), some (.int (0 : Int32))]) r_X11_learnBy_3 rfl rfl ?_
  exact K
theorem p_X11_learnBy_4_0 {X : xm_X} {P : List xm_M} {d : Nat} {h : xm_H} {l0 : Nat} {l1 : Int32} {l2 : Int32} {l3 : Int32} {l4 : Int32} {l5 : Int32} (q0 : l3 ≤ l5) : xm_E X P d co_X11_learnBy 4 [some (.ref l0), some (.int l1), some (.int l2), some (.int l3), some (.int l4), some (.int l5)] [] h (some (.int l4)) h := by
  refine xm_E_s r_X11_learnBy_4 rfl rfl ?_
  refine xm_E_s r_X11_learnBy_5 rfl rfl ?_
  refine xm_E_s r_X11_learnBy_6 rfl rfl ?_
  refine xm_E_t q0 ?_
  refine xm_E_s r_X11_learnBy_19 rfl rfl ?_
  exact xm_E_iret r_X11_learnBy_20 rfl rfl
theorem p_X11_learnBy_4_1 {X : xm_X} {P : List xm_M} {d : Nat} {h : xm_H} {l0 : Nat} {l1 : Int32} {l2 : Int32} {l3 : Int32} {l4 : Int32} {l5 : Int32} {ro : Option Value} {ho : xm_H} (q0 : ¬ (l3 ≤ l5)) (q1 : ¬ (l5 + (1 : Int32)) = 0) (K : xm_E X P d co_X11_learnBy 4 [some (.ref l0), some (.int l1), some (.int l2), some (.int l3), some (.int (l4 + (l1 + (l2 / (l5 + (1 : Int32)))))), some (.int (l5 + (1 : Int32)))] [] h ro ho) : xm_E X P d co_X11_learnBy 4 [some (.ref l0), some (.int l1), some (.int l2), some (.int l3), some (.int l4), some (.int l5)] [] h ro ho := by
  refine xm_E_s r_X11_learnBy_4 rfl rfl ?_
  refine xm_E_s r_X11_learnBy_5 rfl rfl ?_
  refine xm_E_s r_X11_learnBy_6 rfl rfl ?_
  refine xm_E_f q0 ?_
  refine xm_E_s r_X11_learnBy_7 rfl rfl ?_
  refine xm_E_s r_X11_learnBy_8 rfl rfl ?_
  refine xm_E_s r_X11_learnBy_9 rfl rfl ?_
  refine xm_E_s r_X11_learnBy_10 rfl rfl ?_
  refine xm_E_s r_X11_learnBy_11 rfl rfl ?_
  refine xm_E_s r_X11_learnBy_12 rfl rfl ?_
  refine xm_E_s r_X11_learnBy_13 rfl (xm_T_idiv rfl q1) ?_
  refine xm_E_s r_X11_learnBy_14 rfl rfl ?_
  refine xm_E_s r_X11_learnBy_15 rfl rfl ?_
  refine xm_E_s (ls1 := [some (.ref l0), some (.int l1), some (.int l2), some (.int l3), some (.int (l4 + (l1 + (l2 / (l5 + (1 : Int32)))))), some (.int l5)]) r_X11_learnBy_16 rfl rfl ?_
  refine xm_E_s (ls1 := [some (.ref l0), some (.int l1), some (.int l2), some (.int l3), some (.int (l4 + (l1 + (l2 / (l5 + (1 : Int32)))))), some (.int (l5 + (1 : Int32)))]) r_X11_learnBy_17 rfl rfl ?_
  refine xm_E_s r_X11_learnBy_18 rfl rfl ?_
  exact K
theorem r_X11_skilled_0 : co_X11_skilled[0]? = some ((0, .aload_n 0, 0, 0, 0, 0, 0, 0, []) : xm_I) := rfl
theorem r_X11_skilled_1 : co_X11_skilled[1]? = some ((1, .iload_n 1, 0, 0, 0, 0, 0, 0, []) : xm_I) := rfl
theorem r_X11_skilled_2 : co_X11_skilled[2]? = some ((2, .invokevirtual 495, 2023, 311, 2, 10, 0, 0, []) : xm_I) := rfl
theorem r_X11_skilled_3 : co_X11_skilled[3]? = some ((5, .ifCond .ne 6, 0, 0, 6, 0, 0, 0, []) : xm_I) := rfl
theorem r_X11_skilled_4 : co_X11_skilled[4]? = some ((8, .bipush (-2), 0, 0, 0, 0, (-2), 0, []) : xm_I) := rfl
theorem r_X11_skilled_5 : co_X11_skilled[5]? = some ((10, .ireturn, 0, 0, 0, 0, 0, 0, []) : xm_I) := rfl
theorem r_X11_skilled_6 : co_X11_skilled[6]? = some ((11, .iconst 0, 0, 0, 0, 0, 0, 0, []) : xm_I) := rfl
theorem r_X11_skilled_7 : co_X11_skilled[7]? = some ((12, .istore_n 3, 0, 0, 0, 0, 0, 0, []) : xm_I) := rfl
theorem r_X11_skilled_8 : co_X11_skilled[8]? = some ((13, .iload_n 3, 0, 0, 0, 0, 0, 0, []) : xm_I) := rfl
theorem r_X11_skilled_9 : co_X11_skilled[9]? = some ((14, .sipush 999, 0, 0, 0, 0, 999, 0, []) : xm_I) := rfl
theorem r_X11_skilled_10 : co_X11_skilled[10]? = some ((17, .if_icmp .ge 44, 0, 0, 40, 0, 0, 0, []) : xm_I) := rfl
theorem r_X11_skilled_11 : co_X11_skilled[11]? = some ((20, .aload_n 0, 0, 0, 0, 0, 0, 0, []) : xm_I) := rfl
theorem r_X11_skilled_12 : co_X11_skilled[12]? = some ((21, .getfield 9, 1381, 10, 1, 2, 0, 0, []) : xm_I) := rfl
theorem r_X11_skilled_13 : co_X11_skilled[13]? = some ((24, .bipush 36, 0, 0, 0, 0, 36, 0, []) : xm_I) := rfl
theorem r_X11_skilled_14 : co_X11_skilled[14]? = some ((26, .iconst 2, 0, 0, 0, 0, 2, 0, []) : xm_I) := rfl
theorem r_X11_skilled_15 : co_X11_skilled[15]? = some ((27, .iload_n 1, 0, 0, 0, 0, 0, 0, []) : xm_I) := rfl
theorem r_X11_skilled_16 : co_X11_skilled[16]? = some ((28, .imul, 0, 0, 0, 0, 0, 0, []) : xm_I) := rfl
theorem r_X11_skilled_17 : co_X11_skilled[17]? = some ((29, .iadd, 0, 0, 0, 0, 0, 0, []) : xm_I) := rfl
theorem r_X11_skilled_18 : co_X11_skilled[18]? = some ((30, .iaload, 0, 0, 0, 0, 0, 0, []) : xm_I) := rfl
theorem r_X11_skilled_19 : co_X11_skilled[19]? = some ((31, .aload_n 0, 0, 0, 0, 0, 0, 0, []) : xm_I) := rfl
theorem r_X11_skilled_20 : co_X11_skilled[20]? = some ((32, .getfield 9, 1381, 10, 1, 2, 0, 0, []) : xm_I) := rfl
theorem r_X11_skilled_21 : co_X11_skilled[21]? = some ((35, .bipush 36, 0, 0, 0, 0, 36, 0, []) : xm_I) := rfl
theorem r_X11_skilled_22 : co_X11_skilled[22]? = some ((37, .iconst 2, 0, 0, 0, 0, 2, 0, []) : xm_I) := rfl
theorem r_X11_skilled_23 : co_X11_skilled[23]? = some ((38, .iload_n 1, 0, 0, 0, 0, 0, 0, []) : xm_I) := rfl
theorem r_X11_skilled_24 : co_X11_skilled[24]? = some ((39, .imul, 0, 0, 0, 0, 0, 0, []) : xm_I) := rfl
theorem r_X11_skilled_25 : co_X11_skilled[25]? = some ((40, .iadd, 0, 0, 0, 0, 0, 0, []) : xm_I) := rfl
theorem r_X11_skilled_26 : co_X11_skilled[26]? = some ((41, .iconst 1, 0, 0, 0, 0, 1, 0, []) : xm_I) := rfl
theorem r_X11_skilled_27 : co_X11_skilled[27]? = some ((42, .iadd, 0, 0, 0, 0, 0, 0, []) : xm_I) := rfl
theorem r_X11_skilled_28 : co_X11_skilled[28]? = some ((43, .iaload, 0, 0, 0, 0, 0, 0, []) : xm_I) := rfl
theorem r_X11_skilled_29 : co_X11_skilled[29]? = some ((44, .iload_n 3, 0, 0, 0, 0, 0, 0, []) : xm_I) := rfl
theorem r_X11_skilled_30 : co_X11_skilled[30]? = some ((45, .iconst 1, 0, 0, 0, 0, 1, 0, []) : xm_I) := rfl
theorem r_X11_skilled_31 : co_X11_skilled[31]? = some ((46, .iadd, 0, 0, 0, 0, 0, 0, []) : xm_I) := rfl
theorem r_X11_skilled_32 : co_X11_skilled[32]? = some ((47, .idiv, 0, 0, 0, 0, 0, 0, []) : xm_I) := rfl
theorem r_X11_skilled_33 : co_X11_skilled[33]? = some ((48, .iadd, 0, 0, 0, 0, 0, 0, []) : xm_I) := rfl
theorem r_X11_skilled_34 : co_X11_skilled[34]? = some ((49, .iload_n 2, 0, 0, 0, 0, 0, 0, []) : xm_I) := rfl
theorem r_X11_skilled_35 : co_X11_skilled[35]? = some ((50, .if_icmp .gt 5, 0, 0, 38, 0, 0, 0, []) : xm_I) := rfl
theorem r_X11_skilled_36 : co_X11_skilled[36]? = some ((53, .iload_n 3, 0, 0, 0, 0, 0, 0, []) : xm_I) := rfl
theorem r_X11_skilled_37 : co_X11_skilled[37]? = some ((54, .ireturn, 0, 0, 0, 0, 0, 0, []) : xm_I) := rfl
theorem r_X11_skilled_38 : co_X11_skilled[38]? = some ((55, .iinc 3 1, 0, 0, 0, 0, 1, 0, []) : xm_I) := rfl
theorem r_X11_skilled_39 : co_X11_skilled[39]? = some ((58, .goto (-45), 0, 0, 8, 0, 0, 0, []) : xm_I) := rfl
theorem r_X11_skilled_40 : co_X11_skilled[40]? = some ((61, .iconst (-1), 0, 0, 0, 0, (-1), 0, []) : xm_I) := rfl
theorem r_X11_skilled_41 : co_X11_skilled[41]? = some ((62, .ireturn, 0, 0, 0, 0, 0, 0, []) : xm_I) := rfl
theorem p_X11_skilled_0_0 {X : xm_X} {P : List xm_M} {d : Nat} {h : xm_H} {l0 : Nat} {l1 : Int32} {l2 : Int32} {h0 : xm_H} {r0 : Int32} (q0 : xm_V X P d 311 [.ref l0, .int l1] h (some (.int r0)) h0) (q1 : X.1[l0]? = some (.inr 10)) (q2 : r0 = (0 : Int32)) : xm_E X P d co_X11_skilled 0 [some (.ref l0), some (.int l1), some (.int l2), none] [] h (some (.int (-2 : Int32))) h0 := by
  refine xm_E_s r_X11_skilled_0 rfl rfl ?_
  refine xm_E_s r_X11_skilled_1 rfl rfl ?_
  refine xm_E_cv [.ref l0, .int l1] [] r_X11_skilled_2 rfl rfl (Nat.le_of_ble_eq_true rfl) (xm_rc q1 (by decide)) rfl q0 ?_
  refine xm_E_s r_X11_skilled_3 rfl rfl ?_
  refine xm_E_t q2 ?_
  refine xm_E_s r_X11_skilled_4 rfl rfl ?_
  exact xm_E_iret r_X11_skilled_5 rfl rfl
theorem p_X11_skilled_0_1 {X : xm_X} {P : List xm_M} {d : Nat} {h : xm_H} {l0 : Nat} {l1 : Int32} {l2 : Int32} {h0 : xm_H} {r0 : Int32} {ro : Option Value} {ho : xm_H} (q0 : xm_V X P d 311 [.ref l0, .int l1] h (some (.int r0)) h0) (q1 : X.1[l0]? = some (.inr 10)) (q2 : ¬ (r0 = (0 : Int32))) (K : xm_E X P d co_X11_skilled 8 [some (.ref l0), some (.int l1), some (.int l2), some (.int (0 : Int32))] [] h0 ro ho) : xm_E X P d co_X11_skilled 0 [some (.ref l0), some (.int l1), some (.int l2), none] [] h ro ho := by
  refine xm_E_s r_X11_skilled_0 rfl rfl ?_
  refine xm_E_s r_X11_skilled_1 rfl rfl ?_
  refine xm_E_cv [.ref l0, .int l1] [] r_X11_skilled_2 rfl rfl (Nat.le_of_ble_eq_true rfl) (xm_rc q1 (by decide)) rfl q0 ?_
  refine xm_E_s r_X11_skilled_3 rfl rfl ?_
  refine xm_E_f q2 ?_
  refine xm_E_s r_X11_skilled_6 rfl rfl ?_
  refine xm_E_s (ls1 := [some (.ref l0), some (.int l1), some (.int l2), some (.int (0 : Int32))]) r_X11_skilled_7 rfl rfl ?_
  exact K
theorem p_X11_skilled_8_0 {X : xm_X} {P : List xm_M} {d : Nat} {h : xm_H} {l0 : Nat} {l1 : Int32} {l2 : Int32} {l3 : Int32} (q0 : (999 : Int32) ≤ l3) : xm_E X P d co_X11_skilled 8 [some (.ref l0), some (.int l1), some (.int l2), some (.int l3)] [] h (some (.int (-1 : Int32))) h := by
  refine xm_E_s r_X11_skilled_8 rfl rfl ?_
  refine xm_E_s r_X11_skilled_9 rfl rfl ?_
  refine xm_E_s r_X11_skilled_10 rfl rfl ?_
  refine xm_E_t q0 ?_
  refine xm_E_s r_X11_skilled_40 rfl rfl ?_
  exact xm_E_iret r_X11_skilled_41 rfl rfl
theorem p_X11_skilled_8_1 {X : xm_X} {P : List xm_M} {d : Nat} {h : xm_H} {l0 : Nat} {l1 : Int32} {l2 : Int32} {l3 : Int32} {v0 : Nat} {n1 : Nat} {ro : Option Value} {ho : xm_H} (q0 : ¬ ((999 : Int32) ≤ l3)) (q1 : X.1[l0]? = some (.inr 10)) (q2 : h.2.2 l0 1 = some v0) (q3 : X.1[v0]? = some (.inl (0, n1))) (q4 : ¬ ((36 : Int32) + ((2 : Int32) * l1) < 0 ∨ n1 ≤ ((36 : Int32) + ((2 : Int32) * l1)).toNatClampNeg)) (q5 : ¬ (((36 : Int32) + ((2 : Int32) * l1)) + (1 : Int32) < 0 ∨ n1 ≤ (((36 : Int32) + ((2 : Int32) * l1)) + (1 : Int32)).toNatClampNeg)) (q6 : ¬ (l3 + (1 : Int32)) = 0) (q7 : l2 < (h.1 v0 (((36 : Int32) + ((2 : Int32) * l1)).toNatClampNeg)) + ((h.1 v0 ((((36 : Int32) + ((2 : Int32) * l1)) + (1 : Int32)).toNatClampNeg)) / (l3 + (1 : Int32)))) (K : xm_E X P d co_X11_skilled 8 [some (.ref l0), some (.int l1), some (.int l2), some (.int (l3 + (1 : Int32)))] [] h ro ho) : xm_E X P d co_X11_skilled 8 [some (.ref l0), some (.int l1), some (.int l2), some (.int l3)] [] h ro ho := by
  refine xm_E_s r_X11_skilled_8 rfl rfl ?_
  refine xm_E_s r_X11_skilled_9 rfl rfl ?_
  refine xm_E_s r_X11_skilled_10 rfl rfl ?_
  refine xm_E_f q0 ?_
  refine xm_E_s r_X11_skilled_11 rfl rfl ?_
  refine xm_E_s r_X11_skilled_12 rfl (xm_T_gr rfl q1 rfl rfl q2) ?_
  refine xm_E_s r_X11_skilled_13 rfl rfl ?_
  refine xm_E_s r_X11_skilled_14 rfl rfl ?_
  refine xm_E_s r_X11_skilled_15 rfl rfl ?_
  refine xm_E_s r_X11_skilled_16 rfl rfl ?_
  refine xm_E_s r_X11_skilled_17 rfl rfl ?_
  refine xm_E_s r_X11_skilled_18 rfl (xm_T_iald rfl q3 (by decide) q4) ?_
  refine xm_E_s r_X11_skilled_19 rfl rfl ?_
  refine xm_E_s r_X11_skilled_20 rfl (xm_T_gr rfl q1 rfl rfl q2) ?_
  refine xm_E_s r_X11_skilled_21 rfl rfl ?_
  refine xm_E_s r_X11_skilled_22 rfl rfl ?_
  refine xm_E_s r_X11_skilled_23 rfl rfl ?_
  refine xm_E_s r_X11_skilled_24 rfl rfl ?_
  refine xm_E_s r_X11_skilled_25 rfl rfl ?_
  refine xm_E_s r_X11_skilled_26 rfl rfl ?_
  refine xm_E_s r_X11_skilled_27 rfl rfl ?_
  refine xm_E_s r_X11_skilled_28 rfl (xm_T_iald rfl q3 (by decide) q5) ?_
  refine xm_E_s r_X11_skilled_29 rfl rfl ?_
  refine xm_E_s r_X11_skilled_30 rfl rfl ?_
  refine xm_E_s r_X11_skilled_31 rfl rfl ?_
  refine xm_E_s r_X11_skilled_32 rfl (xm_T_idiv rfl q6) ?_
  refine xm_E_s r_X11_skilled_33 rfl rfl ?_
  refine xm_E_s r_X11_skilled_34 rfl rfl ?_
  refine xm_E_s r_X11_skilled_35 rfl rfl ?_
  refine xm_E_t q7 ?_
  refine xm_E_s (ls1 := [some (.ref l0), some (.int l1), some (.int l2), some (.int (l3 + (1 : Int32)))]) r_X11_skilled_38 rfl rfl ?_
  refine xm_E_s r_X11_skilled_39 rfl rfl ?_
  exact K
theorem p_X11_skilled_8_2 {X : xm_X} {P : List xm_M} {d : Nat} {h : xm_H} {l0 : Nat} {l1 : Int32} {l2 : Int32} {l3 : Int32} {v0 : Nat} {n1 : Nat} (q0 : ¬ ((999 : Int32) ≤ l3)) (q1 : X.1[l0]? = some (.inr 10)) (q2 : h.2.2 l0 1 = some v0) (q3 : X.1[v0]? = some (.inl (0, n1))) (q4 : ¬ ((36 : Int32) + ((2 : Int32) * l1) < 0 ∨ n1 ≤ ((36 : Int32) + ((2 : Int32) * l1)).toNatClampNeg)) (q5 : ¬ (((36 : Int32) + ((2 : Int32) * l1)) + (1 : Int32) < 0 ∨ n1 ≤ (((36 : Int32) + ((2 : Int32) * l1)) + (1 : Int32)).toNatClampNeg)) (q6 : ¬ (l3 + (1 : Int32)) = 0) (q7 : ¬ (l2 < (h.1 v0 (((36 : Int32) + ((2 : Int32) * l1)).toNatClampNeg)) + ((h.1 v0 ((((36 : Int32) + ((2 : Int32) * l1)) + (1 : Int32)).toNatClampNeg)) / (l3 + (1 : Int32))))) : xm_E X P d co_X11_skilled 8 [some (.ref l0), some (.int l1), some (.int l2), some (.int l3)] [] h (some (.int l3)) h := by
  refine xm_E_s r_X11_skilled_8 rfl rfl ?_
  refine xm_E_s r_X11_skilled_9 rfl rfl ?_
  refine xm_E_s r_X11_skilled_10 rfl rfl ?_
  refine xm_E_f q0 ?_
  refine xm_E_s r_X11_skilled_11 rfl rfl ?_
  refine xm_E_s r_X11_skilled_12 rfl (xm_T_gr rfl q1 rfl rfl q2) ?_
  refine xm_E_s r_X11_skilled_13 rfl rfl ?_
  refine xm_E_s r_X11_skilled_14 rfl rfl ?_
  refine xm_E_s r_X11_skilled_15 rfl rfl ?_
  refine xm_E_s r_X11_skilled_16 rfl rfl ?_
  refine xm_E_s r_X11_skilled_17 rfl rfl ?_
  refine xm_E_s r_X11_skilled_18 rfl (xm_T_iald rfl q3 (by decide) q4) ?_
  refine xm_E_s r_X11_skilled_19 rfl rfl ?_
  refine xm_E_s r_X11_skilled_20 rfl (xm_T_gr rfl q1 rfl rfl q2) ?_
  refine xm_E_s r_X11_skilled_21 rfl rfl ?_
  refine xm_E_s r_X11_skilled_22 rfl rfl ?_
  refine xm_E_s r_X11_skilled_23 rfl rfl ?_
  refine xm_E_s r_X11_skilled_24 rfl rfl ?_
  refine xm_E_s r_X11_skilled_25 rfl rfl ?_
  refine xm_E_s r_X11_skilled_26 rfl rfl ?_
  refine xm_E_s r_X11_skilled_27 rfl rfl ?_
  refine xm_E_s r_X11_skilled_28 rfl (xm_T_iald rfl q3 (by decide) q5) ?_
  refine xm_E_s r_X11_skilled_29 rfl rfl ?_
  refine xm_E_s r_X11_skilled_30 rfl rfl ?_
  refine xm_E_s r_X11_skilled_31 rfl rfl ?_
  refine xm_E_s r_X11_skilled_32 rfl (xm_T_idiv rfl q6) ?_
  refine xm_E_s r_X11_skilled_33 rfl rfl ?_
  refine xm_E_s r_X11_skilled_34 rfl rfl ?_
  refine xm_E_s r_X11_skilled_35 rfl rfl ?_
  refine xm_E_f q7 ?_
  refine xm_E_s r_X11_skilled_36 rfl rfl ?_
  exact xm_E_iret r_X11_skilled_37 rfl rfl
theorem r_X11_soonest_0 : co_X11_soonest[0]? = some ((0, .aload_n 0, 0, 0, 0, 0, 0, 0, []) : xm_I) := rfl
theorem r_X11_soonest_1 : co_X11_soonest[1]? = some ((1, .invokevirtual 324, 1643, 216, 1, 10, 0, 0, []) : xm_I) := rfl
theorem r_X11_soonest_2 : co_X11_soonest[2]? = some ((4, .ifCond .eq 15, 0, 0, 9, 0, 0, 0, []) : xm_I) := rfl
theorem r_X11_soonest_3 : co_X11_soonest[3]? = some ((7, .iload_n 1, 0, 0, 0, 0, 0, 0, []) : xm_I) := rfl
theorem r_X11_soonest_4 : co_X11_soonest[4]? = some ((8, .i2l, 0, 0, 0, 0, 0, 0, []) : xm_I) := rfl
theorem r_X11_soonest_5 : co_X11_soonest[5]? = some ((9, .lconst 1, 0, 0, 0, 0, 0, 1, []) : xm_I) := rfl
theorem r_X11_soonest_6 : co_X11_soonest[6]? = some ((10, .ldc2_w 498, 2027, 0, 0, 0, 0, 999, []) : xm_I) := rfl
theorem r_X11_soonest_7 : co_X11_soonest[7]? = some ((13, .invokestatic 84, 1503, 191, 3, 0, 0, 0, []) : xm_I) := rfl
theorem r_X11_soonest_8 : co_X11_soonest[8]? = some ((16, .ifCond .ne 6, 0, 0, 11, 0, 0, 0, []) : xm_I) := rfl
theorem r_X11_soonest_9 : co_X11_soonest[9]? = some ((19, .bipush (-2), 0, 0, 0, 0, (-2), 0, []) : xm_I) := rfl
theorem r_X11_soonest_10 : co_X11_soonest[10]? = some ((21, .ireturn, 0, 0, 0, 0, 0, 0, []) : xm_I) := rfl
theorem r_X11_soonest_11 : co_X11_soonest[11]? = some ((22, .iconst (-1), 0, 0, 0, 0, (-1), 0, []) : xm_I) := rfl
theorem r_X11_soonest_12 : co_X11_soonest[12]? = some ((23, .istore_n 2, 0, 0, 0, 0, 0, 0, []) : xm_I) := rfl
theorem r_X11_soonest_13 : co_X11_soonest[13]? = some ((24, .iconst 0, 0, 0, 0, 0, 0, 0, []) : xm_I) := rfl
theorem r_X11_soonest_14 : co_X11_soonest[14]? = some ((25, .istore_n 3, 0, 0, 0, 0, 0, 0, []) : xm_I) := rfl
theorem r_X11_soonest_15 : co_X11_soonest[15]? = some ((26, .iload_n 3, 0, 0, 0, 0, 0, 0, []) : xm_I) := rfl
theorem r_X11_soonest_16 : co_X11_soonest[16]? = some ((27, .aload_n 0, 0, 0, 0, 0, 0, 0, []) : xm_I) := rfl
theorem r_X11_soonest_17 : co_X11_soonest[17]? = some ((28, .getfield 9, 1381, 10, 1, 2, 0, 0, []) : xm_I) := rfl
theorem r_X11_soonest_18 : co_X11_soonest[18]? = some ((31, .bipush 20, 0, 0, 0, 0, 20, 0, []) : xm_I) := rfl
theorem r_X11_soonest_19 : co_X11_soonest[19]? = some ((33, .iaload, 0, 0, 0, 0, 0, 0, []) : xm_I) := rfl
theorem r_X11_soonest_20 : co_X11_soonest[20]? = some ((34, .if_icmp .ge 31, 0, 0, 37, 0, 0, 0, []) : xm_I) := rfl
theorem r_X11_soonest_21 : co_X11_soonest[21]? = some ((37, .iload_n 2, 0, 0, 0, 0, 0, 0, []) : xm_I) := rfl
theorem r_X11_soonest_22 : co_X11_soonest[22]? = some ((38, .iconst (-1), 0, 0, 0, 0, (-1), 0, []) : xm_I) := rfl
theorem r_X11_soonest_23 : co_X11_soonest[23]? = some ((39, .if_icmp .eq 18, 0, 0, 33, 0, 0, 0, []) : xm_I) := rfl
theorem r_X11_soonest_24 : co_X11_soonest[24]? = some ((42, .aload_n 0, 0, 0, 0, 0, 0, 0, []) : xm_I) := rfl
theorem r_X11_soonest_25 : co_X11_soonest[25]? = some ((43, .iload_n 3, 0, 0, 0, 0, 0, 0, []) : xm_I) := rfl
theorem r_X11_soonest_26 : co_X11_soonest[26]? = some ((44, .iload_n 1, 0, 0, 0, 0, 0, 0, []) : xm_I) := rfl
theorem r_X11_soonest_27 : co_X11_soonest[27]? = some ((45, .invokevirtual 500, 2028, 312, 3, 10, 0, 0, []) : xm_I) := rfl
theorem r_X11_soonest_28 : co_X11_soonest[28]? = some ((48, .aload_n 0, 0, 0, 0, 0, 0, 0, []) : xm_I) := rfl
theorem r_X11_soonest_29 : co_X11_soonest[29]? = some ((49, .iload_n 2, 0, 0, 0, 0, 0, 0, []) : xm_I) := rfl
theorem r_X11_soonest_30 : co_X11_soonest[30]? = some ((50, .iload_n 1, 0, 0, 0, 0, 0, 0, []) : xm_I) := rfl
theorem r_X11_soonest_31 : co_X11_soonest[31]? = some ((51, .invokevirtual 500, 2028, 312, 3, 10, 0, 0, []) : xm_I) := rfl
theorem r_X11_soonest_32 : co_X11_soonest[32]? = some ((54, .if_icmp .ge 5, 0, 0, 35, 0, 0, 0, []) : xm_I) := rfl
theorem r_X11_soonest_33 : co_X11_soonest[33]? = some ((57, .iload_n 3, 0, 0, 0, 0, 0, 0, []) : xm_I) := rfl
theorem r_X11_soonest_34 : co_X11_soonest[34]? = some ((58, .istore_n 2, 0, 0, 0, 0, 0, 0, []) : xm_I) := rfl
theorem r_X11_soonest_35 : co_X11_soonest[35]? = some ((59, .iinc 3 1, 0, 0, 0, 0, 1, 0, []) : xm_I) := rfl
theorem r_X11_soonest_36 : co_X11_soonest[36]? = some ((62, .goto (-36), 0, 0, 15, 0, 0, 0, []) : xm_I) := rfl
theorem r_X11_soonest_37 : co_X11_soonest[37]? = some ((65, .iload_n 2, 0, 0, 0, 0, 0, 0, []) : xm_I) := rfl
theorem r_X11_soonest_38 : co_X11_soonest[38]? = some ((66, .ireturn, 0, 0, 0, 0, 0, 0, []) : xm_I) := rfl
theorem p_X11_soonest_0_0 {X : xm_X} {P : List xm_M} {d : Nat} {h : xm_H} {l0 : Nat} {l1 : Int32} {h0 : xm_H} {r0 : Int32} (q0 : xm_V X P d 216 [.ref l0] h (some (.int r0)) h0) (q1 : X.1[l0]? = some (.inr 10)) (q2 : r0 = (0 : Int32)) : xm_E X P d co_X11_soonest 0 [some (.ref l0), some (.int l1), none, none] [] h (some (.int (-2 : Int32))) h0 := by
  refine xm_E_s r_X11_soonest_0 rfl rfl ?_
  refine xm_E_cv [.ref l0] [] r_X11_soonest_1 rfl rfl (Nat.le_of_ble_eq_true rfl) (xm_rc q1 (by decide)) rfl q0 ?_
  refine xm_E_s r_X11_soonest_2 rfl rfl ?_
  refine xm_E_t q2 ?_
  refine xm_E_s r_X11_soonest_9 rfl rfl ?_
  exact xm_E_iret r_X11_soonest_10 rfl rfl
theorem p_X11_soonest_0_1 {X : xm_X} {P : List xm_M} {d : Nat} {h : xm_H} {l0 : Nat} {l1 : Int32} {h0 : xm_H} {r0 : Int32} {h1 : xm_H} {r1 : Int32} (q0 : xm_V X P d 216 [.ref l0] h (some (.int r0)) h0) (q1 : X.1[l0]? = some (.inr 10)) (q2 : ¬ (r0 = (0 : Int32))) (q3 : xm_V X P d 191 [.long l1.toInt64, .long (1 : Int64), .long (999 : Int64)] h0 (some (.int r1)) h1) (q4 : r1 = (0 : Int32)) : xm_E X P d co_X11_soonest 0 [some (.ref l0), some (.int l1), none, none] [] h (some (.int (-2 : Int32))) h1 := by
  refine xm_E_s r_X11_soonest_0 rfl rfl ?_
  refine xm_E_cv [.ref l0] [] r_X11_soonest_1 rfl rfl (Nat.le_of_ble_eq_true rfl) (xm_rc q1 (by decide)) rfl q0 ?_
  refine xm_E_s r_X11_soonest_2 rfl rfl ?_
  refine xm_E_f q2 ?_
  refine xm_E_s r_X11_soonest_3 rfl rfl ?_
  refine xm_E_s r_X11_soonest_4 rfl rfl ?_
  refine xm_E_s r_X11_soonest_5 rfl rfl ?_
  refine xm_E_s r_X11_soonest_6 rfl rfl ?_
  refine xm_E_cs [.long l1.toInt64, .long (1 : Int64), .long (999 : Int64)] [] r_X11_soonest_7 rfl rfl rfl (Nat.le_of_ble_eq_true rfl) rfl q3 ?_
  refine xm_E_s r_X11_soonest_8 rfl rfl ?_
  refine xm_E_t q4 ?_
  refine xm_E_s r_X11_soonest_9 rfl rfl ?_
  exact xm_E_iret r_X11_soonest_10 rfl rfl
theorem p_X11_soonest_0_2 {X : xm_X} {P : List xm_M} {d : Nat} {h : xm_H} {l0 : Nat} {l1 : Int32} {h0 : xm_H} {r0 : Int32} {h1 : xm_H} {r1 : Int32} {ro : Option Value} {ho : xm_H} (q0 : xm_V X P d 216 [.ref l0] h (some (.int r0)) h0) (q1 : X.1[l0]? = some (.inr 10)) (q2 : ¬ (r0 = (0 : Int32))) (q3 : xm_V X P d 191 [.long l1.toInt64, .long (1 : Int64), .long (999 : Int64)] h0 (some (.int r1)) h1) (q4 : ¬ (r1 = (0 : Int32))) (K : xm_E X P d co_X11_soonest 15 [some (.ref l0), some (.int l1), some (.int (-1 : Int32)), some (.int (0 : Int32))] [] h1 ro ho) : xm_E X P d co_X11_soonest 0 [some (.ref l0), some (.int l1), none, none] [] h ro ho := by
  refine xm_E_s r_X11_soonest_0 rfl rfl ?_
  refine xm_E_cv [.ref l0] [] r_X11_soonest_1 rfl rfl (Nat.le_of_ble_eq_true rfl) (xm_rc q1 (by decide)) rfl q0 ?_
  refine xm_E_s r_X11_soonest_2 rfl rfl ?_
  refine xm_E_f q2 ?_
  refine xm_E_s r_X11_soonest_3 rfl rfl ?_
  refine xm_E_s r_X11_soonest_4 rfl rfl ?_
  refine xm_E_s r_X11_soonest_5 rfl rfl ?_
  refine xm_E_s r_X11_soonest_6 rfl rfl ?_
  refine xm_E_cs [.long l1.toInt64, .long (1 : Int64), .long (999 : Int64)] [] r_X11_soonest_7 rfl rfl rfl (Nat.le_of_ble_eq_true rfl) rfl q3 ?_
  refine xm_E_s r_X11_soonest_8 rfl rfl ?_
  refine xm_E_f q4 ?_
  refine xm_E_s r_X11_soonest_11 rfl rfl ?_
  refine xm_E_s (ls1 := [some (.ref l0), some (.int l1), some (.int (-1 : Int32)), none]) r_X11_soonest_12 rfl rfl ?_
  refine xm_E_s r_X11_soonest_13 rfl rfl ?_
  refine xm_E_s (ls1 := [some (.ref l0), some (.int l1), some (.int (-1 : Int32)), some (.int (0 : Int32))]) r_X11_soonest_14 rfl rfl ?_
  exact K
theorem p_X11_soonest_15_0 {X : xm_X} {P : List xm_M} {d : Nat} {h : xm_H} {l0 : Nat} {l1 : Int32} {l2 : Int32} {l3 : Int32} {v0 : Nat} {n1 : Nat} (q0 : X.1[l0]? = some (.inr 10)) (q1 : h.2.2 l0 1 = some v0) (q2 : X.1[v0]? = some (.inl (0, n1))) (q3 : 20 < n1) (q4 : h.1 v0 20 ≤ l3) : xm_E X P d co_X11_soonest 15 [some (.ref l0), some (.int l1), some (.int l2), some (.int l3)] [] h (some (.int l2)) h := by
  refine xm_E_s r_X11_soonest_15 rfl rfl ?_
  refine xm_E_s r_X11_soonest_16 rfl rfl ?_
  refine xm_E_s r_X11_soonest_17 rfl (xm_T_gr rfl q0 rfl rfl q1) ?_
  refine xm_E_s r_X11_soonest_18 rfl rfl ?_
  refine xm_E_s r_X11_soonest_19 rfl (xm_T_iald rfl q2 (by decide) (fun e => e.elim (fun e => absurd e (by decide)) (fun e => Nat.not_le.mpr q3 e))) ?_
  refine xm_E_s r_X11_soonest_20 rfl rfl ?_
  refine xm_E_t q4 ?_
  refine xm_E_s r_X11_soonest_37 rfl rfl ?_
  exact xm_E_iret r_X11_soonest_38 rfl rfl
theorem p_X11_soonest_15_1 {X : xm_X} {P : List xm_M} {d : Nat} {h : xm_H} {l0 : Nat} {l1 : Int32} {l2 : Int32} {l3 : Int32} {v0 : Nat} {n1 : Nat} {ro : Option Value} {ho : xm_H} (q0 : X.1[l0]? = some (.inr 10)) (q1 : h.2.2 l0 1 = some v0) (q2 : X.1[v0]? = some (.inl (0, n1))) (q3 : 20 < n1) (q4 : ¬ (h.1 v0 20 ≤ l3)) (q5 : l2 = (-1 : Int32)) (K : xm_E X P d co_X11_soonest 15 [some (.ref l0), some (.int l1), some (.int l3), some (.int (l3 + (1 : Int32)))] [] h ro ho) : xm_E X P d co_X11_soonest 15 [some (.ref l0), some (.int l1), some (.int l2), some (.int l3)] [] h ro ho := by
  refine xm_E_s r_X11_soonest_15 rfl rfl ?_
  refine xm_E_s r_X11_soonest_16 rfl rfl ?_
  refine xm_E_s r_X11_soonest_17 rfl (xm_T_gr rfl q0 rfl rfl q1) ?_
  refine xm_E_s r_X11_soonest_18 rfl rfl ?_
  refine xm_E_s r_X11_soonest_19 rfl (xm_T_iald rfl q2 (by decide) (fun e => e.elim (fun e => absurd e (by decide)) (fun e => Nat.not_le.mpr q3 e))) ?_
  refine xm_E_s r_X11_soonest_20 rfl rfl ?_
  refine xm_E_f q4 ?_
  refine xm_E_s r_X11_soonest_21 rfl rfl ?_
  refine xm_E_s r_X11_soonest_22 rfl rfl ?_
  refine xm_E_s r_X11_soonest_23 rfl rfl ?_
  refine xm_E_t q5 ?_
  refine xm_E_s r_X11_soonest_33 rfl rfl ?_
  refine xm_E_s (ls1 := [some (.ref l0), some (.int l1), some (.int l3), some (.int l3)]) r_X11_soonest_34 rfl rfl ?_
  refine xm_E_s (ls1 := [some (.ref l0), some (.int l1), some (.int l3), some (.int (l3 + (1 : Int32)))]) r_X11_soonest_35 rfl rfl ?_
  refine xm_E_s r_X11_soonest_36 rfl rfl ?_
  exact K
theorem p_X11_soonest_15_2 {X : xm_X} {P : List xm_M} {d : Nat} {h : xm_H} {l0 : Nat} {l1 : Int32} {l2 : Int32} {l3 : Int32} {v0 : Nat} {n1 : Nat} {h2 : xm_H} {r2 : Int32} {h3 : xm_H} {r3 : Int32} {ro : Option Value} {ho : xm_H} (q0 : X.1[l0]? = some (.inr 10)) (q1 : h.2.2 l0 1 = some v0) (q2 : X.1[v0]? = some (.inl (0, n1))) (q3 : 20 < n1) (q4 : ¬ (h.1 v0 20 ≤ l3)) (q5 : ¬ (l2 = (-1 : Int32))) (q6 : xm_V X P d 312 [.ref l0, .int l3, .int l1] h (some (.int r2)) h2) (q7 : xm_V X P d 312 [.ref l0, .int l2, .int l1] h2 (some (.int r3)) h3) (q8 : r3 ≤ r2) (K : xm_E X P d co_X11_soonest 15 [some (.ref l0), some (.int l1), some (.int l2), some (.int (l3 + (1 : Int32)))] [] h3 ro ho) : xm_E X P d co_X11_soonest 15 [some (.ref l0), some (.int l1), some (.int l2), some (.int l3)] [] h ro ho := by
  refine xm_E_s r_X11_soonest_15 rfl rfl ?_
  refine xm_E_s r_X11_soonest_16 rfl rfl ?_
  refine xm_E_s r_X11_soonest_17 rfl (xm_T_gr rfl q0 rfl rfl q1) ?_
  refine xm_E_s r_X11_soonest_18 rfl rfl ?_
  refine xm_E_s r_X11_soonest_19 rfl (xm_T_iald rfl q2 (by decide) (fun e => e.elim (fun e => absurd e (by decide)) (fun e => Nat.not_le.mpr q3 e))) ?_
  refine xm_E_s r_X11_soonest_20 rfl rfl ?_
  refine xm_E_f q4 ?_
  refine xm_E_s r_X11_soonest_21 rfl rfl ?_
  refine xm_E_s r_X11_soonest_22 rfl rfl ?_
  refine xm_E_s r_X11_soonest_23 rfl rfl ?_
  refine xm_E_f q5 ?_
  refine xm_E_s r_X11_soonest_24 rfl rfl ?_
  refine xm_E_s r_X11_soonest_25 rfl rfl ?_
  refine xm_E_s r_X11_soonest_26 rfl rfl ?_
  refine xm_E_cv [.ref l0, .int l3, .int l1] [] r_X11_soonest_27 rfl rfl (Nat.le_of_ble_eq_true rfl) (xm_rc q0 (by decide)) rfl q6 ?_
  refine xm_E_s r_X11_soonest_28 rfl rfl ?_
  refine xm_E_s r_X11_soonest_29 rfl rfl ?_
  refine xm_E_s r_X11_soonest_30 rfl rfl ?_
  refine xm_E_cv [.ref l0, .int l2, .int l1] [.int r2] r_X11_soonest_31 rfl rfl (Nat.le_of_ble_eq_true rfl) (xm_rc q0 (by decide)) rfl q7 ?_
  refine xm_E_s r_X11_soonest_32 rfl rfl ?_
  refine xm_E_t q8 ?_
  refine xm_E_s (ls1 := [some (.ref l0), some (.int l1), some (.int l2), some (.int (l3 + (1 : Int32)))]) r_X11_soonest_35 rfl rfl ?_
  refine xm_E_s r_X11_soonest_36 rfl rfl ?_
  exact K
theorem p_X11_soonest_15_3 {X : xm_X} {P : List xm_M} {d : Nat} {h : xm_H} {l0 : Nat} {l1 : Int32} {l2 : Int32} {l3 : Int32} {v0 : Nat} {n1 : Nat} {h2 : xm_H} {r2 : Int32} {h3 : xm_H} {r3 : Int32} {ro : Option Value} {ho : xm_H} (q0 : X.1[l0]? = some (.inr 10)) (q1 : h.2.2 l0 1 = some v0) (q2 : X.1[v0]? = some (.inl (0, n1))) (q3 : 20 < n1) (q4 : ¬ (h.1 v0 20 ≤ l3)) (q5 : ¬ (l2 = (-1 : Int32))) (q6 : xm_V X P d 312 [.ref l0, .int l3, .int l1] h (some (.int r2)) h2) (q7 : xm_V X P d 312 [.ref l0, .int l2, .int l1] h2 (some (.int r3)) h3) (q8 : ¬ (r3 ≤ r2)) (K : xm_E X P d co_X11_soonest 15 [some (.ref l0), some (.int l1), some (.int l3), some (.int (l3 + (1 : Int32)))] [] h3 ro ho) : xm_E X P d co_X11_soonest 15 [some (.ref l0), some (.int l1), some (.int l2), some (.int l3)] [] h ro ho := by
  refine xm_E_s r_X11_soonest_15 rfl rfl ?_
  refine xm_E_s r_X11_soonest_16 rfl rfl ?_
  refine xm_E_s r_X11_soonest_17 rfl (xm_T_gr rfl q0 rfl rfl q1) ?_
  refine xm_E_s r_X11_soonest_18 rfl rfl ?_
  refine xm_E_s r_X11_soonest_19 rfl (xm_T_iald rfl q2 (by decide) (fun e => e.elim (fun e => absurd e (by decide)) (fun e => Nat.not_le.mpr q3 e))) ?_
  refine xm_E_s r_X11_soonest_20 rfl rfl ?_
  refine xm_E_f q4 ?_
  refine xm_E_s r_X11_soonest_21 rfl rfl ?_
  refine xm_E_s r_X11_soonest_22 rfl rfl ?_
  refine xm_E_s r_X11_soonest_23 rfl rfl ?_
  refine xm_E_f q5 ?_
  refine xm_E_s r_X11_soonest_24 rfl rfl ?_
  refine xm_E_s r_X11_soonest_25 rfl rfl ?_
  refine xm_E_s r_X11_soonest_26 rfl rfl ?_
  refine xm_E_cv [.ref l0, .int l3, .int l1] [] r_X11_soonest_27 rfl rfl (Nat.le_of_ble_eq_true rfl) (xm_rc q0 (by decide)) rfl q6 ?_
  refine xm_E_s r_X11_soonest_28 rfl rfl ?_
  refine xm_E_s r_X11_soonest_29 rfl rfl ?_
  refine xm_E_s r_X11_soonest_30 rfl rfl ?_
  refine xm_E_cv [.ref l0, .int l2, .int l1] [.int r2] r_X11_soonest_31 rfl rfl (Nat.le_of_ble_eq_true rfl) (xm_rc q0 (by decide)) rfl q7 ?_
  refine xm_E_s r_X11_soonest_32 rfl rfl ?_
  refine xm_E_f q8 ?_
  refine xm_E_s r_X11_soonest_33 rfl rfl ?_
  refine xm_E_s (ls1 := [some (.ref l0), some (.int l1), some (.int l3), some (.int l3)]) r_X11_soonest_34 rfl rfl ?_
  refine xm_E_s (ls1 := [some (.ref l0), some (.int l1), some (.int l3), some (.int (l3 + (1 : Int32)))]) r_X11_soonest_35 rfl rfl ?_
  refine xm_E_s r_X11_soonest_36 rfl rfl ?_
  exact K
theorem r_X11_friday_0 : co_X11_friday[0]? = some ((0, .aload_n 0, 0, 0, 0, 0, 0, 0, []) : xm_I) := rfl
theorem r_X11_friday_1 : co_X11_friday[1]? = some ((1, .invokevirtual 324, 1643, 216, 1, 10, 0, 0, []) : xm_I) := rfl
theorem r_X11_friday_2 : co_X11_friday[2]? = some ((4, .ifCond .eq 11, 0, 0, 7, 0, 0, 0, []) : xm_I) := rfl
theorem r_X11_friday_3 : co_X11_friday[3]? = some ((7, .aload_n 0, 0, 0, 0, 0, 0, 0, []) : xm_I) := rfl
theorem r_X11_friday_4 : co_X11_friday[4]? = some ((8, .iconst (-1), 0, 0, 0, 0, (-1), 0, []) : xm_I) := rfl
theorem r_X11_friday_5 : co_X11_friday[5]? = some ((9, .invokevirtual 506, 2048, 317, 2, 10, 0, 0, []) : xm_I) := rfl
theorem r_X11_friday_6 : co_X11_friday[6]? = some ((12, .goto 5, 0, 0, 8, 0, 0, 0, []) : xm_I) := rfl
theorem r_X11_friday_7 : co_X11_friday[7]? = some ((15, .bipush (-2), 0, 0, 0, 0, (-2), 0, []) : xm_I) := rfl
theorem r_X11_friday_8 : co_X11_friday[8]? = some ((17, .ireturn, 0, 0, 0, 0, 0, 0, []) : xm_I) := rfl
theorem p_X11_friday_0_0 {X : xm_X} {P : List xm_M} {d : Nat} {h : xm_H} {l0 : Nat} {h0 : xm_H} {r0 : Int32} (q0 : xm_V X P d 216 [.ref l0] h (some (.int r0)) h0) (q1 : X.1[l0]? = some (.inr 10)) (q2 : r0 = (0 : Int32)) : xm_E X P d co_X11_friday 0 [some (.ref l0)] [] h (some (.int (-2 : Int32))) h0 := by
  refine xm_E_s r_X11_friday_0 rfl rfl ?_
  refine xm_E_cv [.ref l0] [] r_X11_friday_1 rfl rfl (Nat.le_of_ble_eq_true rfl) (xm_rc q1 (by decide)) rfl q0 ?_
  refine xm_E_s r_X11_friday_2 rfl rfl ?_
  refine xm_E_t q2 ?_
  refine xm_E_s r_X11_friday_7 rfl rfl ?_
  exact xm_E_iret r_X11_friday_8 rfl rfl
theorem p_X11_friday_0_1 {X : xm_X} {P : List xm_M} {d : Nat} {h : xm_H} {l0 : Nat} {h0 : xm_H} {r0 : Int32} {h1 : xm_H} {r1 : Int32} (q0 : xm_V X P d 216 [.ref l0] h (some (.int r0)) h0) (q1 : X.1[l0]? = some (.inr 10)) (q2 : ¬ (r0 = (0 : Int32))) (q3 : xm_V X P d 317 [.ref l0, .int (-1 : Int32)] h0 (some (.int r1)) h1) : xm_E X P d co_X11_friday 0 [some (.ref l0)] [] h (some (.int r1)) h1 := by
  refine xm_E_s r_X11_friday_0 rfl rfl ?_
  refine xm_E_cv [.ref l0] [] r_X11_friday_1 rfl rfl (Nat.le_of_ble_eq_true rfl) (xm_rc q1 (by decide)) rfl q0 ?_
  refine xm_E_s r_X11_friday_2 rfl rfl ?_
  refine xm_E_f q2 ?_
  refine xm_E_s r_X11_friday_3 rfl rfl ?_
  refine xm_E_s r_X11_friday_4 rfl rfl ?_
  refine xm_E_cv [.ref l0, .int (-1 : Int32)] [] r_X11_friday_5 rfl rfl (Nat.le_of_ble_eq_true rfl) (xm_rc q1 (by decide)) rfl q3 ?_
  refine xm_E_s r_X11_friday_6 rfl rfl ?_
  exact xm_E_iret r_X11_friday_8 rfl rfl
theorem r_X11_fridayWith_0 : co_X11_fridayWith[0]? = some ((0, .aload_n 0, 0, 0, 0, 0, 0, 0, []) : xm_I) := rfl
theorem r_X11_fridayWith_1 : co_X11_fridayWith[1]? = some ((1, .getfield 9, 1381, 10, 1, 2, 0, 0, []) : xm_I) := rfl
theorem r_X11_fridayWith_2 : co_X11_fridayWith[2]? = some ((4, .bipush 20, 0, 0, 0, 0, 20, 0, []) : xm_I) := rfl
theorem r_X11_fridayWith_3 : co_X11_fridayWith[3]? = some ((6, .iaload, 0, 0, 0, 0, 0, 0, []) : xm_I) := rfl
theorem r_X11_fridayWith_4 : co_X11_fridayWith[4]? = some ((7, .iload_n 1, 0, 0, 0, 0, 0, 0, []) : xm_I) := rfl
theorem r_X11_fridayWith_5 : co_X11_fridayWith[5]? = some ((8, .iconst (-1), 0, 0, 0, 0, (-1), 0, []) : xm_I) := rfl
theorem r_X11_fridayWith_6 : co_X11_fridayWith[6]? = some ((9, .if_icmp .ne 7, 0, 0, 9, 0, 0, 0, []) : xm_I) := rfl
theorem r_X11_fridayWith_7 : co_X11_fridayWith[7]? = some ((12, .iconst 0, 0, 0, 0, 0, 0, 0, []) : xm_I) := rfl
theorem r_X11_fridayWith_8 : co_X11_fridayWith[8]? = some ((13, .goto 4, 0, 0, 10, 0, 0, 0, []) : xm_I) := rfl
theorem r_X11_fridayWith_9 : co_X11_fridayWith[9]? = some ((16, .iconst 1, 0, 0, 0, 0, 1, 0, []) : xm_I) := rfl
theorem r_X11_fridayWith_10 : co_X11_fridayWith[10]? = some ((17, .iadd, 0, 0, 0, 0, 0, 0, []) : xm_I) := rfl
theorem r_X11_fridayWith_11 : co_X11_fridayWith[11]? = some ((18, .istore_n 2, 0, 0, 0, 0, 0, 0, []) : xm_I) := rfl
theorem r_X11_fridayWith_12 : co_X11_fridayWith[12]? = some ((19, .aload_n 0, 0, 0, 0, 0, 0, 0, []) : xm_I) := rfl
theorem r_X11_fridayWith_13 : co_X11_fridayWith[13]? = some ((20, .getfield 9, 1381, 10, 1, 2, 0, 0, []) : xm_I) := rfl
theorem r_X11_fridayWith_14 : co_X11_fridayWith[14]? = some ((23, .bipush 21, 0, 0, 0, 0, 21, 0, []) : xm_I) := rfl
theorem r_X11_fridayWith_15 : co_X11_fridayWith[15]? = some ((25, .iaload, 0, 0, 0, 0, 0, 0, []) : xm_I) := rfl
theorem r_X11_fridayWith_16 : co_X11_fridayWith[16]? = some ((26, .ifCond .le 9, 0, 0, 21, 0, 0, 0, []) : xm_I) := rfl
theorem r_X11_fridayWith_17 : co_X11_fridayWith[17]? = some ((29, .iload_n 2, 0, 0, 0, 0, 0, 0, []) : xm_I) := rfl
theorem r_X11_fridayWith_18 : co_X11_fridayWith[18]? = some ((30, .ifCond .ne 5, 0, 0, 21, 0, 0, 0, []) : xm_I) := rfl
theorem r_X11_fridayWith_19 : co_X11_fridayWith[19]? = some ((33, .iconst (-1), 0, 0, 0, 0, (-1), 0, []) : xm_I) := rfl
theorem r_X11_fridayWith_20 : co_X11_fridayWith[20]? = some ((34, .ireturn, 0, 0, 0, 0, 0, 0, []) : xm_I) := rfl
theorem r_X11_fridayWith_21 : co_X11_fridayWith[21]? = some ((35, .ldc_w 386, 1818, 0, 0, 0, 1000000000, 0, []) : xm_I) := rfl
theorem r_X11_fridayWith_22 : co_X11_fridayWith[22]? = some ((38, .istore_n 3, 0, 0, 0, 0, 0, 0, []) : xm_I) := rfl
theorem r_X11_fridayWith_23 : co_X11_fridayWith[23]? = some ((39, .iconst 0, 0, 0, 0, 0, 0, 0, []) : xm_I) := rfl
theorem r_X11_fridayWith_24 : co_X11_fridayWith[24]? = some ((40, .istore 4, 0, 0, 0, 0, 0, 0, []) : xm_I) := rfl
theorem r_X11_fridayWith_25 : co_X11_fridayWith[25]? = some ((42, .iload 4, 0, 0, 0, 0, 0, 0, []) : xm_I) := rfl
theorem r_X11_fridayWith_26 : co_X11_fridayWith[26]? = some ((44, .bipush 6, 0, 0, 0, 0, 6, 0, []) : xm_I) := rfl
theorem r_X11_fridayWith_27 : co_X11_fridayWith[27]? = some ((46, .if_icmp .ge 17, 0, 0, 35, 0, 0, 0, []) : xm_I) := rfl
theorem r_X11_fridayWith_28 : co_X11_fridayWith[28]? = some ((49, .aload_n 0, 0, 0, 0, 0, 0, 0, []) : xm_I) := rfl
theorem r_X11_fridayWith_29 : co_X11_fridayWith[29]? = some ((50, .getfield 61, 1411, 10, 31, 2, 0, 0, []) : xm_I) := rfl
theorem r_X11_fridayWith_30 : co_X11_fridayWith[30]? = some ((53, .iload 4, 0, 0, 0, 0, 0, 0, []) : xm_I) := rfl
theorem r_X11_fridayWith_31 : co_X11_fridayWith[31]? = some ((55, .iconst 0, 0, 0, 0, 0, 0, 0, []) : xm_I) := rfl
theorem r_X11_fridayWith_32 : co_X11_fridayWith[32]? = some ((56, .iastore, 0, 0, 0, 0, 0, 0, []) : xm_I) := rfl
theorem r_X11_fridayWith_33 : co_X11_fridayWith[33]? = some ((57, .iinc 4 1, 0, 0, 0, 0, 1, 0, []) : xm_I) := rfl
theorem r_X11_fridayWith_34 : co_X11_fridayWith[34]? = some ((60, .goto (-18), 0, 0, 25, 0, 0, 0, []) : xm_I) := rfl
theorem r_X11_fridayWith_35 : co_X11_fridayWith[35]? = some ((63, .iconst 0, 0, 0, 0, 0, 0, 0, []) : xm_I) := rfl
theorem r_X11_fridayWith_36 : co_X11_fridayWith[36]? = some ((64, .istore 4, 0, 0, 0, 0, 0, 0, []) : xm_I) := rfl
theorem r_X11_fridayWith_37 : co_X11_fridayWith[37]? = some ((66, .iconst 0, 0, 0, 0, 0, 0, 0, []) : xm_I) := rfl
theorem r_X11_fridayWith_38 : co_X11_fridayWith[38]? = some ((67, .istore 5, 0, 0, 0, 0, 0, 0, []) : xm_I) := rfl
theorem r_X11_fridayWith_39 : co_X11_fridayWith[39]? = some ((69, .iload 5, 0, 0, 0, 0, 0, 0, []) : xm_I) := rfl
theorem r_X11_fridayWith_40 : co_X11_fridayWith[40]? = some ((71, .iload_n 2, 0, 0, 0, 0, 0, 0, []) : xm_I) := rfl
theorem r_X11_fridayWith_41 : co_X11_fridayWith[41]? = some ((72, .if_icmp .ge 95, 0, 0, 88, 0, 0, 0, []) : xm_I) := rfl
theorem r_X11_fridayWith_42 : co_X11_fridayWith[42]? = some ((75, .iconst 0, 0, 0, 0, 0, 0, 0, []) : xm_I) := rfl
theorem r_X11_fridayWith_43 : co_X11_fridayWith[43]? = some ((76, .istore 6, 0, 0, 0, 0, 0, 0, []) : xm_I) := rfl
theorem r_X11_fridayWith_44 : co_X11_fridayWith[44]? = some ((78, .iconst 0, 0, 0, 0, 0, 0, 0, []) : xm_I) := rfl
theorem r_X11_fridayWith_45 : co_X11_fridayWith[45]? = some ((79, .istore 7, 0, 0, 0, 0, 0, 0, []) : xm_I) := rfl
theorem r_X11_fridayWith_46 : co_X11_fridayWith[46]? = some ((81, .iload 7, 0, 0, 0, 0, 0, 0, []) : xm_I) := rfl
theorem r_X11_fridayWith_47 : co_X11_fridayWith[47]? = some ((83, .aload_n 0, 0, 0, 0, 0, 0, 0, []) : xm_I) := rfl
theorem r_X11_fridayWith_48 : co_X11_fridayWith[48]? = some ((84, .getfield 9, 1381, 10, 1, 2, 0, 0, []) : xm_I) := rfl
theorem r_X11_fridayWith_49 : co_X11_fridayWith[49]? = some ((87, .bipush 21, 0, 0, 0, 0, 21, 0, []) : xm_I) := rfl
theorem r_X11_fridayWith_50 : co_X11_fridayWith[50]? = some ((89, .iaload, 0, 0, 0, 0, 0, 0, []) : xm_I) := rfl
theorem r_X11_fridayWith_51 : co_X11_fridayWith[51]? = some ((90, .if_icmp .ge 40, 0, 0, 71, 0, 0, 0, []) : xm_I) := rfl
theorem r_X11_fridayWith_52 : co_X11_fridayWith[52]? = some ((93, .iload 6, 0, 0, 0, 0, 0, 0, []) : xm_I) := rfl
theorem r_X11_fridayWith_53 : co_X11_fridayWith[53]? = some ((95, .aload_n 0, 0, 0, 0, 0, 0, 0, []) : xm_I) := rfl
theorem r_X11_fridayWith_54 : co_X11_fridayWith[54]? = some ((96, .getfield 61, 1411, 10, 31, 2, 0, 0, []) : xm_I) := rfl
theorem r_X11_fridayWith_55 : co_X11_fridayWith[55]? = some ((99, .iload 7, 0, 0, 0, 0, 0, 0, []) : xm_I) := rfl
theorem r_X11_fridayWith_56 : co_X11_fridayWith[56]? = some ((101, .iaload, 0, 0, 0, 0, 0, 0, []) : xm_I) := rfl
theorem r_X11_fridayWith_57 : co_X11_fridayWith[57]? = some ((102, .iload 5, 0, 0, 0, 0, 0, 0, []) : xm_I) := rfl
theorem r_X11_fridayWith_58 : co_X11_fridayWith[58]? = some ((104, .if_icmp .ne 16, 0, 0, 66, 0, 0, 0, []) : xm_I) := rfl
theorem r_X11_fridayWith_59 : co_X11_fridayWith[59]? = some ((107, .aload_n 0, 0, 0, 0, 0, 0, 0, []) : xm_I) := rfl
theorem r_X11_fridayWith_60 : co_X11_fridayWith[60]? = some ((108, .getfield 9, 1381, 10, 1, 2, 0, 0, []) : xm_I) := rfl
theorem r_X11_fridayWith_61 : co_X11_fridayWith[61]? = some ((111, .bipush 44, 0, 0, 0, 0, 44, 0, []) : xm_I) := rfl
theorem r_X11_fridayWith_62 : co_X11_fridayWith[62]? = some ((113, .iload 7, 0, 0, 0, 0, 0, 0, []) : xm_I) := rfl
theorem r_X11_fridayWith_63 : co_X11_fridayWith[63]? = some ((115, .iadd, 0, 0, 0, 0, 0, 0, []) : xm_I) := rfl
theorem r_X11_fridayWith_64 : co_X11_fridayWith[64]? = some ((116, .iaload, 0, 0, 0, 0, 0, 0, []) : xm_I) := rfl
theorem r_X11_fridayWith_65 : co_X11_fridayWith[65]? = some ((117, .goto 4, 0, 0, 67, 0, 0, 0, []) : xm_I) := rfl
theorem r_X11_fridayWith_66 : co_X11_fridayWith[66]? = some ((120, .iconst 0, 0, 0, 0, 0, 0, 0, []) : xm_I) := rfl
theorem r_X11_fridayWith_67 : co_X11_fridayWith[67]? = some ((121, .iadd, 0, 0, 0, 0, 0, 0, []) : xm_I) := rfl
theorem r_X11_fridayWith_68 : co_X11_fridayWith[68]? = some ((122, .istore 6, 0, 0, 0, 0, 0, 0, []) : xm_I) := rfl
theorem r_X11_fridayWith_69 : co_X11_fridayWith[69]? = some ((124, .iinc 7 1, 0, 0, 0, 0, 1, 0, []) : xm_I) := rfl
theorem r_X11_fridayWith_70 : co_X11_fridayWith[70]? = some ((127, .goto (-46), 0, 0, 46, 0, 0, 0, []) : xm_I) := rfl
theorem r_X11_fridayWith_71 : co_X11_fridayWith[71]? = some ((130, .iload 4, 0, 0, 0, 0, 0, 0, []) : xm_I) := rfl
theorem r_X11_fridayWith_72 : co_X11_fridayWith[72]? = some ((132, .aload_n 0, 0, 0, 0, 0, 0, 0, []) : xm_I) := rfl
theorem r_X11_fridayWith_73 : co_X11_fridayWith[73]? = some ((133, .iload 5, 0, 0, 0, 0, 0, 0, []) : xm_I) := rfl
theorem r_X11_fridayWith_74 : co_X11_fridayWith[74]? = some ((135, .aload_n 0, 0, 0, 0, 0, 0, 0, []) : xm_I) := rfl
theorem r_X11_fridayWith_75 : co_X11_fridayWith[75]? = some ((136, .getfield 9, 1381, 10, 1, 2, 0, 0, []) : xm_I) := rfl
theorem r_X11_fridayWith_76 : co_X11_fridayWith[76]? = some ((139, .bipush 20, 0, 0, 0, 0, 20, 0, []) : xm_I) := rfl
theorem r_X11_fridayWith_77 : co_X11_fridayWith[77]? = some ((141, .iaload, 0, 0, 0, 0, 0, 0, []) : xm_I) := rfl
theorem r_X11_fridayWith_78 : co_X11_fridayWith[78]? = some ((142, .if_icmp .ne 7, 0, 0, 81, 0, 0, 0, []) : xm_I) := rfl
theorem r_X11_fridayWith_79 : co_X11_fridayWith[79]? = some ((145, .iload_n 1, 0, 0, 0, 0, 0, 0, []) : xm_I) := rfl
theorem r_X11_fridayWith_80 : co_X11_fridayWith[80]? = some ((146, .goto 5, 0, 0, 82, 0, 0, 0, []) : xm_I) := rfl
theorem r_X11_fridayWith_81 : co_X11_fridayWith[81]? = some ((149, .iload 5, 0, 0, 0, 0, 0, 0, []) : xm_I) := rfl
theorem r_X11_fridayWith_82 : co_X11_fridayWith[82]? = some ((151, .iload 6, 0, 0, 0, 0, 0, 0, []) : xm_I) := rfl
theorem r_X11_fridayWith_83 : co_X11_fridayWith[83]? = some ((153, .invokevirtual 500, 2028, 312, 3, 10, 0, 0, []) : xm_I) := rfl
theorem r_X11_fridayWith_84 : co_X11_fridayWith[84]? = some ((156, .invokestatic 437, 1909, 0, 0, 2, 0, 0, []) : xm_I) := rfl
theorem r_X11_fridayWith_85 : co_X11_fridayWith[85]? = some ((159, .istore 4, 0, 0, 0, 0, 0, 0, []) : xm_I) := rfl
theorem r_X11_fridayWith_86 : co_X11_fridayWith[86]? = some ((161, .iinc 5 1, 0, 0, 0, 0, 1, 0, []) : xm_I) := rfl
theorem r_X11_fridayWith_87 : co_X11_fridayWith[87]? = some ((164, .goto (-95), 0, 0, 39, 0, 0, 0, []) : xm_I) := rfl
theorem r_X11_fridayWith_88 : co_X11_fridayWith[88]? = some ((167, .iload 4, 0, 0, 0, 0, 0, 0, []) : xm_I) := rfl
theorem r_X11_fridayWith_89 : co_X11_fridayWith[89]? = some ((169, .iload_n 3, 0, 0, 0, 0, 0, 0, []) : xm_I) := rfl
theorem r_X11_fridayWith_90 : co_X11_fridayWith[90]? = some ((170, .if_icmp .ge 33, 0, 0, 106, 0, 0, 0, []) : xm_I) := rfl
theorem r_X11_fridayWith_91 : co_X11_fridayWith[91]? = some ((173, .iconst 0, 0, 0, 0, 0, 0, 0, []) : xm_I) := rfl
theorem r_X11_fridayWith_92 : co_X11_fridayWith[92]? = some ((174, .istore 5, 0, 0, 0, 0, 0, 0, []) : xm_I) := rfl
theorem r_X11_fridayWith_93 : co_X11_fridayWith[93]? = some ((176, .iload 5, 0, 0, 0, 0, 0, 0, []) : xm_I) := rfl
theorem r_X11_fridayWith_94 : co_X11_fridayWith[94]? = some ((178, .bipush 6, 0, 0, 0, 0, 6, 0, []) : xm_I) := rfl
theorem r_X11_fridayWith_95 : co_X11_fridayWith[95]? = some ((180, .if_icmp .ge 23, 0, 0, 106, 0, 0, 0, []) : xm_I) := rfl
theorem r_X11_fridayWith_96 : co_X11_fridayWith[96]? = some ((183, .aload_n 0, 0, 0, 0, 0, 0, 0, []) : xm_I) := rfl
theorem r_X11_fridayWith_97 : co_X11_fridayWith[97]? = some ((184, .getfield 64, 1412, 10, 32, 2, 0, 0, []) : xm_I) := rfl
theorem r_X11_fridayWith_98 : co_X11_fridayWith[98]? = some ((187, .iload 5, 0, 0, 0, 0, 0, 0, []) : xm_I) := rfl
theorem r_X11_fridayWith_99 : co_X11_fridayWith[99]? = some ((189, .aload_n 0, 0, 0, 0, 0, 0, 0, []) : xm_I) := rfl
theorem r_X11_fridayWith_100 : co_X11_fridayWith[100]? = some ((190, .getfield 61, 1411, 10, 31, 2, 0, 0, []) : xm_I) := rfl
theorem r_X11_fridayWith_101 : co_X11_fridayWith[101]? = some ((193, .iload 5, 0, 0, 0, 0, 0, 0, []) : xm_I) := rfl
theorem r_X11_fridayWith_102 : co_X11_fridayWith[102]? = some ((195, .iaload, 0, 0, 0, 0, 0, 0, []) : xm_I) := rfl
theorem r_X11_fridayWith_103 : co_X11_fridayWith[103]? = some ((196, .iastore, 0, 0, 0, 0, 0, 0, []) : xm_I) := rfl
theorem r_X11_fridayWith_104 : co_X11_fridayWith[104]? = some ((197, .iinc 5 1, 0, 0, 0, 0, 1, 0, []) : xm_I) := rfl
theorem r_X11_fridayWith_105 : co_X11_fridayWith[105]? = some ((200, .goto (-24), 0, 0, 93, 0, 0, 0, []) : xm_I) := rfl
theorem r_X11_fridayWith_106 : co_X11_fridayWith[106]? = some ((203, .iload_n 3, 0, 0, 0, 0, 0, 0, []) : xm_I) := rfl
theorem r_X11_fridayWith_107 : co_X11_fridayWith[107]? = some ((204, .iload 4, 0, 0, 0, 0, 0, 0, []) : xm_I) := rfl
theorem r_X11_fridayWith_108 : co_X11_fridayWith[108]? = some ((206, .invokestatic 119, 1539, 0, 0, 3, 0, 0, []) : xm_I) := rfl
theorem r_X11_fridayWith_109 : co_X11_fridayWith[109]? = some ((209, .istore_n 3, 0, 0, 0, 0, 0, 0, []) : xm_I) := rfl
theorem r_X11_fridayWith_110 : co_X11_fridayWith[110]? = some ((210, .aload_n 0, 0, 0, 0, 0, 0, 0, []) : xm_I) := rfl
theorem r_X11_fridayWith_111 : co_X11_fridayWith[111]? = some ((211, .iload_n 2, 0, 0, 0, 0, 0, 0, []) : xm_I) := rfl
theorem r_X11_fridayWith_112 : co_X11_fridayWith[112]? = some ((212, .invokevirtual 503, 2052, 318, 2, 10, 0, 0, []) : xm_I) := rfl
theorem r_X11_fridayWith_113 : co_X11_fridayWith[113]? = some ((215, .ifCond .ne (-152), 0, 0, 35, 0, 0, 0, []) : xm_I) := rfl
theorem r_X11_fridayWith_114 : co_X11_fridayWith[114]? = some ((218, .iload_n 3, 0, 0, 0, 0, 0, 0, []) : xm_I) := rfl
theorem r_X11_fridayWith_115 : co_X11_fridayWith[115]? = some ((219, .ireturn, 0, 0, 0, 0, 0, 0, []) : xm_I) := rfl
theorem p_X11_fridayWith_0_0 {X : xm_X} {P : List xm_M} {d : Nat} {h : xm_H} {l0 : Nat} {l1 : Int32} {v0 : Nat} {n1 : Nat} {ro : Option Value} {ho : xm_H} (q0 : X.1[l0]? = some (.inr 10)) (q1 : h.2.2 l0 1 = some v0) (q2 : X.1[v0]? = some (.inl (0, n1))) (q3 : 20 < n1) (q4 : l1 = (-1 : Int32)) (q5 : 21 < n1) (q6 : h.1 v0 21 ≤ (0 : Int32)) (K : xm_E X P d co_X11_fridayWith 25 [some (.ref l0), some (.int l1), some (.int ((h.1 v0 20) + (0 : Int32))), some (.int (1000000000 : Int32)), some (.int (0 : Int32)), none, none, none] [] h ro ho) : xm_E X P d co_X11_fridayWith 0 [some (.ref l0), some (.int l1), none, none, none, none, none, none] [] h ro ho := by
  refine xm_E_s r_X11_fridayWith_0 rfl rfl ?_
  refine xm_E_s r_X11_fridayWith_1 rfl (xm_T_gr rfl q0 rfl rfl q1) ?_
  refine xm_E_s r_X11_fridayWith_2 rfl rfl ?_
  refine xm_E_s r_X11_fridayWith_3 rfl (xm_T_iald rfl q2 (by decide) (fun e => e.elim (fun e => absurd e (by decide)) (fun e => Nat.not_le.mpr q3 e))) ?_
  refine xm_E_s r_X11_fridayWith_4 rfl rfl ?_
  refine xm_E_s r_X11_fridayWith_5 rfl rfl ?_
  refine xm_E_s r_X11_fridayWith_6 rfl rfl ?_
  refine xm_E_t q4 ?_
  refine xm_E_s r_X11_fridayWith_7 rfl rfl ?_
  refine xm_E_s r_X11_fridayWith_8 rfl rfl ?_
  refine xm_E_s r_X11_fridayWith_10 rfl rfl ?_
  refine xm_E_s (ls1 := [some (.ref l0), some (.int l1), some (.int ((h.1 v0 20) + (0 : Int32))), none, none, none, none, none]) r_X11_fridayWith_11 rfl rfl ?_
  refine xm_E_s r_X11_fridayWith_12 rfl rfl ?_
  refine xm_E_s r_X11_fridayWith_13 rfl (xm_T_gr rfl q0 rfl rfl q1) ?_
  refine xm_E_s r_X11_fridayWith_14 rfl rfl ?_
  refine xm_E_s r_X11_fridayWith_15 rfl (xm_T_iald rfl q2 (by decide) (fun e => e.elim (fun e => absurd e (by decide)) (fun e => Nat.not_le.mpr q5 e))) ?_
  refine xm_E_s r_X11_fridayWith_16 rfl rfl ?_
  refine xm_E_t q6 ?_
  refine xm_E_s r_X11_fridayWith_21 rfl rfl ?_
  refine xm_E_s (ls1 := [some (.ref l0), some (.int l1), some (.int ((h.1 v0 20) + (0 : Int32))), some (.int (1000000000 : Int32)), none, none, none, none]) r_X11_fridayWith_22 rfl rfl ?_
  refine xm_E_s r_X11_fridayWith_23 rfl rfl ?_
  refine xm_E_s (ls1 := [some (.ref l0), some (.int l1), some (.int ((h.1 v0 20) + (0 : Int32))), some (.int (1000000000 : Int32)), some (.int (0 : Int32)), none, none, none]) r_X11_fridayWith_24 rfl rfl ?_
  exact K
theorem p_X11_fridayWith_0_1 {X : xm_X} {P : List xm_M} {d : Nat} {h : xm_H} {l0 : Nat} {l1 : Int32} {v0 : Nat} {n1 : Nat} (q0 : X.1[l0]? = some (.inr 10)) (q1 : h.2.2 l0 1 = some v0) (q2 : X.1[v0]? = some (.inl (0, n1))) (q3 : 20 < n1) (q4 : l1 = (-1 : Int32)) (q5 : 21 < n1) (q6 : ¬ (h.1 v0 21 ≤ (0 : Int32))) (q7 : (h.1 v0 20) + (0 : Int32) = (0 : Int32)) : xm_E X P d co_X11_fridayWith 0 [some (.ref l0), some (.int l1), none, none, none, none, none, none] [] h (some (.int (-1 : Int32))) h := by
  refine xm_E_s r_X11_fridayWith_0 rfl rfl ?_
  refine xm_E_s r_X11_fridayWith_1 rfl (xm_T_gr rfl q0 rfl rfl q1) ?_
  refine xm_E_s r_X11_fridayWith_2 rfl rfl ?_
  refine xm_E_s r_X11_fridayWith_3 rfl (xm_T_iald rfl q2 (by decide) (fun e => e.elim (fun e => absurd e (by decide)) (fun e => Nat.not_le.mpr q3 e))) ?_
  refine xm_E_s r_X11_fridayWith_4 rfl rfl ?_
  refine xm_E_s r_X11_fridayWith_5 rfl rfl ?_
  refine xm_E_s r_X11_fridayWith_6 rfl rfl ?_
  refine xm_E_t q4 ?_
  refine xm_E_s r_X11_fridayWith_7 rfl rfl ?_
  refine xm_E_s r_X11_fridayWith_8 rfl rfl ?_
  refine xm_E_s r_X11_fridayWith_10 rfl rfl ?_
  refine xm_E_s (ls1 := [some (.ref l0), some (.int l1), some (.int ((h.1 v0 20) + (0 : Int32))), none, none, none, none, none]) r_X11_fridayWith_11 rfl rfl ?_
  refine xm_E_s r_X11_fridayWith_12 rfl rfl ?_
  refine xm_E_s r_X11_fridayWith_13 rfl (xm_T_gr rfl q0 rfl rfl q1) ?_
  refine xm_E_s r_X11_fridayWith_14 rfl rfl ?_
  refine xm_E_s r_X11_fridayWith_15 rfl (xm_T_iald rfl q2 (by decide) (fun e => e.elim (fun e => absurd e (by decide)) (fun e => Nat.not_le.mpr q5 e))) ?_
  refine xm_E_s r_X11_fridayWith_16 rfl rfl ?_
  refine xm_E_f q6 ?_
  refine xm_E_s r_X11_fridayWith_17 rfl rfl ?_
  refine xm_E_s r_X11_fridayWith_18 rfl rfl ?_
  refine xm_E_t q7 ?_
  refine xm_E_s r_X11_fridayWith_19 rfl rfl ?_
  exact xm_E_iret r_X11_fridayWith_20 rfl rfl
theorem p_X11_fridayWith_0_2 {X : xm_X} {P : List xm_M} {d : Nat} {h : xm_H} {l0 : Nat} {l1 : Int32} {v0 : Nat} {n1 : Nat} {ro : Option Value} {ho : xm_H} (q0 : X.1[l0]? = some (.inr 10)) (q1 : h.2.2 l0 1 = some v0) (q2 : X.1[v0]? = some (.inl (0, n1))) (q3 : 20 < n1) (q4 : l1 = (-1 : Int32)) (q5 : 21 < n1) (q6 : ¬ (h.1 v0 21 ≤ (0 : Int32))) (q7 : ¬ ((h.1 v0 20) + (0 : Int32) = (0 : Int32))) (K : xm_E X P d co_X11_fridayWith 25 [some (.ref l0), some (.int l1), some (.int ((h.1 v0 20) + (0 : Int32))), some (.int (1000000000 : Int32)), some (.int (0 : Int32)), none, none, none] [] h ro ho) : xm_E X P d co_X11_fridayWith 0 [some (.ref l0), some (.int l1), none, none, none, none, none, none] [] h ro ho := by
  refine xm_E_s r_X11_fridayWith_0 rfl rfl ?_
  refine xm_E_s r_X11_fridayWith_1 rfl (xm_T_gr rfl q0 rfl rfl q1) ?_
  refine xm_E_s r_X11_fridayWith_2 rfl rfl ?_
  refine xm_E_s r_X11_fridayWith_3 rfl (xm_T_iald rfl q2 (by decide) (fun e => e.elim (fun e => absurd e (by decide)) (fun e => Nat.not_le.mpr q3 e))) ?_
  refine xm_E_s r_X11_fridayWith_4 rfl rfl ?_
  refine xm_E_s r_X11_fridayWith_5 rfl rfl ?_
  refine xm_E_s r_X11_fridayWith_6 rfl rfl ?_
  refine xm_E_t q4 ?_
  refine xm_E_s r_X11_fridayWith_7 rfl rfl ?_
  refine xm_E_s r_X11_fridayWith_8 rfl rfl ?_
  refine xm_E_s r_X11_fridayWith_10 rfl rfl ?_
  refine xm_E_s (ls1 := [some (.ref l0), some (.int l1), some (.int ((h.1 v0 20) + (0 : Int32))), none, none, none, none, none]) r_X11_fridayWith_11 rfl rfl ?_
  refine xm_E_s r_X11_fridayWith_12 rfl rfl ?_
  refine xm_E_s r_X11_fridayWith_13 rfl (xm_T_gr rfl q0 rfl rfl q1) ?_
  refine xm_E_s r_X11_fridayWith_14 rfl rfl ?_
  refine xm_E_s r_X11_fridayWith_15 rfl (xm_T_iald rfl q2 (by decide) (fun e => e.elim (fun e => absurd e (by decide)) (fun e => Nat.not_le.mpr q5 e))) ?_
  refine xm_E_s r_X11_fridayWith_16 rfl rfl ?_
  refine xm_E_f q6 ?_
  refine xm_E_s r_X11_fridayWith_17 rfl rfl ?_
  refine xm_E_s r_X11_fridayWith_18 rfl rfl ?_
  refine xm_E_f q7 ?_
  refine xm_E_s r_X11_fridayWith_21 rfl rfl ?_
  refine xm_E_s (ls1 := [some (.ref l0), some (.int l1), some (.int ((h.1 v0 20) + (0 : Int32))), some (.int (1000000000 : Int32)), none, none, none, none]) r_X11_fridayWith_22 rfl rfl ?_
  refine xm_E_s r_X11_fridayWith_23 rfl rfl ?_
  refine xm_E_s (ls1 := [some (.ref l0), some (.int l1), some (.int ((h.1 v0 20) + (0 : Int32))), some (.int (1000000000 : Int32)), some (.int (0 : Int32)), none, none, none]) r_X11_fridayWith_24 rfl rfl ?_
  exact K
theorem p_X11_fridayWith_0_3 {X : xm_X} {P : List xm_M} {d : Nat} {h : xm_H} {l0 : Nat} {l1 : Int32} {v0 : Nat} {n1 : Nat} {ro : Option Value} {ho : xm_H} (q0 : X.1[l0]? = some (.inr 10)) (q1 : h.2.2 l0 1 = some v0) (q2 : X.1[v0]? = some (.inl (0, n1))) (q3 : 20 < n1) (q4 : ¬ (l1 = (-1 : Int32))) (q5 : 21 < n1) (q6 : h.1 v0 21 ≤ (0 : Int32)) (K : xm_E X P d co_X11_fridayWith 25 [some (.ref l0), some (.int l1), some (.int ((h.1 v0 20) + (1 : Int32))), some (.int (1000000000 : Int32)), some (.int (0 : Int32)), none, none, none] [] h ro ho) : xm_E X P d co_X11_fridayWith 0 [some (.ref l0), some (.int l1), none, none, none, none, none, none] [] h ro ho := by
  refine xm_E_s r_X11_fridayWith_0 rfl rfl ?_
  refine xm_E_s r_X11_fridayWith_1 rfl (xm_T_gr rfl q0 rfl rfl q1) ?_
  refine xm_E_s r_X11_fridayWith_2 rfl rfl ?_
  refine xm_E_s r_X11_fridayWith_3 rfl (xm_T_iald rfl q2 (by decide) (fun e => e.elim (fun e => absurd e (by decide)) (fun e => Nat.not_le.mpr q3 e))) ?_
  refine xm_E_s r_X11_fridayWith_4 rfl rfl ?_
  refine xm_E_s r_X11_fridayWith_5 rfl rfl ?_
  refine xm_E_s r_X11_fridayWith_6 rfl rfl ?_
  refine xm_E_f q4 ?_
  refine xm_E_s r_X11_fridayWith_9 rfl rfl ?_
  refine xm_E_s r_X11_fridayWith_10 rfl rfl ?_
  refine xm_E_s (ls1 := [some (.ref l0), some (.int l1), some (.int ((h.1 v0 20) + (1 : Int32))), none, none, none, none, none]) r_X11_fridayWith_11 rfl rfl ?_
  refine xm_E_s r_X11_fridayWith_12 rfl rfl ?_
  refine xm_E_s r_X11_fridayWith_13 rfl (xm_T_gr rfl q0 rfl rfl q1) ?_
  refine xm_E_s r_X11_fridayWith_14 rfl rfl ?_
  refine xm_E_s r_X11_fridayWith_15 rfl (xm_T_iald rfl q2 (by decide) (fun e => e.elim (fun e => absurd e (by decide)) (fun e => Nat.not_le.mpr q5 e))) ?_
  refine xm_E_s r_X11_fridayWith_16 rfl rfl ?_
  refine xm_E_t q6 ?_
  refine xm_E_s r_X11_fridayWith_21 rfl rfl ?_
  refine xm_E_s (ls1 := [some (.ref l0), some (.int l1), some (.int ((h.1 v0 20) + (1 : Int32))), some (.int (1000000000 : Int32)), none, none, none, none]) r_X11_fridayWith_22 rfl rfl ?_
  refine xm_E_s r_X11_fridayWith_23 rfl rfl ?_
  refine xm_E_s (ls1 := [some (.ref l0), some (.int l1), some (.int ((h.1 v0 20) + (1 : Int32))), some (.int (1000000000 : Int32)), some (.int (0 : Int32)), none, none, none]) r_X11_fridayWith_24 rfl rfl ?_
  exact K
theorem p_X11_fridayWith_0_4 {X : xm_X} {P : List xm_M} {d : Nat} {h : xm_H} {l0 : Nat} {l1 : Int32} {v0 : Nat} {n1 : Nat} (q0 : X.1[l0]? = some (.inr 10)) (q1 : h.2.2 l0 1 = some v0) (q2 : X.1[v0]? = some (.inl (0, n1))) (q3 : 20 < n1) (q4 : ¬ (l1 = (-1 : Int32))) (q5 : 21 < n1) (q6 : ¬ (h.1 v0 21 ≤ (0 : Int32))) (q7 : (h.1 v0 20) + (1 : Int32) = (0 : Int32)) : xm_E X P d co_X11_fridayWith 0 [some (.ref l0), some (.int l1), none, none, none, none, none, none] [] h (some (.int (-1 : Int32))) h := by
  refine xm_E_s r_X11_fridayWith_0 rfl rfl ?_
  refine xm_E_s r_X11_fridayWith_1 rfl (xm_T_gr rfl q0 rfl rfl q1) ?_
  refine xm_E_s r_X11_fridayWith_2 rfl rfl ?_
  refine xm_E_s r_X11_fridayWith_3 rfl (xm_T_iald rfl q2 (by decide) (fun e => e.elim (fun e => absurd e (by decide)) (fun e => Nat.not_le.mpr q3 e))) ?_
  refine xm_E_s r_X11_fridayWith_4 rfl rfl ?_
  refine xm_E_s r_X11_fridayWith_5 rfl rfl ?_
  refine xm_E_s r_X11_fridayWith_6 rfl rfl ?_
  refine xm_E_f q4 ?_
  refine xm_E_s r_X11_fridayWith_9 rfl rfl ?_
  refine xm_E_s r_X11_fridayWith_10 rfl rfl ?_
  refine xm_E_s (ls1 := [some (.ref l0), some (.int l1), some (.int ((h.1 v0 20) + (1 : Int32))), none, none, none, none, none]) r_X11_fridayWith_11 rfl rfl ?_
  refine xm_E_s r_X11_fridayWith_12 rfl rfl ?_
  refine xm_E_s r_X11_fridayWith_13 rfl (xm_T_gr rfl q0 rfl rfl q1) ?_
  refine xm_E_s r_X11_fridayWith_14 rfl rfl ?_
  refine xm_E_s r_X11_fridayWith_15 rfl (xm_T_iald rfl q2 (by decide) (fun e => e.elim (fun e => absurd e (by decide)) (fun e => Nat.not_le.mpr q5 e))) ?_
  refine xm_E_s r_X11_fridayWith_16 rfl rfl ?_
  refine xm_E_f q6 ?_
  refine xm_E_s r_X11_fridayWith_17 rfl rfl ?_
  refine xm_E_s r_X11_fridayWith_18 rfl rfl ?_
  refine xm_E_t q7 ?_
  refine xm_E_s r_X11_fridayWith_19 rfl rfl ?_
  exact xm_E_iret r_X11_fridayWith_20 rfl rfl
theorem p_X11_fridayWith_0_5 {X : xm_X} {P : List xm_M} {d : Nat} {h : xm_H} {l0 : Nat} {l1 : Int32} {v0 : Nat} {n1 : Nat} {ro : Option Value} {ho : xm_H} (q0 : X.1[l0]? = some (.inr 10)) (q1 : h.2.2 l0 1 = some v0) (q2 : X.1[v0]? = some (.inl (0, n1))) (q3 : 20 < n1) (q4 : ¬ (l1 = (-1 : Int32))) (q5 : 21 < n1) (q6 : ¬ (h.1 v0 21 ≤ (0 : Int32))) (q7 : ¬ ((h.1 v0 20) + (1 : Int32) = (0 : Int32))) (K : xm_E X P d co_X11_fridayWith 25 [some (.ref l0), some (.int l1), some (.int ((h.1 v0 20) + (1 : Int32))), some (.int (1000000000 : Int32)), some (.int (0 : Int32)), none, none, none] [] h ro ho) : xm_E X P d co_X11_fridayWith 0 [some (.ref l0), some (.int l1), none, none, none, none, none, none] [] h ro ho := by
  refine xm_E_s r_X11_fridayWith_0 rfl rfl ?_
  refine xm_E_s r_X11_fridayWith_1 rfl (xm_T_gr rfl q0 rfl rfl q1) ?_
  refine xm_E_s r_X11_fridayWith_2 rfl rfl ?_
  refine xm_E_s r_X11_fridayWith_3 rfl (xm_T_iald rfl q2 (by decide) (fun e => e.elim (fun e => absurd e (by decide)) (fun e => Nat.not_le.mpr q3 e))) ?_
  refine xm_E_s r_X11_fridayWith_4 rfl rfl ?_
  refine xm_E_s r_X11_fridayWith_5 rfl rfl ?_
  refine xm_E_s r_X11_fridayWith_6 rfl rfl ?_
  refine xm_E_f q4 ?_
  refine xm_E_s r_X11_fridayWith_9 rfl rfl ?_
  refine xm_E_s r_X11_fridayWith_10 rfl rfl ?_
  refine xm_E_s (ls1 := [some (.ref l0), some (.int l1), some (.int ((h.1 v0 20) + (1 : Int32))), none, none, none, none, none]) r_X11_fridayWith_11 rfl rfl ?_
  refine xm_E_s r_X11_fridayWith_12 rfl rfl ?_
  refine xm_E_s r_X11_fridayWith_13 rfl (xm_T_gr rfl q0 rfl rfl q1) ?_
  refine xm_E_s r_X11_fridayWith_14 rfl rfl ?_
  refine xm_E_s r_X11_fridayWith_15 rfl (xm_T_iald rfl q2 (by decide) (fun e => e.elim (fun e => absurd e (by decide)) (fun e => Nat.not_le.mpr q5 e))) ?_
  refine xm_E_s r_X11_fridayWith_16 rfl rfl ?_
  refine xm_E_f q6 ?_
  refine xm_E_s r_X11_fridayWith_17 rfl rfl ?_
  refine xm_E_s r_X11_fridayWith_18 rfl rfl ?_
  refine xm_E_f q7 ?_
  refine xm_E_s r_X11_fridayWith_21 rfl rfl ?_
  refine xm_E_s (ls1 := [some (.ref l0), some (.int l1), some (.int ((h.1 v0 20) + (1 : Int32))), some (.int (1000000000 : Int32)), none, none, none, none]) r_X11_fridayWith_22 rfl rfl ?_
  refine xm_E_s r_X11_fridayWith_23 rfl rfl ?_
  refine xm_E_s (ls1 := [some (.ref l0), some (.int l1), some (.int ((h.1 v0 20) + (1 : Int32))), some (.int (1000000000 : Int32)), some (.int (0 : Int32)), none, none, none]) r_X11_fridayWith_24 rfl rfl ?_
  exact K
theorem p_X11_fridayWith_25_0 {X : xm_X} {P : List xm_M} {d : Nat} {h : xm_H} {l0 : Nat} {l1 : Int32} {l2 : Int32} {l3 : Int32} {l4 : Int32} {ro : Option Value} {ho : xm_H} (q0 : (6 : Int32) ≤ l4) (K : xm_E X P d co_X11_fridayWith 35 [some (.ref l0), some (.int l1), some (.int l2), some (.int l3), some (.int l4), none, none, none] [] h ro ho) : xm_E X P d co_X11_fridayWith 25 [some (.ref l0), some (.int l1), some (.int l2), some (.int l3), some (.int l4), none, none, none] [] h ro ho := by
  refine xm_E_s r_X11_fridayWith_25 rfl rfl ?_
  refine xm_E_s r_X11_fridayWith_26 rfl rfl ?_
  refine xm_E_s r_X11_fridayWith_27 rfl rfl ?_
  refine xm_E_t q0 ?_
  exact K
theorem p_X11_fridayWith_25_1 {X : xm_X} {P : List xm_M} {d : Nat} {h : xm_H} {l0 : Nat} {l1 : Int32} {l2 : Int32} {l3 : Int32} {l4 : Int32} {v0 : Nat} {n1 : Nat} {ro : Option Value} {ho : xm_H} (q0 : ¬ ((6 : Int32) ≤ l4)) (q1 : X.1[l0]? = some (.inr 10)) (q2 : h.2.2 l0 31 = some v0) (q3 : X.1[v0]? = some (.inl (0, n1))) (q4 : ¬ (l4 < 0 ∨ n1 ≤ l4.toNatClampNeg)) (K : xm_E X P d co_X11_fridayWith 25 [some (.ref l0), some (.int l1), some (.int l2), some (.int l3), some (.int (l4 + (1 : Int32))), none, none, none] [] (xm_si h v0 l4.toNatClampNeg (0 : Int32)) ro ho) : xm_E X P d co_X11_fridayWith 25 [some (.ref l0), some (.int l1), some (.int l2), some (.int l3), some (.int l4), none, none, none] [] h ro ho := by
  refine xm_E_s r_X11_fridayWith_25 rfl rfl ?_
  refine xm_E_s r_X11_fridayWith_26 rfl rfl ?_
  refine xm_E_s r_X11_fridayWith_27 rfl rfl ?_
  refine xm_E_f q0 ?_
  refine xm_E_s r_X11_fridayWith_28 rfl rfl ?_
  refine xm_E_s r_X11_fridayWith_29 rfl (xm_T_gr rfl q1 rfl rfl q2) ?_
  refine xm_E_s r_X11_fridayWith_30 rfl rfl ?_
  refine xm_E_s r_X11_fridayWith_31 rfl rfl ?_
  refine xm_E_s r_X11_fridayWith_32 rfl (xm_T_asi rfl q3 q4) ?_
  refine xm_E_s (ls1 := [some (.ref l0), some (.int l1), some (.int l2), some (.int l3), some (.int (l4 + (1 : Int32))), none, none, none]) r_X11_fridayWith_33 rfl rfl ?_
  refine xm_E_s r_X11_fridayWith_34 rfl rfl ?_
  exact K
theorem p_X11_fridayWith_35_0 {X : xm_X} {P : List xm_M} {d : Nat} {h : xm_H} {l0 : Nat} {l1 : Int32} {l2 : Int32} {l3 : Int32} {l4 : Int32} {l5 : Option Value} {l6 : Option Value} {l7 : Option Value} {ro : Option Value} {ho : xm_H}  (K : xm_E X P d co_X11_fridayWith 39 [some (.ref l0), some (.int l1), some (.int l2), some (.int l3), some (.int (0 : Int32)), some (.int (0 : Int32)), l6, l7] [] h ro ho) : xm_E X P d co_X11_fridayWith 35 [some (.ref l0), some (.int l1), some (.int l2), some (.int l3), some (.int l4), l5, l6, l7] [] h ro ho := by
  refine xm_E_s r_X11_fridayWith_35 rfl rfl ?_
  refine xm_E_s (ls1 := [some (.ref l0), some (.int l1), some (.int l2), some (.int l3), some (.int (0 : Int32)), l5, l6, l7]) r_X11_fridayWith_36 rfl rfl ?_
  refine xm_E_s r_X11_fridayWith_37 rfl rfl ?_
  refine xm_E_s (ls1 := [some (.ref l0), some (.int l1), some (.int l2), some (.int l3), some (.int (0 : Int32)), some (.int (0 : Int32)), l6, l7]) r_X11_fridayWith_38 rfl rfl ?_
  exact K
theorem p_X11_fridayWith_39_0 {X : xm_X} {P : List xm_M} {d : Nat} {h : xm_H} {l0 : Nat} {l1 : Int32} {l2 : Int32} {l3 : Int32} {l4 : Int32} {l5 : Int32} {l6 : Option Value} {l7 : Option Value} {h0 : xm_H} {r0 : Int32} (q0 : l2 ≤ l5) (q1 : l3 ≤ l4) (q2 : xm_V X P d 318 [.ref l0, .int l2] h (some (.int r0)) h0) (q3 : X.1[l0]? = some (.inr 10)) (q4 : r0 = (0 : Int32)) : xm_E X P d co_X11_fridayWith 39 [some (.ref l0), some (.int l1), some (.int l2), some (.int l3), some (.int l4), some (.int l5), l6, l7] [] h (some (.int (if l4 < l3 then l4 else l3))) h0 := by
  refine xm_E_s r_X11_fridayWith_39 rfl rfl ?_
  refine xm_E_s r_X11_fridayWith_40 rfl rfl ?_
  refine xm_E_s r_X11_fridayWith_41 rfl rfl ?_
  refine xm_E_t q0 ?_
  refine xm_E_s r_X11_fridayWith_88 rfl rfl ?_
  refine xm_E_s r_X11_fridayWith_89 rfl rfl ?_
  refine xm_E_s r_X11_fridayWith_90 rfl rfl ?_
  refine xm_E_t q1 ?_
  refine xm_E_s r_X11_fridayWith_106 rfl rfl ?_
  refine xm_E_s r_X11_fridayWith_107 rfl rfl ?_
  refine xm_E_s r_X11_fridayWith_108 rfl rfl ?_
  refine xm_E_s (ls1 := [some (.ref l0), some (.int l1), some (.int l2), some (.int (if l4 < l3 then l4 else l3)), some (.int l4), some (.int l5), l6, l7]) r_X11_fridayWith_109 rfl rfl ?_
  refine xm_E_s r_X11_fridayWith_110 rfl rfl ?_
  refine xm_E_s r_X11_fridayWith_111 rfl rfl ?_
  refine xm_E_cv [.ref l0, .int l2] [] r_X11_fridayWith_112 rfl rfl (Nat.le_of_ble_eq_true rfl) (xm_rc q3 (by decide)) rfl q2 ?_
  refine xm_E_s r_X11_fridayWith_113 rfl rfl ?_
  refine xm_E_t q4 ?_
  refine xm_E_s r_X11_fridayWith_114 rfl rfl ?_
  exact xm_E_iret r_X11_fridayWith_115 rfl rfl
theorem p_X11_fridayWith_39_1 {X : xm_X} {P : List xm_M} {d : Nat} {h : xm_H} {l0 : Nat} {l1 : Int32} {l2 : Int32} {l3 : Int32} {l4 : Int32} {l5 : Int32} {l6 : Option Value} {l7 : Option Value} {h0 : xm_H} {r0 : Int32} {ro : Option Value} {ho : xm_H} (q0 : l2 ≤ l5) (q1 : l3 ≤ l4) (q2 : xm_V X P d 318 [.ref l0, .int l2] h (some (.int r0)) h0) (q3 : X.1[l0]? = some (.inr 10)) (q4 : ¬ (r0 = (0 : Int32))) (K : xm_E X P d co_X11_fridayWith 35 [some (.ref l0), some (.int l1), some (.int l2), some (.int (if l4 < l3 then l4 else l3)), some (.int l4), some (.int l5), l6, l7] [] h0 ro ho) : xm_E X P d co_X11_fridayWith 39 [some (.ref l0), some (.int l1), some (.int l2), some (.int l3), some (.int l4), some (.int l5), l6, l7] [] h ro ho := by
  refine xm_E_s r_X11_fridayWith_39 rfl rfl ?_
  refine xm_E_s r_X11_fridayWith_40 rfl rfl ?_
  refine xm_E_s r_X11_fridayWith_41 rfl rfl ?_
  refine xm_E_t q0 ?_
  refine xm_E_s r_X11_fridayWith_88 rfl rfl ?_
  refine xm_E_s r_X11_fridayWith_89 rfl rfl ?_
  refine xm_E_s r_X11_fridayWith_90 rfl rfl ?_
  refine xm_E_t q1 ?_
  refine xm_E_s r_X11_fridayWith_106 rfl rfl ?_
  refine xm_E_s r_X11_fridayWith_107 rfl rfl ?_
  refine xm_E_s r_X11_fridayWith_108 rfl rfl ?_
  refine xm_E_s (ls1 := [some (.ref l0), some (.int l1), some (.int l2), some (.int (if l4 < l3 then l4 else l3)), some (.int l4), some (.int l5), l6, l7]) r_X11_fridayWith_109 rfl rfl ?_
  refine xm_E_s r_X11_fridayWith_110 rfl rfl ?_
  refine xm_E_s r_X11_fridayWith_111 rfl rfl ?_
  refine xm_E_cv [.ref l0, .int l2] [] r_X11_fridayWith_112 rfl rfl (Nat.le_of_ble_eq_true rfl) (xm_rc q3 (by decide)) rfl q2 ?_
  refine xm_E_s r_X11_fridayWith_113 rfl rfl ?_
  refine xm_E_f q4 ?_
  exact K
theorem p_X11_fridayWith_39_2 {X : xm_X} {P : List xm_M} {d : Nat} {h : xm_H} {l0 : Nat} {l1 : Int32} {l2 : Int32} {l3 : Int32} {l4 : Int32} {l5 : Int32} {l6 : Option Value} {l7 : Option Value} {ro : Option Value} {ho : xm_H} (q0 : l2 ≤ l5) (q1 : ¬ (l3 ≤ l4)) (K : xm_E X P d co_X11_fridayWith 93 [some (.ref l0), some (.int l1), some (.int l2), some (.int l3), some (.int l4), some (.int (0 : Int32)), l6, l7] [] h ro ho) : xm_E X P d co_X11_fridayWith 39 [some (.ref l0), some (.int l1), some (.int l2), some (.int l3), some (.int l4), some (.int l5), l6, l7] [] h ro ho := by
  refine xm_E_s r_X11_fridayWith_39 rfl rfl ?_
  refine xm_E_s r_X11_fridayWith_40 rfl rfl ?_
  refine xm_E_s r_X11_fridayWith_41 rfl rfl ?_
  refine xm_E_t q0 ?_
  refine xm_E_s r_X11_fridayWith_88 rfl rfl ?_
  refine xm_E_s r_X11_fridayWith_89 rfl rfl ?_
  refine xm_E_s r_X11_fridayWith_90 rfl rfl ?_
  refine xm_E_f q1 ?_
  refine xm_E_s r_X11_fridayWith_91 rfl rfl ?_
  refine xm_E_s (ls1 := [some (.ref l0), some (.int l1), some (.int l2), some (.int l3), some (.int l4), some (.int (0 : Int32)), l6, l7]) r_X11_fridayWith_92 rfl rfl ?_
  exact K
theorem p_X11_fridayWith_39_3 {X : xm_X} {P : List xm_M} {d : Nat} {h : xm_H} {l0 : Nat} {l1 : Int32} {l2 : Int32} {l3 : Int32} {l4 : Int32} {l5 : Int32} {l6 : Option Value} {l7 : Option Value} {ro : Option Value} {ho : xm_H} (q0 : ¬ (l2 ≤ l5)) (K : xm_E X P d co_X11_fridayWith 46 [some (.ref l0), some (.int l1), some (.int l2), some (.int l3), some (.int l4), some (.int l5), some (.int (0 : Int32)), some (.int (0 : Int32))] [] h ro ho) : xm_E X P d co_X11_fridayWith 39 [some (.ref l0), some (.int l1), some (.int l2), some (.int l3), some (.int l4), some (.int l5), l6, l7] [] h ro ho := by
  refine xm_E_s r_X11_fridayWith_39 rfl rfl ?_
  refine xm_E_s r_X11_fridayWith_40 rfl rfl ?_
  refine xm_E_s r_X11_fridayWith_41 rfl rfl ?_
  refine xm_E_f q0 ?_
  refine xm_E_s r_X11_fridayWith_42 rfl rfl ?_
  refine xm_E_s (ls1 := [some (.ref l0), some (.int l1), some (.int l2), some (.int l3), some (.int l4), some (.int l5), some (.int (0 : Int32)), l7]) r_X11_fridayWith_43 rfl rfl ?_
  refine xm_E_s r_X11_fridayWith_44 rfl rfl ?_
  refine xm_E_s (ls1 := [some (.ref l0), some (.int l1), some (.int l2), some (.int l3), some (.int l4), some (.int l5), some (.int (0 : Int32)), some (.int (0 : Int32))]) r_X11_fridayWith_45 rfl rfl ?_
  exact K
theorem p_X11_fridayWith_46_0 {X : xm_X} {P : List xm_M} {d : Nat} {h : xm_H} {l0 : Nat} {l1 : Int32} {l2 : Int32} {l3 : Int32} {l4 : Int32} {l5 : Int32} {l6 : Int32} {l7 : Int32} {v0 : Nat} {n1 : Nat} {h2 : xm_H} {r2 : Int32} {ro : Option Value} {ho : xm_H} (q0 : X.1[l0]? = some (.inr 10)) (q1 : h.2.2 l0 1 = some v0) (q2 : X.1[v0]? = some (.inl (0, n1))) (q3 : 21 < n1) (q4 : h.1 v0 21 ≤ l7) (q5 : 20 < n1) (q6 : l5 = h.1 v0 20) (q7 : xm_V X P d 312 [.ref l0, .int l1, .int l6] h (some (.int r2)) h2) (K : xm_E X P d co_X11_fridayWith 39 [some (.ref l0), some (.int l1), some (.int l2), some (.int l3), some (.int (if l4 < r2 then r2 else l4)), some (.int (l5 + (1 : Int32))), some (.int l6), some (.int l7)] [] h2 ro ho) : xm_E X P d co_X11_fridayWith 46 [some (.ref l0), some (.int l1), some (.int l2), some (.int l3), some (.int l4), some (.int l5), some (.int l6), some (.int l7)] [] h ro ho := by
  refine xm_E_s r_X11_fridayWith_46 rfl rfl ?_
  refine xm_E_s r_X11_fridayWith_47 rfl rfl ?_
  refine xm_E_s r_X11_fridayWith_48 rfl (xm_T_gr rfl q0 rfl rfl q1) ?_
  refine xm_E_s r_X11_fridayWith_49 rfl rfl ?_
  refine xm_E_s r_X11_fridayWith_50 rfl (xm_T_iald rfl q2 (by decide) (fun e => e.elim (fun e => absurd e (by decide)) (fun e => Nat.not_le.mpr q3 e))) ?_
  refine xm_E_s r_X11_fridayWith_51 rfl rfl ?_
  refine xm_E_t q4 ?_
  refine xm_E_s r_X11_fridayWith_71 rfl rfl ?_
  refine xm_E_s r_X11_fridayWith_72 rfl rfl ?_
  refine xm_E_s r_X11_fridayWith_73 rfl rfl ?_
  refine xm_E_s r_X11_fridayWith_74 rfl rfl ?_
  refine xm_E_s r_X11_fridayWith_75 rfl (xm_T_gr rfl q0 rfl rfl q1) ?_
  refine xm_E_s r_X11_fridayWith_76 rfl rfl ?_
  refine xm_E_s r_X11_fridayWith_77 rfl (xm_T_iald rfl q2 (by decide) (fun e => e.elim (fun e => absurd e (by decide)) (fun e => Nat.not_le.mpr q5 e))) ?_
  refine xm_E_s r_X11_fridayWith_78 rfl rfl ?_
  refine xm_E_t q6 ?_
  refine xm_E_s r_X11_fridayWith_79 rfl rfl ?_
  refine xm_E_s r_X11_fridayWith_80 rfl rfl ?_
  refine xm_E_s r_X11_fridayWith_82 rfl rfl ?_
  refine xm_E_cv [.ref l0, .int l1, .int l6] [.int l4] r_X11_fridayWith_83 rfl rfl (Nat.le_of_ble_eq_true rfl) (xm_rc q0 (by decide)) rfl q7 ?_
  refine xm_E_s r_X11_fridayWith_84 rfl rfl ?_
  refine xm_E_s (ls1 := [some (.ref l0), some (.int l1), some (.int l2), some (.int l3), some (.int (if l4 < r2 then r2 else l4)), some (.int l5), some (.int l6), some (.int l7)]) r_X11_fridayWith_85 rfl rfl ?_
  refine xm_E_s (ls1 := [some (.ref l0), some (.int l1), some (.int l2), some (.int l3), some (.int (if l4 < r2 then r2 else l4)), some (.int (l5 + (1 : Int32))), some (.int l6), some (.int l7)]) r_X11_fridayWith_86 rfl rfl ?_
  refine xm_E_s r_X11_fridayWith_87 rfl rfl ?_
  exact K
theorem p_X11_fridayWith_46_1 {X : xm_X} {P : List xm_M} {d : Nat} {h : xm_H} {l0 : Nat} {l1 : Int32} {l2 : Int32} {l3 : Int32} {l4 : Int32} {l5 : Int32} {l6 : Int32} {l7 : Int32} {v0 : Nat} {n1 : Nat} {h2 : xm_H} {r2 : Int32} {ro : Option Value} {ho : xm_H} (q0 : X.1[l0]? = some (.inr 10)) (q1 : h.2.2 l0 1 = some v0) (q2 : X.1[v0]? = some (.inl (0, n1))) (q3 : 21 < n1) (q4 : h.1 v0 21 ≤ l7) (q5 : 20 < n1) (q6 : ¬ (l5 = h.1 v0 20)) (q7 : xm_V X P d 312 [.ref l0, .int l5, .int l6] h (some (.int r2)) h2) (K : xm_E X P d co_X11_fridayWith 39 [some (.ref l0), some (.int l1), some (.int l2), some (.int l3), some (.int (if l4 < r2 then r2 else l4)), some (.int (l5 + (1 : Int32))), some (.int l6), some (.int l7)] [] h2 ro ho) : xm_E X P d co_X11_fridayWith 46 [some (.ref l0), some (.int l1), some (.int l2), some (.int l3), some (.int l4), some (.int l5), some (.int l6), some (.int l7)] [] h ro ho := by
  refine xm_E_s r_X11_fridayWith_46 rfl rfl ?_
  refine xm_E_s r_X11_fridayWith_47 rfl rfl ?_
  refine xm_E_s r_X11_fridayWith_48 rfl (xm_T_gr rfl q0 rfl rfl q1) ?_
  refine xm_E_s r_X11_fridayWith_49 rfl rfl ?_
  refine xm_E_s r_X11_fridayWith_50 rfl (xm_T_iald rfl q2 (by decide) (fun e => e.elim (fun e => absurd e (by decide)) (fun e => Nat.not_le.mpr q3 e))) ?_
  refine xm_E_s r_X11_fridayWith_51 rfl rfl ?_
  refine xm_E_t q4 ?_
  refine xm_E_s r_X11_fridayWith_71 rfl rfl ?_
  refine xm_E_s r_X11_fridayWith_72 rfl rfl ?_
  refine xm_E_s r_X11_fridayWith_73 rfl rfl ?_
  refine xm_E_s r_X11_fridayWith_74 rfl rfl ?_
  refine xm_E_s r_X11_fridayWith_75 rfl (xm_T_gr rfl q0 rfl rfl q1) ?_
  refine xm_E_s r_X11_fridayWith_76 rfl rfl ?_
  refine xm_E_s r_X11_fridayWith_77 rfl (xm_T_iald rfl q2 (by decide) (fun e => e.elim (fun e => absurd e (by decide)) (fun e => Nat.not_le.mpr q5 e))) ?_
  refine xm_E_s r_X11_fridayWith_78 rfl rfl ?_
  refine xm_E_f q6 ?_
  refine xm_E_s r_X11_fridayWith_81 rfl rfl ?_
  refine xm_E_s r_X11_fridayWith_82 rfl rfl ?_
  refine xm_E_cv [.ref l0, .int l5, .int l6] [.int l4] r_X11_fridayWith_83 rfl rfl (Nat.le_of_ble_eq_true rfl) (xm_rc q0 (by decide)) rfl q7 ?_
  refine xm_E_s r_X11_fridayWith_84 rfl rfl ?_
  refine xm_E_s (ls1 := [some (.ref l0), some (.int l1), some (.int l2), some (.int l3), some (.int (if l4 < r2 then r2 else l4)), some (.int l5), some (.int l6), some (.int l7)]) r_X11_fridayWith_85 rfl rfl ?_
  refine xm_E_s (ls1 := [some (.ref l0), some (.int l1), some (.int l2), some (.int l3), some (.int (if l4 < r2 then r2 else l4)), some (.int (l5 + (1 : Int32))), some (.int l6), some (.int l7)]) r_X11_fridayWith_86 rfl rfl ?_
  refine xm_E_s r_X11_fridayWith_87 rfl rfl ?_
  exact K
theorem p_X11_fridayWith_46_2 {X : xm_X} {P : List xm_M} {d : Nat} {h : xm_H} {l0 : Nat} {l1 : Int32} {l2 : Int32} {l3 : Int32} {l4 : Int32} {l5 : Int32} {l6 : Int32} {l7 : Int32} {v0 : Nat} {n1 : Nat} {v2 : Nat} {n3 : Nat} {ro : Option Value} {ho : xm_H} (q0 : X.1[l0]? = some (.inr 10)) (q1 : h.2.2 l0 1 = some v0) (q2 : X.1[v0]? = some (.inl (0, n1))) (q3 : 21 < n1) (q4 : ¬ (h.1 v0 21 ≤ l7)) (q5 : h.2.2 l0 31 = some v2) (q6 : X.1[v2]? = some (.inl (0, n3))) (q7 : ¬ (l7 < 0 ∨ n3 ≤ l7.toNatClampNeg)) (q8 : h.1 v2 l7.toNatClampNeg = l5) (q9 : ¬ ((44 : Int32) + l7 < 0 ∨ n1 ≤ ((44 : Int32) + l7).toNatClampNeg)) (K : xm_E X P d co_X11_fridayWith 46 [some (.ref l0), some (.int l1), some (.int l2), some (.int l3), some (.int l4), some (.int l5), some (.int (l6 + (h.1 v0 (((44 : Int32) + l7).toNatClampNeg)))), some (.int (l7 + (1 : Int32)))] [] h ro ho) : xm_E X P d co_X11_fridayWith 46 [some (.ref l0), some (.int l1), some (.int l2), some (.int l3), some (.int l4), some (.int l5), some (.int l6), some (.int l7)] [] h ro ho := by
  refine xm_E_s r_X11_fridayWith_46 rfl rfl ?_
  refine xm_E_s r_X11_fridayWith_47 rfl rfl ?_
  refine xm_E_s r_X11_fridayWith_48 rfl (xm_T_gr rfl q0 rfl rfl q1) ?_
  refine xm_E_s r_X11_fridayWith_49 rfl rfl ?_
  refine xm_E_s r_X11_fridayWith_50 rfl (xm_T_iald rfl q2 (by decide) (fun e => e.elim (fun e => absurd e (by decide)) (fun e => Nat.not_le.mpr q3 e))) ?_
  refine xm_E_s r_X11_fridayWith_51 rfl rfl ?_
  refine xm_E_f q4 ?_
  refine xm_E_s r_X11_fridayWith_52 rfl rfl ?_
  refine xm_E_s r_X11_fridayWith_53 rfl rfl ?_
  refine xm_E_s r_X11_fridayWith_54 rfl (xm_T_gr rfl q0 rfl rfl q5) ?_
  refine xm_E_s r_X11_fridayWith_55 rfl rfl ?_
  refine xm_E_s r_X11_fridayWith_56 rfl (xm_T_iald rfl q6 (by decide) q7) ?_
  refine xm_E_s r_X11_fridayWith_57 rfl rfl ?_
  refine xm_E_s r_X11_fridayWith_58 rfl rfl ?_
  refine xm_E_t q8 ?_
  refine xm_E_s r_X11_fridayWith_59 rfl rfl ?_
  refine xm_E_s r_X11_fridayWith_60 rfl (xm_T_gr rfl q0 rfl rfl q1) ?_
  refine xm_E_s r_X11_fridayWith_61 rfl rfl ?_
  refine xm_E_s r_X11_fridayWith_62 rfl rfl ?_
  refine xm_E_s r_X11_fridayWith_63 rfl rfl ?_
  refine xm_E_s r_X11_fridayWith_64 rfl (xm_T_iald rfl q2 (by decide) q9) ?_
  refine xm_E_s r_X11_fridayWith_65 rfl rfl ?_
  refine xm_E_s r_X11_fridayWith_67 rfl rfl ?_
  refine xm_E_s (ls1 := [some (.ref l0), some (.int l1), some (.int l2), some (.int l3), some (.int l4), some (.int l5), some (.int (l6 + (h.1 v0 (((44 : Int32) + l7).toNatClampNeg)))), some (.int l7)]) r_X11_fridayWith_68 rfl rfl ?_
  refine xm_E_s (ls1 := [some (.ref l0), some (.int l1), some (.int l2), some (.int l3), some (.int l4), some (.int l5), some (.int (l6 + (h.1 v0 (((44 : Int32) + l7).toNatClampNeg)))), some (.int (l7 + (1 : Int32)))]) r_X11_fridayWith_69 rfl rfl ?_
  refine xm_E_s r_X11_fridayWith_70 rfl rfl ?_
  exact K
theorem p_X11_fridayWith_46_3 {X : xm_X} {P : List xm_M} {d : Nat} {h : xm_H} {l0 : Nat} {l1 : Int32} {l2 : Int32} {l3 : Int32} {l4 : Int32} {l5 : Int32} {l6 : Int32} {l7 : Int32} {v0 : Nat} {n1 : Nat} {v2 : Nat} {n3 : Nat} {ro : Option Value} {ho : xm_H} (q0 : X.1[l0]? = some (.inr 10)) (q1 : h.2.2 l0 1 = some v0) (q2 : X.1[v0]? = some (.inl (0, n1))) (q3 : 21 < n1) (q4 : ¬ (h.1 v0 21 ≤ l7)) (q5 : h.2.2 l0 31 = some v2) (q6 : X.1[v2]? = some (.inl (0, n3))) (q7 : ¬ (l7 < 0 ∨ n3 ≤ l7.toNatClampNeg)) (q8 : ¬ (h.1 v2 l7.toNatClampNeg = l5)) (K : xm_E X P d co_X11_fridayWith 46 [some (.ref l0), some (.int l1), some (.int l2), some (.int l3), some (.int l4), some (.int l5), some (.int (l6 + (0 : Int32))), some (.int (l7 + (1 : Int32)))] [] h ro ho) : xm_E X P d co_X11_fridayWith 46 [some (.ref l0), some (.int l1), some (.int l2), some (.int l3), some (.int l4), some (.int l5), some (.int l6), some (.int l7)] [] h ro ho := by
  refine xm_E_s r_X11_fridayWith_46 rfl rfl ?_
  refine xm_E_s r_X11_fridayWith_47 rfl rfl ?_
  refine xm_E_s r_X11_fridayWith_48 rfl (xm_T_gr rfl q0 rfl rfl q1) ?_
  refine xm_E_s r_X11_fridayWith_49 rfl rfl ?_
  refine xm_E_s r_X11_fridayWith_50 rfl (xm_T_iald rfl q2 (by decide) (fun e => e.elim (fun e => absurd e (by decide)) (fun e => Nat.not_le.mpr q3 e))) ?_
  refine xm_E_s r_X11_fridayWith_51 rfl rfl ?_
  refine xm_E_f q4 ?_
  refine xm_E_s r_X11_fridayWith_52 rfl rfl ?_
  refine xm_E_s r_X11_fridayWith_53 rfl rfl ?_
  refine xm_E_s r_X11_fridayWith_54 rfl (xm_T_gr rfl q0 rfl rfl q5) ?_
  refine xm_E_s r_X11_fridayWith_55 rfl rfl ?_
  refine xm_E_s r_X11_fridayWith_56 rfl (xm_T_iald rfl q6 (by decide) q7) ?_
  refine xm_E_s r_X11_fridayWith_57 rfl rfl ?_
  refine xm_E_s r_X11_fridayWith_58 rfl rfl ?_
  refine xm_E_f q8 ?_
  refine xm_E_s r_X11_fridayWith_66 rfl rfl ?_
  refine xm_E_s r_X11_fridayWith_67 rfl rfl ?_
  refine xm_E_s (ls1 := [some (.ref l0), some (.int l1), some (.int l2), some (.int l3), some (.int l4), some (.int l5), some (.int (l6 + (0 : Int32))), some (.int l7)]) r_X11_fridayWith_68 rfl rfl ?_
  refine xm_E_s (ls1 := [some (.ref l0), some (.int l1), some (.int l2), some (.int l3), some (.int l4), some (.int l5), some (.int (l6 + (0 : Int32))), some (.int (l7 + (1 : Int32)))]) r_X11_fridayWith_69 rfl rfl ?_
  refine xm_E_s r_X11_fridayWith_70 rfl rfl ?_
  exact K
theorem p_X11_fridayWith_93_0 {X : xm_X} {P : List xm_M} {d : Nat} {h : xm_H} {l0 : Nat} {l1 : Int32} {l2 : Int32} {l3 : Int32} {l4 : Int32} {l5 : Int32} {l6 : Option Value} {l7 : Option Value} {h0 : xm_H} {r0 : Int32} (q0 : (6 : Int32) ≤ l5) (q1 : xm_V X P d 318 [.ref l0, .int l2] h (some (.int r0)) h0) (q2 : X.1[l0]? = some (.inr 10)) (q3 : r0 = (0 : Int32)) : xm_E X P d co_X11_fridayWith 93 [some (.ref l0), some (.int l1), some (.int l2), some (.int l3), some (.int l4), some (.int l5), l6, l7] [] h (some (.int (if l4 < l3 then l4 else l3))) h0 := by
  refine xm_E_s r_X11_fridayWith_93 rfl rfl ?_
  refine xm_E_s r_X11_fridayWith_94 rfl rfl ?_
  refine xm_E_s r_X11_fridayWith_95 rfl rfl ?_
  refine xm_E_t q0 ?_
  refine xm_E_s r_X11_fridayWith_106 rfl rfl ?_
  refine xm_E_s r_X11_fridayWith_107 rfl rfl ?_
  refine xm_E_s r_X11_fridayWith_108 rfl rfl ?_
  refine xm_E_s (ls1 := [some (.ref l0), some (.int l1), some (.int l2), some (.int (if l4 < l3 then l4 else l3)), some (.int l4), some (.int l5), l6, l7]) r_X11_fridayWith_109 rfl rfl ?_
  refine xm_E_s r_X11_fridayWith_110 rfl rfl ?_
  refine xm_E_s r_X11_fridayWith_111 rfl rfl ?_
  refine xm_E_cv [.ref l0, .int l2] [] r_X11_fridayWith_112 rfl rfl (Nat.le_of_ble_eq_true rfl) (xm_rc q2 (by decide)) rfl q1 ?_
  refine xm_E_s r_X11_fridayWith_113 rfl rfl ?_
  refine xm_E_t q3 ?_
  refine xm_E_s r_X11_fridayWith_114 rfl rfl ?_
  exact xm_E_iret r_X11_fridayWith_115 rfl rfl
theorem p_X11_fridayWith_93_1 {X : xm_X} {P : List xm_M} {d : Nat} {h : xm_H} {l0 : Nat} {l1 : Int32} {l2 : Int32} {l3 : Int32} {l4 : Int32} {l5 : Int32} {l6 : Option Value} {l7 : Option Value} {h0 : xm_H} {r0 : Int32} {ro : Option Value} {ho : xm_H} (q0 : (6 : Int32) ≤ l5) (q1 : xm_V X P d 318 [.ref l0, .int l2] h (some (.int r0)) h0) (q2 : X.1[l0]? = some (.inr 10)) (q3 : ¬ (r0 = (0 : Int32))) (K : xm_E X P d co_X11_fridayWith 35 [some (.ref l0), some (.int l1), some (.int l2), some (.int (if l4 < l3 then l4 else l3)), some (.int l4), some (.int l5), l6, l7] [] h0 ro ho) : xm_E X P d co_X11_fridayWith 93 [some (.ref l0), some (.int l1), some (.int l2), some (.int l3), some (.int l4), some (.int l5), l6, l7] [] h ro ho := by
  refine xm_E_s r_X11_fridayWith_93 rfl rfl ?_
  refine xm_E_s r_X11_fridayWith_94 rfl rfl ?_
  refine xm_E_s r_X11_fridayWith_95 rfl rfl ?_
  refine xm_E_t q0 ?_
  refine xm_E_s r_X11_fridayWith_106 rfl rfl ?_
  refine xm_E_s r_X11_fridayWith_107 rfl rfl ?_
  refine xm_E_s r_X11_fridayWith_108 rfl rfl ?_
  refine xm_E_s (ls1 := [some (.ref l0), some (.int l1), some (.int l2), some (.int (if l4 < l3 then l4 else l3)), some (.int l4), some (.int l5), l6, l7]) r_X11_fridayWith_109 rfl rfl ?_
  refine xm_E_s r_X11_fridayWith_110 rfl rfl ?_
  refine xm_E_s r_X11_fridayWith_111 rfl rfl ?_
  refine xm_E_cv [.ref l0, .int l2] [] r_X11_fridayWith_112 rfl rfl (Nat.le_of_ble_eq_true rfl) (xm_rc q2 (by decide)) rfl q1 ?_
  refine xm_E_s r_X11_fridayWith_113 rfl rfl ?_
  refine xm_E_f q3 ?_
  exact K
theorem p_X11_fridayWith_93_2 {X : xm_X} {P : List xm_M} {d : Nat} {h : xm_H} {l0 : Nat} {l1 : Int32} {l2 : Int32} {l3 : Int32} {l4 : Int32} {l5 : Int32} {l6 : Option Value} {l7 : Option Value} {v0 : Nat} {v1 : Nat} {n2 : Nat} {n3 : Nat} {ro : Option Value} {ho : xm_H} (q0 : ¬ ((6 : Int32) ≤ l5)) (q1 : X.1[l0]? = some (.inr 10)) (q2 : h.2.2 l0 32 = some v0) (q3 : h.2.2 l0 31 = some v1) (q4 : X.1[v1]? = some (.inl (0, n2))) (q5 : ¬ (l5 < 0 ∨ n2 ≤ l5.toNatClampNeg)) (q6 : X.1[v0]? = some (.inl (0, n3))) (q7 : ¬ (l5 < 0 ∨ n3 ≤ l5.toNatClampNeg)) (K : xm_E X P d co_X11_fridayWith 93 [some (.ref l0), some (.int l1), some (.int l2), some (.int l3), some (.int l4), some (.int (l5 + (1 : Int32))), l6, l7] [] (xm_si h v0 l5.toNatClampNeg (h.1 v1 l5.toNatClampNeg)) ro ho) : xm_E X P d co_X11_fridayWith 93 [some (.ref l0), some (.int l1), some (.int l2), some (.int l3), some (.int l4), some (.int l5), l6, l7] [] h ro ho := by
  refine xm_E_s r_X11_fridayWith_93 rfl rfl ?_
  refine xm_E_s r_X11_fridayWith_94 rfl rfl ?_
  refine xm_E_s r_X11_fridayWith_95 rfl rfl ?_
  refine xm_E_f q0 ?_
  refine xm_E_s r_X11_fridayWith_96 rfl rfl ?_
  refine xm_E_s r_X11_fridayWith_97 rfl (xm_T_gr rfl q1 rfl rfl q2) ?_
  refine xm_E_s r_X11_fridayWith_98 rfl rfl ?_
  refine xm_E_s r_X11_fridayWith_99 rfl rfl ?_
  refine xm_E_s r_X11_fridayWith_100 rfl (xm_T_gr rfl q1 rfl rfl q3) ?_
  refine xm_E_s r_X11_fridayWith_101 rfl rfl ?_
  refine xm_E_s r_X11_fridayWith_102 rfl (xm_T_iald rfl q4 (by decide) q5) ?_
  refine xm_E_s r_X11_fridayWith_103 rfl (xm_T_asi rfl q6 q7) ?_
  refine xm_E_s (ls1 := [some (.ref l0), some (.int l1), some (.int l2), some (.int l3), some (.int l4), some (.int (l5 + (1 : Int32))), l6, l7]) r_X11_fridayWith_104 rfl rfl ?_
  refine xm_E_s r_X11_fridayWith_105 rfl rfl ?_
  exact K
theorem r_X11_nextGiving_0 : co_X11_nextGiving[0]? = some ((0, .aload_n 0, 0, 0, 0, 0, 0, 0, []) : xm_I) := rfl
theorem r_X11_nextGiving_1 : co_X11_nextGiving[1]? = some ((1, .getfield 9, 1381, 10, 1, 2, 0, 0, []) : xm_I) := rfl
theorem r_X11_nextGiving_2 : co_X11_nextGiving[2]? = some ((4, .bipush 21, 0, 0, 0, 0, 21, 0, []) : xm_I) := rfl
theorem r_X11_nextGiving_3 : co_X11_nextGiving[3]? = some ((6, .iaload, 0, 0, 0, 0, 0, 0, []) : xm_I) := rfl
theorem r_X11_nextGiving_4 : co_X11_nextGiving[4]? = some ((7, .iconst 1, 0, 0, 0, 0, 1, 0, []) : xm_I) := rfl
theorem r_X11_nextGiving_5 : co_X11_nextGiving[5]? = some ((8, .isub, 0, 0, 0, 0, 0, 0, []) : xm_I) := rfl
theorem r_X11_nextGiving_6 : co_X11_nextGiving[6]? = some ((9, .istore_n 2, 0, 0, 0, 0, 0, 0, []) : xm_I) := rfl
theorem r_X11_nextGiving_7 : co_X11_nextGiving[7]? = some ((10, .iload_n 2, 0, 0, 0, 0, 0, 0, []) : xm_I) := rfl
theorem r_X11_nextGiving_8 : co_X11_nextGiving[8]? = some ((11, .ifCond .lt 38, 0, 0, 32, 0, 0, 0, []) : xm_I) := rfl
theorem r_X11_nextGiving_9 : co_X11_nextGiving[9]? = some ((14, .aload_n 0, 0, 0, 0, 0, 0, 0, []) : xm_I) := rfl
theorem r_X11_nextGiving_10 : co_X11_nextGiving[10]? = some ((15, .getfield 61, 1411, 10, 31, 2, 0, 0, []) : xm_I) := rfl
theorem r_X11_nextGiving_11 : co_X11_nextGiving[11]? = some ((18, .iload_n 2, 0, 0, 0, 0, 0, 0, []) : xm_I) := rfl
theorem r_X11_nextGiving_12 : co_X11_nextGiving[12]? = some ((19, .dup2, 0, 0, 0, 0, 0, 0, []) : xm_I) := rfl
theorem r_X11_nextGiving_13 : co_X11_nextGiving[13]? = some ((20, .iaload, 0, 0, 0, 0, 0, 0, []) : xm_I) := rfl
theorem r_X11_nextGiving_14 : co_X11_nextGiving[14]? = some ((21, .iconst 1, 0, 0, 0, 0, 1, 0, []) : xm_I) := rfl
theorem r_X11_nextGiving_15 : co_X11_nextGiving[15]? = some ((22, .iadd, 0, 0, 0, 0, 0, 0, []) : xm_I) := rfl
theorem r_X11_nextGiving_16 : co_X11_nextGiving[16]? = some ((23, .iastore, 0, 0, 0, 0, 0, 0, []) : xm_I) := rfl
theorem r_X11_nextGiving_17 : co_X11_nextGiving[17]? = some ((24, .aload_n 0, 0, 0, 0, 0, 0, 0, []) : xm_I) := rfl
theorem r_X11_nextGiving_18 : co_X11_nextGiving[18]? = some ((25, .getfield 61, 1411, 10, 31, 2, 0, 0, []) : xm_I) := rfl
theorem r_X11_nextGiving_19 : co_X11_nextGiving[19]? = some ((28, .iload_n 2, 0, 0, 0, 0, 0, 0, []) : xm_I) := rfl
theorem r_X11_nextGiving_20 : co_X11_nextGiving[20]? = some ((29, .iaload, 0, 0, 0, 0, 0, 0, []) : xm_I) := rfl
theorem r_X11_nextGiving_21 : co_X11_nextGiving[21]? = some ((30, .iload_n 1, 0, 0, 0, 0, 0, 0, []) : xm_I) := rfl
theorem r_X11_nextGiving_22 : co_X11_nextGiving[22]? = some ((31, .if_icmp .ge 5, 0, 0, 25, 0, 0, 0, []) : xm_I) := rfl
theorem r_X11_nextGiving_23 : co_X11_nextGiving[23]? = some ((34, .iconst 1, 0, 0, 0, 0, 1, 0, []) : xm_I) := rfl
theorem r_X11_nextGiving_24 : co_X11_nextGiving[24]? = some ((35, .ireturn, 0, 0, 0, 3, 0, 0, []) : xm_I) := rfl
theorem r_X11_nextGiving_25 : co_X11_nextGiving[25]? = some ((36, .aload_n 0, 0, 0, 0, 0, 0, 0, []) : xm_I) := rfl
theorem r_X11_nextGiving_26 : co_X11_nextGiving[26]? = some ((37, .getfield 61, 1411, 10, 31, 2, 0, 0, []) : xm_I) := rfl
theorem r_X11_nextGiving_27 : co_X11_nextGiving[27]? = some ((40, .iload_n 2, 0, 0, 0, 0, 0, 0, []) : xm_I) := rfl
theorem r_X11_nextGiving_28 : co_X11_nextGiving[28]? = some ((41, .iconst 0, 0, 0, 0, 0, 0, 0, []) : xm_I) := rfl
theorem r_X11_nextGiving_29 : co_X11_nextGiving[29]? = some ((42, .iastore, 0, 0, 0, 0, 0, 0, []) : xm_I) := rfl
theorem r_X11_nextGiving_30 : co_X11_nextGiving[30]? = some ((43, .iinc 2 (-1), 0, 0, 0, 0, (-1), 0, []) : xm_I) := rfl
theorem r_X11_nextGiving_31 : co_X11_nextGiving[31]? = some ((46, .goto (-36), 0, 0, 7, 0, 0, 0, []) : xm_I) := rfl
theorem r_X11_nextGiving_32 : co_X11_nextGiving[32]? = some ((49, .iconst 0, 0, 0, 0, 0, 0, 0, []) : xm_I) := rfl
theorem r_X11_nextGiving_33 : co_X11_nextGiving[33]? = some ((50, .ireturn, 0, 0, 0, 3, 0, 0, []) : xm_I) := rfl
theorem p_X11_nextGiving_0_0 {X : xm_X} {P : List xm_M} {d : Nat} {h : xm_H} {l0 : Nat} {l1 : Int32} {v0 : Nat} {n1 : Nat} {ro : Option Value} {ho : xm_H} (q0 : X.1[l0]? = some (.inr 10)) (q1 : h.2.2 l0 1 = some v0) (q2 : X.1[v0]? = some (.inl (0, n1))) (q3 : 21 < n1) (K : xm_E X P d co_X11_nextGiving 7 [some (.ref l0), some (.int l1), some (.int ((h.1 v0 21) - (1 : Int32)))] [] h ro ho) : xm_E X P d co_X11_nextGiving 0 [some (.ref l0), some (.int l1), none] [] h ro ho := by
  refine xm_E_s r_X11_nextGiving_0 rfl rfl ?_
  refine xm_E_s r_X11_nextGiving_1 rfl (xm_T_gr rfl q0 rfl rfl q1) ?_
  refine xm_E_s r_X11_nextGiving_2 rfl rfl ?_
  refine xm_E_s r_X11_nextGiving_3 rfl (xm_T_iald rfl q2 (by decide) (fun e => e.elim (fun e => absurd e (by decide)) (fun e => Nat.not_le.mpr q3 e))) ?_
  refine xm_E_s r_X11_nextGiving_4 rfl rfl ?_
  refine xm_E_s r_X11_nextGiving_5 rfl rfl ?_
  refine xm_E_s (ls1 := [some (.ref l0), some (.int l1), some (.int ((h.1 v0 21) - (1 : Int32)))]) r_X11_nextGiving_6 rfl rfl ?_
  exact K
theorem p_X11_nextGiving_7_0 {X : xm_X} {P : List xm_M} {d : Nat} {h : xm_H} {l0 : Nat} {l1 : Int32} {l2 : Int32} (q0 : l2 < (0 : Int32)) : xm_E X P d co_X11_nextGiving 7 [some (.ref l0), some (.int l1), some (.int l2)] [] h (some (.int (0 : Int32))) h := by
  refine xm_E_s r_X11_nextGiving_7 rfl rfl ?_
  refine xm_E_s r_X11_nextGiving_8 rfl rfl ?_
  refine xm_E_t q0 ?_
  refine xm_E_s r_X11_nextGiving_32 rfl rfl ?_
  exact xm_E_iret r_X11_nextGiving_33 rfl rfl
theorem p_X11_nextGiving_7_1 {X : xm_X} {P : List xm_M} {d : Nat} {h : xm_H} {l0 : Nat} {l1 : Int32} {l2 : Int32} {v0 : Nat} {n1 : Nat} {v2 : Nat} {n3 : Nat} {ro : Option Value} {ho : xm_H} (q0 : ¬ (l2 < (0 : Int32))) (q1 : X.1[l0]? = some (.inr 10)) (q2 : h.2.2 l0 31 = some v0) (q3 : X.1[v0]? = some (.inl (0, n1))) (q4 : ¬ (l2 < 0 ∨ n1 ≤ l2.toNatClampNeg)) (q5 : (xm_si h v0 l2.toNatClampNeg ((h.1 v0 l2.toNatClampNeg) + (1 : Int32))).2.2 l0 31 = some v2) (q6 : X.1[v2]? = some (.inl (0, n3))) (q7 : ¬ (l2 < 0 ∨ n3 ≤ l2.toNatClampNeg)) (q8 : l1 ≤ (xm_si h v0 l2.toNatClampNeg ((h.1 v0 l2.toNatClampNeg) + (1 : Int32))).1 v2 l2.toNatClampNeg) (K : xm_E X P d co_X11_nextGiving 7 [some (.ref l0), some (.int l1), some (.int (l2 + (-1 : Int32)))] [] (xm_si (xm_si h v0 l2.toNatClampNeg ((h.1 v0 l2.toNatClampNeg) + (1 : Int32))) v2 l2.toNatClampNeg (0 : Int32)) ro ho) : xm_E X P d co_X11_nextGiving 7 [some (.ref l0), some (.int l1), some (.int l2)] [] h ro ho := by
  refine xm_E_s r_X11_nextGiving_7 rfl rfl ?_
  refine xm_E_s r_X11_nextGiving_8 rfl rfl ?_
  refine xm_E_f q0 ?_
  refine xm_E_s r_X11_nextGiving_9 rfl rfl ?_
  refine xm_E_s r_X11_nextGiving_10 rfl (xm_T_gr rfl q1 rfl rfl q2) ?_
  refine xm_E_s r_X11_nextGiving_11 rfl rfl ?_
  refine xm_E_s r_X11_nextGiving_12 rfl rfl ?_
  refine xm_E_s r_X11_nextGiving_13 rfl (xm_T_iald rfl q3 (by decide) q4) ?_
  refine xm_E_s r_X11_nextGiving_14 rfl rfl ?_
  refine xm_E_s r_X11_nextGiving_15 rfl rfl ?_
  refine xm_E_s r_X11_nextGiving_16 rfl (xm_T_asi rfl q3 q4) ?_
  refine xm_E_s r_X11_nextGiving_17 rfl rfl ?_
  refine xm_E_s r_X11_nextGiving_18 rfl (xm_T_gr rfl q1 rfl rfl q5) ?_
  refine xm_E_s r_X11_nextGiving_19 rfl rfl ?_
  refine xm_E_s r_X11_nextGiving_20 rfl (xm_T_iald rfl q6 (by decide) q7) ?_
  refine xm_E_s r_X11_nextGiving_21 rfl rfl ?_
  refine xm_E_s r_X11_nextGiving_22 rfl rfl ?_
  refine xm_E_t q8 ?_
  refine xm_E_s r_X11_nextGiving_25 rfl rfl ?_
  refine xm_E_s r_X11_nextGiving_26 rfl (xm_T_gr rfl q1 rfl rfl q5) ?_
  refine xm_E_s r_X11_nextGiving_27 rfl rfl ?_
  refine xm_E_s r_X11_nextGiving_28 rfl rfl ?_
  refine xm_E_s r_X11_nextGiving_29 rfl (xm_T_asi rfl q6 q7) ?_
  refine xm_E_s (ls1 := [some (.ref l0), some (.int l1), some (.int (l2 + (-1 : Int32)))]) r_X11_nextGiving_30 rfl rfl ?_
  refine xm_E_s r_X11_nextGiving_31 rfl rfl ?_
  exact K
theorem p_X11_nextGiving_7_2 {X : xm_X} {P : List xm_M} {d : Nat} {h : xm_H} {l0 : Nat} {l1 : Int32} {l2 : Int32} {v0 : Nat} {n1 : Nat} {v2 : Nat} {n3 : Nat} (q0 : ¬ (l2 < (0 : Int32))) (q1 : X.1[l0]? = some (.inr 10)) (q2 : h.2.2 l0 31 = some v0) (q3 : X.1[v0]? = some (.inl (0, n1))) (q4 : ¬ (l2 < 0 ∨ n1 ≤ l2.toNatClampNeg)) (q5 : (xm_si h v0 l2.toNatClampNeg ((h.1 v0 l2.toNatClampNeg) + (1 : Int32))).2.2 l0 31 = some v2) (q6 : X.1[v2]? = some (.inl (0, n3))) (q7 : ¬ (l2 < 0 ∨ n3 ≤ l2.toNatClampNeg)) (q8 : ¬ (l1 ≤ (xm_si h v0 l2.toNatClampNeg ((h.1 v0 l2.toNatClampNeg) + (1 : Int32))).1 v2 l2.toNatClampNeg)) : xm_E X P d co_X11_nextGiving 7 [some (.ref l0), some (.int l1), some (.int l2)] [] h (some (.int (1 : Int32))) (xm_si h v0 l2.toNatClampNeg ((h.1 v0 l2.toNatClampNeg) + (1 : Int32))) := by
  refine xm_E_s r_X11_nextGiving_7 rfl rfl ?_
  refine xm_E_s r_X11_nextGiving_8 rfl rfl ?_
  refine xm_E_f q0 ?_
  refine xm_E_s r_X11_nextGiving_9 rfl rfl ?_
  refine xm_E_s r_X11_nextGiving_10 rfl (xm_T_gr rfl q1 rfl rfl q2) ?_
  refine xm_E_s r_X11_nextGiving_11 rfl rfl ?_
  refine xm_E_s r_X11_nextGiving_12 rfl rfl ?_
  refine xm_E_s r_X11_nextGiving_13 rfl (xm_T_iald rfl q3 (by decide) q4) ?_
  refine xm_E_s r_X11_nextGiving_14 rfl rfl ?_
  refine xm_E_s r_X11_nextGiving_15 rfl rfl ?_
  refine xm_E_s r_X11_nextGiving_16 rfl (xm_T_asi rfl q3 q4) ?_
  refine xm_E_s r_X11_nextGiving_17 rfl rfl ?_
  refine xm_E_s r_X11_nextGiving_18 rfl (xm_T_gr rfl q1 rfl rfl q5) ?_
  refine xm_E_s r_X11_nextGiving_19 rfl rfl ?_
  refine xm_E_s r_X11_nextGiving_20 rfl (xm_T_iald rfl q6 (by decide) q7) ?_
  refine xm_E_s r_X11_nextGiving_21 rfl rfl ?_
  refine xm_E_s r_X11_nextGiving_22 rfl rfl ?_
  refine xm_E_f q8 ?_
  refine xm_E_s r_X11_nextGiving_23 rfl rfl ?_
  exact xm_E_iret r_X11_nextGiving_24 rfl rfl
theorem r_X11_given_0 : co_X11_given[0]? = some ((0, .iload_n 1, 0, 0, 0, 0, 0, 0, []) : xm_I) := rfl
theorem r_X11_given_1 : co_X11_given[1]? = some ((1, .i2l, 0, 0, 0, 0, 0, 0, []) : xm_I) := rfl
theorem r_X11_given_2 : co_X11_given[2]? = some ((2, .lconst 0, 0, 0, 0, 0, 0, 0, []) : xm_I) := rfl
theorem r_X11_given_3 : co_X11_given[3]? = some ((3, .aload_n 0, 0, 0, 0, 0, 0, 0, []) : xm_I) := rfl
theorem r_X11_given_4 : co_X11_given[4]? = some ((4, .getfield 9, 1381, 10, 1, 2, 0, 0, []) : xm_I) := rfl
theorem r_X11_given_5 : co_X11_given[5]? = some ((7, .bipush 21, 0, 0, 0, 0, 21, 0, []) : xm_I) := rfl
theorem r_X11_given_6 : co_X11_given[6]? = some ((9, .iaload, 0, 0, 0, 0, 0, 0, []) : xm_I) := rfl
theorem r_X11_given_7 : co_X11_given[7]? = some ((10, .iconst 1, 0, 0, 0, 0, 1, 0, []) : xm_I) := rfl
theorem r_X11_given_8 : co_X11_given[8]? = some ((11, .isub, 0, 0, 0, 0, 0, 0, []) : xm_I) := rfl
theorem r_X11_given_9 : co_X11_given[9]? = some ((12, .i2l, 0, 0, 0, 0, 0, 0, []) : xm_I) := rfl
theorem r_X11_given_10 : co_X11_given[10]? = some ((13, .invokestatic 84, 1503, 191, 3, 0, 0, 0, []) : xm_I) := rfl
theorem r_X11_given_11 : co_X11_given[11]? = some ((16, .ifCond .ne 6, 0, 0, 14, 0, 0, 0, []) : xm_I) := rfl
theorem r_X11_given_12 : co_X11_given[12]? = some ((19, .bipush (-2), 0, 0, 0, 0, (-2), 0, []) : xm_I) := rfl
theorem r_X11_given_13 : co_X11_given[13]? = some ((21, .ireturn, 0, 0, 0, 0, 0, 0, []) : xm_I) := rfl
theorem r_X11_given_14 : co_X11_given[14]? = some ((22, .aload_n 0, 0, 0, 0, 0, 0, 0, []) : xm_I) := rfl
theorem r_X11_given_15 : co_X11_given[15]? = some ((23, .iconst (-1), 0, 0, 0, 0, (-1), 0, []) : xm_I) := rfl
theorem r_X11_given_16 : co_X11_given[16]? = some ((24, .invokevirtual 506, 2048, 317, 2, 10, 0, 0, []) : xm_I) := rfl
theorem r_X11_given_17 : co_X11_given[17]? = some ((27, .iconst (-1), 0, 0, 0, 0, (-1), 0, []) : xm_I) := rfl
theorem r_X11_given_18 : co_X11_given[18]? = some ((28, .if_icmp .ne 7, 0, 0, 21, 0, 0, 0, []) : xm_I) := rfl
theorem r_X11_given_19 : co_X11_given[19]? = some ((31, .iconst (-1), 0, 0, 0, 0, (-1), 0, []) : xm_I) := rfl
theorem r_X11_given_20 : co_X11_given[20]? = some ((32, .goto 9, 0, 0, 25, 0, 0, 0, []) : xm_I) := rfl
theorem r_X11_given_21 : co_X11_given[21]? = some ((35, .aload_n 0, 0, 0, 0, 0, 0, 0, []) : xm_I) := rfl
theorem r_X11_given_22 : co_X11_given[22]? = some ((36, .getfield 64, 1412, 10, 32, 2, 0, 0, []) : xm_I) := rfl
theorem r_X11_given_23 : co_X11_given[23]? = some ((39, .iload_n 1, 0, 0, 0, 0, 0, 0, []) : xm_I) := rfl
theorem r_X11_given_24 : co_X11_given[24]? = some ((40, .iaload, 0, 0, 0, 0, 0, 0, []) : xm_I) := rfl
theorem r_X11_given_25 : co_X11_given[25]? = some ((41, .ireturn, 0, 0, 0, 0, 0, 0, []) : xm_I) := rfl
theorem p_X11_given_0_0 {X : xm_X} {P : List xm_M} {d : Nat} {h : xm_H} {l0 : Nat} {l1 : Int32} {v0 : Nat} {n1 : Nat} {h2 : xm_H} {r2 : Int32} (q0 : X.1[l0]? = some (.inr 10)) (q1 : h.2.2 l0 1 = some v0) (q2 : X.1[v0]? = some (.inl (0, n1))) (q3 : 21 < n1) (q4 : xm_V X P d 191 [.long l1.toInt64, .long (0 : Int64), .long (((h.1 v0 21) - (1 : Int32)).toInt64)] h (some (.int r2)) h2) (q5 : r2 = (0 : Int32)) : xm_E X P d co_X11_given 0 [some (.ref l0), some (.int l1)] [] h (some (.int (-2 : Int32))) h2 := by
  refine xm_E_s r_X11_given_0 rfl rfl ?_
  refine xm_E_s r_X11_given_1 rfl rfl ?_
  refine xm_E_s r_X11_given_2 rfl rfl ?_
  refine xm_E_s r_X11_given_3 rfl rfl ?_
  refine xm_E_s r_X11_given_4 rfl (xm_T_gr rfl q0 rfl rfl q1) ?_
  refine xm_E_s r_X11_given_5 rfl rfl ?_
  refine xm_E_s r_X11_given_6 rfl (xm_T_iald rfl q2 (by decide) (fun e => e.elim (fun e => absurd e (by decide)) (fun e => Nat.not_le.mpr q3 e))) ?_
  refine xm_E_s r_X11_given_7 rfl rfl ?_
  refine xm_E_s r_X11_given_8 rfl rfl ?_
  refine xm_E_s r_X11_given_9 rfl rfl ?_
  refine xm_E_cs [.long l1.toInt64, .long (0 : Int64), .long (((h.1 v0 21) - (1 : Int32)).toInt64)] [] r_X11_given_10 rfl rfl rfl (Nat.le_of_ble_eq_true rfl) rfl q4 ?_
  refine xm_E_s r_X11_given_11 rfl rfl ?_
  refine xm_E_t q5 ?_
  refine xm_E_s r_X11_given_12 rfl rfl ?_
  exact xm_E_iret r_X11_given_13 rfl rfl
theorem p_X11_given_0_1 {X : xm_X} {P : List xm_M} {d : Nat} {h : xm_H} {l0 : Nat} {l1 : Int32} {v0 : Nat} {n1 : Nat} {h2 : xm_H} {r2 : Int32} {h3 : xm_H} {r3 : Int32} (q0 : X.1[l0]? = some (.inr 10)) (q1 : h.2.2 l0 1 = some v0) (q2 : X.1[v0]? = some (.inl (0, n1))) (q3 : 21 < n1) (q4 : xm_V X P d 191 [.long l1.toInt64, .long (0 : Int64), .long (((h.1 v0 21) - (1 : Int32)).toInt64)] h (some (.int r2)) h2) (q5 : ¬ (r2 = (0 : Int32))) (q6 : xm_V X P d 317 [.ref l0, .int (-1 : Int32)] h2 (some (.int r3)) h3) (q7 : r3 = (-1 : Int32)) : xm_E X P d co_X11_given 0 [some (.ref l0), some (.int l1)] [] h (some (.int (-1 : Int32))) h3 := by
  refine xm_E_s r_X11_given_0 rfl rfl ?_
  refine xm_E_s r_X11_given_1 rfl rfl ?_
  refine xm_E_s r_X11_given_2 rfl rfl ?_
  refine xm_E_s r_X11_given_3 rfl rfl ?_
  refine xm_E_s r_X11_given_4 rfl (xm_T_gr rfl q0 rfl rfl q1) ?_
  refine xm_E_s r_X11_given_5 rfl rfl ?_
  refine xm_E_s r_X11_given_6 rfl (xm_T_iald rfl q2 (by decide) (fun e => e.elim (fun e => absurd e (by decide)) (fun e => Nat.not_le.mpr q3 e))) ?_
  refine xm_E_s r_X11_given_7 rfl rfl ?_
  refine xm_E_s r_X11_given_8 rfl rfl ?_
  refine xm_E_s r_X11_given_9 rfl rfl ?_
  refine xm_E_cs [.long l1.toInt64, .long (0 : Int64), .long (((h.1 v0 21) - (1 : Int32)).toInt64)] [] r_X11_given_10 rfl rfl rfl (Nat.le_of_ble_eq_true rfl) rfl q4 ?_
  refine xm_E_s r_X11_given_11 rfl rfl ?_
  refine xm_E_f q5 ?_
  refine xm_E_s r_X11_given_14 rfl rfl ?_
  refine xm_E_s r_X11_given_15 rfl rfl ?_
  refine xm_E_cv [.ref l0, .int (-1 : Int32)] [] r_X11_given_16 rfl rfl (Nat.le_of_ble_eq_true rfl) (xm_rc q0 (by decide)) rfl q6 ?_
  refine xm_E_s r_X11_given_17 rfl rfl ?_
  refine xm_E_s r_X11_given_18 rfl rfl ?_
  refine xm_E_t q7 ?_
  refine xm_E_s r_X11_given_19 rfl rfl ?_
  refine xm_E_s r_X11_given_20 rfl rfl ?_
  exact xm_E_iret r_X11_given_25 rfl rfl
theorem p_X11_given_0_2 {X : xm_X} {P : List xm_M} {d : Nat} {h : xm_H} {l0 : Nat} {l1 : Int32} {v0 : Nat} {n1 : Nat} {h2 : xm_H} {r2 : Int32} {h3 : xm_H} {r3 : Int32} {v4 : Nat} {n5 : Nat} (q0 : X.1[l0]? = some (.inr 10)) (q1 : h.2.2 l0 1 = some v0) (q2 : X.1[v0]? = some (.inl (0, n1))) (q3 : 21 < n1) (q4 : xm_V X P d 191 [.long l1.toInt64, .long (0 : Int64), .long (((h.1 v0 21) - (1 : Int32)).toInt64)] h (some (.int r2)) h2) (q5 : ¬ (r2 = (0 : Int32))) (q6 : xm_V X P d 317 [.ref l0, .int (-1 : Int32)] h2 (some (.int r3)) h3) (q7 : ¬ (r3 = (-1 : Int32))) (q8 : h3.2.2 l0 32 = some v4) (q9 : X.1[v4]? = some (.inl (0, n5))) (q10 : ¬ (l1 < 0 ∨ n5 ≤ l1.toNatClampNeg)) : xm_E X P d co_X11_given 0 [some (.ref l0), some (.int l1)] [] h (some (.int (h3.1 v4 l1.toNatClampNeg))) h3 := by
  refine xm_E_s r_X11_given_0 rfl rfl ?_
  refine xm_E_s r_X11_given_1 rfl rfl ?_
  refine xm_E_s r_X11_given_2 rfl rfl ?_
  refine xm_E_s r_X11_given_3 rfl rfl ?_
  refine xm_E_s r_X11_given_4 rfl (xm_T_gr rfl q0 rfl rfl q1) ?_
  refine xm_E_s r_X11_given_5 rfl rfl ?_
  refine xm_E_s r_X11_given_6 rfl (xm_T_iald rfl q2 (by decide) (fun e => e.elim (fun e => absurd e (by decide)) (fun e => Nat.not_le.mpr q3 e))) ?_
  refine xm_E_s r_X11_given_7 rfl rfl ?_
  refine xm_E_s r_X11_given_8 rfl rfl ?_
  refine xm_E_s r_X11_given_9 rfl rfl ?_
  refine xm_E_cs [.long l1.toInt64, .long (0 : Int64), .long (((h.1 v0 21) - (1 : Int32)).toInt64)] [] r_X11_given_10 rfl rfl rfl (Nat.le_of_ble_eq_true rfl) rfl q4 ?_
  refine xm_E_s r_X11_given_11 rfl rfl ?_
  refine xm_E_f q5 ?_
  refine xm_E_s r_X11_given_14 rfl rfl ?_
  refine xm_E_s r_X11_given_15 rfl rfl ?_
  refine xm_E_cv [.ref l0, .int (-1 : Int32)] [] r_X11_given_16 rfl rfl (Nat.le_of_ble_eq_true rfl) (xm_rc q0 (by decide)) rfl q6 ?_
  refine xm_E_s r_X11_given_17 rfl rfl ?_
  refine xm_E_s r_X11_given_18 rfl rfl ?_
  refine xm_E_f q7 ?_
  refine xm_E_s r_X11_given_21 rfl rfl ?_
  refine xm_E_s r_X11_given_22 rfl (xm_T_gr rfl q0 rfl rfl q8) ?_
  refine xm_E_s r_X11_given_23 rfl rfl ?_
  refine xm_E_s r_X11_given_24 rfl (xm_T_iald rfl q9 (by decide) q10) ?_
  exact xm_E_iret r_X11_given_25 rfl rfl
theorem r_X11_helps_0 : co_X11_helps[0]? = some ((0, .aload_n 0, 0, 0, 0, 0, 0, 0, []) : xm_I) := rfl
theorem r_X11_helps_1 : co_X11_helps[1]? = some ((1, .iload_n 1, 0, 0, 0, 0, 0, 0, []) : xm_I) := rfl
theorem r_X11_helps_2 : co_X11_helps[2]? = some ((2, .invokevirtual 495, 2023, 311, 2, 10, 0, 0, []) : xm_I) := rfl
theorem r_X11_helps_3 : co_X11_helps[3]? = some ((5, .ifCond .eq 17, 0, 0, 12, 0, 0, 0, []) : xm_I) := rfl
theorem r_X11_helps_4 : co_X11_helps[4]? = some ((8, .aload_n 0, 0, 0, 0, 0, 0, 0, []) : xm_I) := rfl
theorem r_X11_helps_5 : co_X11_helps[5]? = some ((9, .iconst (-1), 0, 0, 0, 0, (-1), 0, []) : xm_I) := rfl
theorem r_X11_helps_6 : co_X11_helps[6]? = some ((10, .invokevirtual 506, 2048, 317, 2, 10, 0, 0, []) : xm_I) := rfl
theorem r_X11_helps_7 : co_X11_helps[7]? = some ((13, .aload_n 0, 0, 0, 0, 0, 0, 0, []) : xm_I) := rfl
theorem r_X11_helps_8 : co_X11_helps[8]? = some ((14, .iload_n 1, 0, 0, 0, 0, 0, 0, []) : xm_I) := rfl
theorem r_X11_helps_9 : co_X11_helps[9]? = some ((15, .invokevirtual 506, 2048, 317, 2, 10, 0, 0, []) : xm_I) := rfl
theorem r_X11_helps_10 : co_X11_helps[10]? = some ((18, .isub, 0, 0, 0, 0, 0, 0, []) : xm_I) := rfl
theorem r_X11_helps_11 : co_X11_helps[11]? = some ((19, .goto 5, 0, 0, 13, 0, 0, 0, []) : xm_I) := rfl
theorem r_X11_helps_12 : co_X11_helps[12]? = some ((22, .bipush (-2), 0, 0, 0, 0, (-2), 0, []) : xm_I) := rfl
theorem r_X11_helps_13 : co_X11_helps[13]? = some ((24, .ireturn, 0, 0, 0, 0, 0, 0, []) : xm_I) := rfl
theorem p_X11_helps_0_0 {X : xm_X} {P : List xm_M} {d : Nat} {h : xm_H} {l0 : Nat} {l1 : Int32} {h0 : xm_H} {r0 : Int32} (q0 : xm_V X P d 311 [.ref l0, .int l1] h (some (.int r0)) h0) (q1 : X.1[l0]? = some (.inr 10)) (q2 : r0 = (0 : Int32)) : xm_E X P d co_X11_helps 0 [some (.ref l0), some (.int l1)] [] h (some (.int (-2 : Int32))) h0 := by
  refine xm_E_s r_X11_helps_0 rfl rfl ?_
  refine xm_E_s r_X11_helps_1 rfl rfl ?_
  refine xm_E_cv [.ref l0, .int l1] [] r_X11_helps_2 rfl rfl (Nat.le_of_ble_eq_true rfl) (xm_rc q1 (by decide)) rfl q0 ?_
  refine xm_E_s r_X11_helps_3 rfl rfl ?_
  refine xm_E_t q2 ?_
  refine xm_E_s r_X11_helps_12 rfl rfl ?_
  exact xm_E_iret r_X11_helps_13 rfl rfl
theorem p_X11_helps_0_1 {X : xm_X} {P : List xm_M} {d : Nat} {h : xm_H} {l0 : Nat} {l1 : Int32} {h0 : xm_H} {r0 : Int32} {h1 : xm_H} {r1 : Int32} {h2 : xm_H} {r2 : Int32} (q0 : xm_V X P d 311 [.ref l0, .int l1] h (some (.int r0)) h0) (q1 : X.1[l0]? = some (.inr 10)) (q2 : ¬ (r0 = (0 : Int32))) (q3 : xm_V X P d 317 [.ref l0, .int (-1 : Int32)] h0 (some (.int r1)) h1) (q4 : xm_V X P d 317 [.ref l0, .int l1] h1 (some (.int r2)) h2) : xm_E X P d co_X11_helps 0 [some (.ref l0), some (.int l1)] [] h (some (.int (r1 - r2))) h2 := by
  refine xm_E_s r_X11_helps_0 rfl rfl ?_
  refine xm_E_s r_X11_helps_1 rfl rfl ?_
  refine xm_E_cv [.ref l0, .int l1] [] r_X11_helps_2 rfl rfl (Nat.le_of_ble_eq_true rfl) (xm_rc q1 (by decide)) rfl q0 ?_
  refine xm_E_s r_X11_helps_3 rfl rfl ?_
  refine xm_E_f q2 ?_
  refine xm_E_s r_X11_helps_4 rfl rfl ?_
  refine xm_E_s r_X11_helps_5 rfl rfl ?_
  refine xm_E_cv [.ref l0, .int (-1 : Int32)] [] r_X11_helps_6 rfl rfl (Nat.le_of_ble_eq_true rfl) (xm_rc q1 (by decide)) rfl q3 ?_
  refine xm_E_s r_X11_helps_7 rfl rfl ?_
  refine xm_E_s r_X11_helps_8 rfl rfl ?_
  refine xm_E_cv [.ref l0, .int l1] [.int r1] r_X11_helps_9 rfl rfl (Nat.le_of_ble_eq_true rfl) (xm_rc q1 (by decide)) rfl q4 ?_
  refine xm_E_s r_X11_helps_10 rfl rfl ?_
  refine xm_E_s r_X11_helps_11 rfl rfl ?_
  exact xm_E_iret r_X11_helps_13 rfl rfl
theorem r_X11_drawn_0 : co_X11_drawn[0]? = some ((0, .aload_n 0, 0, 0, 0, 0, 0, 0, []) : xm_I) := rfl
theorem r_X11_drawn_1 : co_X11_drawn[1]? = some ((1, .iload_n 2, 0, 0, 0, 0, 0, 0, []) : xm_I) := rfl
theorem r_X11_drawn_2 : co_X11_drawn[2]? = some ((2, .iload_n 1, 0, 0, 0, 0, 0, 0, []) : xm_I) := rfl
theorem r_X11_drawn_3 : co_X11_drawn[3]? = some ((3, .invokestatic 529, 2068, 322, 1, 0, 0, 0, []) : xm_I) := rfl
theorem r_X11_drawn_4 : co_X11_drawn[4]? = some ((6, .ifCond .eq 14, 0, 0, 10, 0, 0, 0, []) : xm_I) := rfl
theorem r_X11_drawn_5 : co_X11_drawn[5]? = some ((9, .iload_n 3, 0, 0, 0, 0, 0, 0, []) : xm_I) := rfl
theorem r_X11_drawn_6 : co_X11_drawn[6]? = some ((10, .invokestatic 327, 1647, 217, 1, 0, 0, 0, []) : xm_I) := rfl
theorem r_X11_drawn_7 : co_X11_drawn[7]? = some ((13, .ifCond .eq 7, 0, 0, 10, 0, 0, 0, []) : xm_I) := rfl
theorem r_X11_drawn_8 : co_X11_drawn[8]? = some ((16, .iconst 1, 0, 0, 0, 0, 1, 0, []) : xm_I) := rfl
theorem r_X11_drawn_9 : co_X11_drawn[9]? = some ((17, .goto 4, 0, 0, 11, 0, 0, 0, []) : xm_I) := rfl
theorem r_X11_drawn_10 : co_X11_drawn[10]? = some ((20, .iconst 0, 0, 0, 0, 0, 0, 0, []) : xm_I) := rfl
theorem r_X11_drawn_11 : co_X11_drawn[11]? = some ((21, .iconst 1, 0, 0, 0, 0, 1, 0, []) : xm_I) := rfl
theorem r_X11_drawn_12 : co_X11_drawn[12]? = some ((22, .invokevirtual 373, 1778, 252, 4, 10, 0, 0, []) : xm_I) := rfl
theorem r_X11_drawn_13 : co_X11_drawn[13]? = some ((25, .istore 4, 0, 0, 0, 0, 0, 0, []) : xm_I) := rfl
theorem r_X11_drawn_14 : co_X11_drawn[14]? = some ((27, .iload 4, 0, 0, 0, 0, 0, 0, []) : xm_I) := rfl
theorem r_X11_drawn_15 : co_X11_drawn[15]? = some ((29, .ifCond .ge 19, 0, 0, 23, 0, 0, 0, []) : xm_I) := rfl
theorem r_X11_drawn_16 : co_X11_drawn[16]? = some ((32, .iload 4, 0, 0, 0, 0, 0, 0, []) : xm_I) := rfl
theorem r_X11_drawn_17 : co_X11_drawn[17]? = some ((34, .bipush (-6), 0, 0, 0, 0, (-6), 0, []) : xm_I) := rfl
theorem r_X11_drawn_18 : co_X11_drawn[18]? = some ((36, .if_icmp .ne 9, 0, 0, 21, 0, 0, 0, []) : xm_I) := rfl
theorem r_X11_drawn_19 : co_X11_drawn[19]? = some ((39, .sipush (-600), 0, 0, 0, 0, (-600), 0, []) : xm_I) := rfl
theorem r_X11_drawn_20 : co_X11_drawn[20]? = some ((42, .goto 5, 0, 0, 22, 0, 0, 0, []) : xm_I) := rfl
theorem r_X11_drawn_21 : co_X11_drawn[21]? = some ((45, .bipush (-100), 0, 0, 0, 0, (-100), 0, []) : xm_I) := rfl
theorem r_X11_drawn_22 : co_X11_drawn[22]? = some ((47, .ireturn, 0, 0, 0, 0, 0, 0, []) : xm_I) := rfl
theorem r_X11_drawn_23 : co_X11_drawn[23]? = some ((48, .aload_n 0, 0, 0, 0, 0, 0, 0, []) : xm_I) := rfl
theorem r_X11_drawn_24 : co_X11_drawn[24]? = some ((49, .iload_n 1, 0, 0, 0, 0, 0, 0, []) : xm_I) := rfl
theorem r_X11_drawn_25 : co_X11_drawn[25]? = some ((50, .i2l, 0, 0, 0, 0, 0, 0, []) : xm_I) := rfl
theorem r_X11_drawn_26 : co_X11_drawn[26]? = some ((51, .iload_n 2, 0, 0, 0, 0, 0, 0, []) : xm_I) := rfl
theorem r_X11_drawn_27 : co_X11_drawn[27]? = some ((52, .invokevirtual 532, 2072, 323, 3, 10, 0, 0, []) : xm_I) := rfl
theorem r_X11_drawn_28 : co_X11_drawn[28]? = some ((55, .aload_n 0, 0, 0, 0, 0, 0, 0, []) : xm_I) := rfl
theorem r_X11_drawn_29 : co_X11_drawn[29]? = some ((56, .aload_n 0, 0, 0, 0, 0, 0, 0, []) : xm_I) := rfl
theorem r_X11_drawn_30 : co_X11_drawn[30]? = some ((57, .getfield 364, 1397, 10, 17, 0, 0, 0, []) : xm_I) := rfl
theorem r_X11_drawn_31 : co_X11_drawn[31]? = some ((60, .iload_n 3, 0, 0, 0, 0, 0, 0, []) : xm_I) := rfl
theorem r_X11_drawn_32 : co_X11_drawn[32]? = some ((61, .aload_n 0, 0, 0, 0, 0, 0, 0, []) : xm_I) := rfl
theorem r_X11_drawn_33 : co_X11_drawn[33]? = some ((62, .getfield 367, 1398, 10, 18, 0, 0, 0, []) : xm_I) := rfl
theorem r_X11_drawn_34 : co_X11_drawn[34]? = some ((65, .invokevirtual 337, 1715, 236, 4, 10, 0, 0, []) : xm_I) := rfl
theorem r_X11_drawn_35 : co_X11_drawn[35]? = some ((68, .ireturn, 0, 0, 0, 0, 0, 0, []) : xm_I) := rfl
theorem p_X11_drawn_0_0 {X : xm_X} {P : List xm_M} {d : Nat} {h : xm_H} {l0 : Nat} {l1 : Int32} {l2 : Int32} {l3 : Int32} {h0 : xm_H} {r0 : Int32} {h1 : xm_H} {r1 : Int32} {h2 : xm_H} {h3 : xm_H} {r3 : Int32} (q0 : xm_V X P d 322 [.int l1] h (some (.int r0)) h0) (q1 : r0 = (0 : Int32)) (q2 : xm_V X P d 252 [.ref l0, .int l2, .int (0 : Int32), .int (1 : Int32)] h0 (some (.int r1)) h1) (q3 : X.1[l0]? = some (.inr 10)) (q4 : (0 : Int32) ≤ r1) (q5 : xm_V X P d 323 [.ref l0, .long l1.toInt64, .int l2] h1 none h2) (q6 : xm_V X P d 236 [.ref l0, .int (h2.1 l0 17), .int l3, .int (h2.1 l0 18)] h2 (some (.int r3)) h3) : xm_E X P d co_X11_drawn 0 [some (.ref l0), some (.int l1), some (.int l2), some (.int l3), none] [] h (some (.int r3)) h3 := by
  refine xm_E_s r_X11_drawn_0 rfl rfl ?_
  refine xm_E_s r_X11_drawn_1 rfl rfl ?_
  refine xm_E_s r_X11_drawn_2 rfl rfl ?_
  refine xm_E_cs [.int l1] [.int l2, .ref l0] r_X11_drawn_3 rfl rfl rfl (Nat.le_of_ble_eq_true rfl) rfl q0 ?_
  refine xm_E_s r_X11_drawn_4 rfl rfl ?_
  refine xm_E_t q1 ?_
  refine xm_E_s r_X11_drawn_10 rfl rfl ?_
  refine xm_E_s r_X11_drawn_11 rfl rfl ?_
  refine xm_E_cv [.ref l0, .int l2, .int (0 : Int32), .int (1 : Int32)] [] r_X11_drawn_12 rfl rfl (Nat.le_of_ble_eq_true rfl) (xm_rc q3 (by decide)) rfl q2 ?_
  refine xm_E_s (ls1 := [some (.ref l0), some (.int l1), some (.int l2), some (.int l3), some (.int r1)]) r_X11_drawn_13 rfl rfl ?_
  refine xm_E_s r_X11_drawn_14 rfl rfl ?_
  refine xm_E_s r_X11_drawn_15 rfl rfl ?_
  refine xm_E_t q4 ?_
  refine xm_E_s r_X11_drawn_23 rfl rfl ?_
  refine xm_E_s r_X11_drawn_24 rfl rfl ?_
  refine xm_E_s r_X11_drawn_25 rfl rfl ?_
  refine xm_E_s r_X11_drawn_26 rfl rfl ?_
  refine xm_E_cv [.ref l0, .long l1.toInt64, .int l2] [] r_X11_drawn_27 rfl rfl (Nat.le_of_ble_eq_true rfl) (xm_rc q3 (by decide)) rfl q5 ?_
  refine xm_E_s r_X11_drawn_28 rfl rfl ?_
  refine xm_E_s r_X11_drawn_29 rfl rfl ?_
  refine xm_E_s r_X11_drawn_30 rfl (xm_T_gi rfl q3 rfl (Or.inl rfl)) ?_
  refine xm_E_s r_X11_drawn_31 rfl rfl ?_
  refine xm_E_s r_X11_drawn_32 rfl rfl ?_
  refine xm_E_s r_X11_drawn_33 rfl (xm_T_gi rfl q3 rfl (Or.inl rfl)) ?_
  refine xm_E_cv [.ref l0, .int (h2.1 l0 17), .int l3, .int (h2.1 l0 18)] [] r_X11_drawn_34 rfl rfl (Nat.le_of_ble_eq_true rfl) (xm_rc q3 (by decide)) rfl q6 ?_
  exact xm_E_iret r_X11_drawn_35 rfl rfl
theorem p_X11_drawn_0_1 {X : xm_X} {P : List xm_M} {d : Nat} {h : xm_H} {l0 : Nat} {l1 : Int32} {l2 : Int32} {l3 : Int32} {h0 : xm_H} {r0 : Int32} {h1 : xm_H} {r1 : Int32} (q0 : xm_V X P d 322 [.int l1] h (some (.int r0)) h0) (q1 : r0 = (0 : Int32)) (q2 : xm_V X P d 252 [.ref l0, .int l2, .int (0 : Int32), .int (1 : Int32)] h0 (some (.int r1)) h1) (q3 : X.1[l0]? = some (.inr 10)) (q4 : ¬ ((0 : Int32) ≤ r1)) (q5 : r1 = (-6 : Int32)) : xm_E X P d co_X11_drawn 0 [some (.ref l0), some (.int l1), some (.int l2), some (.int l3), none] [] h (some (.int (-600 : Int32))) h1 := by
  refine xm_E_s r_X11_drawn_0 rfl rfl ?_
  refine xm_E_s r_X11_drawn_1 rfl rfl ?_
  refine xm_E_s r_X11_drawn_2 rfl rfl ?_
  refine xm_E_cs [.int l1] [.int l2, .ref l0] r_X11_drawn_3 rfl rfl rfl (Nat.le_of_ble_eq_true rfl) rfl q0 ?_
  refine xm_E_s r_X11_drawn_4 rfl rfl ?_
  refine xm_E_t q1 ?_
  refine xm_E_s r_X11_drawn_10 rfl rfl ?_
  refine xm_E_s r_X11_drawn_11 rfl rfl ?_
  refine xm_E_cv [.ref l0, .int l2, .int (0 : Int32), .int (1 : Int32)] [] r_X11_drawn_12 rfl rfl (Nat.le_of_ble_eq_true rfl) (xm_rc q3 (by decide)) rfl q2 ?_
  refine xm_E_s (ls1 := [some (.ref l0), some (.int l1), some (.int l2), some (.int l3), some (.int r1)]) r_X11_drawn_13 rfl rfl ?_
  refine xm_E_s r_X11_drawn_14 rfl rfl ?_
  refine xm_E_s r_X11_drawn_15 rfl rfl ?_
  refine xm_E_f q4 ?_
  refine xm_E_s r_X11_drawn_16 rfl rfl ?_
  refine xm_E_s r_X11_drawn_17 rfl rfl ?_
  refine xm_E_s r_X11_drawn_18 rfl rfl ?_
  refine xm_E_t q5 ?_
  refine xm_E_s r_X11_drawn_19 rfl rfl ?_
  refine xm_E_s r_X11_drawn_20 rfl rfl ?_
  exact xm_E_iret r_X11_drawn_22 rfl rfl
theorem p_X11_drawn_0_2 {X : xm_X} {P : List xm_M} {d : Nat} {h : xm_H} {l0 : Nat} {l1 : Int32} {l2 : Int32} {l3 : Int32} {h0 : xm_H} {r0 : Int32} {h1 : xm_H} {r1 : Int32} (q0 : xm_V X P d 322 [.int l1] h (some (.int r0)) h0) (q1 : r0 = (0 : Int32)) (q2 : xm_V X P d 252 [.ref l0, .int l2, .int (0 : Int32), .int (1 : Int32)] h0 (some (.int r1)) h1) (q3 : X.1[l0]? = some (.inr 10)) (q4 : ¬ ((0 : Int32) ≤ r1)) (q5 : ¬ (r1 = (-6 : Int32))) : xm_E X P d co_X11_drawn 0 [some (.ref l0), some (.int l1), some (.int l2), some (.int l3), none] [] h (some (.int (-100 : Int32))) h1 := by
  refine xm_E_s r_X11_drawn_0 rfl rfl ?_
  refine xm_E_s r_X11_drawn_1 rfl rfl ?_
  refine xm_E_s r_X11_drawn_2 rfl rfl ?_
  refine xm_E_cs [.int l1] [.int l2, .ref l0] r_X11_drawn_3 rfl rfl rfl (Nat.le_of_ble_eq_true rfl) rfl q0 ?_
  refine xm_E_s r_X11_drawn_4 rfl rfl ?_
  refine xm_E_t q1 ?_
  refine xm_E_s r_X11_drawn_10 rfl rfl ?_
  refine xm_E_s r_X11_drawn_11 rfl rfl ?_
  refine xm_E_cv [.ref l0, .int l2, .int (0 : Int32), .int (1 : Int32)] [] r_X11_drawn_12 rfl rfl (Nat.le_of_ble_eq_true rfl) (xm_rc q3 (by decide)) rfl q2 ?_
  refine xm_E_s (ls1 := [some (.ref l0), some (.int l1), some (.int l2), some (.int l3), some (.int r1)]) r_X11_drawn_13 rfl rfl ?_
  refine xm_E_s r_X11_drawn_14 rfl rfl ?_
  refine xm_E_s r_X11_drawn_15 rfl rfl ?_
  refine xm_E_f q4 ?_
  refine xm_E_s r_X11_drawn_16 rfl rfl ?_
  refine xm_E_s r_X11_drawn_17 rfl rfl ?_
  refine xm_E_s r_X11_drawn_18 rfl rfl ?_
  refine xm_E_f q5 ?_
  refine xm_E_s r_X11_drawn_21 rfl rfl ?_
  exact xm_E_iret r_X11_drawn_22 rfl rfl
theorem p_X11_drawn_0_3 {X : xm_X} {P : List xm_M} {d : Nat} {h : xm_H} {l0 : Nat} {l1 : Int32} {l2 : Int32} {l3 : Int32} {h0 : xm_H} {r0 : Int32} {h1 : xm_H} {r1 : Int32} {h2 : xm_H} {r2 : Int32} {h3 : xm_H} {h4 : xm_H} {r4 : Int32} (q0 : xm_V X P d 322 [.int l1] h (some (.int r0)) h0) (q1 : ¬ (r0 = (0 : Int32))) (q2 : xm_V X P d 217 [.int l3] h0 (some (.int r1)) h1) (q3 : r1 = (0 : Int32)) (q4 : xm_V X P d 252 [.ref l0, .int l2, .int (0 : Int32), .int (1 : Int32)] h1 (some (.int r2)) h2) (q5 : X.1[l0]? = some (.inr 10)) (q6 : (0 : Int32) ≤ r2) (q7 : xm_V X P d 323 [.ref l0, .long l1.toInt64, .int l2] h2 none h3) (q8 : xm_V X P d 236 [.ref l0, .int (h3.1 l0 17), .int l3, .int (h3.1 l0 18)] h3 (some (.int r4)) h4) : xm_E X P d co_X11_drawn 0 [some (.ref l0), some (.int l1), some (.int l2), some (.int l3), none] [] h (some (.int r4)) h4 := by
  refine xm_E_s r_X11_drawn_0 rfl rfl ?_
  refine xm_E_s r_X11_drawn_1 rfl rfl ?_
  refine xm_E_s r_X11_drawn_2 rfl rfl ?_
  refine xm_E_cs [.int l1] [.int l2, .ref l0] r_X11_drawn_3 rfl rfl rfl (Nat.le_of_ble_eq_true rfl) rfl q0 ?_
  refine xm_E_s r_X11_drawn_4 rfl rfl ?_
  refine xm_E_f q1 ?_
  refine xm_E_s r_X11_drawn_5 rfl rfl ?_
  refine xm_E_cs [.int l3] [.int l2, .ref l0] r_X11_drawn_6 rfl rfl rfl (Nat.le_of_ble_eq_true rfl) rfl q2 ?_
  refine xm_E_s r_X11_drawn_7 rfl rfl ?_
  refine xm_E_t q3 ?_
  refine xm_E_s r_X11_drawn_10 rfl rfl ?_
  refine xm_E_s r_X11_drawn_11 rfl rfl ?_
  refine xm_E_cv [.ref l0, .int l2, .int (0 : Int32), .int (1 : Int32)] [] r_X11_drawn_12 rfl rfl (Nat.le_of_ble_eq_true rfl) (xm_rc q5 (by decide)) rfl q4 ?_
  refine xm_E_s (ls1 := [some (.ref l0), some (.int l1), some (.int l2), some (.int l3), some (.int r2)]) r_X11_drawn_13 rfl rfl ?_
  refine xm_E_s r_X11_drawn_14 rfl rfl ?_
  refine xm_E_s r_X11_drawn_15 rfl rfl ?_
  refine xm_E_t q6 ?_
  refine xm_E_s r_X11_drawn_23 rfl rfl ?_
  refine xm_E_s r_X11_drawn_24 rfl rfl ?_
  refine xm_E_s r_X11_drawn_25 rfl rfl ?_
  refine xm_E_s r_X11_drawn_26 rfl rfl ?_
  refine xm_E_cv [.ref l0, .long l1.toInt64, .int l2] [] r_X11_drawn_27 rfl rfl (Nat.le_of_ble_eq_true rfl) (xm_rc q5 (by decide)) rfl q7 ?_
  refine xm_E_s r_X11_drawn_28 rfl rfl ?_
  refine xm_E_s r_X11_drawn_29 rfl rfl ?_
  refine xm_E_s r_X11_drawn_30 rfl (xm_T_gi rfl q5 rfl (Or.inl rfl)) ?_
  refine xm_E_s r_X11_drawn_31 rfl rfl ?_
  refine xm_E_s r_X11_drawn_32 rfl rfl ?_
  refine xm_E_s r_X11_drawn_33 rfl (xm_T_gi rfl q5 rfl (Or.inl rfl)) ?_
  refine xm_E_cv [.ref l0, .int (h3.1 l0 17), .int l3, .int (h3.1 l0 18)] [] r_X11_drawn_34 rfl rfl (Nat.le_of_ble_eq_true rfl) (xm_rc q5 (by decide)) rfl q8 ?_
  exact xm_E_iret r_X11_drawn_35 rfl rfl
theorem p_X11_drawn_0_4 {X : xm_X} {P : List xm_M} {d : Nat} {h : xm_H} {l0 : Nat} {l1 : Int32} {l2 : Int32} {l3 : Int32} {h0 : xm_H} {r0 : Int32} {h1 : xm_H} {r1 : Int32} {h2 : xm_H} {r2 : Int32} (q0 : xm_V X P d 322 [.int l1] h (some (.int r0)) h0) (q1 : ¬ (r0 = (0 : Int32))) (q2 : xm_V X P d 217 [.int l3] h0 (some (.int r1)) h1) (q3 : r1 = (0 : Int32)) (q4 : xm_V X P d 252 [.ref l0, .int l2, .int (0 : Int32), .int (1 : Int32)] h1 (some (.int r2)) h2) (q5 : X.1[l0]? = some (.inr 10)) (q6 : ¬ ((0 : Int32) ≤ r2)) (q7 : r2 = (-6 : Int32)) : xm_E X P d co_X11_drawn 0 [some (.ref l0), some (.int l1), some (.int l2), some (.int l3), none] [] h (some (.int (-600 : Int32))) h2 := by
  refine xm_E_s r_X11_drawn_0 rfl rfl ?_
  refine xm_E_s r_X11_drawn_1 rfl rfl ?_
  refine xm_E_s r_X11_drawn_2 rfl rfl ?_
  refine xm_E_cs [.int l1] [.int l2, .ref l0] r_X11_drawn_3 rfl rfl rfl (Nat.le_of_ble_eq_true rfl) rfl q0 ?_
  refine xm_E_s r_X11_drawn_4 rfl rfl ?_
  refine xm_E_f q1 ?_
  refine xm_E_s r_X11_drawn_5 rfl rfl ?_
  refine xm_E_cs [.int l3] [.int l2, .ref l0] r_X11_drawn_6 rfl rfl rfl (Nat.le_of_ble_eq_true rfl) rfl q2 ?_
  refine xm_E_s r_X11_drawn_7 rfl rfl ?_
  refine xm_E_t q3 ?_
  refine xm_E_s r_X11_drawn_10 rfl rfl ?_
  refine xm_E_s r_X11_drawn_11 rfl rfl ?_
  refine xm_E_cv [.ref l0, .int l2, .int (0 : Int32), .int (1 : Int32)] [] r_X11_drawn_12 rfl rfl (Nat.le_of_ble_eq_true rfl) (xm_rc q5 (by decide)) rfl q4 ?_
  refine xm_E_s (ls1 := [some (.ref l0), some (.int l1), some (.int l2), some (.int l3), some (.int r2)]) r_X11_drawn_13 rfl rfl ?_
  refine xm_E_s r_X11_drawn_14 rfl rfl ?_
  refine xm_E_s r_X11_drawn_15 rfl rfl ?_
  refine xm_E_f q6 ?_
  refine xm_E_s r_X11_drawn_16 rfl rfl ?_
  refine xm_E_s r_X11_drawn_17 rfl rfl ?_
  refine xm_E_s r_X11_drawn_18 rfl rfl ?_
  refine xm_E_t q7 ?_
  refine xm_E_s r_X11_drawn_19 rfl rfl ?_
  refine xm_E_s r_X11_drawn_20 rfl rfl ?_
  exact xm_E_iret r_X11_drawn_22 rfl rfl
theorem p_X11_drawn_0_5 {X : xm_X} {P : List xm_M} {d : Nat} {h : xm_H} {l0 : Nat} {l1 : Int32} {l2 : Int32} {l3 : Int32} {h0 : xm_H} {r0 : Int32} {h1 : xm_H} {r1 : Int32} {h2 : xm_H} {r2 : Int32} (q0 : xm_V X P d 322 [.int l1] h (some (.int r0)) h0) (q1 : ¬ (r0 = (0 : Int32))) (q2 : xm_V X P d 217 [.int l3] h0 (some (.int r1)) h1) (q3 : r1 = (0 : Int32)) (q4 : xm_V X P d 252 [.ref l0, .int l2, .int (0 : Int32), .int (1 : Int32)] h1 (some (.int r2)) h2) (q5 : X.1[l0]? = some (.inr 10)) (q6 : ¬ ((0 : Int32) ≤ r2)) (q7 : ¬ (r2 = (-6 : Int32))) : xm_E X P d co_X11_drawn 0 [some (.ref l0), some (.int l1), some (.int l2), some (.int l3), none] [] h (some (.int (-100 : Int32))) h2 := by
  refine xm_E_s r_X11_drawn_0 rfl rfl ?_
  refine xm_E_s r_X11_drawn_1 rfl rfl ?_
  refine xm_E_s r_X11_drawn_2 rfl rfl ?_
  refine xm_E_cs [.int l1] [.int l2, .ref l0] r_X11_drawn_3 rfl rfl rfl (Nat.le_of_ble_eq_true rfl) rfl q0 ?_
  refine xm_E_s r_X11_drawn_4 rfl rfl ?_
  refine xm_E_f q1 ?_
  refine xm_E_s r_X11_drawn_5 rfl rfl ?_
  refine xm_E_cs [.int l3] [.int l2, .ref l0] r_X11_drawn_6 rfl rfl rfl (Nat.le_of_ble_eq_true rfl) rfl q2 ?_
  refine xm_E_s r_X11_drawn_7 rfl rfl ?_
  refine xm_E_t q3 ?_
  refine xm_E_s r_X11_drawn_10 rfl rfl ?_
  refine xm_E_s r_X11_drawn_11 rfl rfl ?_
  refine xm_E_cv [.ref l0, .int l2, .int (0 : Int32), .int (1 : Int32)] [] r_X11_drawn_12 rfl rfl (Nat.le_of_ble_eq_true rfl) (xm_rc q5 (by decide)) rfl q4 ?_
  refine xm_E_s (ls1 := [some (.ref l0), some (.int l1), some (.int l2), some (.int l3), some (.int r2)]) r_X11_drawn_13 rfl rfl ?_
  refine xm_E_s r_X11_drawn_14 rfl rfl ?_
  refine xm_E_s r_X11_drawn_15 rfl rfl ?_
  refine xm_E_f q6 ?_
  refine xm_E_s r_X11_drawn_16 rfl rfl ?_
  refine xm_E_s r_X11_drawn_17 rfl rfl ?_
  refine xm_E_s r_X11_drawn_18 rfl rfl ?_
  refine xm_E_f q7 ?_
  refine xm_E_s r_X11_drawn_21 rfl rfl ?_
  exact xm_E_iret r_X11_drawn_22 rfl rfl
theorem p_X11_drawn_0_6 {X : xm_X} {P : List xm_M} {d : Nat} {h : xm_H} {l0 : Nat} {l1 : Int32} {l2 : Int32} {l3 : Int32} {h0 : xm_H} {r0 : Int32} {h1 : xm_H} {r1 : Int32} {h2 : xm_H} {r2 : Int32} {h3 : xm_H} {h4 : xm_H} {r4 : Int32} (q0 : xm_V X P d 322 [.int l1] h (some (.int r0)) h0) (q1 : ¬ (r0 = (0 : Int32))) (q2 : xm_V X P d 217 [.int l3] h0 (some (.int r1)) h1) (q3 : ¬ (r1 = (0 : Int32))) (q4 : xm_V X P d 252 [.ref l0, .int l2, .int (1 : Int32), .int (1 : Int32)] h1 (some (.int r2)) h2) (q5 : X.1[l0]? = some (.inr 10)) (q6 : (0 : Int32) ≤ r2) (q7 : xm_V X P d 323 [.ref l0, .long l1.toInt64, .int l2] h2 none h3) (q8 : xm_V X P d 236 [.ref l0, .int (h3.1 l0 17), .int l3, .int (h3.1 l0 18)] h3 (some (.int r4)) h4) : xm_E X P d co_X11_drawn 0 [some (.ref l0), some (.int l1), some (.int l2), some (.int l3), none] [] h (some (.int r4)) h4 := by
  refine xm_E_s r_X11_drawn_0 rfl rfl ?_
  refine xm_E_s r_X11_drawn_1 rfl rfl ?_
  refine xm_E_s r_X11_drawn_2 rfl rfl ?_
  refine xm_E_cs [.int l1] [.int l2, .ref l0] r_X11_drawn_3 rfl rfl rfl (Nat.le_of_ble_eq_true rfl) rfl q0 ?_
  refine xm_E_s r_X11_drawn_4 rfl rfl ?_
  refine xm_E_f q1 ?_
  refine xm_E_s r_X11_drawn_5 rfl rfl ?_
  refine xm_E_cs [.int l3] [.int l2, .ref l0] r_X11_drawn_6 rfl rfl rfl (Nat.le_of_ble_eq_true rfl) rfl q2 ?_
  refine xm_E_s r_X11_drawn_7 rfl rfl ?_
  refine xm_E_f q3 ?_
  refine xm_E_s r_X11_drawn_8 rfl rfl ?_
  refine xm_E_s r_X11_drawn_9 rfl rfl ?_
  refine xm_E_s r_X11_drawn_11 rfl rfl ?_
  refine xm_E_cv [.ref l0, .int l2, .int (1 : Int32), .int (1 : Int32)] [] r_X11_drawn_12 rfl rfl (Nat.le_of_ble_eq_true rfl) (xm_rc q5 (by decide)) rfl q4 ?_
  refine xm_E_s (ls1 := [some (.ref l0), some (.int l1), some (.int l2), some (.int l3), some (.int r2)]) r_X11_drawn_13 rfl rfl ?_
  refine xm_E_s r_X11_drawn_14 rfl rfl ?_
  refine xm_E_s r_X11_drawn_15 rfl rfl ?_
  refine xm_E_t q6 ?_
  refine xm_E_s r_X11_drawn_23 rfl rfl ?_
  refine xm_E_s r_X11_drawn_24 rfl rfl ?_
  refine xm_E_s r_X11_drawn_25 rfl rfl ?_
  refine xm_E_s r_X11_drawn_26 rfl rfl ?_
  refine xm_E_cv [.ref l0, .long l1.toInt64, .int l2] [] r_X11_drawn_27 rfl rfl (Nat.le_of_ble_eq_true rfl) (xm_rc q5 (by decide)) rfl q7 ?_
  refine xm_E_s r_X11_drawn_28 rfl rfl ?_
  refine xm_E_s r_X11_drawn_29 rfl rfl ?_
  refine xm_E_s r_X11_drawn_30 rfl (xm_T_gi rfl q5 rfl (Or.inl rfl)) ?_
  refine xm_E_s r_X11_drawn_31 rfl rfl ?_
  refine xm_E_s r_X11_drawn_32 rfl rfl ?_
  refine xm_E_s r_X11_drawn_33 rfl (xm_T_gi rfl q5 rfl (Or.inl rfl)) ?_
  refine xm_E_cv [.ref l0, .int (h3.1 l0 17), .int l3, .int (h3.1 l0 18)] [] r_X11_drawn_34 rfl rfl (Nat.le_of_ble_eq_true rfl) (xm_rc q5 (by decide)) rfl q8 ?_
  exact xm_E_iret r_X11_drawn_35 rfl rfl
theorem p_X11_drawn_0_7 {X : xm_X} {P : List xm_M} {d : Nat} {h : xm_H} {l0 : Nat} {l1 : Int32} {l2 : Int32} {l3 : Int32} {h0 : xm_H} {r0 : Int32} {h1 : xm_H} {r1 : Int32} {h2 : xm_H} {r2 : Int32} (q0 : xm_V X P d 322 [.int l1] h (some (.int r0)) h0) (q1 : ¬ (r0 = (0 : Int32))) (q2 : xm_V X P d 217 [.int l3] h0 (some (.int r1)) h1) (q3 : ¬ (r1 = (0 : Int32))) (q4 : xm_V X P d 252 [.ref l0, .int l2, .int (1 : Int32), .int (1 : Int32)] h1 (some (.int r2)) h2) (q5 : X.1[l0]? = some (.inr 10)) (q6 : ¬ ((0 : Int32) ≤ r2)) (q7 : r2 = (-6 : Int32)) : xm_E X P d co_X11_drawn 0 [some (.ref l0), some (.int l1), some (.int l2), some (.int l3), none] [] h (some (.int (-600 : Int32))) h2 := by
  refine xm_E_s r_X11_drawn_0 rfl rfl ?_
  refine xm_E_s r_X11_drawn_1 rfl rfl ?_
  refine xm_E_s r_X11_drawn_2 rfl rfl ?_
  refine xm_E_cs [.int l1] [.int l2, .ref l0] r_X11_drawn_3 rfl rfl rfl (Nat.le_of_ble_eq_true rfl) rfl q0 ?_
  refine xm_E_s r_X11_drawn_4 rfl rfl ?_
  refine xm_E_f q1 ?_
  refine xm_E_s r_X11_drawn_5 rfl rfl ?_
  refine xm_E_cs [.int l3] [.int l2, .ref l0] r_X11_drawn_6 rfl rfl rfl (Nat.le_of_ble_eq_true rfl) rfl q2 ?_
  refine xm_E_s r_X11_drawn_7 rfl rfl ?_
  refine xm_E_f q3 ?_
  refine xm_E_s r_X11_drawn_8 rfl rfl ?_
  refine xm_E_s r_X11_drawn_9 rfl rfl ?_
  refine xm_E_s r_X11_drawn_11 rfl rfl ?_
  refine xm_E_cv [.ref l0, .int l2, .int (1 : Int32), .int (1 : Int32)] [] r_X11_drawn_12 rfl rfl (Nat.le_of_ble_eq_true rfl) (xm_rc q5 (by decide)) rfl q4 ?_
  refine xm_E_s (ls1 := [some (.ref l0), some (.int l1), some (.int l2), some (.int l3), some (.int r2)]) r_X11_drawn_13 rfl rfl ?_
  refine xm_E_s r_X11_drawn_14 rfl rfl ?_
  refine xm_E_s r_X11_drawn_15 rfl rfl ?_
  refine xm_E_f q6 ?_
  refine xm_E_s r_X11_drawn_16 rfl rfl ?_
  refine xm_E_s r_X11_drawn_17 rfl rfl ?_
  refine xm_E_s r_X11_drawn_18 rfl rfl ?_
  refine xm_E_t q7 ?_
  refine xm_E_s r_X11_drawn_19 rfl rfl ?_
  refine xm_E_s r_X11_drawn_20 rfl rfl ?_
  exact xm_E_iret r_X11_drawn_22 rfl rfl
theorem p_X11_drawn_0_8 {X : xm_X} {P : List xm_M} {d : Nat} {h : xm_H} {l0 : Nat} {l1 : Int32} {l2 : Int32} {l3 : Int32} {h0 : xm_H} {r0 : Int32} {h1 : xm_H} {r1 : Int32} {h2 : xm_H} {r2 : Int32} (q0 : xm_V X P d 322 [.int l1] h (some (.int r0)) h0) (q1 : ¬ (r0 = (0 : Int32))) (q2 : xm_V X P d 217 [.int l3] h0 (some (.int r1)) h1) (q3 : ¬ (r1 = (0 : Int32))) (q4 : xm_V X P d 252 [.ref l0, .int l2, .int (1 : Int32), .int (1 : Int32)] h1 (some (.int r2)) h2) (q5 : X.1[l0]? = some (.inr 10)) (q6 : ¬ ((0 : Int32) ≤ r2)) (q7 : ¬ (r2 = (-6 : Int32))) : xm_E X P d co_X11_drawn 0 [some (.ref l0), some (.int l1), some (.int l2), some (.int l3), none] [] h (some (.int (-100 : Int32))) h2 := by
  refine xm_E_s r_X11_drawn_0 rfl rfl ?_
  refine xm_E_s r_X11_drawn_1 rfl rfl ?_
  refine xm_E_s r_X11_drawn_2 rfl rfl ?_
  refine xm_E_cs [.int l1] [.int l2, .ref l0] r_X11_drawn_3 rfl rfl rfl (Nat.le_of_ble_eq_true rfl) rfl q0 ?_
  refine xm_E_s r_X11_drawn_4 rfl rfl ?_
  refine xm_E_f q1 ?_
  refine xm_E_s r_X11_drawn_5 rfl rfl ?_
  refine xm_E_cs [.int l3] [.int l2, .ref l0] r_X11_drawn_6 rfl rfl rfl (Nat.le_of_ble_eq_true rfl) rfl q2 ?_
  refine xm_E_s r_X11_drawn_7 rfl rfl ?_
  refine xm_E_f q3 ?_
  refine xm_E_s r_X11_drawn_8 rfl rfl ?_
  refine xm_E_s r_X11_drawn_9 rfl rfl ?_
  refine xm_E_s r_X11_drawn_11 rfl rfl ?_
  refine xm_E_cv [.ref l0, .int l2, .int (1 : Int32), .int (1 : Int32)] [] r_X11_drawn_12 rfl rfl (Nat.le_of_ble_eq_true rfl) (xm_rc q5 (by decide)) rfl q4 ?_
  refine xm_E_s (ls1 := [some (.ref l0), some (.int l1), some (.int l2), some (.int l3), some (.int r2)]) r_X11_drawn_13 rfl rfl ?_
  refine xm_E_s r_X11_drawn_14 rfl rfl ?_
  refine xm_E_s r_X11_drawn_15 rfl rfl ?_
  refine xm_E_f q6 ?_
  refine xm_E_s r_X11_drawn_16 rfl rfl ?_
  refine xm_E_s r_X11_drawn_17 rfl rfl ?_
  refine xm_E_s r_X11_drawn_18 rfl rfl ?_
  refine xm_E_f q7 ?_
  refine xm_E_s r_X11_drawn_21 rfl rfl ?_
  exact xm_E_iret r_X11_drawn_22 rfl rfl
theorem r_X11_isSeed_0 : co_X11_isSeed[0]? = some ((0, .iload_n 0, 0, 0, 0, 0, 0, 0, []) : xm_I) := rfl
theorem r_X11_isSeed_1 : co_X11_isSeed[1]? = some ((1, .i2l, 0, 0, 0, 0, 0, 0, []) : xm_I) := rfl
theorem r_X11_isSeed_2 : co_X11_isSeed[2]? = some ((2, .lconst 0, 0, 0, 0, 0, 0, 0, []) : xm_I) := rfl
theorem r_X11_isSeed_3 : co_X11_isSeed[3]? = some ((3, .ldc2_w 527, 2071, 0, 0, 0, 0, 2000000000, []) : xm_I) := rfl
theorem r_X11_isSeed_4 : co_X11_isSeed[4]? = some ((6, .invokestatic 84, 1503, 191, 3, 0, 0, 0, []) : xm_I) := rfl
theorem r_X11_isSeed_5 : co_X11_isSeed[5]? = some ((9, .ireturn, 0, 0, 0, 3, 0, 0, []) : xm_I) := rfl
theorem p_X11_isSeed_0_0 {X : xm_X} {P : List xm_M} {d : Nat} {h : xm_H} {l0 : Int32} {h0 : xm_H} {r0 : Int32} (q0 : xm_V X P d 191 [.long l0.toInt64, .long (0 : Int64), .long (2000000000 : Int64)] h (some (.int r0)) h0) (q1 : xm_okr 3 r0 = true) : xm_E X P d co_X11_isSeed 0 [some (.int l0)] [] h (some (.int r0)) h0 := by
  refine xm_E_s r_X11_isSeed_0 rfl rfl ?_
  refine xm_E_s r_X11_isSeed_1 rfl rfl ?_
  refine xm_E_s r_X11_isSeed_2 rfl rfl ?_
  refine xm_E_s r_X11_isSeed_3 rfl rfl ?_
  refine xm_E_cs [.long l0.toInt64, .long (0 : Int64), .long (2000000000 : Int64)] [] r_X11_isSeed_4 rfl rfl rfl (Nat.le_of_ble_eq_true rfl) rfl q0 ?_
  exact xm_E_iret r_X11_isSeed_5 rfl q1
theorem r_X11_callsDrawn_0 : co_X11_callsDrawn[0]? = some ((0, .aload_n 0, 0, 0, 0, 0, 0, 0, []) : xm_I) := rfl
theorem r_X11_callsDrawn_1 : co_X11_callsDrawn[1]? = some ((1, .aload_n 0, 0, 0, 0, 0, 0, 0, []) : xm_I) := rfl
theorem r_X11_callsDrawn_2 : co_X11_callsDrawn[2]? = some ((2, .invokevirtual 331, 1651, 218, 1, 10, 0, 0, []) : xm_I) := rfl
theorem r_X11_callsDrawn_3 : co_X11_callsDrawn[3]? = some ((5, .putfield 364, 1397, 10, 17, 0, 0, 0, []) : xm_I) := rfl
theorem r_X11_callsDrawn_4 : co_X11_callsDrawn[4]? = some ((8, .aload_n 0, 0, 0, 0, 0, 0, 0, []) : xm_I) := rfl
theorem r_X11_callsDrawn_5 : co_X11_callsDrawn[5]? = some ((9, .aload_n 0, 0, 0, 0, 0, 0, 0, []) : xm_I) := rfl
theorem r_X11_callsDrawn_6 : co_X11_callsDrawn[6]? = some ((10, .invokevirtual 334, 1700, 232, 1, 10, 0, 0, []) : xm_I) := rfl
theorem r_X11_callsDrawn_7 : co_X11_callsDrawn[7]? = some ((13, .putfield 367, 1398, 10, 18, 0, 0, 0, []) : xm_I) := rfl
theorem r_X11_callsDrawn_8 : co_X11_callsDrawn[8]? = some ((16, .aload_n 0, 0, 0, 0, 0, 0, 0, []) : xm_I) := rfl
theorem r_X11_callsDrawn_9 : co_X11_callsDrawn[9]? = some ((17, .lload_n 1, 0, 0, 0, 0, 0, 0, []) : xm_I) := rfl
theorem r_X11_callsDrawn_10 : co_X11_callsDrawn[10]? = some ((18, .putfield 511, 1413, 10, 33, 1, 0, 0, []) : xm_I) := rfl
theorem r_X11_callsDrawn_11 : co_X11_callsDrawn[11]? = some ((21, .aload_n 0, 0, 0, 0, 0, 0, 0, []) : xm_I) := rfl
theorem r_X11_callsDrawn_12 : co_X11_callsDrawn[12]? = some ((22, .iconst 0, 0, 0, 0, 0, 0, 0, []) : xm_I) := rfl
theorem r_X11_callsDrawn_13 : co_X11_callsDrawn[13]? = some ((23, .putfield 521, 1414, 10, 34, 0, 0, 0, []) : xm_I) := rfl
theorem r_X11_callsDrawn_14 : co_X11_callsDrawn[14]? = some ((26, .iconst 0, 0, 0, 0, 0, 0, 0, []) : xm_I) := rfl
theorem r_X11_callsDrawn_15 : co_X11_callsDrawn[15]? = some ((27, .istore 4, 0, 0, 0, 0, 0, 0, []) : xm_I) := rfl
theorem r_X11_callsDrawn_16 : co_X11_callsDrawn[16]? = some ((29, .iload 4, 0, 0, 0, 0, 0, 0, []) : xm_I) := rfl
theorem r_X11_callsDrawn_17 : co_X11_callsDrawn[17]? = some ((31, .aload_n 0, 0, 0, 0, 0, 0, 0, []) : xm_I) := rfl
theorem r_X11_callsDrawn_18 : co_X11_callsDrawn[18]? = some ((32, .getfield 67, 1415, 10, 35, 2, 0, 0, []) : xm_I) := rfl
theorem r_X11_callsDrawn_19 : co_X11_callsDrawn[19]? = some ((35, .iload_n 3, 0, 0, 0, 0, 0, 0, []) : xm_I) := rfl
theorem r_X11_callsDrawn_20 : co_X11_callsDrawn[20]? = some ((36, .iaload, 0, 0, 0, 0, 0, 0, []) : xm_I) := rfl
theorem r_X11_callsDrawn_21 : co_X11_callsDrawn[21]? = some ((37, .if_icmp .ge 92, 0, 0, 67, 0, 0, 0, []) : xm_I) := rfl
theorem r_X11_callsDrawn_22 : co_X11_callsDrawn[22]? = some ((40, .aload_n 0, 0, 0, 0, 0, 0, 0, []) : xm_I) := rfl
theorem r_X11_callsDrawn_23 : co_X11_callsDrawn[23]? = some ((41, .iload_n 3, 0, 0, 0, 0, 0, 0, []) : xm_I) := rfl
theorem r_X11_callsDrawn_24 : co_X11_callsDrawn[24]? = some ((42, .iload 4, 0, 0, 0, 0, 0, 0, []) : xm_I) := rfl
theorem r_X11_callsDrawn_25 : co_X11_callsDrawn[25]? = some ((44, .invokevirtual 360, 1786, 254, 3, 10, 0, 0, []) : xm_I) := rfl
theorem r_X11_callsDrawn_26 : co_X11_callsDrawn[26]? = some ((47, .l2i, 0, 0, 0, 0, 0, 0, []) : xm_I) := rfl
theorem r_X11_callsDrawn_27 : co_X11_callsDrawn[27]? = some ((48, .istore 5, 0, 0, 0, 0, 0, 0, []) : xm_I) := rfl
theorem r_X11_callsDrawn_28 : co_X11_callsDrawn[28]? = some ((50, .aload_n 0, 0, 0, 0, 0, 0, 0, []) : xm_I) := rfl
theorem r_X11_callsDrawn_29 : co_X11_callsDrawn[29]? = some ((51, .aload_n 0, 0, 0, 0, 0, 0, 0, []) : xm_I) := rfl
theorem r_X11_callsDrawn_30 : co_X11_callsDrawn[30]? = some ((52, .iload 5, 0, 0, 0, 0, 0, 0, []) : xm_I) := rfl
theorem r_X11_callsDrawn_31 : co_X11_callsDrawn[31]? = some ((54, .invokevirtual 350, 1751, 245, 2, 10, 0, 0, []) : xm_I) := rfl
theorem r_X11_callsDrawn_32 : co_X11_callsDrawn[32]? = some ((57, .iconst 0, 0, 0, 0, 0, 0, 0, []) : xm_I) := rfl
theorem r_X11_callsDrawn_33 : co_X11_callsDrawn[33]? = some ((58, .invokevirtual 524, 2076, 324, 3, 10, 0, 0, []) : xm_I) := rfl
theorem r_X11_callsDrawn_34 : co_X11_callsDrawn[34]? = some ((61, .istore 6, 0, 0, 0, 0, 0, 0, []) : xm_I) := rfl
theorem r_X11_callsDrawn_35 : co_X11_callsDrawn[35]? = some ((63, .iload 6, 0, 0, 0, 0, 0, 0, []) : xm_I) := rfl
theorem r_X11_callsDrawn_36 : co_X11_callsDrawn[36]? = some ((65, .aload_n 0, 0, 0, 0, 0, 0, 0, []) : xm_I) := rfl
theorem r_X11_callsDrawn_37 : co_X11_callsDrawn[37]? = some ((66, .aload_n 0, 0, 0, 0, 0, 0, 0, []) : xm_I) := rfl
theorem r_X11_callsDrawn_38 : co_X11_callsDrawn[38]? = some ((67, .iload 5, 0, 0, 0, 0, 0, 0, []) : xm_I) := rfl
theorem r_X11_callsDrawn_39 : co_X11_callsDrawn[39]? = some ((69, .invokevirtual 352, 1755, 246, 2, 10, 0, 0, []) : xm_I) := rfl
theorem r_X11_callsDrawn_40 : co_X11_callsDrawn[40]? = some ((72, .iconst 1, 0, 0, 0, 0, 1, 0, []) : xm_I) := rfl
theorem r_X11_callsDrawn_41 : co_X11_callsDrawn[41]? = some ((73, .invokevirtual 524, 2076, 324, 3, 10, 0, 0, []) : xm_I) := rfl
theorem r_X11_callsDrawn_42 : co_X11_callsDrawn[42]? = some ((76, .invokestatic 354, 1759, 247, 2, 0, 0, 0, []) : xm_I) := rfl
theorem r_X11_callsDrawn_43 : co_X11_callsDrawn[43]? = some ((79, .istore 7, 0, 0, 0, 0, 0, 0, []) : xm_I) := rfl
theorem r_X11_callsDrawn_44 : co_X11_callsDrawn[44]? = some ((81, .aload_n 0, 0, 0, 0, 0, 0, 0, []) : xm_I) := rfl
theorem r_X11_callsDrawn_45 : co_X11_callsDrawn[45]? = some ((82, .aload_n 0, 0, 0, 0, 0, 0, 0, []) : xm_I) := rfl
theorem r_X11_callsDrawn_46 : co_X11_callsDrawn[46]? = some ((83, .getfield 364, 1397, 10, 17, 0, 0, 0, []) : xm_I) := rfl
theorem r_X11_callsDrawn_47 : co_X11_callsDrawn[47]? = some ((86, .iload 7, 0, 0, 0, 0, 0, 0, []) : xm_I) := rfl
theorem r_X11_callsDrawn_48 : co_X11_callsDrawn[48]? = some ((88, .invokevirtual 311, 1666, 222, 3, 10, 0, 0, []) : xm_I) := rfl
theorem r_X11_callsDrawn_49 : co_X11_callsDrawn[49]? = some ((91, .istore 8, 0, 0, 0, 0, 0, 0, []) : xm_I) := rfl
theorem r_X11_callsDrawn_50 : co_X11_callsDrawn[50]? = some ((93, .iload 8, 0, 0, 0, 0, 0, 0, []) : xm_I) := rfl
theorem r_X11_callsDrawn_51 : co_X11_callsDrawn[51]? = some ((95, .iconst (-1), 0, 0, 0, 0, (-1), 0, []) : xm_I) := rfl
theorem r_X11_callsDrawn_52 : co_X11_callsDrawn[52]? = some ((96, .if_icmp .ne 6, 0, 0, 54, 0, 0, 0, []) : xm_I) := rfl
theorem r_X11_callsDrawn_53 : co_X11_callsDrawn[53]? = some ((99, .goto 24, 0, 0, 65, 0, 0, 0, []) : xm_I) := rfl
theorem r_X11_callsDrawn_54 : co_X11_callsDrawn[54]? = some ((102, .aload_n 0, 0, 0, 0, 0, 0, 0, []) : xm_I) := rfl
theorem r_X11_callsDrawn_55 : co_X11_callsDrawn[55]? = some ((103, .iload 8, 0, 0, 0, 0, 0, 0, []) : xm_I) := rfl
theorem r_X11_callsDrawn_56 : co_X11_callsDrawn[56]? = some ((105, .putfield 364, 1397, 10, 17, 0, 0, 0, []) : xm_I) := rfl
theorem r_X11_callsDrawn_57 : co_X11_callsDrawn[57]? = some ((108, .aload_n 0, 0, 0, 0, 0, 0, 0, []) : xm_I) := rfl
theorem r_X11_callsDrawn_58 : co_X11_callsDrawn[58]? = some ((109, .dup, 0, 0, 0, 0, 0, 0, []) : xm_I) := rfl
theorem r_X11_callsDrawn_59 : co_X11_callsDrawn[59]? = some ((110, .getfield 367, 1398, 10, 18, 0, 0, 0, []) : xm_I) := rfl
theorem r_X11_callsDrawn_60 : co_X11_callsDrawn[60]? = some ((113, .aload_n 0, 0, 0, 0, 0, 0, 0, []) : xm_I) := rfl
theorem r_X11_callsDrawn_61 : co_X11_callsDrawn[61]? = some ((114, .iload 7, 0, 0, 0, 0, 0, 0, []) : xm_I) := rfl
theorem r_X11_callsDrawn_62 : co_X11_callsDrawn[62]? = some ((116, .invokevirtual 314, 1704, 233, 2, 10, 0, 0, []) : xm_I) := rfl
theorem r_X11_callsDrawn_63 : co_X11_callsDrawn[63]? = some ((119, .iadd, 0, 0, 0, 0, 0, 0, []) : xm_I) := rfl
theorem r_X11_callsDrawn_64 : co_X11_callsDrawn[64]? = some ((120, .putfield 367, 1398, 10, 18, 0, 0, 0, []) : xm_I) := rfl
theorem r_X11_callsDrawn_65 : co_X11_callsDrawn[65]? = some ((123, .iinc 4 1, 0, 0, 0, 0, 1, 0, []) : xm_I) := rfl
theorem r_X11_callsDrawn_66 : co_X11_callsDrawn[66]? = some ((126, .goto (-97), 0, 0, 16, 0, 0, 0, []) : xm_I) := rfl
theorem r_X11_callsDrawn_67 : co_X11_callsDrawn[67]? = some ((129, .return_, 0, 0, 0, 0, 0, 0, []) : xm_I) := rfl
theorem p_X11_callsDrawn_0_0 {X : xm_X} {P : List xm_M} {d : Nat} {h : xm_H} {l0 : Nat} {l1 : Int64} {l3 : Int32} {h0 : xm_H} {r0 : Int32} {h1 : xm_H} {r1 : Int32} {ro : Option Value} {ho : xm_H} (q0 : xm_V X P d 218 [.ref l0] h (some (.int r0)) h0) (q1 : X.1[l0]? = some (.inr 10)) (q2 : xm_V X P d 232 [.ref l0] (xm_si h0 l0 17 r0) (some (.int r1)) h1) (K : xm_E X P d co_X11_callsDrawn 16 [some (.ref l0), some (.long l1), none, some (.int l3), some (.int (0 : Int32)), none, none, none, none] [] (xm_si (xm_sl (xm_si h1 l0 18 r1) l0 33 l1) l0 34 (0 : Int32)) ro ho) : xm_E X P d co_X11_callsDrawn 0 [some (.ref l0), some (.long l1), none, some (.int l3), none, none, none, none, none] [] h ro ho := by
  refine xm_E_s r_X11_callsDrawn_0 rfl rfl ?_
  refine xm_E_s r_X11_callsDrawn_1 rfl rfl ?_
  refine xm_E_cv [.ref l0] [.ref l0] r_X11_callsDrawn_2 rfl rfl (Nat.le_of_ble_eq_true rfl) (xm_rc q1 (by decide)) rfl q0 ?_
  refine xm_E_s r_X11_callsDrawn_3 rfl (xm_T_pi rfl q1 rfl rfl) ?_
  refine xm_E_s r_X11_callsDrawn_4 rfl rfl ?_
  refine xm_E_s r_X11_callsDrawn_5 rfl rfl ?_
  refine xm_E_cv [.ref l0] [.ref l0] r_X11_callsDrawn_6 rfl rfl (Nat.le_of_ble_eq_true rfl) (xm_rc q1 (by decide)) rfl q2 ?_
  refine xm_E_s r_X11_callsDrawn_7 rfl (xm_T_pi rfl q1 rfl rfl) ?_
  refine xm_E_s r_X11_callsDrawn_8 rfl rfl ?_
  refine xm_E_s r_X11_callsDrawn_9 rfl rfl ?_
  refine xm_E_s r_X11_callsDrawn_10 rfl (xm_T_pl rfl q1 rfl rfl) ?_
  refine xm_E_s r_X11_callsDrawn_11 rfl rfl ?_
  refine xm_E_s r_X11_callsDrawn_12 rfl rfl ?_
  refine xm_E_s r_X11_callsDrawn_13 rfl (xm_T_pi rfl q1 rfl rfl) ?_
  refine xm_E_s r_X11_callsDrawn_14 rfl rfl ?_
  refine xm_E_s (ls1 := [some (.ref l0), some (.long l1), none, some (.int l3), some (.int (0 : Int32)), none, none, none, none]) r_X11_callsDrawn_15 rfl rfl ?_
  exact K
theorem p_X11_callsDrawn_16_0 {X : xm_X} {P : List xm_M} {d : Nat} {h : xm_H} {l0 : Nat} {l1 : Int64} {l3 : Int32} {l4 : Int32} {l5 : Option Value} {l6 : Option Value} {l7 : Option Value} {l8 : Option Value} {v0 : Nat} {n1 : Nat} (q0 : X.1[l0]? = some (.inr 10)) (q1 : h.2.2 l0 35 = some v0) (q2 : X.1[v0]? = some (.inl (0, n1))) (q3 : ¬ (l3 < 0 ∨ n1 ≤ l3.toNatClampNeg)) (q4 : h.1 v0 l3.toNatClampNeg ≤ l4) : xm_E X P d co_X11_callsDrawn 16 [some (.ref l0), some (.long l1), none, some (.int l3), some (.int l4), l5, l6, l7, l8] [] h none h := by
  refine xm_E_s r_X11_callsDrawn_16 rfl rfl ?_
  refine xm_E_s r_X11_callsDrawn_17 rfl rfl ?_
  refine xm_E_s r_X11_callsDrawn_18 rfl (xm_T_gr rfl q0 rfl rfl q1) ?_
  refine xm_E_s r_X11_callsDrawn_19 rfl rfl ?_
  refine xm_E_s r_X11_callsDrawn_20 rfl (xm_T_iald rfl q2 (by decide) q3) ?_
  refine xm_E_s r_X11_callsDrawn_21 rfl rfl ?_
  refine xm_E_t q4 ?_
  exact xm_E_ret r_X11_callsDrawn_67 rfl
theorem p_X11_callsDrawn_16_1 {X : xm_X} {P : List xm_M} {d : Nat} {h : xm_H} {l0 : Nat} {l1 : Int64} {l3 : Int32} {l4 : Int32} {l5 : Option Value} {l6 : Option Value} {l7 : Option Value} {l8 : Option Value} {v0 : Nat} {n1 : Nat} {h2 : xm_H} {r2 : Int64} {h3 : xm_H} {r3 : Int32} {h4 : xm_H} {r4 : Int32} {h5 : xm_H} {r5 : Int32} {h6 : xm_H} {r6 : Int32} {h7 : xm_H} {r7 : Int32} {h8 : xm_H} {r8 : Int32} {ro : Option Value} {ho : xm_H} (q0 : X.1[l0]? = some (.inr 10)) (q1 : h.2.2 l0 35 = some v0) (q2 : X.1[v0]? = some (.inl (0, n1))) (q3 : ¬ (l3 < 0 ∨ n1 ≤ l3.toNatClampNeg)) (q4 : ¬ (h.1 v0 l3.toNatClampNeg ≤ l4)) (q5 : xm_V X P d 254 [.ref l0, .int l3, .int l4] h (some (.long r2)) h2) (q6 : xm_V X P d 245 [.ref l0, .int r2.toInt32] h2 (some (.int r3)) h3) (q7 : xm_V X P d 324 [.ref l0, .int r3, .int (0 : Int32)] h3 (some (.int r4)) h4) (q8 : xm_V X P d 246 [.ref l0, .int r2.toInt32] h4 (some (.int r5)) h5) (q9 : xm_V X P d 324 [.ref l0, .int r5, .int (1 : Int32)] h5 (some (.int r6)) h6) (q10 : xm_V X P d 247 [.int r4, .int r6] h6 (some (.int r7)) h7) (q11 : xm_V X P d 222 [.ref l0, .int (h7.1 l0 17), .int r7] h7 (some (.int r8)) h8) (q12 : r8 = (-1 : Int32)) (K : xm_E X P d co_X11_callsDrawn 16 [some (.ref l0), some (.long l1), none, some (.int l3), some (.int (l4 + (1 : Int32))), some (.int r2.toInt32), some (.int r4), some (.int r7), some (.int r8)] [] h8 ro ho) : xm_E X P d co_X11_callsDrawn 16 [some (.ref l0), some (.long l1), none, some (.int l3), some (.int l4), l5, l6, l7, l8] [] h ro ho := by
  refine xm_E_s r_X11_callsDrawn_16 rfl rfl ?_
  refine xm_E_s r_X11_callsDrawn_17 rfl rfl ?_
  refine xm_E_s r_X11_callsDrawn_18 rfl (xm_T_gr rfl q0 rfl rfl q1) ?_
  refine xm_E_s r_X11_callsDrawn_19 rfl rfl ?_
  refine xm_E_s r_X11_callsDrawn_20 rfl (xm_T_iald rfl q2 (by decide) q3) ?_
  refine xm_E_s r_X11_callsDrawn_21 rfl rfl ?_
  refine xm_E_f q4 ?_
  refine xm_E_s r_X11_callsDrawn_22 rfl rfl ?_
  refine xm_E_s r_X11_callsDrawn_23 rfl rfl ?_
  refine xm_E_s r_X11_callsDrawn_24 rfl rfl ?_
  refine xm_E_cv [.ref l0, .int l3, .int l4] [] r_X11_callsDrawn_25 rfl rfl (Nat.le_of_ble_eq_true rfl) (xm_rc q0 (by decide)) rfl q5 ?_
  refine xm_E_s r_X11_callsDrawn_26 rfl rfl ?_
  refine xm_E_s (ls1 := [some (.ref l0), some (.long l1), none, some (.int l3), some (.int l4), some (.int r2.toInt32), l6, l7, l8]) r_X11_callsDrawn_27 rfl rfl ?_
  refine xm_E_s r_X11_callsDrawn_28 rfl rfl ?_
  refine xm_E_s r_X11_callsDrawn_29 rfl rfl ?_
  refine xm_E_s r_X11_callsDrawn_30 rfl rfl ?_
  refine xm_E_cv [.ref l0, .int r2.toInt32] [.ref l0] r_X11_callsDrawn_31 rfl rfl (Nat.le_of_ble_eq_true rfl) (xm_rc q0 (by decide)) rfl q6 ?_
  refine xm_E_s r_X11_callsDrawn_32 rfl rfl ?_
  refine xm_E_cv [.ref l0, .int r3, .int (0 : Int32)] [] r_X11_callsDrawn_33 rfl rfl (Nat.le_of_ble_eq_true rfl) (xm_rc q0 (by decide)) rfl q7 ?_
  refine xm_E_s (ls1 := [some (.ref l0), some (.long l1), none, some (.int l3), some (.int l4), some (.int r2.toInt32), some (.int r4), l7, l8]) r_X11_callsDrawn_34 rfl rfl ?_
  refine xm_E_s r_X11_callsDrawn_35 rfl rfl ?_
  refine xm_E_s r_X11_callsDrawn_36 rfl rfl ?_
  refine xm_E_s r_X11_callsDrawn_37 rfl rfl ?_
  refine xm_E_s r_X11_callsDrawn_38 rfl rfl ?_
  refine xm_E_cv [.ref l0, .int r2.toInt32] [.ref l0, .int r4] r_X11_callsDrawn_39 rfl rfl (Nat.le_of_ble_eq_true rfl) (xm_rc q0 (by decide)) rfl q8 ?_
  refine xm_E_s r_X11_callsDrawn_40 rfl rfl ?_
  refine xm_E_cv [.ref l0, .int r5, .int (1 : Int32)] [.int r4] r_X11_callsDrawn_41 rfl rfl (Nat.le_of_ble_eq_true rfl) (xm_rc q0 (by decide)) rfl q9 ?_
  refine xm_E_cs [.int r4, .int r6] [] r_X11_callsDrawn_42 rfl rfl rfl (Nat.le_of_ble_eq_true rfl) rfl q10 ?_
  refine xm_E_s (ls1 := [some (.ref l0), some (.long l1), none, some (.int l3), some (.int l4), some (.int r2.toInt32), some (.int r4), some (.int r7), l8]) r_X11_callsDrawn_43 rfl rfl ?_
  refine xm_E_s r_X11_callsDrawn_44 rfl rfl ?_
  refine xm_E_s r_X11_callsDrawn_45 rfl rfl ?_
  refine xm_E_s r_X11_callsDrawn_46 rfl (xm_T_gi rfl q0 rfl (Or.inl rfl)) ?_
  refine xm_E_s r_X11_callsDrawn_47 rfl rfl ?_
  refine xm_E_cv [.ref l0, .int (h7.1 l0 17), .int r7] [] r_X11_callsDrawn_48 rfl rfl (Nat.le_of_ble_eq_true rfl) (xm_rc q0 (by decide)) rfl q11 ?_
  refine xm_E_s (ls1 := [some (.ref l0), some (.long l1), none, some (.int l3), some (.int l4), some (.int r2.toInt32), some (.int r4), some (.int r7), some (.int r8)]) r_X11_callsDrawn_49 rfl rfl ?_
  refine xm_E_s r_X11_callsDrawn_50 rfl rfl ?_
  refine xm_E_s r_X11_callsDrawn_51 rfl rfl ?_
  refine xm_E_s r_X11_callsDrawn_52 rfl rfl ?_
  refine xm_E_t q12 ?_
  refine xm_E_s r_X11_callsDrawn_53 rfl rfl ?_
  refine xm_E_s (ls1 := [some (.ref l0), some (.long l1), none, some (.int l3), some (.int (l4 + (1 : Int32))), some (.int r2.toInt32), some (.int r4), some (.int r7), some (.int r8)]) r_X11_callsDrawn_65 rfl rfl ?_
  refine xm_E_s r_X11_callsDrawn_66 rfl rfl ?_
  exact K
theorem p_X11_callsDrawn_16_2 {X : xm_X} {P : List xm_M} {d : Nat} {h : xm_H} {l0 : Nat} {l1 : Int64} {l3 : Int32} {l4 : Int32} {l5 : Option Value} {l6 : Option Value} {l7 : Option Value} {l8 : Option Value} {v0 : Nat} {n1 : Nat} {h2 : xm_H} {r2 : Int64} {h3 : xm_H} {r3 : Int32} {h4 : xm_H} {r4 : Int32} {h5 : xm_H} {r5 : Int32} {h6 : xm_H} {r6 : Int32} {h7 : xm_H} {r7 : Int32} {h8 : xm_H} {r8 : Int32} {h9 : xm_H} {r9 : Int32} {ro : Option Value} {ho : xm_H} (q0 : X.1[l0]? = some (.inr 10)) (q1 : h.2.2 l0 35 = some v0) (q2 : X.1[v0]? = some (.inl (0, n1))) (q3 : ¬ (l3 < 0 ∨ n1 ≤ l3.toNatClampNeg)) (q4 : ¬ (h.1 v0 l3.toNatClampNeg ≤ l4)) (q5 : xm_V X P d 254 [.ref l0, .int l3, .int l4] h (some (.long r2)) h2) (q6 : xm_V X P d 245 [.ref l0, .int r2.toInt32] h2 (some (.int r3)) h3) (q7 : xm_V X P d 324 [.ref l0, .int r3, .int (0 : Int32)] h3 (some (.int r4)) h4) (q8 : xm_V X P d 246 [.ref l0, .int r2.toInt32] h4 (some (.int r5)) h5) (q9 : xm_V X P d 324 [.ref l0, .int r5, .int (1 : Int32)] h5 (some (.int r6)) h6) (q10 : xm_V X P d 247 [.int r4, .int r6] h6 (some (.int r7)) h7) (q11 : xm_V X P d 222 [.ref l0, .int (h7.1 l0 17), .int r7] h7 (some (.int r8)) h8) (q12 : ¬ (r8 = (-1 : Int32))) (q13 : xm_V X P d 233 [.ref l0, .int r7] (xm_si h8 l0 17 r8) (some (.int r9)) h9) (K : xm_E X P d co_X11_callsDrawn 16 [some (.ref l0), some (.long l1), none, some (.int l3), some (.int (l4 + (1 : Int32))), some (.int r2.toInt32), some (.int r4), some (.int r7), some (.int r8)] [] (xm_si h9 l0 18 (((xm_si h8 l0 17 r8).1 l0 18) + r9)) ro ho) : xm_E X P d co_X11_callsDrawn 16 [some (.ref l0), some (.long l1), none, some (.int l3), some (.int l4), l5, l6, l7, l8] [] h ro ho := by
  refine xm_E_s r_X11_callsDrawn_16 rfl rfl ?_
  refine xm_E_s r_X11_callsDrawn_17 rfl rfl ?_
  refine xm_E_s r_X11_callsDrawn_18 rfl (xm_T_gr rfl q0 rfl rfl q1) ?_
  refine xm_E_s r_X11_callsDrawn_19 rfl rfl ?_
  refine xm_E_s r_X11_callsDrawn_20 rfl (xm_T_iald rfl q2 (by decide) q3) ?_
  refine xm_E_s r_X11_callsDrawn_21 rfl rfl ?_
  refine xm_E_f q4 ?_
  refine xm_E_s r_X11_callsDrawn_22 rfl rfl ?_
  refine xm_E_s r_X11_callsDrawn_23 rfl rfl ?_
  refine xm_E_s r_X11_callsDrawn_24 rfl rfl ?_
  refine xm_E_cv [.ref l0, .int l3, .int l4] [] r_X11_callsDrawn_25 rfl rfl (Nat.le_of_ble_eq_true rfl) (xm_rc q0 (by decide)) rfl q5 ?_
  refine xm_E_s r_X11_callsDrawn_26 rfl rfl ?_
  refine xm_E_s (ls1 := [some (.ref l0), some (.long l1), none, some (.int l3), some (.int l4), some (.int r2.toInt32), l6, l7, l8]) r_X11_callsDrawn_27 rfl rfl ?_
  refine xm_E_s r_X11_callsDrawn_28 rfl rfl ?_
  refine xm_E_s r_X11_callsDrawn_29 rfl rfl ?_
  refine xm_E_s r_X11_callsDrawn_30 rfl rfl ?_
  refine xm_E_cv [.ref l0, .int r2.toInt32] [.ref l0] r_X11_callsDrawn_31 rfl rfl (Nat.le_of_ble_eq_true rfl) (xm_rc q0 (by decide)) rfl q6 ?_
  refine xm_E_s r_X11_callsDrawn_32 rfl rfl ?_
  refine xm_E_cv [.ref l0, .int r3, .int (0 : Int32)] [] r_X11_callsDrawn_33 rfl rfl (Nat.le_of_ble_eq_true rfl) (xm_rc q0 (by decide)) rfl q7 ?_
  refine xm_E_s (ls1 := [some (.ref l0), some (.long l1), none, some (.int l3), some (.int l4), some (.int r2.toInt32), some (.int r4), l7, l8]) r_X11_callsDrawn_34 rfl rfl ?_
  refine xm_E_s r_X11_callsDrawn_35 rfl rfl ?_
  refine xm_E_s r_X11_callsDrawn_36 rfl rfl ?_
  refine xm_E_s r_X11_callsDrawn_37 rfl rfl ?_
  refine xm_E_s r_X11_callsDrawn_38 rfl rfl ?_
  refine xm_E_cv [.ref l0, .int r2.toInt32] [.ref l0, .int r4] r_X11_callsDrawn_39 rfl rfl (Nat.le_of_ble_eq_true rfl) (xm_rc q0 (by decide)) rfl q8 ?_
  refine xm_E_s r_X11_callsDrawn_40 rfl rfl ?_
  refine xm_E_cv [.ref l0, .int r5, .int (1 : Int32)] [.int r4] r_X11_callsDrawn_41 rfl rfl (Nat.le_of_ble_eq_true rfl) (xm_rc q0 (by decide)) rfl q9 ?_
  refine xm_E_cs [.int r4, .int r6] [] r_X11_callsDrawn_42 rfl rfl rfl (Nat.le_of_ble_eq_true rfl) rfl q10 ?_
  refine xm_E_s (ls1 := [some (.ref l0), some (.long l1), none, some (.int l3), some (.int l4), some (.int r2.toInt32), some (.int r4), some (.int r7), l8]) r_X11_callsDrawn_43 rfl rfl ?_
  refine xm_E_s r_X11_callsDrawn_44 rfl rfl ?_
  refine xm_E_s r_X11_callsDrawn_45 rfl rfl ?_
  refine xm_E_s r_X11_callsDrawn_46 rfl (xm_T_gi rfl q0 rfl (Or.inl rfl)) ?_
  refine xm_E_s r_X11_callsDrawn_47 rfl rfl ?_
  refine xm_E_cv [.ref l0, .int (h7.1 l0 17), .int r7] [] r_X11_callsDrawn_48 rfl rfl (Nat.le_of_ble_eq_true rfl) (xm_rc q0 (by decide)) rfl q11 ?_
  refine xm_E_s (ls1 := [some (.ref l0), some (.long l1), none, some (.int l3), some (.int l4), some (.int r2.toInt32), some (.int r4), some (.int r7), some (.int r8)]) r_X11_callsDrawn_49 rfl rfl ?_
  refine xm_E_s r_X11_callsDrawn_50 rfl rfl ?_
  refine xm_E_s r_X11_callsDrawn_51 rfl rfl ?_
  refine xm_E_s r_X11_callsDrawn_52 rfl rfl ?_
  refine xm_E_f q12 ?_
  refine xm_E_s r_X11_callsDrawn_54 rfl rfl ?_
  refine xm_E_s r_X11_callsDrawn_55 rfl rfl ?_
  refine xm_E_s r_X11_callsDrawn_56 rfl (xm_T_pi rfl q0 rfl rfl) ?_
  refine xm_E_s r_X11_callsDrawn_57 rfl rfl ?_
  refine xm_E_s r_X11_callsDrawn_58 rfl rfl ?_
  refine xm_E_s r_X11_callsDrawn_59 rfl (xm_T_gi rfl q0 rfl (Or.inl rfl)) ?_
  refine xm_E_s r_X11_callsDrawn_60 rfl rfl ?_
  refine xm_E_s r_X11_callsDrawn_61 rfl rfl ?_
  refine xm_E_cv [.ref l0, .int r7] [.int ((xm_si h8 l0 17 r8).1 l0 18), .ref l0] r_X11_callsDrawn_62 rfl rfl (Nat.le_of_ble_eq_true rfl) (xm_rc q0 (by decide)) rfl q13 ?_
  refine xm_E_s r_X11_callsDrawn_63 rfl rfl ?_
  refine xm_E_s r_X11_callsDrawn_64 rfl (xm_T_pi rfl q0 rfl rfl) ?_
  refine xm_E_s (ls1 := [some (.ref l0), some (.long l1), none, some (.int l3), some (.int (l4 + (1 : Int32))), some (.int r2.toInt32), some (.int r4), some (.int r7), some (.int r8)]) r_X11_callsDrawn_65 rfl rfl ?_
  refine xm_E_s r_X11_callsDrawn_66 rfl rfl ?_
  exact K
theorem r_X11_drawAct_0 : co_X11_drawAct[0]? = some ((0, .iload_n 1, 0, 0, 0, 0, 0, 0, []) : xm_I) := rfl
theorem r_X11_drawAct_1 : co_X11_drawAct[1]? = some ((1, .invokestatic 456, 1958, 296, 1, 0, 0, 0, []) : xm_I) := rfl
theorem r_X11_drawAct_2 : co_X11_drawAct[2]? = some ((4, .ifCond .ne 5, 0, 0, 5, 0, 0, 0, []) : xm_I) := rfl
theorem r_X11_drawAct_3 : co_X11_drawAct[3]? = some ((7, .iload_n 1, 0, 0, 0, 0, 0, 0, []) : xm_I) := rfl
theorem r_X11_drawAct_4 : co_X11_drawAct[4]? = some ((8, .ireturn, 0, 0, 0, 0, 0, 0, []) : xm_I) := rfl
theorem r_X11_drawAct_5 : co_X11_drawAct[5]? = some ((9, .aload_n 0, 0, 0, 0, 0, 0, 0, []) : xm_I) := rfl
theorem r_X11_drawAct_6 : co_X11_drawAct[6]? = some ((10, .ldc2_w 509, 2080, 0, 0, 0, 0, 1103515245, []) : xm_I) := rfl
theorem r_X11_drawAct_7 : co_X11_drawAct[7]? = some ((13, .aload_n 0, 0, 0, 0, 0, 0, 0, []) : xm_I) := rfl
theorem r_X11_drawAct_8 : co_X11_drawAct[8]? = some ((14, .getfield 511, 1413, 10, 33, 1, 0, 0, []) : xm_I) := rfl
theorem r_X11_drawAct_9 : co_X11_drawAct[9]? = some ((17, .lmul, 0, 0, 0, 0, 0, 0, []) : xm_I) := rfl
theorem r_X11_drawAct_10 : co_X11_drawAct[10]? = some ((18, .ldc2_w 515, 2081, 0, 0, 0, 0, 12345, []) : xm_I) := rfl
theorem r_X11_drawAct_11 : co_X11_drawAct[11]? = some ((21, .ladd, 0, 0, 0, 0, 0, 0, []) : xm_I) := rfl
theorem r_X11_drawAct_12 : co_X11_drawAct[12]? = some ((22, .ldc2_w 517, 2082, 0, 0, 0, 0, 2147483648, []) : xm_I) := rfl
theorem r_X11_drawAct_13 : co_X11_drawAct[13]? = some ((25, .lrem, 0, 0, 0, 0, 0, 0, []) : xm_I) := rfl
theorem r_X11_drawAct_14 : co_X11_drawAct[14]? = some ((26, .putfield 511, 1413, 10, 33, 1, 0, 0, []) : xm_I) := rfl
theorem r_X11_drawAct_15 : co_X11_drawAct[15]? = some ((29, .aload_n 0, 0, 0, 0, 0, 0, 0, []) : xm_I) := rfl
theorem r_X11_drawAct_16 : co_X11_drawAct[16]? = some ((30, .getfield 511, 1413, 10, 33, 1, 0, 0, []) : xm_I) := rfl
theorem r_X11_drawAct_17 : co_X11_drawAct[17]? = some ((33, .ldc2_w 519, 2083, 0, 0, 0, 0, 65536, []) : xm_I) := rfl
theorem r_X11_drawAct_18 : co_X11_drawAct[18]? = some ((36, .ldiv, 0, 0, 0, 0, 0, 0, []) : xm_I) := rfl
theorem r_X11_drawAct_19 : co_X11_drawAct[19]? = some ((37, .ldc2_w 472, 1985, 0, 0, 0, 0, 100, []) : xm_I) := rfl
theorem r_X11_drawAct_20 : co_X11_drawAct[20]? = some ((40, .lrem, 0, 0, 0, 0, 0, 0, []) : xm_I) := rfl
theorem r_X11_drawAct_21 : co_X11_drawAct[21]? = some ((41, .aload_n 0, 0, 0, 0, 0, 0, 0, []) : xm_I) := rfl
theorem r_X11_drawAct_22 : co_X11_drawAct[22]? = some ((42, .getfield 9, 1381, 10, 1, 2, 0, 0, []) : xm_I) := rfl
theorem r_X11_drawAct_23 : co_X11_drawAct[23]? = some ((45, .bipush 11, 0, 0, 0, 0, 11, 0, []) : xm_I) := rfl
theorem r_X11_drawAct_24 : co_X11_drawAct[24]? = some ((47, .iload_n 2, 0, 0, 0, 0, 0, 0, []) : xm_I) := rfl
theorem r_X11_drawAct_25 : co_X11_drawAct[25]? = some ((48, .iadd, 0, 0, 0, 0, 0, 0, []) : xm_I) := rfl
theorem r_X11_drawAct_26 : co_X11_drawAct[26]? = some ((49, .iaload, 0, 0, 0, 0, 0, 0, []) : xm_I) := rfl
theorem r_X11_drawAct_27 : co_X11_drawAct[27]? = some ((50, .i2l, 0, 0, 0, 0, 0, 0, []) : xm_I) := rfl
theorem r_X11_drawAct_28 : co_X11_drawAct[28]? = some ((51, .lcmp, 0, 0, 0, 0, 0, 0, []) : xm_I) := rfl
theorem r_X11_drawAct_29 : co_X11_drawAct[29]? = some ((52, .ifCond .lt 5, 0, 0, 32, 0, 0, 0, []) : xm_I) := rfl
theorem r_X11_drawAct_30 : co_X11_drawAct[30]? = some ((55, .iload_n 1, 0, 0, 0, 0, 0, 0, []) : xm_I) := rfl
theorem r_X11_drawAct_31 : co_X11_drawAct[31]? = some ((56, .ireturn, 0, 0, 0, 0, 0, 0, []) : xm_I) := rfl
theorem r_X11_drawAct_32 : co_X11_drawAct[32]? = some ((57, .aload_n 0, 0, 0, 0, 0, 0, 0, []) : xm_I) := rfl
theorem r_X11_drawAct_33 : co_X11_drawAct[33]? = some ((58, .dup, 0, 0, 0, 0, 0, 0, []) : xm_I) := rfl
theorem r_X11_drawAct_34 : co_X11_drawAct[34]? = some ((59, .getfield 521, 1414, 10, 34, 0, 0, 0, []) : xm_I) := rfl
theorem r_X11_drawAct_35 : co_X11_drawAct[35]? = some ((62, .iconst 1, 0, 0, 0, 0, 1, 0, []) : xm_I) := rfl
theorem r_X11_drawAct_36 : co_X11_drawAct[36]? = some ((63, .iadd, 0, 0, 0, 0, 0, 0, []) : xm_I) := rfl
theorem r_X11_drawAct_37 : co_X11_drawAct[37]? = some ((64, .putfield 521, 1414, 10, 34, 0, 0, 0, []) : xm_I) := rfl
theorem r_X11_drawAct_38 : co_X11_drawAct[38]? = some ((67, .iconst 1, 0, 0, 0, 0, 1, 0, []) : xm_I) := rfl
theorem r_X11_drawAct_39 : co_X11_drawAct[39]? = some ((68, .iload_n 1, 0, 0, 0, 0, 0, 0, []) : xm_I) := rfl
theorem r_X11_drawAct_40 : co_X11_drawAct[40]? = some ((69, .isub, 0, 0, 0, 0, 0, 0, []) : xm_I) := rfl
theorem r_X11_drawAct_41 : co_X11_drawAct[41]? = some ((70, .ireturn, 0, 0, 0, 0, 0, 0, []) : xm_I) := rfl
theorem p_X11_drawAct_0_0 {X : xm_X} {P : List xm_M} {d : Nat} {h : xm_H} {l0 : Nat} {l1 : Int32} {l2 : Int32} {h0 : xm_H} {r0 : Int32} (q0 : xm_V X P d 296 [.int l1] h (some (.int r0)) h0) (q1 : r0 = (0 : Int32)) : xm_E X P d co_X11_drawAct 0 [some (.ref l0), some (.int l1), some (.int l2)] [] h (some (.int l1)) h0 := by
  refine xm_E_s r_X11_drawAct_0 rfl rfl ?_
  refine xm_E_cs [.int l1] [] r_X11_drawAct_1 rfl rfl rfl (Nat.le_of_ble_eq_true rfl) rfl q0 ?_
  refine xm_E_s r_X11_drawAct_2 rfl rfl ?_
  refine xm_E_t q1 ?_
  refine xm_E_s r_X11_drawAct_3 rfl rfl ?_
  exact xm_E_iret r_X11_drawAct_4 rfl rfl
theorem p_X11_drawAct_0_1 {X : xm_X} {P : List xm_M} {d : Nat} {h : xm_H} {l0 : Nat} {l1 : Int32} {l2 : Int32} {h0 : xm_H} {r0 : Int32} {v1 : Nat} {n2 : Nat} (q0 : xm_V X P d 296 [.int l1] h (some (.int r0)) h0) (q1 : ¬ (r0 = (0 : Int32))) (q2 : X.1[l0]? = some (.inr 10)) (q3 : (xm_sl h0 l0 33 ((((1103515245 : Int64) * (h0.2.1 l0 33)) + (12345 : Int64)) - (((1103515245 : Int64) * (h0.2.1 l0 33)) + (12345 : Int64)) / (2147483648 : Int64) * (2147483648 : Int64))).2.2 l0 1 = some v1) (q4 : X.1[v1]? = some (.inl (0, n2))) (q5 : ¬ ((11 : Int32) + l2 < 0 ∨ n2 ≤ ((11 : Int32) + l2).toNatClampNeg)) (q6 : lg_cmp ((((xm_sl h0 l0 33 ((((1103515245 : Int64) * (h0.2.1 l0 33)) + (12345 : Int64)) - (((1103515245 : Int64) * (h0.2.1 l0 33)) + (12345 : Int64)) / (2147483648 : Int64) * (2147483648 : Int64))).2.1 l0 33) / (65536 : Int64)) - (((xm_sl h0 l0 33 ((((1103515245 : Int64) * (h0.2.1 l0 33)) + (12345 : Int64)) - (((1103515245 : Int64) * (h0.2.1 l0 33)) + (12345 : Int64)) / (2147483648 : Int64) * (2147483648 : Int64))).2.1 l0 33) / (65536 : Int64)) / (100 : Int64) * (100 : Int64)) (((xm_sl h0 l0 33 ((((1103515245 : Int64) * (h0.2.1 l0 33)) + (12345 : Int64)) - (((1103515245 : Int64) * (h0.2.1 l0 33)) + (12345 : Int64)) / (2147483648 : Int64) * (2147483648 : Int64))).1 v1 (((11 : Int32) + l2).toNatClampNeg)).toInt64) < (0 : Int32)) : xm_E X P d co_X11_drawAct 0 [some (.ref l0), some (.int l1), some (.int l2)] [] h (some (.int ((1 : Int32) - l1))) (xm_si (xm_sl h0 l0 33 ((((1103515245 : Int64) * (h0.2.1 l0 33)) + (12345 : Int64)) - (((1103515245 : Int64) * (h0.2.1 l0 33)) + (12345 : Int64)) / (2147483648 : Int64) * (2147483648 : Int64))) l0 34 (((xm_sl h0 l0 33 ((((1103515245 : Int64) * (h0.2.1 l0 33)) + (12345 : Int64)) - (((1103515245 : Int64) * (h0.2.1 l0 33)) + (12345 : Int64)) / (2147483648 : Int64) * (2147483648 : Int64))).1 l0 34) + (1 : Int32))) := by
  refine xm_E_s r_X11_drawAct_0 rfl rfl ?_
  refine xm_E_cs [.int l1] [] r_X11_drawAct_1 rfl rfl rfl (Nat.le_of_ble_eq_true rfl) rfl q0 ?_
  refine xm_E_s r_X11_drawAct_2 rfl rfl ?_
  refine xm_E_f q1 ?_
  refine xm_E_s r_X11_drawAct_5 rfl rfl ?_
  refine xm_E_s r_X11_drawAct_6 rfl rfl ?_
  refine xm_E_s r_X11_drawAct_7 rfl rfl ?_
  refine xm_E_s r_X11_drawAct_8 rfl (xm_T_gl rfl q2 rfl rfl) ?_
  refine xm_E_s r_X11_drawAct_9 rfl rfl ?_
  refine xm_E_s r_X11_drawAct_10 rfl rfl ?_
  refine xm_E_s r_X11_drawAct_11 rfl rfl ?_
  refine xm_E_s r_X11_drawAct_12 rfl rfl ?_
  refine xm_E_s r_X11_drawAct_13 rfl (xm_T_lrem rfl (by decide)) ?_
  refine xm_E_s r_X11_drawAct_14 rfl (xm_T_pl rfl q2 rfl rfl) ?_
  refine xm_E_s r_X11_drawAct_15 rfl rfl ?_
  refine xm_E_s r_X11_drawAct_16 rfl (xm_T_gl rfl q2 rfl rfl) ?_
  refine xm_E_s r_X11_drawAct_17 rfl rfl ?_
  refine xm_E_s r_X11_drawAct_18 rfl (xm_T_ldiv rfl (by decide)) ?_
  refine xm_E_s r_X11_drawAct_19 rfl rfl ?_
  refine xm_E_s r_X11_drawAct_20 rfl (xm_T_lrem rfl (by decide)) ?_
  refine xm_E_s r_X11_drawAct_21 rfl rfl ?_
  refine xm_E_s r_X11_drawAct_22 rfl (xm_T_gr rfl q2 rfl rfl q3) ?_
  refine xm_E_s r_X11_drawAct_23 rfl rfl ?_
  refine xm_E_s r_X11_drawAct_24 rfl rfl ?_
  refine xm_E_s r_X11_drawAct_25 rfl rfl ?_
  refine xm_E_s r_X11_drawAct_26 rfl (xm_T_iald rfl q4 (by decide) q5) ?_
  refine xm_E_s r_X11_drawAct_27 rfl rfl ?_
  refine xm_E_s r_X11_drawAct_28 rfl rfl ?_
  refine xm_E_s r_X11_drawAct_29 rfl rfl ?_
  refine xm_E_t q6 ?_
  refine xm_E_s r_X11_drawAct_32 rfl rfl ?_
  refine xm_E_s r_X11_drawAct_33 rfl rfl ?_
  refine xm_E_s r_X11_drawAct_34 rfl (xm_T_gi rfl q2 rfl (Or.inl rfl)) ?_
  refine xm_E_s r_X11_drawAct_35 rfl rfl ?_
  refine xm_E_s r_X11_drawAct_36 rfl rfl ?_
  refine xm_E_s r_X11_drawAct_37 rfl (xm_T_pi rfl q2 rfl rfl) ?_
  refine xm_E_s r_X11_drawAct_38 rfl rfl ?_
  refine xm_E_s r_X11_drawAct_39 rfl rfl ?_
  refine xm_E_s r_X11_drawAct_40 rfl rfl ?_
  exact xm_E_iret r_X11_drawAct_41 rfl rfl
theorem p_X11_drawAct_0_2 {X : xm_X} {P : List xm_M} {d : Nat} {h : xm_H} {l0 : Nat} {l1 : Int32} {l2 : Int32} {h0 : xm_H} {r0 : Int32} {v1 : Nat} {n2 : Nat} (q0 : xm_V X P d 296 [.int l1] h (some (.int r0)) h0) (q1 : ¬ (r0 = (0 : Int32))) (q2 : X.1[l0]? = some (.inr 10)) (q3 : (xm_sl h0 l0 33 ((((1103515245 : Int64) * (h0.2.1 l0 33)) + (12345 : Int64)) - (((1103515245 : Int64) * (h0.2.1 l0 33)) + (12345 : Int64)) / (2147483648 : Int64) * (2147483648 : Int64))).2.2 l0 1 = some v1) (q4 : X.1[v1]? = some (.inl (0, n2))) (q5 : ¬ ((11 : Int32) + l2 < 0 ∨ n2 ≤ ((11 : Int32) + l2).toNatClampNeg)) (q6 : ¬ (lg_cmp ((((xm_sl h0 l0 33 ((((1103515245 : Int64) * (h0.2.1 l0 33)) + (12345 : Int64)) - (((1103515245 : Int64) * (h0.2.1 l0 33)) + (12345 : Int64)) / (2147483648 : Int64) * (2147483648 : Int64))).2.1 l0 33) / (65536 : Int64)) - (((xm_sl h0 l0 33 ((((1103515245 : Int64) * (h0.2.1 l0 33)) + (12345 : Int64)) - (((1103515245 : Int64) * (h0.2.1 l0 33)) + (12345 : Int64)) / (2147483648 : Int64) * (2147483648 : Int64))).2.1 l0 33) / (65536 : Int64)) / (100 : Int64) * (100 : Int64)) (((xm_sl h0 l0 33 ((((1103515245 : Int64) * (h0.2.1 l0 33)) + (12345 : Int64)) - (((1103515245 : Int64) * (h0.2.1 l0 33)) + (12345 : Int64)) / (2147483648 : Int64) * (2147483648 : Int64))).1 v1 (((11 : Int32) + l2).toNatClampNeg)).toInt64) < (0 : Int32))) : xm_E X P d co_X11_drawAct 0 [some (.ref l0), some (.int l1), some (.int l2)] [] h (some (.int l1)) (xm_sl h0 l0 33 ((((1103515245 : Int64) * (h0.2.1 l0 33)) + (12345 : Int64)) - (((1103515245 : Int64) * (h0.2.1 l0 33)) + (12345 : Int64)) / (2147483648 : Int64) * (2147483648 : Int64))) := by
  refine xm_E_s r_X11_drawAct_0 rfl rfl ?_
  refine xm_E_cs [.int l1] [] r_X11_drawAct_1 rfl rfl rfl (Nat.le_of_ble_eq_true rfl) rfl q0 ?_
  refine xm_E_s r_X11_drawAct_2 rfl rfl ?_
  refine xm_E_f q1 ?_
  refine xm_E_s r_X11_drawAct_5 rfl rfl ?_
  refine xm_E_s r_X11_drawAct_6 rfl rfl ?_
  refine xm_E_s r_X11_drawAct_7 rfl rfl ?_
  refine xm_E_s r_X11_drawAct_8 rfl (xm_T_gl rfl q2 rfl rfl) ?_
  refine xm_E_s r_X11_drawAct_9 rfl rfl ?_
  refine xm_E_s r_X11_drawAct_10 rfl rfl ?_
  refine xm_E_s r_X11_drawAct_11 rfl rfl ?_
  refine xm_E_s r_X11_drawAct_12 rfl rfl ?_
  refine xm_E_s r_X11_drawAct_13 rfl (xm_T_lrem rfl (by decide)) ?_
  refine xm_E_s r_X11_drawAct_14 rfl (xm_T_pl rfl q2 rfl rfl) ?_
  refine xm_E_s r_X11_drawAct_15 rfl rfl ?_
  refine xm_E_s r_X11_drawAct_16 rfl (xm_T_gl rfl q2 rfl rfl) ?_
  refine xm_E_s r_X11_drawAct_17 rfl rfl ?_
  refine xm_E_s r_X11_drawAct_18 rfl (xm_T_ldiv rfl (by decide)) ?_
  refine xm_E_s r_X11_drawAct_19 rfl rfl ?_
  refine xm_E_s r_X11_drawAct_20 rfl (xm_T_lrem rfl (by decide)) ?_
  refine xm_E_s r_X11_drawAct_21 rfl rfl ?_
  refine xm_E_s r_X11_drawAct_22 rfl (xm_T_gr rfl q2 rfl rfl q3) ?_
  refine xm_E_s r_X11_drawAct_23 rfl rfl ?_
  refine xm_E_s r_X11_drawAct_24 rfl rfl ?_
  refine xm_E_s r_X11_drawAct_25 rfl rfl ?_
  refine xm_E_s r_X11_drawAct_26 rfl (xm_T_iald rfl q4 (by decide) q5) ?_
  refine xm_E_s r_X11_drawAct_27 rfl rfl ?_
  refine xm_E_s r_X11_drawAct_28 rfl rfl ?_
  refine xm_E_s r_X11_drawAct_29 rfl rfl ?_
  refine xm_E_f q6 ?_
  refine xm_E_s r_X11_drawAct_30 rfl rfl ?_
  exact xm_E_iret r_X11_drawAct_31 rfl rfl
theorem r_X11_slipped_0 : co_X11_slipped[0]? = some ((0, .aload_n 0, 0, 0, 0, 0, 0, 0, []) : xm_I) := rfl
theorem r_X11_slipped_1 : co_X11_slipped[1]? = some ((1, .iload_n 2, 0, 0, 0, 0, 0, 0, []) : xm_I) := rfl
theorem r_X11_slipped_2 : co_X11_slipped[2]? = some ((2, .iload_n 1, 0, 0, 0, 0, 0, 0, []) : xm_I) := rfl
theorem r_X11_slipped_3 : co_X11_slipped[3]? = some ((3, .invokestatic 529, 2068, 322, 1, 0, 0, 0, []) : xm_I) := rfl
theorem r_X11_slipped_4 : co_X11_slipped[4]? = some ((6, .iconst 1, 0, 0, 0, 0, 1, 0, []) : xm_I) := rfl
theorem r_X11_slipped_5 : co_X11_slipped[5]? = some ((7, .invokevirtual 373, 1778, 252, 4, 10, 0, 0, []) : xm_I) := rfl
theorem r_X11_slipped_6 : co_X11_slipped[6]? = some ((10, .istore_n 3, 0, 0, 0, 0, 0, 0, []) : xm_I) := rfl
theorem r_X11_slipped_7 : co_X11_slipped[7]? = some ((11, .iload_n 3, 0, 0, 0, 0, 0, 0, []) : xm_I) := rfl
theorem r_X11_slipped_8 : co_X11_slipped[8]? = some ((12, .ifCond .ge 5, 0, 0, 11, 0, 0, 0, []) : xm_I) := rfl
theorem r_X11_slipped_9 : co_X11_slipped[9]? = some ((15, .iload_n 3, 0, 0, 0, 0, 0, 0, []) : xm_I) := rfl
theorem r_X11_slipped_10 : co_X11_slipped[10]? = some ((16, .ireturn, 0, 0, 0, 0, 0, 0, []) : xm_I) := rfl
theorem r_X11_slipped_11 : co_X11_slipped[11]? = some ((17, .aload_n 0, 0, 0, 0, 0, 0, 0, []) : xm_I) := rfl
theorem r_X11_slipped_12 : co_X11_slipped[12]? = some ((18, .iload_n 1, 0, 0, 0, 0, 0, 0, []) : xm_I) := rfl
theorem r_X11_slipped_13 : co_X11_slipped[13]? = some ((19, .i2l, 0, 0, 0, 0, 0, 0, []) : xm_I) := rfl
theorem r_X11_slipped_14 : co_X11_slipped[14]? = some ((20, .iload_n 2, 0, 0, 0, 0, 0, 0, []) : xm_I) := rfl
theorem r_X11_slipped_15 : co_X11_slipped[15]? = some ((21, .invokevirtual 532, 2072, 323, 3, 10, 0, 0, []) : xm_I) := rfl
theorem r_X11_slipped_16 : co_X11_slipped[16]? = some ((24, .aload_n 0, 0, 0, 0, 0, 0, 0, []) : xm_I) := rfl
theorem r_X11_slipped_17 : co_X11_slipped[17]? = some ((25, .getfield 521, 1414, 10, 34, 0, 0, 0, []) : xm_I) := rfl
theorem r_X11_slipped_18 : co_X11_slipped[18]? = some ((28, .ireturn, 0, 0, 0, 0, 0, 0, []) : xm_I) := rfl
theorem p_X11_slipped_0_0 {X : xm_X} {P : List xm_M} {d : Nat} {h : xm_H} {l0 : Nat} {l1 : Int32} {l2 : Int32} {h0 : xm_H} {r0 : Int32} {h1 : xm_H} {r1 : Int32} {h2 : xm_H} (q0 : xm_V X P d 322 [.int l1] h (some (.int r0)) h0) (q1 : xm_V X P d 252 [.ref l0, .int l2, .int r0, .int (1 : Int32)] h0 (some (.int r1)) h1) (q2 : X.1[l0]? = some (.inr 10)) (q3 : (0 : Int32) ≤ r1) (q4 : xm_V X P d 323 [.ref l0, .long l1.toInt64, .int l2] h1 none h2) : xm_E X P d co_X11_slipped 0 [some (.ref l0), some (.int l1), some (.int l2), none] [] h (some (.int (h2.1 l0 34))) h2 := by
  refine xm_E_s r_X11_slipped_0 rfl rfl ?_
  refine xm_E_s r_X11_slipped_1 rfl rfl ?_
  refine xm_E_s r_X11_slipped_2 rfl rfl ?_
  refine xm_E_cs [.int l1] [.int l2, .ref l0] r_X11_slipped_3 rfl rfl rfl (Nat.le_of_ble_eq_true rfl) rfl q0 ?_
  refine xm_E_s r_X11_slipped_4 rfl rfl ?_
  refine xm_E_cv [.ref l0, .int l2, .int r0, .int (1 : Int32)] [] r_X11_slipped_5 rfl rfl (Nat.le_of_ble_eq_true rfl) (xm_rc q2 (by decide)) rfl q1 ?_
  refine xm_E_s (ls1 := [some (.ref l0), some (.int l1), some (.int l2), some (.int r1)]) r_X11_slipped_6 rfl rfl ?_
  refine xm_E_s r_X11_slipped_7 rfl rfl ?_
  refine xm_E_s r_X11_slipped_8 rfl rfl ?_
  refine xm_E_t q3 ?_
  refine xm_E_s r_X11_slipped_11 rfl rfl ?_
  refine xm_E_s r_X11_slipped_12 rfl rfl ?_
  refine xm_E_s r_X11_slipped_13 rfl rfl ?_
  refine xm_E_s r_X11_slipped_14 rfl rfl ?_
  refine xm_E_cv [.ref l0, .long l1.toInt64, .int l2] [] r_X11_slipped_15 rfl rfl (Nat.le_of_ble_eq_true rfl) (xm_rc q2 (by decide)) rfl q4 ?_
  refine xm_E_s r_X11_slipped_16 rfl rfl ?_
  refine xm_E_s r_X11_slipped_17 rfl (xm_T_gi rfl q2 rfl (Or.inl rfl)) ?_
  exact xm_E_iret r_X11_slipped_18 rfl rfl
theorem p_X11_slipped_0_1 {X : xm_X} {P : List xm_M} {d : Nat} {h : xm_H} {l0 : Nat} {l1 : Int32} {l2 : Int32} {h0 : xm_H} {r0 : Int32} {h1 : xm_H} {r1 : Int32} (q0 : xm_V X P d 322 [.int l1] h (some (.int r0)) h0) (q1 : xm_V X P d 252 [.ref l0, .int l2, .int r0, .int (1 : Int32)] h0 (some (.int r1)) h1) (q2 : X.1[l0]? = some (.inr 10)) (q3 : ¬ ((0 : Int32) ≤ r1)) : xm_E X P d co_X11_slipped 0 [some (.ref l0), some (.int l1), some (.int l2), none] [] h (some (.int r1)) h1 := by
  refine xm_E_s r_X11_slipped_0 rfl rfl ?_
  refine xm_E_s r_X11_slipped_1 rfl rfl ?_
  refine xm_E_s r_X11_slipped_2 rfl rfl ?_
  refine xm_E_cs [.int l1] [.int l2, .ref l0] r_X11_slipped_3 rfl rfl rfl (Nat.le_of_ble_eq_true rfl) rfl q0 ?_
  refine xm_E_s r_X11_slipped_4 rfl rfl ?_
  refine xm_E_cv [.ref l0, .int l2, .int r0, .int (1 : Int32)] [] r_X11_slipped_5 rfl rfl (Nat.le_of_ble_eq_true rfl) (xm_rc q2 (by decide)) rfl q1 ?_
  refine xm_E_s (ls1 := [some (.ref l0), some (.int l1), some (.int l2), some (.int r1)]) r_X11_slipped_6 rfl rfl ?_
  refine xm_E_s r_X11_slipped_7 rfl rfl ?_
  refine xm_E_s r_X11_slipped_8 rfl rfl ?_
  refine xm_E_f q3 ?_
  refine xm_E_s r_X11_slipped_9 rfl rfl ?_
  exact xm_E_iret r_X11_slipped_10 rfl rfl
theorem r_X11_years_0 : co_X11_years[0]? = some ((0, .aload_n 0, 0, 0, 0, 0, 0, 0, []) : xm_I) := rfl
theorem r_X11_years_1 : co_X11_years[1]? = some ((1, .iload_n 3, 0, 0, 0, 0, 0, 0, []) : xm_I) := rfl
theorem r_X11_years_2 : co_X11_years[2]? = some ((2, .iload_n 1, 0, 0, 0, 0, 0, 0, []) : xm_I) := rfl
theorem r_X11_years_3 : co_X11_years[3]? = some ((3, .invokestatic 529, 2068, 322, 1, 0, 0, 0, []) : xm_I) := rfl
theorem r_X11_years_4 : co_X11_years[4]? = some ((6, .ifCond .eq 19, 0, 0, 13, 0, 0, 0, []) : xm_I) := rfl
theorem r_X11_years_5 : co_X11_years[5]? = some ((9, .iload_n 2, 0, 0, 0, 0, 0, 0, []) : xm_I) := rfl
theorem r_X11_years_6 : co_X11_years[6]? = some ((10, .i2l, 0, 0, 0, 0, 0, 0, []) : xm_I) := rfl
theorem r_X11_years_7 : co_X11_years[7]? = some ((11, .lconst 1, 0, 0, 0, 0, 0, 1, []) : xm_I) := rfl
theorem r_X11_years_8 : co_X11_years[8]? = some ((12, .ldc2_w 435, 1904, 0, 0, 0, 0, 20, []) : xm_I) := rfl
theorem r_X11_years_9 : co_X11_years[9]? = some ((15, .invokestatic 84, 1503, 191, 3, 0, 0, 0, []) : xm_I) := rfl
theorem r_X11_years_10 : co_X11_years[10]? = some ((18, .ifCond .eq 7, 0, 0, 13, 0, 0, 0, []) : xm_I) := rfl
theorem r_X11_years_11 : co_X11_years[11]? = some ((21, .iconst 1, 0, 0, 0, 0, 1, 0, []) : xm_I) := rfl
theorem r_X11_years_12 : co_X11_years[12]? = some ((22, .goto 4, 0, 0, 14, 0, 0, 0, []) : xm_I) := rfl
theorem r_X11_years_13 : co_X11_years[13]? = some ((25, .iconst 0, 0, 0, 0, 0, 0, 0, []) : xm_I) := rfl
theorem r_X11_years_14 : co_X11_years[14]? = some ((26, .iconst 1, 0, 0, 0, 0, 1, 0, []) : xm_I) := rfl
theorem r_X11_years_15 : co_X11_years[15]? = some ((27, .invokevirtual 373, 1778, 252, 4, 10, 0, 0, []) : xm_I) := rfl
theorem r_X11_years_16 : co_X11_years[16]? = some ((30, .istore 4, 0, 0, 0, 0, 0, 0, []) : xm_I) := rfl
theorem r_X11_years_17 : co_X11_years[17]? = some ((32, .iload 4, 0, 0, 0, 0, 0, 0, []) : xm_I) := rfl
theorem r_X11_years_18 : co_X11_years[18]? = some ((34, .ifCond .ge 6, 0, 0, 21, 0, 0, 0, []) : xm_I) := rfl
theorem r_X11_years_19 : co_X11_years[19]? = some ((37, .iload 4, 0, 0, 0, 0, 0, 0, []) : xm_I) := rfl
theorem r_X11_years_20 : co_X11_years[20]? = some ((39, .ireturn, 0, 0, 0, 0, 0, 0, []) : xm_I) := rfl
theorem r_X11_years_21 : co_X11_years[21]? = some ((40, .iconst 0, 0, 0, 0, 0, 0, 0, []) : xm_I) := rfl
theorem r_X11_years_22 : co_X11_years[22]? = some ((41, .istore 5, 0, 0, 0, 0, 0, 0, []) : xm_I) := rfl
theorem r_X11_years_23 : co_X11_years[23]? = some ((43, .iconst 0, 0, 0, 0, 0, 0, 0, []) : xm_I) := rfl
theorem r_X11_years_24 : co_X11_years[24]? = some ((44, .istore 6, 0, 0, 0, 0, 0, 0, []) : xm_I) := rfl
theorem r_X11_years_25 : co_X11_years[25]? = some ((46, .iload 6, 0, 0, 0, 0, 0, 0, []) : xm_I) := rfl
theorem r_X11_years_26 : co_X11_years[26]? = some ((48, .iload_n 2, 0, 0, 0, 0, 0, 0, []) : xm_I) := rfl
theorem r_X11_years_27 : co_X11_years[27]? = some ((49, .if_icmp .ge 37, 0, 0, 47, 0, 0, 0, []) : xm_I) := rfl
theorem r_X11_years_28 : co_X11_years[28]? = some ((52, .aload_n 0, 0, 0, 0, 0, 0, 0, []) : xm_I) := rfl
theorem r_X11_years_29 : co_X11_years[29]? = some ((53, .iload_n 1, 0, 0, 0, 0, 0, 0, []) : xm_I) := rfl
theorem r_X11_years_30 : co_X11_years[30]? = some ((54, .i2l, 0, 0, 0, 0, 0, 0, []) : xm_I) := rfl
theorem r_X11_years_31 : co_X11_years[31]? = some ((55, .iload 6, 0, 0, 0, 0, 0, 0, []) : xm_I) := rfl
theorem r_X11_years_32 : co_X11_years[32]? = some ((57, .i2l, 0, 0, 0, 0, 0, 0, []) : xm_I) := rfl
theorem r_X11_years_33 : co_X11_years[33]? = some ((58, .ladd, 0, 0, 0, 0, 0, 0, []) : xm_I) := rfl
theorem r_X11_years_34 : co_X11_years[34]? = some ((59, .iload_n 3, 0, 0, 0, 0, 0, 0, []) : xm_I) := rfl
theorem r_X11_years_35 : co_X11_years[35]? = some ((60, .invokevirtual 532, 2072, 323, 3, 10, 0, 0, []) : xm_I) := rfl
theorem r_X11_years_36 : co_X11_years[36]? = some ((63, .iload 5, 0, 0, 0, 0, 0, 0, []) : xm_I) := rfl
theorem r_X11_years_37 : co_X11_years[37]? = some ((65, .aload_n 0, 0, 0, 0, 0, 0, 0, []) : xm_I) := rfl
theorem r_X11_years_38 : co_X11_years[38]? = some ((66, .getfield 521, 1414, 10, 34, 0, 0, 0, []) : xm_I) := rfl
theorem r_X11_years_39 : co_X11_years[39]? = some ((69, .ifCond .ne 7, 0, 0, 42, 0, 0, 0, []) : xm_I) := rfl
theorem r_X11_years_40 : co_X11_years[40]? = some ((72, .iconst 1, 0, 0, 0, 0, 1, 0, []) : xm_I) := rfl
theorem r_X11_years_41 : co_X11_years[41]? = some ((73, .goto 4, 0, 0, 43, 0, 0, 0, []) : xm_I) := rfl
theorem r_X11_years_42 : co_X11_years[42]? = some ((76, .iconst 0, 0, 0, 0, 0, 0, 0, []) : xm_I) := rfl
theorem r_X11_years_43 : co_X11_years[43]? = some ((77, .iadd, 0, 0, 0, 0, 0, 0, []) : xm_I) := rfl
theorem r_X11_years_44 : co_X11_years[44]? = some ((78, .istore 5, 0, 0, 0, 0, 0, 0, []) : xm_I) := rfl
theorem r_X11_years_45 : co_X11_years[45]? = some ((80, .iinc 6 1, 0, 0, 0, 0, 1, 0, []) : xm_I) := rfl
theorem r_X11_years_46 : co_X11_years[46]? = some ((83, .goto (-37), 0, 0, 25, 0, 0, 0, []) : xm_I) := rfl
theorem r_X11_years_47 : co_X11_years[47]? = some ((86, .iload 5, 0, 0, 0, 0, 0, 0, []) : xm_I) := rfl
theorem r_X11_years_48 : co_X11_years[48]? = some ((88, .ireturn, 0, 0, 0, 0, 0, 0, []) : xm_I) := rfl
theorem p_X11_years_0_0 {X : xm_X} {P : List xm_M} {d : Nat} {h : xm_H} {l0 : Nat} {l1 : Int32} {l2 : Int32} {l3 : Int32} {h0 : xm_H} {r0 : Int32} {h1 : xm_H} {r1 : Int32} {ro : Option Value} {ho : xm_H} (q0 : xm_V X P d 322 [.int l1] h (some (.int r0)) h0) (q1 : r0 = (0 : Int32)) (q2 : xm_V X P d 252 [.ref l0, .int l3, .int (0 : Int32), .int (1 : Int32)] h0 (some (.int r1)) h1) (q3 : X.1[l0]? = some (.inr 10)) (q4 : (0 : Int32) ≤ r1) (K : xm_E X P d co_X11_years 25 [some (.ref l0), some (.int l1), some (.int l2), some (.int l3), some (.int r1), some (.int (0 : Int32)), some (.int (0 : Int32))] [] h1 ro ho) : xm_E X P d co_X11_years 0 [some (.ref l0), some (.int l1), some (.int l2), some (.int l3), none, none, none] [] h ro ho := by
  refine xm_E_s r_X11_years_0 rfl rfl ?_
  refine xm_E_s r_X11_years_1 rfl rfl ?_
  refine xm_E_s r_X11_years_2 rfl rfl ?_
  refine xm_E_cs [.int l1] [.int l3, .ref l0] r_X11_years_3 rfl rfl rfl (Nat.le_of_ble_eq_true rfl) rfl q0 ?_
  refine xm_E_s r_X11_years_4 rfl rfl ?_
  refine xm_E_t q1 ?_
  refine xm_E_s r_X11_years_13 rfl rfl ?_
  refine xm_E_s r_X11_years_14 rfl rfl ?_
  refine xm_E_cv [.ref l0, .int l3, .int (0 : Int32), .int (1 : Int32)] [] r_X11_years_15 rfl rfl (Nat.le_of_ble_eq_true rfl) (xm_rc q3 (by decide)) rfl q2 ?_
  refine xm_E_s (ls1 := [some (.ref l0), some (.int l1), some (.int l2), some (.int l3), some (.int r1), none, none]) r_X11_years_16 rfl rfl ?_
  refine xm_E_s r_X11_years_17 rfl rfl ?_
  refine xm_E_s r_X11_years_18 rfl rfl ?_
  refine xm_E_t q4 ?_
  refine xm_E_s r_X11_years_21 rfl rfl ?_
  refine xm_E_s (ls1 := [some (.ref l0), some (.int l1), some (.int l2), some (.int l3), some (.int r1), some (.int (0 : Int32)), none]) r_X11_years_22 rfl rfl ?_
  refine xm_E_s r_X11_years_23 rfl rfl ?_
  refine xm_E_s (ls1 := [some (.ref l0), some (.int l1), some (.int l2), some (.int l3), some (.int r1), some (.int (0 : Int32)), some (.int (0 : Int32))]) r_X11_years_24 rfl rfl ?_
  exact K
theorem p_X11_years_0_1 {X : xm_X} {P : List xm_M} {d : Nat} {h : xm_H} {l0 : Nat} {l1 : Int32} {l2 : Int32} {l3 : Int32} {h0 : xm_H} {r0 : Int32} {h1 : xm_H} {r1 : Int32} (q0 : xm_V X P d 322 [.int l1] h (some (.int r0)) h0) (q1 : r0 = (0 : Int32)) (q2 : xm_V X P d 252 [.ref l0, .int l3, .int (0 : Int32), .int (1 : Int32)] h0 (some (.int r1)) h1) (q3 : X.1[l0]? = some (.inr 10)) (q4 : ¬ ((0 : Int32) ≤ r1)) : xm_E X P d co_X11_years 0 [some (.ref l0), some (.int l1), some (.int l2), some (.int l3), none, none, none] [] h (some (.int r1)) h1 := by
  refine xm_E_s r_X11_years_0 rfl rfl ?_
  refine xm_E_s r_X11_years_1 rfl rfl ?_
  refine xm_E_s r_X11_years_2 rfl rfl ?_
  refine xm_E_cs [.int l1] [.int l3, .ref l0] r_X11_years_3 rfl rfl rfl (Nat.le_of_ble_eq_true rfl) rfl q0 ?_
  refine xm_E_s r_X11_years_4 rfl rfl ?_
  refine xm_E_t q1 ?_
  refine xm_E_s r_X11_years_13 rfl rfl ?_
  refine xm_E_s r_X11_years_14 rfl rfl ?_
  refine xm_E_cv [.ref l0, .int l3, .int (0 : Int32), .int (1 : Int32)] [] r_X11_years_15 rfl rfl (Nat.le_of_ble_eq_true rfl) (xm_rc q3 (by decide)) rfl q2 ?_
  refine xm_E_s (ls1 := [some (.ref l0), some (.int l1), some (.int l2), some (.int l3), some (.int r1), none, none]) r_X11_years_16 rfl rfl ?_
  refine xm_E_s r_X11_years_17 rfl rfl ?_
  refine xm_E_s r_X11_years_18 rfl rfl ?_
  refine xm_E_f q4 ?_
  refine xm_E_s r_X11_years_19 rfl rfl ?_
  exact xm_E_iret r_X11_years_20 rfl rfl
theorem p_X11_years_0_2 {X : xm_X} {P : List xm_M} {d : Nat} {h : xm_H} {l0 : Nat} {l1 : Int32} {l2 : Int32} {l3 : Int32} {h0 : xm_H} {r0 : Int32} {h1 : xm_H} {r1 : Int32} {h2 : xm_H} {r2 : Int32} {ro : Option Value} {ho : xm_H} (q0 : xm_V X P d 322 [.int l1] h (some (.int r0)) h0) (q1 : ¬ (r0 = (0 : Int32))) (q2 : xm_V X P d 191 [.long l2.toInt64, .long (1 : Int64), .long (20 : Int64)] h0 (some (.int r1)) h1) (q3 : r1 = (0 : Int32)) (q4 : xm_V X P d 252 [.ref l0, .int l3, .int (0 : Int32), .int (1 : Int32)] h1 (some (.int r2)) h2) (q5 : X.1[l0]? = some (.inr 10)) (q6 : (0 : Int32) ≤ r2) (K : xm_E X P d co_X11_years 25 [some (.ref l0), some (.int l1), some (.int l2), some (.int l3), some (.int r2), some (.int (0 : Int32)), some (.int (0 : Int32))] [] h2 ro ho) : xm_E X P d co_X11_years 0 [some (.ref l0), some (.int l1), some (.int l2), some (.int l3), none, none, none] [] h ro ho := by
  refine xm_E_s r_X11_years_0 rfl rfl ?_
  refine xm_E_s r_X11_years_1 rfl rfl ?_
  refine xm_E_s r_X11_years_2 rfl rfl ?_
  refine xm_E_cs [.int l1] [.int l3, .ref l0] r_X11_years_3 rfl rfl rfl (Nat.le_of_ble_eq_true rfl) rfl q0 ?_
  refine xm_E_s r_X11_years_4 rfl rfl ?_
  refine xm_E_f q1 ?_
  refine xm_E_s r_X11_years_5 rfl rfl ?_
  refine xm_E_s r_X11_years_6 rfl rfl ?_
  refine xm_E_s r_X11_years_7 rfl rfl ?_
  refine xm_E_s r_X11_years_8 rfl rfl ?_
  refine xm_E_cs [.long l2.toInt64, .long (1 : Int64), .long (20 : Int64)] [.int l3, .ref l0] r_X11_years_9 rfl rfl rfl (Nat.le_of_ble_eq_true rfl) rfl q2 ?_
  refine xm_E_s r_X11_years_10 rfl rfl ?_
  refine xm_E_t q3 ?_
  refine xm_E_s r_X11_years_13 rfl rfl ?_
  refine xm_E_s r_X11_years_14 rfl rfl ?_
  refine xm_E_cv [.ref l0, .int l3, .int (0 : Int32), .int (1 : Int32)] [] r_X11_years_15 rfl rfl (Nat.le_of_ble_eq_true rfl) (xm_rc q5 (by decide)) rfl q4 ?_
  refine xm_E_s (ls1 := [some (.ref l0), some (.int l1), some (.int l2), some (.int l3), some (.int r2), none, none]) r_X11_years_16 rfl rfl ?_
  refine xm_E_s r_X11_years_17 rfl rfl ?_
  refine xm_E_s r_X11_years_18 rfl rfl ?_
  refine xm_E_t q6 ?_
  refine xm_E_s r_X11_years_21 rfl rfl ?_
  refine xm_E_s (ls1 := [some (.ref l0), some (.int l1), some (.int l2), some (.int l3), some (.int r2), some (.int (0 : Int32)), none]) r_X11_years_22 rfl rfl ?_
  refine xm_E_s r_X11_years_23 rfl rfl ?_
  refine xm_E_s (ls1 := [some (.ref l0), some (.int l1), some (.int l2), some (.int l3), some (.int r2), some (.int (0 : Int32)), some (.int (0 : Int32))]) r_X11_years_24 rfl rfl ?_
  exact K
theorem p_X11_years_0_3 {X : xm_X} {P : List xm_M} {d : Nat} {h : xm_H} {l0 : Nat} {l1 : Int32} {l2 : Int32} {l3 : Int32} {h0 : xm_H} {r0 : Int32} {h1 : xm_H} {r1 : Int32} {h2 : xm_H} {r2 : Int32} (q0 : xm_V X P d 322 [.int l1] h (some (.int r0)) h0) (q1 : ¬ (r0 = (0 : Int32))) (q2 : xm_V X P d 191 [.long l2.toInt64, .long (1 : Int64), .long (20 : Int64)] h0 (some (.int r1)) h1) (q3 : r1 = (0 : Int32)) (q4 : xm_V X P d 252 [.ref l0, .int l3, .int (0 : Int32), .int (1 : Int32)] h1 (some (.int r2)) h2) (q5 : X.1[l0]? = some (.inr 10)) (q6 : ¬ ((0 : Int32) ≤ r2)) : xm_E X P d co_X11_years 0 [some (.ref l0), some (.int l1), some (.int l2), some (.int l3), none, none, none] [] h (some (.int r2)) h2 := by
  refine xm_E_s r_X11_years_0 rfl rfl ?_
  refine xm_E_s r_X11_years_1 rfl rfl ?_
  refine xm_E_s r_X11_years_2 rfl rfl ?_
  refine xm_E_cs [.int l1] [.int l3, .ref l0] r_X11_years_3 rfl rfl rfl (Nat.le_of_ble_eq_true rfl) rfl q0 ?_
  refine xm_E_s r_X11_years_4 rfl rfl ?_
  refine xm_E_f q1 ?_
  refine xm_E_s r_X11_years_5 rfl rfl ?_
  refine xm_E_s r_X11_years_6 rfl rfl ?_
  refine xm_E_s r_X11_years_7 rfl rfl ?_
  refine xm_E_s r_X11_years_8 rfl rfl ?_
  refine xm_E_cs [.long l2.toInt64, .long (1 : Int64), .long (20 : Int64)] [.int l3, .ref l0] r_X11_years_9 rfl rfl rfl (Nat.le_of_ble_eq_true rfl) rfl q2 ?_
  refine xm_E_s r_X11_years_10 rfl rfl ?_
  refine xm_E_t q3 ?_
  refine xm_E_s r_X11_years_13 rfl rfl ?_
  refine xm_E_s r_X11_years_14 rfl rfl ?_
  refine xm_E_cv [.ref l0, .int l3, .int (0 : Int32), .int (1 : Int32)] [] r_X11_years_15 rfl rfl (Nat.le_of_ble_eq_true rfl) (xm_rc q5 (by decide)) rfl q4 ?_
  refine xm_E_s (ls1 := [some (.ref l0), some (.int l1), some (.int l2), some (.int l3), some (.int r2), none, none]) r_X11_years_16 rfl rfl ?_
  refine xm_E_s r_X11_years_17 rfl rfl ?_
  refine xm_E_s r_X11_years_18 rfl rfl ?_
  refine xm_E_f q6 ?_
  refine xm_E_s r_X11_years_19 rfl rfl ?_
  exact xm_E_iret r_X11_years_20 rfl rfl
theorem p_X11_years_0_4 {X : xm_X} {P : List xm_M} {d : Nat} {h : xm_H} {l0 : Nat} {l1 : Int32} {l2 : Int32} {l3 : Int32} {h0 : xm_H} {r0 : Int32} {h1 : xm_H} {r1 : Int32} {h2 : xm_H} {r2 : Int32} {ro : Option Value} {ho : xm_H} (q0 : xm_V X P d 322 [.int l1] h (some (.int r0)) h0) (q1 : ¬ (r0 = (0 : Int32))) (q2 : xm_V X P d 191 [.long l2.toInt64, .long (1 : Int64), .long (20 : Int64)] h0 (some (.int r1)) h1) (q3 : ¬ (r1 = (0 : Int32))) (q4 : xm_V X P d 252 [.ref l0, .int l3, .int (1 : Int32), .int (1 : Int32)] h1 (some (.int r2)) h2) (q5 : X.1[l0]? = some (.inr 10)) (q6 : (0 : Int32) ≤ r2) (K : xm_E X P d co_X11_years 25 [some (.ref l0), some (.int l1), some (.int l2), some (.int l3), some (.int r2), some (.int (0 : Int32)), some (.int (0 : Int32))] [] h2 ro ho) : xm_E X P d co_X11_years 0 [some (.ref l0), some (.int l1), some (.int l2), some (.int l3), none, none, none] [] h ro ho := by
  refine xm_E_s r_X11_years_0 rfl rfl ?_
  refine xm_E_s r_X11_years_1 rfl rfl ?_
  refine xm_E_s r_X11_years_2 rfl rfl ?_
  refine xm_E_cs [.int l1] [.int l3, .ref l0] r_X11_years_3 rfl rfl rfl (Nat.le_of_ble_eq_true rfl) rfl q0 ?_
  refine xm_E_s r_X11_years_4 rfl rfl ?_
  refine xm_E_f q1 ?_
  refine xm_E_s r_X11_years_5 rfl rfl ?_
  refine xm_E_s r_X11_years_6 rfl rfl ?_
  refine xm_E_s r_X11_years_7 rfl rfl ?_
  refine xm_E_s r_X11_years_8 rfl rfl ?_
  refine xm_E_cs [.long l2.toInt64, .long (1 : Int64), .long (20 : Int64)] [.int l3, .ref l0] r_X11_years_9 rfl rfl rfl (Nat.le_of_ble_eq_true rfl) rfl q2 ?_
  refine xm_E_s r_X11_years_10 rfl rfl ?_
  refine xm_E_f q3 ?_
  refine xm_E_s r_X11_years_11 rfl rfl ?_
  refine xm_E_s r_X11_years_12 rfl rfl ?_
  refine xm_E_s r_X11_years_14 rfl rfl ?_
  refine xm_E_cv [.ref l0, .int l3, .int (1 : Int32), .int (1 : Int32)] [] r_X11_years_15 rfl rfl (Nat.le_of_ble_eq_true rfl) (xm_rc q5 (by decide)) rfl q4 ?_
  refine xm_E_s (ls1 := [some (.ref l0), some (.int l1), some (.int l2), some (.int l3), some (.int r2), none, none]) r_X11_years_16 rfl rfl ?_
  refine xm_E_s r_X11_years_17 rfl rfl ?_
  refine xm_E_s r_X11_years_18 rfl rfl ?_
  refine xm_E_t q6 ?_
  refine xm_E_s r_X11_years_21 rfl rfl ?_
  refine xm_E_s (ls1 := [some (.ref l0), some (.int l1), some (.int l2), some (.int l3), some (.int r2), some (.int (0 : Int32)), none]) r_X11_years_22 rfl rfl ?_
  refine xm_E_s r_X11_years_23 rfl rfl ?_
  refine xm_E_s (ls1 := [some (.ref l0), some (.int l1), some (.int l2), some (.int l3), some (.int r2), some (.int (0 : Int32)), some (.int (0 : Int32))]) r_X11_years_24 rfl rfl ?_
  exact K
theorem p_X11_years_0_5 {X : xm_X} {P : List xm_M} {d : Nat} {h : xm_H} {l0 : Nat} {l1 : Int32} {l2 : Int32} {l3 : Int32} {h0 : xm_H} {r0 : Int32} {h1 : xm_H} {r1 : Int32} {h2 : xm_H} {r2 : Int32} (q0 : xm_V X P d 322 [.int l1] h (some (.int r0)) h0) (q1 : ¬ (r0 = (0 : Int32))) (q2 : xm_V X P d 191 [.long l2.toInt64, .long (1 : Int64), .long (20 : Int64)] h0 (some (.int r1)) h1) (q3 : ¬ (r1 = (0 : Int32))) (q4 : xm_V X P d 252 [.ref l0, .int l3, .int (1 : Int32), .int (1 : Int32)] h1 (some (.int r2)) h2) (q5 : X.1[l0]? = some (.inr 10)) (q6 : ¬ ((0 : Int32) ≤ r2)) : xm_E X P d co_X11_years 0 [some (.ref l0), some (.int l1), some (.int l2), some (.int l3), none, none, none] [] h (some (.int r2)) h2 := by
  refine xm_E_s r_X11_years_0 rfl rfl ?_
  refine xm_E_s r_X11_years_1 rfl rfl ?_
  refine xm_E_s r_X11_years_2 rfl rfl ?_
  refine xm_E_cs [.int l1] [.int l3, .ref l0] r_X11_years_3 rfl rfl rfl (Nat.le_of_ble_eq_true rfl) rfl q0 ?_
  refine xm_E_s r_X11_years_4 rfl rfl ?_
  refine xm_E_f q1 ?_
  refine xm_E_s r_X11_years_5 rfl rfl ?_
  refine xm_E_s r_X11_years_6 rfl rfl ?_
  refine xm_E_s r_X11_years_7 rfl rfl ?_
  refine xm_E_s r_X11_years_8 rfl rfl ?_
  refine xm_E_cs [.long l2.toInt64, .long (1 : Int64), .long (20 : Int64)] [.int l3, .ref l0] r_X11_years_9 rfl rfl rfl (Nat.le_of_ble_eq_true rfl) rfl q2 ?_
  refine xm_E_s r_X11_years_10 rfl rfl ?_
  refine xm_E_f q3 ?_
  refine xm_E_s r_X11_years_11 rfl rfl ?_
  refine xm_E_s r_X11_years_12 rfl rfl ?_
  refine xm_E_s r_X11_years_14 rfl rfl ?_
  refine xm_E_cv [.ref l0, .int l3, .int (1 : Int32), .int (1 : Int32)] [] r_X11_years_15 rfl rfl (Nat.le_of_ble_eq_true rfl) (xm_rc q5 (by decide)) rfl q4 ?_
  refine xm_E_s (ls1 := [some (.ref l0), some (.int l1), some (.int l2), some (.int l3), some (.int r2), none, none]) r_X11_years_16 rfl rfl ?_
  refine xm_E_s r_X11_years_17 rfl rfl ?_
  refine xm_E_s r_X11_years_18 rfl rfl ?_
  refine xm_E_f q6 ?_
  refine xm_E_s r_X11_years_19 rfl rfl ?_
  exact xm_E_iret r_X11_years_20 rfl rfl
theorem p_X11_years_25_0 {X : xm_X} {P : List xm_M} {d : Nat} {h : xm_H} {l0 : Nat} {l1 : Int32} {l2 : Int32} {l3 : Int32} {l4 : Int32} {l5 : Int32} {l6 : Int32} (q0 : l2 ≤ l6) : xm_E X P d co_X11_years 25 [some (.ref l0), some (.int l1), some (.int l2), some (.int l3), some (.int l4), some (.int l5), some (.int l6)] [] h (some (.int l5)) h := by
  refine xm_E_s r_X11_years_25 rfl rfl ?_
  refine xm_E_s r_X11_years_26 rfl rfl ?_
  refine xm_E_s r_X11_years_27 rfl rfl ?_
  refine xm_E_t q0 ?_
  refine xm_E_s r_X11_years_47 rfl rfl ?_
  exact xm_E_iret r_X11_years_48 rfl rfl
theorem p_X11_years_25_1 {X : xm_X} {P : List xm_M} {d : Nat} {h : xm_H} {l0 : Nat} {l1 : Int32} {l2 : Int32} {l3 : Int32} {l4 : Int32} {l5 : Int32} {l6 : Int32} {h0 : xm_H} {ro : Option Value} {ho : xm_H} (q0 : ¬ (l2 ≤ l6)) (q1 : xm_V X P d 323 [.ref l0, .long (l1.toInt64 + l6.toInt64), .int l3] h none h0) (q2 : X.1[l0]? = some (.inr 10)) (q3 : h0.1 l0 34 = (0 : Int32)) (K : xm_E X P d co_X11_years 25 [some (.ref l0), some (.int l1), some (.int l2), some (.int l3), some (.int l4), some (.int (l5 + (1 : Int32))), some (.int (l6 + (1 : Int32)))] [] h0 ro ho) : xm_E X P d co_X11_years 25 [some (.ref l0), some (.int l1), some (.int l2), some (.int l3), some (.int l4), some (.int l5), some (.int l6)] [] h ro ho := by
  refine xm_E_s r_X11_years_25 rfl rfl ?_
  refine xm_E_s r_X11_years_26 rfl rfl ?_
  refine xm_E_s r_X11_years_27 rfl rfl ?_
  refine xm_E_f q0 ?_
  refine xm_E_s r_X11_years_28 rfl rfl ?_
  refine xm_E_s r_X11_years_29 rfl rfl ?_
  refine xm_E_s r_X11_years_30 rfl rfl ?_
  refine xm_E_s r_X11_years_31 rfl rfl ?_
  refine xm_E_s r_X11_years_32 rfl rfl ?_
  refine xm_E_s r_X11_years_33 rfl rfl ?_
  refine xm_E_s r_X11_years_34 rfl rfl ?_
  refine xm_E_cv [.ref l0, .long (l1.toInt64 + l6.toInt64), .int l3] [] r_X11_years_35 rfl rfl (Nat.le_of_ble_eq_true rfl) (xm_rc q2 (by decide)) rfl q1 ?_
  refine xm_E_s r_X11_years_36 rfl rfl ?_
  refine xm_E_s r_X11_years_37 rfl rfl ?_
  refine xm_E_s r_X11_years_38 rfl (xm_T_gi rfl q2 rfl (Or.inl rfl)) ?_
  refine xm_E_s r_X11_years_39 rfl rfl ?_
  refine xm_E_t q3 ?_
  refine xm_E_s r_X11_years_40 rfl rfl ?_
  refine xm_E_s r_X11_years_41 rfl rfl ?_
  refine xm_E_s r_X11_years_43 rfl rfl ?_
  refine xm_E_s (ls1 := [some (.ref l0), some (.int l1), some (.int l2), some (.int l3), some (.int l4), some (.int (l5 + (1 : Int32))), some (.int l6)]) r_X11_years_44 rfl rfl ?_
  refine xm_E_s (ls1 := [some (.ref l0), some (.int l1), some (.int l2), some (.int l3), some (.int l4), some (.int (l5 + (1 : Int32))), some (.int (l6 + (1 : Int32)))]) r_X11_years_45 rfl rfl ?_
  refine xm_E_s r_X11_years_46 rfl rfl ?_
  exact K
theorem p_X11_years_25_2 {X : xm_X} {P : List xm_M} {d : Nat} {h : xm_H} {l0 : Nat} {l1 : Int32} {l2 : Int32} {l3 : Int32} {l4 : Int32} {l5 : Int32} {l6 : Int32} {h0 : xm_H} {ro : Option Value} {ho : xm_H} (q0 : ¬ (l2 ≤ l6)) (q1 : xm_V X P d 323 [.ref l0, .long (l1.toInt64 + l6.toInt64), .int l3] h none h0) (q2 : X.1[l0]? = some (.inr 10)) (q3 : ¬ (h0.1 l0 34 = (0 : Int32))) (K : xm_E X P d co_X11_years 25 [some (.ref l0), some (.int l1), some (.int l2), some (.int l3), some (.int l4), some (.int (l5 + (0 : Int32))), some (.int (l6 + (1 : Int32)))] [] h0 ro ho) : xm_E X P d co_X11_years 25 [some (.ref l0), some (.int l1), some (.int l2), some (.int l3), some (.int l4), some (.int l5), some (.int l6)] [] h ro ho := by
  refine xm_E_s r_X11_years_25 rfl rfl ?_
  refine xm_E_s r_X11_years_26 rfl rfl ?_
  refine xm_E_s r_X11_years_27 rfl rfl ?_
  refine xm_E_f q0 ?_
  refine xm_E_s r_X11_years_28 rfl rfl ?_
  refine xm_E_s r_X11_years_29 rfl rfl ?_
  refine xm_E_s r_X11_years_30 rfl rfl ?_
  refine xm_E_s r_X11_years_31 rfl rfl ?_
  refine xm_E_s r_X11_years_32 rfl rfl ?_
  refine xm_E_s r_X11_years_33 rfl rfl ?_
  refine xm_E_s r_X11_years_34 rfl rfl ?_
  refine xm_E_cv [.ref l0, .long (l1.toInt64 + l6.toInt64), .int l3] [] r_X11_years_35 rfl rfl (Nat.le_of_ble_eq_true rfl) (xm_rc q2 (by decide)) rfl q1 ?_
  refine xm_E_s r_X11_years_36 rfl rfl ?_
  refine xm_E_s r_X11_years_37 rfl rfl ?_
  refine xm_E_s r_X11_years_38 rfl (xm_T_gi rfl q2 rfl (Or.inl rfl)) ?_
  refine xm_E_s r_X11_years_39 rfl rfl ?_
  refine xm_E_f q3 ?_
  refine xm_E_s r_X11_years_42 rfl rfl ?_
  refine xm_E_s r_X11_years_43 rfl rfl ?_
  refine xm_E_s (ls1 := [some (.ref l0), some (.int l1), some (.int l2), some (.int l3), some (.int l4), some (.int (l5 + (0 : Int32))), some (.int l6)]) r_X11_years_44 rfl rfl ?_
  refine xm_E_s (ls1 := [some (.ref l0), some (.int l1), some (.int l2), some (.int l3), some (.int l4), some (.int (l5 + (0 : Int32))), some (.int (l6 + (1 : Int32)))]) r_X11_years_45 rfl rfl ?_
  refine xm_E_s r_X11_years_46 rfl rfl ?_
  exact K
theorem r_X11_count_0 : co_X11_count[0]? = some ((0, .iconst 0, 0, 0, 0, 0, 0, 0, []) : xm_I) := rfl
theorem r_X11_count_1 : co_X11_count[1]? = some ((1, .istore_n 2, 0, 0, 0, 0, 0, 0, []) : xm_I) := rfl
theorem r_X11_count_2 : co_X11_count[2]? = some ((2, .iload_n 1, 0, 0, 0, 0, 0, 0, []) : xm_I) := rfl
theorem r_X11_count_3 : co_X11_count[3]? = some ((3, .tableswitch 165 0 10 #[57, 65, 73, 81, 88, 95, 103, 111, 119, 127, 132], 0, 0, 73, 0, 0, 0, [4, 9, 14, 19, 24, 29, 34, 39, 44, 49, 52]) : xm_I) := rfl
theorem r_X11_count_4 : co_X11_count[4]? = some ((60, .aload_n 0, 0, 0, 0, 0, 0, 0, []) : xm_I) := rfl
theorem r_X11_count_5 : co_X11_count[5]? = some ((61, .getfield 9, 1381, 10, 1, 2, 0, 0, []) : xm_I) := rfl
theorem r_X11_count_6 : co_X11_count[6]? = some ((64, .bipush 19, 0, 0, 0, 0, 19, 0, []) : xm_I) := rfl
theorem r_X11_count_7 : co_X11_count[7]? = some ((66, .iaload, 0, 0, 0, 0, 0, 0, []) : xm_I) := rfl
theorem r_X11_count_8 : co_X11_count[8]? = some ((67, .ireturn, 0, 0, 0, 0, 0, 0, []) : xm_I) := rfl
theorem r_X11_count_9 : co_X11_count[9]? = some ((68, .aload_n 0, 0, 0, 0, 0, 0, 0, []) : xm_I) := rfl
theorem r_X11_count_10 : co_X11_count[10]? = some ((69, .getfield 9, 1381, 10, 1, 2, 0, 0, []) : xm_I) := rfl
theorem r_X11_count_11 : co_X11_count[11]? = some ((72, .bipush 20, 0, 0, 0, 0, 20, 0, []) : xm_I) := rfl
theorem r_X11_count_12 : co_X11_count[12]? = some ((74, .iaload, 0, 0, 0, 0, 0, 0, []) : xm_I) := rfl
theorem r_X11_count_13 : co_X11_count[13]? = some ((75, .ireturn, 0, 0, 0, 0, 0, 0, []) : xm_I) := rfl
theorem r_X11_count_14 : co_X11_count[14]? = some ((76, .aload_n 0, 0, 0, 0, 0, 0, 0, []) : xm_I) := rfl
theorem r_X11_count_15 : co_X11_count[15]? = some ((77, .getfield 9, 1381, 10, 1, 2, 0, 0, []) : xm_I) := rfl
theorem r_X11_count_16 : co_X11_count[16]? = some ((80, .bipush 21, 0, 0, 0, 0, 21, 0, []) : xm_I) := rfl
theorem r_X11_count_17 : co_X11_count[17]? = some ((82, .iaload, 0, 0, 0, 0, 0, 0, []) : xm_I) := rfl
theorem r_X11_count_18 : co_X11_count[18]? = some ((83, .ireturn, 0, 0, 0, 0, 0, 0, []) : xm_I) := rfl
theorem r_X11_count_19 : co_X11_count[19]? = some ((84, .aload_n 0, 0, 0, 0, 0, 0, 0, []) : xm_I) := rfl
theorem r_X11_count_20 : co_X11_count[20]? = some ((85, .getfield 9, 1381, 10, 1, 2, 0, 0, []) : xm_I) := rfl
theorem r_X11_count_21 : co_X11_count[21]? = some ((88, .iconst 3, 0, 0, 0, 0, 3, 0, []) : xm_I) := rfl
theorem r_X11_count_22 : co_X11_count[22]? = some ((89, .iaload, 0, 0, 0, 0, 0, 0, []) : xm_I) := rfl
theorem r_X11_count_23 : co_X11_count[23]? = some ((90, .ireturn, 0, 0, 0, 0, 0, 0, []) : xm_I) := rfl
theorem r_X11_count_24 : co_X11_count[24]? = some ((91, .aload_n 0, 0, 0, 0, 0, 0, 0, []) : xm_I) := rfl
theorem r_X11_count_25 : co_X11_count[25]? = some ((92, .getfield 9, 1381, 10, 1, 2, 0, 0, []) : xm_I) := rfl
theorem r_X11_count_26 : co_X11_count[26]? = some ((95, .iconst 4, 0, 0, 0, 0, 4, 0, []) : xm_I) := rfl
theorem r_X11_count_27 : co_X11_count[27]? = some ((96, .iaload, 0, 0, 0, 0, 0, 0, []) : xm_I) := rfl
theorem r_X11_count_28 : co_X11_count[28]? = some ((97, .ireturn, 0, 0, 0, 0, 0, 0, []) : xm_I) := rfl
theorem r_X11_count_29 : co_X11_count[29]? = some ((98, .aload_n 0, 0, 0, 0, 0, 0, 0, []) : xm_I) := rfl
theorem r_X11_count_30 : co_X11_count[30]? = some ((99, .getfield 9, 1381, 10, 1, 2, 0, 0, []) : xm_I) := rfl
theorem r_X11_count_31 : co_X11_count[31]? = some ((102, .bipush 18, 0, 0, 0, 0, 18, 0, []) : xm_I) := rfl
theorem r_X11_count_32 : co_X11_count[32]? = some ((104, .iaload, 0, 0, 0, 0, 0, 0, []) : xm_I) := rfl
theorem r_X11_count_33 : co_X11_count[33]? = some ((105, .ireturn, 0, 0, 0, 0, 0, 0, []) : xm_I) := rfl
theorem r_X11_count_34 : co_X11_count[34]? = some ((106, .aload_n 0, 0, 0, 0, 0, 0, 0, []) : xm_I) := rfl
theorem r_X11_count_35 : co_X11_count[35]? = some ((107, .getfield 9, 1381, 10, 1, 2, 0, 0, []) : xm_I) := rfl
theorem r_X11_count_36 : co_X11_count[36]? = some ((110, .bipush 23, 0, 0, 0, 0, 23, 0, []) : xm_I) := rfl
theorem r_X11_count_37 : co_X11_count[37]? = some ((112, .iaload, 0, 0, 0, 0, 0, 0, []) : xm_I) := rfl
theorem r_X11_count_38 : co_X11_count[38]? = some ((113, .ireturn, 0, 0, 0, 0, 0, 0, []) : xm_I) := rfl
theorem r_X11_count_39 : co_X11_count[39]? = some ((114, .aload_n 0, 0, 0, 0, 0, 0, 0, []) : xm_I) := rfl
theorem r_X11_count_40 : co_X11_count[40]? = some ((115, .getfield 9, 1381, 10, 1, 2, 0, 0, []) : xm_I) := rfl
theorem r_X11_count_41 : co_X11_count[41]? = some ((118, .bipush 13, 0, 0, 0, 0, 13, 0, []) : xm_I) := rfl
theorem r_X11_count_42 : co_X11_count[42]? = some ((120, .iaload, 0, 0, 0, 0, 0, 0, []) : xm_I) := rfl
theorem r_X11_count_43 : co_X11_count[43]? = some ((121, .ireturn, 0, 0, 0, 0, 0, 0, []) : xm_I) := rfl
theorem r_X11_count_44 : co_X11_count[44]? = some ((122, .aload_n 0, 0, 0, 0, 0, 0, 0, []) : xm_I) := rfl
theorem r_X11_count_45 : co_X11_count[45]? = some ((123, .getfield 9, 1381, 10, 1, 2, 0, 0, []) : xm_I) := rfl
theorem r_X11_count_46 : co_X11_count[46]? = some ((126, .bipush 22, 0, 0, 0, 0, 22, 0, []) : xm_I) := rfl
theorem r_X11_count_47 : co_X11_count[47]? = some ((128, .iaload, 0, 0, 0, 0, 0, 0, []) : xm_I) := rfl
theorem r_X11_count_48 : co_X11_count[48]? = some ((129, .ireturn, 0, 0, 0, 0, 0, 0, []) : xm_I) := rfl
theorem r_X11_count_49 : co_X11_count[49]? = some ((130, .aload_n 0, 0, 0, 0, 0, 0, 0, []) : xm_I) := rfl
theorem r_X11_count_50 : co_X11_count[50]? = some ((131, .getfield 88, 1385, 10, 5, 0, 0, 0, []) : xm_I) := rfl
theorem r_X11_count_51 : co_X11_count[51]? = some ((134, .ireturn, 0, 0, 0, 0, 0, 0, []) : xm_I) := rfl
theorem r_X11_count_52 : co_X11_count[52]? = some ((135, .iconst 0, 0, 0, 0, 0, 0, 0, []) : xm_I) := rfl
theorem r_X11_count_53 : co_X11_count[53]? = some ((136, .istore_n 3, 0, 0, 0, 0, 0, 0, []) : xm_I) := rfl
theorem r_X11_count_54 : co_X11_count[54]? = some ((137, .iload_n 3, 0, 0, 0, 0, 0, 0, []) : xm_I) := rfl
theorem r_X11_count_55 : co_X11_count[55]? = some ((138, .iconst 4, 0, 0, 0, 0, 4, 0, []) : xm_I) := rfl
theorem r_X11_count_56 : co_X11_count[56]? = some ((139, .if_icmp .ge 27, 0, 0, 71, 0, 0, 0, []) : xm_I) := rfl
theorem r_X11_count_57 : co_X11_count[57]? = some ((142, .iload_n 2, 0, 0, 0, 0, 0, 0, []) : xm_I) := rfl
theorem r_X11_count_58 : co_X11_count[58]? = some ((143, .aload_n 0, 0, 0, 0, 0, 0, 0, []) : xm_I) := rfl
theorem r_X11_count_59 : co_X11_count[59]? = some ((144, .getfield 67, 1415, 10, 35, 2, 0, 0, []) : xm_I) := rfl
theorem r_X11_count_60 : co_X11_count[60]? = some ((147, .iload_n 3, 0, 0, 0, 0, 0, 0, []) : xm_I) := rfl
theorem r_X11_count_61 : co_X11_count[61]? = some ((148, .iaload, 0, 0, 0, 0, 0, 0, []) : xm_I) := rfl
theorem r_X11_count_62 : co_X11_count[62]? = some ((149, .iconst (-1), 0, 0, 0, 0, (-1), 0, []) : xm_I) := rfl
theorem r_X11_count_63 : co_X11_count[63]? = some ((150, .if_icmp .ne 7, 0, 0, 66, 0, 0, 0, []) : xm_I) := rfl
theorem r_X11_count_64 : co_X11_count[64]? = some ((153, .iconst 0, 0, 0, 0, 0, 0, 0, []) : xm_I) := rfl
theorem r_X11_count_65 : co_X11_count[65]? = some ((154, .goto 4, 0, 0, 67, 0, 0, 0, []) : xm_I) := rfl
theorem r_X11_count_66 : co_X11_count[66]? = some ((157, .iconst 1, 0, 0, 0, 0, 1, 0, []) : xm_I) := rfl
theorem r_X11_count_67 : co_X11_count[67]? = some ((158, .iadd, 0, 0, 0, 0, 0, 0, []) : xm_I) := rfl
theorem r_X11_count_68 : co_X11_count[68]? = some ((159, .istore_n 2, 0, 0, 0, 0, 0, 0, []) : xm_I) := rfl
theorem r_X11_count_69 : co_X11_count[69]? = some ((160, .iinc 3 1, 0, 0, 0, 0, 1, 0, []) : xm_I) := rfl
theorem r_X11_count_70 : co_X11_count[70]? = some ((163, .goto (-26), 0, 0, 54, 0, 0, 0, []) : xm_I) := rfl
theorem r_X11_count_71 : co_X11_count[71]? = some ((166, .iload_n 2, 0, 0, 0, 0, 0, 0, []) : xm_I) := rfl
theorem r_X11_count_72 : co_X11_count[72]? = some ((167, .ireturn, 0, 0, 0, 0, 0, 0, []) : xm_I) := rfl
theorem r_X11_count_73 : co_X11_count[73]? = some ((168, .iconst (-1), 0, 0, 0, 0, (-1), 0, []) : xm_I) := rfl
theorem r_X11_count_74 : co_X11_count[74]? = some ((169, .ireturn, 0, 0, 0, 0, 0, 0, []) : xm_I) := rfl
theorem p_X11_count_0_0 {X : xm_X} {P : List xm_M} {d : Nat} {h : xm_H} {l0 : Nat} {l1 : Int32} {v0 : Nat} {n1 : Nat} (q0 : l1 = (0 : Int32)) (q1 : X.1[l0]? = some (.inr 10)) (q2 : h.2.2 l0 1 = some v0) (q3 : X.1[v0]? = some (.inl (0, n1))) (q4 : 19 < n1) : xm_E X P d co_X11_count 0 [some (.ref l0), some (.int l1), none, none] [] h (some (.int (h.1 v0 19))) h := by
  refine xm_E_s r_X11_count_0 rfl rfl ?_
  refine xm_E_s (ls1 := [some (.ref l0), some (.int l1), some (.int (0 : Int32)), none]) r_X11_count_1 rfl rfl ?_
  refine xm_E_s r_X11_count_2 rfl rfl ?_
  refine xm_E_s r_X11_count_3 rfl (xm_T_tab (0 : Int32) 4 rfl q0 (by decide) rfl) ?_
  refine xm_E_s r_X11_count_4 rfl rfl ?_
  refine xm_E_s r_X11_count_5 rfl (xm_T_gr rfl q1 rfl rfl q2) ?_
  refine xm_E_s r_X11_count_6 rfl rfl ?_
  refine xm_E_s r_X11_count_7 rfl (xm_T_iald rfl q3 (by decide) (fun e => e.elim (fun e => absurd e (by decide)) (fun e => Nat.not_le.mpr q4 e))) ?_
  exact xm_E_iret r_X11_count_8 rfl rfl
theorem p_X11_count_0_1 {X : xm_X} {P : List xm_M} {d : Nat} {h : xm_H} {l0 : Nat} {l1 : Int32} {v0 : Nat} {n1 : Nat} (q0 : l1 = (1 : Int32)) (q1 : X.1[l0]? = some (.inr 10)) (q2 : h.2.2 l0 1 = some v0) (q3 : X.1[v0]? = some (.inl (0, n1))) (q4 : 20 < n1) : xm_E X P d co_X11_count 0 [some (.ref l0), some (.int l1), none, none] [] h (some (.int (h.1 v0 20))) h := by
  refine xm_E_s r_X11_count_0 rfl rfl ?_
  refine xm_E_s (ls1 := [some (.ref l0), some (.int l1), some (.int (0 : Int32)), none]) r_X11_count_1 rfl rfl ?_
  refine xm_E_s r_X11_count_2 rfl rfl ?_
  refine xm_E_s r_X11_count_3 rfl (xm_T_tab (1 : Int32) 9 rfl q0 (by decide) rfl) ?_
  refine xm_E_s r_X11_count_9 rfl rfl ?_
  refine xm_E_s r_X11_count_10 rfl (xm_T_gr rfl q1 rfl rfl q2) ?_
  refine xm_E_s r_X11_count_11 rfl rfl ?_
  refine xm_E_s r_X11_count_12 rfl (xm_T_iald rfl q3 (by decide) (fun e => e.elim (fun e => absurd e (by decide)) (fun e => Nat.not_le.mpr q4 e))) ?_
  exact xm_E_iret r_X11_count_13 rfl rfl
theorem p_X11_count_0_2 {X : xm_X} {P : List xm_M} {d : Nat} {h : xm_H} {l0 : Nat} {l1 : Int32} {v0 : Nat} {n1 : Nat} (q0 : l1 = (2 : Int32)) (q1 : X.1[l0]? = some (.inr 10)) (q2 : h.2.2 l0 1 = some v0) (q3 : X.1[v0]? = some (.inl (0, n1))) (q4 : 21 < n1) : xm_E X P d co_X11_count 0 [some (.ref l0), some (.int l1), none, none] [] h (some (.int (h.1 v0 21))) h := by
  refine xm_E_s r_X11_count_0 rfl rfl ?_
  refine xm_E_s (ls1 := [some (.ref l0), some (.int l1), some (.int (0 : Int32)), none]) r_X11_count_1 rfl rfl ?_
  refine xm_E_s r_X11_count_2 rfl rfl ?_
  refine xm_E_s r_X11_count_3 rfl (xm_T_tab (2 : Int32) 14 rfl q0 (by decide) rfl) ?_
  refine xm_E_s r_X11_count_14 rfl rfl ?_
  refine xm_E_s r_X11_count_15 rfl (xm_T_gr rfl q1 rfl rfl q2) ?_
  refine xm_E_s r_X11_count_16 rfl rfl ?_
  refine xm_E_s r_X11_count_17 rfl (xm_T_iald rfl q3 (by decide) (fun e => e.elim (fun e => absurd e (by decide)) (fun e => Nat.not_le.mpr q4 e))) ?_
  exact xm_E_iret r_X11_count_18 rfl rfl
theorem p_X11_count_0_3 {X : xm_X} {P : List xm_M} {d : Nat} {h : xm_H} {l0 : Nat} {l1 : Int32} {v0 : Nat} {n1 : Nat} (q0 : l1 = (3 : Int32)) (q1 : X.1[l0]? = some (.inr 10)) (q2 : h.2.2 l0 1 = some v0) (q3 : X.1[v0]? = some (.inl (0, n1))) (q4 : 3 < n1) : xm_E X P d co_X11_count 0 [some (.ref l0), some (.int l1), none, none] [] h (some (.int (h.1 v0 3))) h := by
  refine xm_E_s r_X11_count_0 rfl rfl ?_
  refine xm_E_s (ls1 := [some (.ref l0), some (.int l1), some (.int (0 : Int32)), none]) r_X11_count_1 rfl rfl ?_
  refine xm_E_s r_X11_count_2 rfl rfl ?_
  refine xm_E_s r_X11_count_3 rfl (xm_T_tab (3 : Int32) 19 rfl q0 (by decide) rfl) ?_
  refine xm_E_s r_X11_count_19 rfl rfl ?_
  refine xm_E_s r_X11_count_20 rfl (xm_T_gr rfl q1 rfl rfl q2) ?_
  refine xm_E_s r_X11_count_21 rfl rfl ?_
  refine xm_E_s r_X11_count_22 rfl (xm_T_iald rfl q3 (by decide) (fun e => e.elim (fun e => absurd e (by decide)) (fun e => Nat.not_le.mpr q4 e))) ?_
  exact xm_E_iret r_X11_count_23 rfl rfl
theorem p_X11_count_0_4 {X : xm_X} {P : List xm_M} {d : Nat} {h : xm_H} {l0 : Nat} {l1 : Int32} {v0 : Nat} {n1 : Nat} (q0 : l1 = (4 : Int32)) (q1 : X.1[l0]? = some (.inr 10)) (q2 : h.2.2 l0 1 = some v0) (q3 : X.1[v0]? = some (.inl (0, n1))) (q4 : 4 < n1) : xm_E X P d co_X11_count 0 [some (.ref l0), some (.int l1), none, none] [] h (some (.int (h.1 v0 4))) h := by
  refine xm_E_s r_X11_count_0 rfl rfl ?_
  refine xm_E_s (ls1 := [some (.ref l0), some (.int l1), some (.int (0 : Int32)), none]) r_X11_count_1 rfl rfl ?_
  refine xm_E_s r_X11_count_2 rfl rfl ?_
  refine xm_E_s r_X11_count_3 rfl (xm_T_tab (4 : Int32) 24 rfl q0 (by decide) rfl) ?_
  refine xm_E_s r_X11_count_24 rfl rfl ?_
  refine xm_E_s r_X11_count_25 rfl (xm_T_gr rfl q1 rfl rfl q2) ?_
  refine xm_E_s r_X11_count_26 rfl rfl ?_
  refine xm_E_s r_X11_count_27 rfl (xm_T_iald rfl q3 (by decide) (fun e => e.elim (fun e => absurd e (by decide)) (fun e => Nat.not_le.mpr q4 e))) ?_
  exact xm_E_iret r_X11_count_28 rfl rfl
theorem p_X11_count_0_5 {X : xm_X} {P : List xm_M} {d : Nat} {h : xm_H} {l0 : Nat} {l1 : Int32} {v0 : Nat} {n1 : Nat} (q0 : l1 = (5 : Int32)) (q1 : X.1[l0]? = some (.inr 10)) (q2 : h.2.2 l0 1 = some v0) (q3 : X.1[v0]? = some (.inl (0, n1))) (q4 : 18 < n1) : xm_E X P d co_X11_count 0 [some (.ref l0), some (.int l1), none, none] [] h (some (.int (h.1 v0 18))) h := by
  refine xm_E_s r_X11_count_0 rfl rfl ?_
  refine xm_E_s (ls1 := [some (.ref l0), some (.int l1), some (.int (0 : Int32)), none]) r_X11_count_1 rfl rfl ?_
  refine xm_E_s r_X11_count_2 rfl rfl ?_
  refine xm_E_s r_X11_count_3 rfl (xm_T_tab (5 : Int32) 29 rfl q0 (by decide) rfl) ?_
  refine xm_E_s r_X11_count_29 rfl rfl ?_
  refine xm_E_s r_X11_count_30 rfl (xm_T_gr rfl q1 rfl rfl q2) ?_
  refine xm_E_s r_X11_count_31 rfl rfl ?_
  refine xm_E_s r_X11_count_32 rfl (xm_T_iald rfl q3 (by decide) (fun e => e.elim (fun e => absurd e (by decide)) (fun e => Nat.not_le.mpr q4 e))) ?_
  exact xm_E_iret r_X11_count_33 rfl rfl
theorem p_X11_count_0_6 {X : xm_X} {P : List xm_M} {d : Nat} {h : xm_H} {l0 : Nat} {l1 : Int32} {v0 : Nat} {n1 : Nat} (q0 : l1 = (6 : Int32)) (q1 : X.1[l0]? = some (.inr 10)) (q2 : h.2.2 l0 1 = some v0) (q3 : X.1[v0]? = some (.inl (0, n1))) (q4 : 23 < n1) : xm_E X P d co_X11_count 0 [some (.ref l0), some (.int l1), none, none] [] h (some (.int (h.1 v0 23))) h := by
  refine xm_E_s r_X11_count_0 rfl rfl ?_
  refine xm_E_s (ls1 := [some (.ref l0), some (.int l1), some (.int (0 : Int32)), none]) r_X11_count_1 rfl rfl ?_
  refine xm_E_s r_X11_count_2 rfl rfl ?_
  refine xm_E_s r_X11_count_3 rfl (xm_T_tab (6 : Int32) 34 rfl q0 (by decide) rfl) ?_
  refine xm_E_s r_X11_count_34 rfl rfl ?_
  refine xm_E_s r_X11_count_35 rfl (xm_T_gr rfl q1 rfl rfl q2) ?_
  refine xm_E_s r_X11_count_36 rfl rfl ?_
  refine xm_E_s r_X11_count_37 rfl (xm_T_iald rfl q3 (by decide) (fun e => e.elim (fun e => absurd e (by decide)) (fun e => Nat.not_le.mpr q4 e))) ?_
  exact xm_E_iret r_X11_count_38 rfl rfl
theorem p_X11_count_0_7 {X : xm_X} {P : List xm_M} {d : Nat} {h : xm_H} {l0 : Nat} {l1 : Int32} {v0 : Nat} {n1 : Nat} (q0 : l1 = (7 : Int32)) (q1 : X.1[l0]? = some (.inr 10)) (q2 : h.2.2 l0 1 = some v0) (q3 : X.1[v0]? = some (.inl (0, n1))) (q4 : 13 < n1) : xm_E X P d co_X11_count 0 [some (.ref l0), some (.int l1), none, none] [] h (some (.int (h.1 v0 13))) h := by
  refine xm_E_s r_X11_count_0 rfl rfl ?_
  refine xm_E_s (ls1 := [some (.ref l0), some (.int l1), some (.int (0 : Int32)), none]) r_X11_count_1 rfl rfl ?_
  refine xm_E_s r_X11_count_2 rfl rfl ?_
  refine xm_E_s r_X11_count_3 rfl (xm_T_tab (7 : Int32) 39 rfl q0 (by decide) rfl) ?_
  refine xm_E_s r_X11_count_39 rfl rfl ?_
  refine xm_E_s r_X11_count_40 rfl (xm_T_gr rfl q1 rfl rfl q2) ?_
  refine xm_E_s r_X11_count_41 rfl rfl ?_
  refine xm_E_s r_X11_count_42 rfl (xm_T_iald rfl q3 (by decide) (fun e => e.elim (fun e => absurd e (by decide)) (fun e => Nat.not_le.mpr q4 e))) ?_
  exact xm_E_iret r_X11_count_43 rfl rfl
theorem p_X11_count_0_8 {X : xm_X} {P : List xm_M} {d : Nat} {h : xm_H} {l0 : Nat} {l1 : Int32} {v0 : Nat} {n1 : Nat} (q0 : l1 = (8 : Int32)) (q1 : X.1[l0]? = some (.inr 10)) (q2 : h.2.2 l0 1 = some v0) (q3 : X.1[v0]? = some (.inl (0, n1))) (q4 : 22 < n1) : xm_E X P d co_X11_count 0 [some (.ref l0), some (.int l1), none, none] [] h (some (.int (h.1 v0 22))) h := by
  refine xm_E_s r_X11_count_0 rfl rfl ?_
  refine xm_E_s (ls1 := [some (.ref l0), some (.int l1), some (.int (0 : Int32)), none]) r_X11_count_1 rfl rfl ?_
  refine xm_E_s r_X11_count_2 rfl rfl ?_
  refine xm_E_s r_X11_count_3 rfl (xm_T_tab (8 : Int32) 44 rfl q0 (by decide) rfl) ?_
  refine xm_E_s r_X11_count_44 rfl rfl ?_
  refine xm_E_s r_X11_count_45 rfl (xm_T_gr rfl q1 rfl rfl q2) ?_
  refine xm_E_s r_X11_count_46 rfl rfl ?_
  refine xm_E_s r_X11_count_47 rfl (xm_T_iald rfl q3 (by decide) (fun e => e.elim (fun e => absurd e (by decide)) (fun e => Nat.not_le.mpr q4 e))) ?_
  exact xm_E_iret r_X11_count_48 rfl rfl
theorem p_X11_count_0_9 {X : xm_X} {P : List xm_M} {d : Nat} {h : xm_H} {l0 : Nat} {l1 : Int32} (q0 : l1 = (9 : Int32)) (q1 : X.1[l0]? = some (.inr 10)) : xm_E X P d co_X11_count 0 [some (.ref l0), some (.int l1), none, none] [] h (some (.int (h.1 l0 5))) h := by
  refine xm_E_s r_X11_count_0 rfl rfl ?_
  refine xm_E_s (ls1 := [some (.ref l0), some (.int l1), some (.int (0 : Int32)), none]) r_X11_count_1 rfl rfl ?_
  refine xm_E_s r_X11_count_2 rfl rfl ?_
  refine xm_E_s r_X11_count_3 rfl (xm_T_tab (9 : Int32) 49 rfl q0 (by decide) rfl) ?_
  refine xm_E_s r_X11_count_49 rfl rfl ?_
  refine xm_E_s r_X11_count_50 rfl (xm_T_gi rfl q1 rfl (Or.inl rfl)) ?_
  exact xm_E_iret r_X11_count_51 rfl rfl
theorem p_X11_count_0_10 {X : xm_X} {P : List xm_M} {d : Nat} {h : xm_H} {l0 : Nat} {l1 : Int32} {ro : Option Value} {ho : xm_H} (q0 : l1 = (10 : Int32)) (K : xm_E X P d co_X11_count 54 [some (.ref l0), some (.int l1), some (.int (0 : Int32)), some (.int (0 : Int32))] [] h ro ho) : xm_E X P d co_X11_count 0 [some (.ref l0), some (.int l1), none, none] [] h ro ho := by
  refine xm_E_s r_X11_count_0 rfl rfl ?_
  refine xm_E_s (ls1 := [some (.ref l0), some (.int l1), some (.int (0 : Int32)), none]) r_X11_count_1 rfl rfl ?_
  refine xm_E_s r_X11_count_2 rfl rfl ?_
  refine xm_E_s r_X11_count_3 rfl (xm_T_tab (10 : Int32) 52 rfl q0 (by decide) rfl) ?_
  refine xm_E_s r_X11_count_52 rfl rfl ?_
  refine xm_E_s (ls1 := [some (.ref l0), some (.int l1), some (.int (0 : Int32)), some (.int (0 : Int32))]) r_X11_count_53 rfl rfl ?_
  exact K
theorem p_X11_count_0_11 {X : xm_X} {P : List xm_M} {d : Nat} {h : xm_H} {l0 : Nat} {l1 : Int32} (q0 : l1.toInt < 0 ∨ 10 < l1.toInt) : xm_E X P d co_X11_count 0 [some (.ref l0), some (.int l1), none, none] [] h (some (.int (-1 : Int32))) h := by
  refine xm_E_s r_X11_count_0 rfl rfl ?_
  refine xm_E_s (ls1 := [some (.ref l0), some (.int l1), some (.int (0 : Int32)), none]) r_X11_count_1 rfl rfl ?_
  refine xm_E_s r_X11_count_2 rfl rfl ?_
  refine xm_E_s r_X11_count_3 rfl (xm_T_tabd rfl q0) ?_
  refine xm_E_s r_X11_count_73 rfl rfl ?_
  exact xm_E_iret r_X11_count_74 rfl rfl
theorem p_X11_count_54_0 {X : xm_X} {P : List xm_M} {d : Nat} {h : xm_H} {l0 : Nat} {l1 : Int32} {l2 : Int32} {l3 : Int32} (q0 : (4 : Int32) ≤ l3) : xm_E X P d co_X11_count 54 [some (.ref l0), some (.int l1), some (.int l2), some (.int l3)] [] h (some (.int l2)) h := by
  refine xm_E_s r_X11_count_54 rfl rfl ?_
  refine xm_E_s r_X11_count_55 rfl rfl ?_
  refine xm_E_s r_X11_count_56 rfl rfl ?_
  refine xm_E_t q0 ?_
  refine xm_E_s r_X11_count_71 rfl rfl ?_
  exact xm_E_iret r_X11_count_72 rfl rfl
theorem p_X11_count_54_1 {X : xm_X} {P : List xm_M} {d : Nat} {h : xm_H} {l0 : Nat} {l1 : Int32} {l2 : Int32} {l3 : Int32} {v0 : Nat} {n1 : Nat} {ro : Option Value} {ho : xm_H} (q0 : ¬ ((4 : Int32) ≤ l3)) (q1 : X.1[l0]? = some (.inr 10)) (q2 : h.2.2 l0 35 = some v0) (q3 : X.1[v0]? = some (.inl (0, n1))) (q4 : ¬ (l3 < 0 ∨ n1 ≤ l3.toNatClampNeg)) (q5 : h.1 v0 l3.toNatClampNeg = (-1 : Int32)) (K : xm_E X P d co_X11_count 54 [some (.ref l0), some (.int l1), some (.int (l2 + (0 : Int32))), some (.int (l3 + (1 : Int32)))] [] h ro ho) : xm_E X P d co_X11_count 54 [some (.ref l0), some (.int l1), some (.int l2), some (.int l3)] [] h ro ho := by
  refine xm_E_s r_X11_count_54 rfl rfl ?_
  refine xm_E_s r_X11_count_55 rfl rfl ?_
  refine xm_E_s r_X11_count_56 rfl rfl ?_
  refine xm_E_f q0 ?_
  refine xm_E_s r_X11_count_57 rfl rfl ?_
  refine xm_E_s r_X11_count_58 rfl rfl ?_
  refine xm_E_s r_X11_count_59 rfl (xm_T_gr rfl q1 rfl rfl q2) ?_
  refine xm_E_s r_X11_count_60 rfl rfl ?_
  refine xm_E_s r_X11_count_61 rfl (xm_T_iald rfl q3 (by decide) q4) ?_
  refine xm_E_s r_X11_count_62 rfl rfl ?_
  refine xm_E_s r_X11_count_63 rfl rfl ?_
  refine xm_E_t q5 ?_
  refine xm_E_s r_X11_count_64 rfl rfl ?_
  refine xm_E_s r_X11_count_65 rfl rfl ?_
  refine xm_E_s r_X11_count_67 rfl rfl ?_
  refine xm_E_s (ls1 := [some (.ref l0), some (.int l1), some (.int (l2 + (0 : Int32))), some (.int l3)]) r_X11_count_68 rfl rfl ?_
  refine xm_E_s (ls1 := [some (.ref l0), some (.int l1), some (.int (l2 + (0 : Int32))), some (.int (l3 + (1 : Int32)))]) r_X11_count_69 rfl rfl ?_
  refine xm_E_s r_X11_count_70 rfl rfl ?_
  exact K
theorem p_X11_count_54_2 {X : xm_X} {P : List xm_M} {d : Nat} {h : xm_H} {l0 : Nat} {l1 : Int32} {l2 : Int32} {l3 : Int32} {v0 : Nat} {n1 : Nat} {ro : Option Value} {ho : xm_H} (q0 : ¬ ((4 : Int32) ≤ l3)) (q1 : X.1[l0]? = some (.inr 10)) (q2 : h.2.2 l0 35 = some v0) (q3 : X.1[v0]? = some (.inl (0, n1))) (q4 : ¬ (l3 < 0 ∨ n1 ≤ l3.toNatClampNeg)) (q5 : ¬ (h.1 v0 l3.toNatClampNeg = (-1 : Int32))) (K : xm_E X P d co_X11_count 54 [some (.ref l0), some (.int l1), some (.int (l2 + (1 : Int32))), some (.int (l3 + (1 : Int32)))] [] h ro ho) : xm_E X P d co_X11_count 54 [some (.ref l0), some (.int l1), some (.int l2), some (.int l3)] [] h ro ho := by
  refine xm_E_s r_X11_count_54 rfl rfl ?_
  refine xm_E_s r_X11_count_55 rfl rfl ?_
  refine xm_E_s r_X11_count_56 rfl rfl ?_
  refine xm_E_f q0 ?_
  refine xm_E_s r_X11_count_57 rfl rfl ?_
  refine xm_E_s r_X11_count_58 rfl rfl ?_
  refine xm_E_s r_X11_count_59 rfl (xm_T_gr rfl q1 rfl rfl q2) ?_
  refine xm_E_s r_X11_count_60 rfl rfl ?_
  refine xm_E_s r_X11_count_61 rfl (xm_T_iald rfl q3 (by decide) q4) ?_
  refine xm_E_s r_X11_count_62 rfl rfl ?_
  refine xm_E_s r_X11_count_63 rfl rfl ?_
  refine xm_E_f q5 ?_
  refine xm_E_s r_X11_count_66 rfl rfl ?_
  refine xm_E_s r_X11_count_67 rfl rfl ?_
  refine xm_E_s (ls1 := [some (.ref l0), some (.int l1), some (.int (l2 + (1 : Int32))), some (.int l3)]) r_X11_count_68 rfl rfl ?_
  refine xm_E_s (ls1 := [some (.ref l0), some (.int l1), some (.int (l2 + (1 : Int32))), some (.int (l3 + (1 : Int32)))]) r_X11_count_69 rfl rfl ?_
  refine xm_E_s r_X11_count_70 rfl rfl ?_
  exact K
theorem r_X11_row_0 : co_X11_row[0]? = some ((0, .iload_n 1, 0, 0, 0, 0, 0, 0, []) : xm_I) := rfl
theorem r_X11_row_1 : co_X11_row[1]? = some ((1, .invokestatic 357, 1782, 253, 1, 0, 0, 0, []) : xm_I) := rfl
theorem r_X11_row_2 : co_X11_row[2]? = some ((4, .ifCond .eq 21, 0, 0, 12, 0, 0, 0, []) : xm_I) := rfl
theorem r_X11_row_3 : co_X11_row[3]? = some ((7, .iload_n 2, 0, 0, 0, 0, 0, 0, []) : xm_I) := rfl
theorem r_X11_row_4 : co_X11_row[4]? = some ((8, .i2l, 0, 0, 0, 0, 0, 0, []) : xm_I) := rfl
theorem r_X11_row_5 : co_X11_row[5]? = some ((9, .lconst 0, 0, 0, 0, 0, 0, 0, []) : xm_I) := rfl
theorem r_X11_row_6 : co_X11_row[6]? = some ((10, .ldc2_w 536, 1785, 0, 0, 0, 0, 3, []) : xm_I) := rfl
theorem r_X11_row_7 : co_X11_row[7]? = some ((13, .invokestatic 84, 1503, 191, 3, 0, 0, 0, []) : xm_I) := rfl
theorem r_X11_row_8 : co_X11_row[8]? = some ((16, .ifCond .eq 9, 0, 0, 12, 0, 0, 0, []) : xm_I) := rfl
theorem r_X11_row_9 : co_X11_row[9]? = some ((19, .iload_n 3, 0, 0, 0, 0, 0, 0, []) : xm_I) := rfl
theorem r_X11_row_10 : co_X11_row[10]? = some ((20, .bipush 60, 0, 0, 0, 0, 60, 0, []) : xm_I) := rfl
theorem r_X11_row_11 : co_X11_row[11]? = some ((22, .if_icmp .le 6, 0, 0, 14, 0, 0, 0, []) : xm_I) := rfl
theorem r_X11_row_12 : co_X11_row[12]? = some ((25, .bipush (-2), 0, 0, 0, 0, (-2), 0, []) : xm_I) := rfl
theorem r_X11_row_13 : co_X11_row[13]? = some ((27, .ireturn, 0, 0, 0, 0, 0, 0, []) : xm_I) := rfl
theorem r_X11_row_14 : co_X11_row[14]? = some ((28, .iload_n 3, 0, 0, 0, 0, 0, 0, []) : xm_I) := rfl
theorem r_X11_row_15 : co_X11_row[15]? = some ((29, .ifCond .ge 6, 0, 0, 18, 0, 0, 0, []) : xm_I) := rfl
theorem r_X11_row_16 : co_X11_row[16]? = some ((32, .bipush (-3), 0, 0, 0, 0, (-3), 0, []) : xm_I) := rfl
theorem r_X11_row_17 : co_X11_row[17]? = some ((34, .ireturn, 0, 0, 0, 0, 0, 0, []) : xm_I) := rfl
theorem r_X11_row_18 : co_X11_row[18]? = some ((35, .aload_n 0, 0, 0, 0, 0, 0, 0, []) : xm_I) := rfl
theorem r_X11_row_19 : co_X11_row[19]? = some ((36, .getfield 67, 1415, 10, 35, 2, 0, 0, []) : xm_I) := rfl
theorem r_X11_row_20 : co_X11_row[20]? = some ((39, .iload_n 1, 0, 0, 0, 0, 0, 0, []) : xm_I) := rfl
theorem r_X11_row_21 : co_X11_row[21]? = some ((40, .iload_n 3, 0, 0, 0, 0, 0, 0, []) : xm_I) := rfl
theorem r_X11_row_22 : co_X11_row[22]? = some ((41, .iastore, 0, 0, 0, 0, 0, 0, []) : xm_I) := rfl
theorem r_X11_row_23 : co_X11_row[23]? = some ((42, .aload_n 0, 0, 0, 0, 0, 0, 0, []) : xm_I) := rfl
theorem r_X11_row_24 : co_X11_row[24]? = some ((43, .getfield 70, 1416, 10, 36, 2, 0, 0, []) : xm_I) := rfl
theorem r_X11_row_25 : co_X11_row[25]? = some ((46, .iload_n 1, 0, 0, 0, 0, 0, 0, []) : xm_I) := rfl
theorem r_X11_row_26 : co_X11_row[26]? = some ((47, .iload_n 2, 0, 0, 0, 0, 0, 0, []) : xm_I) := rfl
theorem r_X11_row_27 : co_X11_row[27]? = some ((48, .iastore, 0, 0, 0, 0, 0, 0, []) : xm_I) := rfl
theorem r_X11_row_28 : co_X11_row[28]? = some ((49, .iconst 0, 0, 0, 0, 0, 0, 0, []) : xm_I) := rfl
theorem r_X11_row_29 : co_X11_row[29]? = some ((50, .istore 4, 0, 0, 0, 0, 0, 0, []) : xm_I) := rfl
theorem r_X11_row_30 : co_X11_row[30]? = some ((52, .iload 4, 0, 0, 0, 0, 0, 0, []) : xm_I) := rfl
theorem r_X11_row_31 : co_X11_row[31]? = some ((54, .bipush 60, 0, 0, 0, 0, 60, 0, []) : xm_I) := rfl
theorem r_X11_row_32 : co_X11_row[32]? = some ((56, .if_icmp .ge 22, 0, 0, 44, 0, 0, 0, []) : xm_I) := rfl
theorem r_X11_row_33 : co_X11_row[33]? = some ((59, .aload_n 0, 0, 0, 0, 0, 0, 0, []) : xm_I) := rfl
theorem r_X11_row_34 : co_X11_row[34]? = some ((60, .getfield 73, 1417, 10, 37, 2, 0, 0, []) : xm_I) := rfl
theorem r_X11_row_35 : co_X11_row[35]? = some ((63, .bipush 60, 0, 0, 0, 0, 60, 0, []) : xm_I) := rfl
theorem r_X11_row_36 : co_X11_row[36]? = some ((65, .iload_n 1, 0, 0, 0, 0, 0, 0, []) : xm_I) := rfl
theorem r_X11_row_37 : co_X11_row[37]? = some ((66, .imul, 0, 0, 0, 0, 0, 0, []) : xm_I) := rfl
theorem r_X11_row_38 : co_X11_row[38]? = some ((67, .iload 4, 0, 0, 0, 0, 0, 0, []) : xm_I) := rfl
theorem r_X11_row_39 : co_X11_row[39]? = some ((69, .iadd, 0, 0, 0, 0, 0, 0, []) : xm_I) := rfl
theorem r_X11_row_40 : co_X11_row[40]? = some ((70, .lconst 0, 0, 0, 0, 0, 0, 0, []) : xm_I) := rfl
theorem r_X11_row_41 : co_X11_row[41]? = some ((71, .lastore, 0, 0, 0, 0, 0, 0, []) : xm_I) := rfl
theorem r_X11_row_42 : co_X11_row[42]? = some ((72, .iinc 4 1, 0, 0, 0, 0, 1, 0, []) : xm_I) := rfl
theorem r_X11_row_43 : co_X11_row[43]? = some ((75, .goto (-23), 0, 0, 30, 0, 0, 0, []) : xm_I) := rfl
theorem r_X11_row_44 : co_X11_row[44]? = some ((78, .iconst 0, 0, 0, 0, 0, 0, 0, []) : xm_I) := rfl
theorem r_X11_row_45 : co_X11_row[45]? = some ((79, .ireturn, 0, 0, 0, 0, 0, 0, []) : xm_I) := rfl
theorem p_X11_row_0_0 {X : xm_X} {P : List xm_M} {d : Nat} {h : xm_H} {l0 : Nat} {l1 : Int32} {l2 : Int32} {l3 : Int32} {h0 : xm_H} {r0 : Int32} (q0 : xm_V X P d 253 [.int l1] h (some (.int r0)) h0) (q1 : r0 = (0 : Int32)) : xm_E X P d co_X11_row 0 [some (.ref l0), some (.int l1), some (.int l2), some (.int l3), none] [] h (some (.int (-2 : Int32))) h0 := by
  refine xm_E_s r_X11_row_0 rfl rfl ?_
  refine xm_E_cs [.int l1] [] r_X11_row_1 rfl rfl rfl (Nat.le_of_ble_eq_true rfl) rfl q0 ?_
  refine xm_E_s r_X11_row_2 rfl rfl ?_
  refine xm_E_t q1 ?_
  refine xm_E_s r_X11_row_12 rfl rfl ?_
  exact xm_E_iret r_X11_row_13 rfl rfl
theorem p_X11_row_0_1 {X : xm_X} {P : List xm_M} {d : Nat} {h : xm_H} {l0 : Nat} {l1 : Int32} {l2 : Int32} {l3 : Int32} {h0 : xm_H} {r0 : Int32} {h1 : xm_H} {r1 : Int32} (q0 : xm_V X P d 253 [.int l1] h (some (.int r0)) h0) (q1 : ¬ (r0 = (0 : Int32))) (q2 : xm_V X P d 191 [.long l2.toInt64, .long (0 : Int64), .long (3 : Int64)] h0 (some (.int r1)) h1) (q3 : r1 = (0 : Int32)) : xm_E X P d co_X11_row 0 [some (.ref l0), some (.int l1), some (.int l2), some (.int l3), none] [] h (some (.int (-2 : Int32))) h1 := by
  refine xm_E_s r_X11_row_0 rfl rfl ?_
  refine xm_E_cs [.int l1] [] r_X11_row_1 rfl rfl rfl (Nat.le_of_ble_eq_true rfl) rfl q0 ?_
  refine xm_E_s r_X11_row_2 rfl rfl ?_
  refine xm_E_f q1 ?_
  refine xm_E_s r_X11_row_3 rfl rfl ?_
  refine xm_E_s r_X11_row_4 rfl rfl ?_
  refine xm_E_s r_X11_row_5 rfl rfl ?_
  refine xm_E_s r_X11_row_6 rfl rfl ?_
  refine xm_E_cs [.long l2.toInt64, .long (0 : Int64), .long (3 : Int64)] [] r_X11_row_7 rfl rfl rfl (Nat.le_of_ble_eq_true rfl) rfl q2 ?_
  refine xm_E_s r_X11_row_8 rfl rfl ?_
  refine xm_E_t q3 ?_
  refine xm_E_s r_X11_row_12 rfl rfl ?_
  exact xm_E_iret r_X11_row_13 rfl rfl
theorem p_X11_row_0_2 {X : xm_X} {P : List xm_M} {d : Nat} {h : xm_H} {l0 : Nat} {l1 : Int32} {l2 : Int32} {l3 : Int32} {h0 : xm_H} {r0 : Int32} {h1 : xm_H} {r1 : Int32} {v2 : Nat} {n3 : Nat} {v4 : Nat} {n5 : Nat} {ro : Option Value} {ho : xm_H} (q0 : xm_V X P d 253 [.int l1] h (some (.int r0)) h0) (q1 : ¬ (r0 = (0 : Int32))) (q2 : xm_V X P d 191 [.long l2.toInt64, .long (0 : Int64), .long (3 : Int64)] h0 (some (.int r1)) h1) (q3 : ¬ (r1 = (0 : Int32))) (q4 : l3 ≤ (60 : Int32)) (q5 : (0 : Int32) ≤ l3) (q6 : X.1[l0]? = some (.inr 10)) (q7 : h1.2.2 l0 35 = some v2) (q8 : X.1[v2]? = some (.inl (0, n3))) (q9 : ¬ (l1 < 0 ∨ n3 ≤ l1.toNatClampNeg)) (q10 : (xm_si h1 v2 l1.toNatClampNeg l3).2.2 l0 36 = some v4) (q11 : X.1[v4]? = some (.inl (0, n5))) (q12 : ¬ (l1 < 0 ∨ n5 ≤ l1.toNatClampNeg)) (K : xm_E X P d co_X11_row 30 [some (.ref l0), some (.int l1), some (.int l2), some (.int l3), some (.int (0 : Int32))] [] (xm_si (xm_si h1 v2 l1.toNatClampNeg l3) v4 l1.toNatClampNeg l2) ro ho) : xm_E X P d co_X11_row 0 [some (.ref l0), some (.int l1), some (.int l2), some (.int l3), none] [] h ro ho := by
  refine xm_E_s r_X11_row_0 rfl rfl ?_
  refine xm_E_cs [.int l1] [] r_X11_row_1 rfl rfl rfl (Nat.le_of_ble_eq_true rfl) rfl q0 ?_
  refine xm_E_s r_X11_row_2 rfl rfl ?_
  refine xm_E_f q1 ?_
  refine xm_E_s r_X11_row_3 rfl rfl ?_
  refine xm_E_s r_X11_row_4 rfl rfl ?_
  refine xm_E_s r_X11_row_5 rfl rfl ?_
  refine xm_E_s r_X11_row_6 rfl rfl ?_
  refine xm_E_cs [.long l2.toInt64, .long (0 : Int64), .long (3 : Int64)] [] r_X11_row_7 rfl rfl rfl (Nat.le_of_ble_eq_true rfl) rfl q2 ?_
  refine xm_E_s r_X11_row_8 rfl rfl ?_
  refine xm_E_f q3 ?_
  refine xm_E_s r_X11_row_9 rfl rfl ?_
  refine xm_E_s r_X11_row_10 rfl rfl ?_
  refine xm_E_s r_X11_row_11 rfl rfl ?_
  refine xm_E_t q4 ?_
  refine xm_E_s r_X11_row_14 rfl rfl ?_
  refine xm_E_s r_X11_row_15 rfl rfl ?_
  refine xm_E_t q5 ?_
  refine xm_E_s r_X11_row_18 rfl rfl ?_
  refine xm_E_s r_X11_row_19 rfl (xm_T_gr rfl q6 rfl rfl q7) ?_
  refine xm_E_s r_X11_row_20 rfl rfl ?_
  refine xm_E_s r_X11_row_21 rfl rfl ?_
  refine xm_E_s r_X11_row_22 rfl (xm_T_asi rfl q8 q9) ?_
  refine xm_E_s r_X11_row_23 rfl rfl ?_
  refine xm_E_s r_X11_row_24 rfl (xm_T_gr rfl q6 rfl rfl q10) ?_
  refine xm_E_s r_X11_row_25 rfl rfl ?_
  refine xm_E_s r_X11_row_26 rfl rfl ?_
  refine xm_E_s r_X11_row_27 rfl (xm_T_asi rfl q11 q12) ?_
  refine xm_E_s r_X11_row_28 rfl rfl ?_
  refine xm_E_s (ls1 := [some (.ref l0), some (.int l1), some (.int l2), some (.int l3), some (.int (0 : Int32))]) r_X11_row_29 rfl rfl ?_
  exact K
theorem p_X11_row_0_3 {X : xm_X} {P : List xm_M} {d : Nat} {h : xm_H} {l0 : Nat} {l1 : Int32} {l2 : Int32} {l3 : Int32} {h0 : xm_H} {r0 : Int32} {h1 : xm_H} {r1 : Int32} (q0 : xm_V X P d 253 [.int l1] h (some (.int r0)) h0) (q1 : ¬ (r0 = (0 : Int32))) (q2 : xm_V X P d 191 [.long l2.toInt64, .long (0 : Int64), .long (3 : Int64)] h0 (some (.int r1)) h1) (q3 : ¬ (r1 = (0 : Int32))) (q4 : l3 ≤ (60 : Int32)) (q5 : ¬ ((0 : Int32) ≤ l3)) : xm_E X P d co_X11_row 0 [some (.ref l0), some (.int l1), some (.int l2), some (.int l3), none] [] h (some (.int (-3 : Int32))) h1 := by
  refine xm_E_s r_X11_row_0 rfl rfl ?_
  refine xm_E_cs [.int l1] [] r_X11_row_1 rfl rfl rfl (Nat.le_of_ble_eq_true rfl) rfl q0 ?_
  refine xm_E_s r_X11_row_2 rfl rfl ?_
  refine xm_E_f q1 ?_
  refine xm_E_s r_X11_row_3 rfl rfl ?_
  refine xm_E_s r_X11_row_4 rfl rfl ?_
  refine xm_E_s r_X11_row_5 rfl rfl ?_
  refine xm_E_s r_X11_row_6 rfl rfl ?_
  refine xm_E_cs [.long l2.toInt64, .long (0 : Int64), .long (3 : Int64)] [] r_X11_row_7 rfl rfl rfl (Nat.le_of_ble_eq_true rfl) rfl q2 ?_
  refine xm_E_s r_X11_row_8 rfl rfl ?_
  refine xm_E_f q3 ?_
  refine xm_E_s r_X11_row_9 rfl rfl ?_
  refine xm_E_s r_X11_row_10 rfl rfl ?_
  refine xm_E_s r_X11_row_11 rfl rfl ?_
  refine xm_E_t q4 ?_
  refine xm_E_s r_X11_row_14 rfl rfl ?_
  refine xm_E_s r_X11_row_15 rfl rfl ?_
  refine xm_E_f q5 ?_
  refine xm_E_s r_X11_row_16 rfl rfl ?_
  exact xm_E_iret r_X11_row_17 rfl rfl
theorem p_X11_row_0_4 {X : xm_X} {P : List xm_M} {d : Nat} {h : xm_H} {l0 : Nat} {l1 : Int32} {l2 : Int32} {l3 : Int32} {h0 : xm_H} {r0 : Int32} {h1 : xm_H} {r1 : Int32} (q0 : xm_V X P d 253 [.int l1] h (some (.int r0)) h0) (q1 : ¬ (r0 = (0 : Int32))) (q2 : xm_V X P d 191 [.long l2.toInt64, .long (0 : Int64), .long (3 : Int64)] h0 (some (.int r1)) h1) (q3 : ¬ (r1 = (0 : Int32))) (q4 : ¬ (l3 ≤ (60 : Int32))) : xm_E X P d co_X11_row 0 [some (.ref l0), some (.int l1), some (.int l2), some (.int l3), none] [] h (some (.int (-2 : Int32))) h1 := by
  refine xm_E_s r_X11_row_0 rfl rfl ?_
  refine xm_E_cs [.int l1] [] r_X11_row_1 rfl rfl rfl (Nat.le_of_ble_eq_true rfl) rfl q0 ?_
  refine xm_E_s r_X11_row_2 rfl rfl ?_
  refine xm_E_f q1 ?_
  refine xm_E_s r_X11_row_3 rfl rfl ?_
  refine xm_E_s r_X11_row_4 rfl rfl ?_
  refine xm_E_s r_X11_row_5 rfl rfl ?_
  refine xm_E_s r_X11_row_6 rfl rfl ?_
  refine xm_E_cs [.long l2.toInt64, .long (0 : Int64), .long (3 : Int64)] [] r_X11_row_7 rfl rfl rfl (Nat.le_of_ble_eq_true rfl) rfl q2 ?_
  refine xm_E_s r_X11_row_8 rfl rfl ?_
  refine xm_E_f q3 ?_
  refine xm_E_s r_X11_row_9 rfl rfl ?_
  refine xm_E_s r_X11_row_10 rfl rfl ?_
  refine xm_E_s r_X11_row_11 rfl rfl ?_
  refine xm_E_f q4 ?_
  refine xm_E_s r_X11_row_12 rfl rfl ?_
  exact xm_E_iret r_X11_row_13 rfl rfl
theorem p_X11_row_30_0 {X : xm_X} {P : List xm_M} {d : Nat} {h : xm_H} {l0 : Nat} {l1 : Int32} {l2 : Int32} {l3 : Int32} {l4 : Int32} (q0 : (60 : Int32) ≤ l4) : xm_E X P d co_X11_row 30 [some (.ref l0), some (.int l1), some (.int l2), some (.int l3), some (.int l4)] [] h (some (.int (0 : Int32))) h := by
  refine xm_E_s r_X11_row_30 rfl rfl ?_
  refine xm_E_s r_X11_row_31 rfl rfl ?_
  refine xm_E_s r_X11_row_32 rfl rfl ?_
  refine xm_E_t q0 ?_
  refine xm_E_s r_X11_row_44 rfl rfl ?_
  exact xm_E_iret r_X11_row_45 rfl rfl
theorem p_X11_row_30_1 {X : xm_X} {P : List xm_M} {d : Nat} {h : xm_H} {l0 : Nat} {l1 : Int32} {l2 : Int32} {l3 : Int32} {l4 : Int32} {v0 : Nat} {n1 : Nat} {ro : Option Value} {ho : xm_H} (q0 : ¬ ((60 : Int32) ≤ l4)) (q1 : X.1[l0]? = some (.inr 10)) (q2 : h.2.2 l0 37 = some v0) (q3 : X.1[v0]? = some (.inl (3, n1))) (q4 : ¬ (((60 : Int32) * l1) + l4 < 0 ∨ n1 ≤ (((60 : Int32) * l1) + l4).toNatClampNeg)) (K : xm_E X P d co_X11_row 30 [some (.ref l0), some (.int l1), some (.int l2), some (.int l3), some (.int (l4 + (1 : Int32)))] [] (xm_sl h v0 ((((60 : Int32) * l1) + l4).toNatClampNeg) (0 : Int64)) ro ho) : xm_E X P d co_X11_row 30 [some (.ref l0), some (.int l1), some (.int l2), some (.int l3), some (.int l4)] [] h ro ho := by
  refine xm_E_s r_X11_row_30 rfl rfl ?_
  refine xm_E_s r_X11_row_31 rfl rfl ?_
  refine xm_E_s r_X11_row_32 rfl rfl ?_
  refine xm_E_f q0 ?_
  refine xm_E_s r_X11_row_33 rfl rfl ?_
  refine xm_E_s r_X11_row_34 rfl (xm_T_gr rfl q1 rfl rfl q2) ?_
  refine xm_E_s r_X11_row_35 rfl rfl ?_
  refine xm_E_s r_X11_row_36 rfl rfl ?_
  refine xm_E_s r_X11_row_37 rfl rfl ?_
  refine xm_E_s r_X11_row_38 rfl rfl ?_
  refine xm_E_s r_X11_row_39 rfl rfl ?_
  refine xm_E_s r_X11_row_40 rfl rfl ?_
  refine xm_E_s r_X11_row_41 rfl (xm_T_last rfl q3 q4) ?_
  refine xm_E_s (ls1 := [some (.ref l0), some (.int l1), some (.int l2), some (.int l3), some (.int (l4 + (1 : Int32)))]) r_X11_row_42 rfl rfl ?_
  refine xm_E_s r_X11_row_43 rfl rfl ?_
  exact K
theorem r_X11_write_0 : co_X11_write[0]? = some ((0, .iload_n 1, 0, 0, 0, 0, 0, 0, []) : xm_I) := rfl
theorem r_X11_write_1 : co_X11_write[1]? = some ((1, .invokestatic 357, 1782, 253, 1, 0, 0, 0, []) : xm_I) := rfl
theorem r_X11_write_2 : co_X11_write[2]? = some ((4, .ifCond .ne 6, 0, 0, 5, 0, 0, 0, []) : xm_I) := rfl
theorem r_X11_write_3 : co_X11_write[3]? = some ((7, .bipush (-2), 0, 0, 0, 0, (-2), 0, []) : xm_I) := rfl
theorem r_X11_write_4 : co_X11_write[4]? = some ((9, .ireturn, 0, 0, 0, 0, 0, 0, []) : xm_I) := rfl
theorem r_X11_write_5 : co_X11_write[5]? = some ((10, .aload_n 0, 0, 0, 0, 0, 0, 0, []) : xm_I) := rfl
theorem r_X11_write_6 : co_X11_write[6]? = some ((11, .getfield 67, 1415, 10, 35, 2, 0, 0, []) : xm_I) := rfl
theorem r_X11_write_7 : co_X11_write[7]? = some ((14, .iload_n 1, 0, 0, 0, 0, 0, 0, []) : xm_I) := rfl
theorem r_X11_write_8 : co_X11_write[8]? = some ((15, .iaload, 0, 0, 0, 0, 0, 0, []) : xm_I) := rfl
theorem r_X11_write_9 : co_X11_write[9]? = some ((16, .iconst (-1), 0, 0, 0, 0, (-1), 0, []) : xm_I) := rfl
theorem r_X11_write_10 : co_X11_write[10]? = some ((17, .if_icmp .ne 6, 0, 0, 13, 0, 0, 0, []) : xm_I) := rfl
theorem r_X11_write_11 : co_X11_write[11]? = some ((20, .bipush (-6), 0, 0, 0, 0, (-6), 0, []) : xm_I) := rfl
theorem r_X11_write_12 : co_X11_write[12]? = some ((22, .ireturn, 0, 0, 0, 0, 0, 0, []) : xm_I) := rfl
theorem r_X11_write_13 : co_X11_write[13]? = some ((23, .iload_n 2, 0, 0, 0, 0, 0, 0, []) : xm_I) := rfl
theorem r_X11_write_14 : co_X11_write[14]? = some ((24, .i2l, 0, 0, 0, 0, 0, 0, []) : xm_I) := rfl
theorem r_X11_write_15 : co_X11_write[15]? = some ((25, .lconst 0, 0, 0, 0, 0, 0, 0, []) : xm_I) := rfl
theorem r_X11_write_16 : co_X11_write[16]? = some ((26, .aload_n 0, 0, 0, 0, 0, 0, 0, []) : xm_I) := rfl
theorem r_X11_write_17 : co_X11_write[17]? = some ((27, .getfield 67, 1415, 10, 35, 2, 0, 0, []) : xm_I) := rfl
theorem r_X11_write_18 : co_X11_write[18]? = some ((30, .iload_n 1, 0, 0, 0, 0, 0, 0, []) : xm_I) := rfl
theorem r_X11_write_19 : co_X11_write[19]? = some ((31, .iaload, 0, 0, 0, 0, 0, 0, []) : xm_I) := rfl
theorem r_X11_write_20 : co_X11_write[20]? = some ((32, .iconst 1, 0, 0, 0, 0, 1, 0, []) : xm_I) := rfl
theorem r_X11_write_21 : co_X11_write[21]? = some ((33, .isub, 0, 0, 0, 0, 0, 0, []) : xm_I) := rfl
theorem r_X11_write_22 : co_X11_write[22]? = some ((34, .i2l, 0, 0, 0, 0, 0, 0, []) : xm_I) := rfl
theorem r_X11_write_23 : co_X11_write[23]? = some ((35, .invokestatic 84, 1503, 191, 3, 0, 0, 0, []) : xm_I) := rfl
theorem r_X11_write_24 : co_X11_write[24]? = some ((38, .ifCond .ne 6, 0, 0, 27, 0, 0, 0, []) : xm_I) := rfl
theorem r_X11_write_25 : co_X11_write[25]? = some ((41, .bipush (-7), 0, 0, 0, 0, (-7), 0, []) : xm_I) := rfl
theorem r_X11_write_26 : co_X11_write[26]? = some ((43, .ireturn, 0, 0, 0, 0, 0, 0, []) : xm_I) := rfl
theorem r_X11_write_27 : co_X11_write[27]? = some ((44, .aload_n 0, 0, 0, 0, 0, 0, 0, []) : xm_I) := rfl
theorem r_X11_write_28 : co_X11_write[28]? = some ((45, .getfield 73, 1417, 10, 37, 2, 0, 0, []) : xm_I) := rfl
theorem r_X11_write_29 : co_X11_write[29]? = some ((48, .bipush 60, 0, 0, 0, 0, 60, 0, []) : xm_I) := rfl
theorem r_X11_write_30 : co_X11_write[30]? = some ((50, .iload_n 1, 0, 0, 0, 0, 0, 0, []) : xm_I) := rfl
theorem r_X11_write_31 : co_X11_write[31]? = some ((51, .imul, 0, 0, 0, 0, 0, 0, []) : xm_I) := rfl
theorem r_X11_write_32 : co_X11_write[32]? = some ((52, .iload_n 2, 0, 0, 0, 0, 0, 0, []) : xm_I) := rfl
theorem r_X11_write_33 : co_X11_write[33]? = some ((53, .iadd, 0, 0, 0, 0, 0, 0, []) : xm_I) := rfl
theorem r_X11_write_34 : co_X11_write[34]? = some ((54, .lload_n 3, 0, 0, 0, 0, 0, 0, []) : xm_I) := rfl
theorem r_X11_write_35 : co_X11_write[35]? = some ((55, .aload_n 0, 0, 0, 0, 0, 0, 0, []) : xm_I) := rfl
theorem r_X11_write_36 : co_X11_write[36]? = some ((56, .getfield 70, 1416, 10, 36, 2, 0, 0, []) : xm_I) := rfl
theorem r_X11_write_37 : co_X11_write[37]? = some ((59, .iload_n 1, 0, 0, 0, 0, 0, 0, []) : xm_I) := rfl
theorem r_X11_write_38 : co_X11_write[38]? = some ((60, .iaload, 0, 0, 0, 0, 0, 0, []) : xm_I) := rfl
theorem r_X11_write_39 : co_X11_write[39]? = some ((61, .invokestatic 538, 2104, 330, 2, 0, 0, 0, []) : xm_I) := rfl
theorem r_X11_write_40 : co_X11_write[40]? = some ((64, .lastore, 0, 0, 0, 0, 0, 0, []) : xm_I) := rfl
theorem r_X11_write_41 : co_X11_write[41]? = some ((65, .iconst 0, 0, 0, 0, 0, 0, 0, []) : xm_I) := rfl
theorem r_X11_write_42 : co_X11_write[42]? = some ((66, .ireturn, 0, 0, 0, 0, 0, 0, []) : xm_I) := rfl
theorem p_X11_write_0_0 {X : xm_X} {P : List xm_M} {d : Nat} {h : xm_H} {l0 : Nat} {l1 : Int32} {l2 : Int32} {l3 : Int64} {h0 : xm_H} {r0 : Int32} (q0 : xm_V X P d 253 [.int l1] h (some (.int r0)) h0) (q1 : r0 = (0 : Int32)) : xm_E X P d co_X11_write 0 [some (.ref l0), some (.int l1), some (.int l2), some (.long l3), none] [] h (some (.int (-2 : Int32))) h0 := by
  refine xm_E_s r_X11_write_0 rfl rfl ?_
  refine xm_E_cs [.int l1] [] r_X11_write_1 rfl rfl rfl (Nat.le_of_ble_eq_true rfl) rfl q0 ?_
  refine xm_E_s r_X11_write_2 rfl rfl ?_
  refine xm_E_t q1 ?_
  refine xm_E_s r_X11_write_3 rfl rfl ?_
  exact xm_E_iret r_X11_write_4 rfl rfl
theorem p_X11_write_0_1 {X : xm_X} {P : List xm_M} {d : Nat} {h : xm_H} {l0 : Nat} {l1 : Int32} {l2 : Int32} {l3 : Int64} {h0 : xm_H} {r0 : Int32} {v1 : Nat} {n2 : Nat} (q0 : xm_V X P d 253 [.int l1] h (some (.int r0)) h0) (q1 : ¬ (r0 = (0 : Int32))) (q2 : X.1[l0]? = some (.inr 10)) (q3 : h0.2.2 l0 35 = some v1) (q4 : X.1[v1]? = some (.inl (0, n2))) (q5 : ¬ (l1 < 0 ∨ n2 ≤ l1.toNatClampNeg)) (q6 : h0.1 v1 l1.toNatClampNeg = (-1 : Int32)) : xm_E X P d co_X11_write 0 [some (.ref l0), some (.int l1), some (.int l2), some (.long l3), none] [] h (some (.int (-6 : Int32))) h0 := by
  refine xm_E_s r_X11_write_0 rfl rfl ?_
  refine xm_E_cs [.int l1] [] r_X11_write_1 rfl rfl rfl (Nat.le_of_ble_eq_true rfl) rfl q0 ?_
  refine xm_E_s r_X11_write_2 rfl rfl ?_
  refine xm_E_f q1 ?_
  refine xm_E_s r_X11_write_5 rfl rfl ?_
  refine xm_E_s r_X11_write_6 rfl (xm_T_gr rfl q2 rfl rfl q3) ?_
  refine xm_E_s r_X11_write_7 rfl rfl ?_
  refine xm_E_s r_X11_write_8 rfl (xm_T_iald rfl q4 (by decide) q5) ?_
  refine xm_E_s r_X11_write_9 rfl rfl ?_
  refine xm_E_s r_X11_write_10 rfl rfl ?_
  refine xm_E_t q6 ?_
  refine xm_E_s r_X11_write_11 rfl rfl ?_
  exact xm_E_iret r_X11_write_12 rfl rfl
theorem p_X11_write_0_2 {X : xm_X} {P : List xm_M} {d : Nat} {h : xm_H} {l0 : Nat} {l1 : Int32} {l2 : Int32} {l3 : Int64} {h0 : xm_H} {r0 : Int32} {v1 : Nat} {n2 : Nat} {h3 : xm_H} {r3 : Int32} (q0 : xm_V X P d 253 [.int l1] h (some (.int r0)) h0) (q1 : ¬ (r0 = (0 : Int32))) (q2 : X.1[l0]? = some (.inr 10)) (q3 : h0.2.2 l0 35 = some v1) (q4 : X.1[v1]? = some (.inl (0, n2))) (q5 : ¬ (l1 < 0 ∨ n2 ≤ l1.toNatClampNeg)) (q6 : ¬ (h0.1 v1 l1.toNatClampNeg = (-1 : Int32))) (q7 : xm_V X P d 191 [.long l2.toInt64, .long (0 : Int64), .long (((h0.1 v1 l1.toNatClampNeg) - (1 : Int32)).toInt64)] h0 (some (.int r3)) h3) (q8 : r3 = (0 : Int32)) : xm_E X P d co_X11_write 0 [some (.ref l0), some (.int l1), some (.int l2), some (.long l3), none] [] h (some (.int (-7 : Int32))) h3 := by
  refine xm_E_s r_X11_write_0 rfl rfl ?_
  refine xm_E_cs [.int l1] [] r_X11_write_1 rfl rfl rfl (Nat.le_of_ble_eq_true rfl) rfl q0 ?_
  refine xm_E_s r_X11_write_2 rfl rfl ?_
  refine xm_E_f q1 ?_
  refine xm_E_s r_X11_write_5 rfl rfl ?_
  refine xm_E_s r_X11_write_6 rfl (xm_T_gr rfl q2 rfl rfl q3) ?_
  refine xm_E_s r_X11_write_7 rfl rfl ?_
  refine xm_E_s r_X11_write_8 rfl (xm_T_iald rfl q4 (by decide) q5) ?_
  refine xm_E_s r_X11_write_9 rfl rfl ?_
  refine xm_E_s r_X11_write_10 rfl rfl ?_
  refine xm_E_f q6 ?_
  refine xm_E_s r_X11_write_13 rfl rfl ?_
  refine xm_E_s r_X11_write_14 rfl rfl ?_
  refine xm_E_s r_X11_write_15 rfl rfl ?_
  refine xm_E_s r_X11_write_16 rfl rfl ?_
  refine xm_E_s r_X11_write_17 rfl (xm_T_gr rfl q2 rfl rfl q3) ?_
  refine xm_E_s r_X11_write_18 rfl rfl ?_
  refine xm_E_s r_X11_write_19 rfl (xm_T_iald rfl q4 (by decide) q5) ?_
  refine xm_E_s r_X11_write_20 rfl rfl ?_
  refine xm_E_s r_X11_write_21 rfl rfl ?_
  refine xm_E_s r_X11_write_22 rfl rfl ?_
  refine xm_E_cs [.long l2.toInt64, .long (0 : Int64), .long (((h0.1 v1 l1.toNatClampNeg) - (1 : Int32)).toInt64)] [] r_X11_write_23 rfl rfl rfl (Nat.le_of_ble_eq_true rfl) rfl q7 ?_
  refine xm_E_s r_X11_write_24 rfl rfl ?_
  refine xm_E_t q8 ?_
  refine xm_E_s r_X11_write_25 rfl rfl ?_
  exact xm_E_iret r_X11_write_26 rfl rfl
theorem p_X11_write_0_3 {X : xm_X} {P : List xm_M} {d : Nat} {h : xm_H} {l0 : Nat} {l1 : Int32} {l2 : Int32} {l3 : Int64} {h0 : xm_H} {r0 : Int32} {v1 : Nat} {n2 : Nat} {h3 : xm_H} {r3 : Int32} {v4 : Nat} {v5 : Nat} {n6 : Nat} {h7 : xm_H} {r7 : Int64} {n8 : Nat} (q0 : xm_V X P d 253 [.int l1] h (some (.int r0)) h0) (q1 : ¬ (r0 = (0 : Int32))) (q2 : X.1[l0]? = some (.inr 10)) (q3 : h0.2.2 l0 35 = some v1) (q4 : X.1[v1]? = some (.inl (0, n2))) (q5 : ¬ (l1 < 0 ∨ n2 ≤ l1.toNatClampNeg)) (q6 : ¬ (h0.1 v1 l1.toNatClampNeg = (-1 : Int32))) (q7 : xm_V X P d 191 [.long l2.toInt64, .long (0 : Int64), .long (((h0.1 v1 l1.toNatClampNeg) - (1 : Int32)).toInt64)] h0 (some (.int r3)) h3) (q8 : ¬ (r3 = (0 : Int32))) (q9 : h3.2.2 l0 37 = some v4) (q10 : h3.2.2 l0 36 = some v5) (q11 : X.1[v5]? = some (.inl (0, n6))) (q12 : ¬ (l1 < 0 ∨ n6 ≤ l1.toNatClampNeg)) (q13 : xm_V X P d 330 [.long l3, .int (h3.1 v5 l1.toNatClampNeg)] h3 (some (.long r7)) h7) (q14 : X.1[v4]? = some (.inl (3, n8))) (q15 : ¬ (((60 : Int32) * l1) + l2 < 0 ∨ n8 ≤ (((60 : Int32) * l1) + l2).toNatClampNeg)) : xm_E X P d co_X11_write 0 [some (.ref l0), some (.int l1), some (.int l2), some (.long l3), none] [] h (some (.int (0 : Int32))) (xm_sl h7 v4 ((((60 : Int32) * l1) + l2).toNatClampNeg) r7) := by
  refine xm_E_s r_X11_write_0 rfl rfl ?_
  refine xm_E_cs [.int l1] [] r_X11_write_1 rfl rfl rfl (Nat.le_of_ble_eq_true rfl) rfl q0 ?_
  refine xm_E_s r_X11_write_2 rfl rfl ?_
  refine xm_E_f q1 ?_
  refine xm_E_s r_X11_write_5 rfl rfl ?_
  refine xm_E_s r_X11_write_6 rfl (xm_T_gr rfl q2 rfl rfl q3) ?_
  refine xm_E_s r_X11_write_7 rfl rfl ?_
  refine xm_E_s r_X11_write_8 rfl (xm_T_iald rfl q4 (by decide) q5) ?_
  refine xm_E_s r_X11_write_9 rfl rfl ?_
  refine xm_E_s r_X11_write_10 rfl rfl ?_
  refine xm_E_f q6 ?_
  refine xm_E_s r_X11_write_13 rfl rfl ?_
  refine xm_E_s r_X11_write_14 rfl rfl ?_
  refine xm_E_s r_X11_write_15 rfl rfl ?_
  refine xm_E_s r_X11_write_16 rfl rfl ?_
  refine xm_E_s r_X11_write_17 rfl (xm_T_gr rfl q2 rfl rfl q3) ?_
  refine xm_E_s r_X11_write_18 rfl rfl ?_
  refine xm_E_s r_X11_write_19 rfl (xm_T_iald rfl q4 (by decide) q5) ?_
  refine xm_E_s r_X11_write_20 rfl rfl ?_
  refine xm_E_s r_X11_write_21 rfl rfl ?_
  refine xm_E_s r_X11_write_22 rfl rfl ?_
  refine xm_E_cs [.long l2.toInt64, .long (0 : Int64), .long (((h0.1 v1 l1.toNatClampNeg) - (1 : Int32)).toInt64)] [] r_X11_write_23 rfl rfl rfl (Nat.le_of_ble_eq_true rfl) rfl q7 ?_
  refine xm_E_s r_X11_write_24 rfl rfl ?_
  refine xm_E_f q8 ?_
  refine xm_E_s r_X11_write_27 rfl rfl ?_
  refine xm_E_s r_X11_write_28 rfl (xm_T_gr rfl q2 rfl rfl q9) ?_
  refine xm_E_s r_X11_write_29 rfl rfl ?_
  refine xm_E_s r_X11_write_30 rfl rfl ?_
  refine xm_E_s r_X11_write_31 rfl rfl ?_
  refine xm_E_s r_X11_write_32 rfl rfl ?_
  refine xm_E_s r_X11_write_33 rfl rfl ?_
  refine xm_E_s r_X11_write_34 rfl rfl ?_
  refine xm_E_s r_X11_write_35 rfl rfl ?_
  refine xm_E_s r_X11_write_36 rfl (xm_T_gr rfl q2 rfl rfl q10) ?_
  refine xm_E_s r_X11_write_37 rfl rfl ?_
  refine xm_E_s r_X11_write_38 rfl (xm_T_iald rfl q11 (by decide) q12) ?_
  refine xm_E_cs [.long l3, .int (h3.1 v5 l1.toNatClampNeg)] [.int (((60 : Int32) * l1) + l2), .ref v4] r_X11_write_39 rfl rfl rfl (Nat.le_of_ble_eq_true rfl) rfl q13 ?_
  refine xm_E_s r_X11_write_40 rfl (xm_T_last rfl q14 q15) ?_
  refine xm_E_s r_X11_write_41 rfl rfl ?_
  exact xm_E_iret r_X11_write_42 rfl rfl
theorem r_X11_cut_0 : co_X11_cut[0]? = some ((0, .bipush 64, 0, 0, 0, 0, 64, 0, []) : xm_I) := rfl
theorem r_X11_cut_1 : co_X11_cut[1]? = some ((2, .bipush 8, 0, 0, 0, 0, 8, 0, []) : xm_I) := rfl
theorem r_X11_cut_2 : co_X11_cut[2]? = some ((4, .iload_n 2, 0, 0, 0, 0, 0, 0, []) : xm_I) := rfl
theorem r_X11_cut_3 : co_X11_cut[3]? = some ((5, .ishl, 0, 0, 0, 0, 0, 0, []) : xm_I) := rfl
theorem r_X11_cut_4 : co_X11_cut[4]? = some ((6, .isub, 0, 0, 0, 0, 0, 0, []) : xm_I) := rfl
theorem r_X11_cut_5 : co_X11_cut[5]? = some ((7, .istore_n 3, 0, 0, 0, 0, 0, 0, []) : xm_I) := rfl
theorem r_X11_cut_6 : co_X11_cut[6]? = some ((8, .lload_n 0, 0, 0, 0, 0, 0, 0, []) : xm_I) := rfl
theorem r_X11_cut_7 : co_X11_cut[7]? = some ((9, .iload_n 3, 0, 0, 0, 0, 0, 0, []) : xm_I) := rfl
theorem r_X11_cut_8 : co_X11_cut[8]? = some ((10, .lshl, 0, 0, 0, 0, 0, 0, []) : xm_I) := rfl
theorem r_X11_cut_9 : co_X11_cut[9]? = some ((11, .iload_n 3, 0, 0, 0, 0, 0, 0, []) : xm_I) := rfl
theorem r_X11_cut_10 : co_X11_cut[10]? = some ((12, .lshr, 0, 0, 0, 0, 0, 0, []) : xm_I) := rfl
theorem r_X11_cut_11 : co_X11_cut[11]? = some ((13, .lreturn, 0, 0, 0, 0, 0, 0, []) : xm_I) := rfl
theorem p_X11_cut_0_0 {X : xm_X} {P : List xm_M} {d : Nat} {h : xm_H} {l0 : Int64} {l2 : Int32}  : xm_E X P d co_X11_cut 0 [some (.long l0), none, some (.int l2), none] [] h (some (.long ((l0 <<< (((64 : Int32) - ((8 : Int32) <<< (l2 &&& 31))).toInt64 &&& 63)) >>> (((64 : Int32) - ((8 : Int32) <<< (l2 &&& 31))).toInt64 &&& 63)))) h := by
  refine xm_E_s r_X11_cut_0 rfl rfl ?_
  refine xm_E_s r_X11_cut_1 rfl rfl ?_
  refine xm_E_s r_X11_cut_2 rfl rfl ?_
  refine xm_E_s r_X11_cut_3 rfl rfl ?_
  refine xm_E_s r_X11_cut_4 rfl rfl ?_
  refine xm_E_s (ls1 := [some (.long l0), none, some (.int l2), some (.int ((64 : Int32) - ((8 : Int32) <<< (l2 &&& 31))))]) r_X11_cut_5 rfl rfl ?_
  refine xm_E_s r_X11_cut_6 rfl rfl ?_
  refine xm_E_s r_X11_cut_7 rfl rfl ?_
  refine xm_E_s r_X11_cut_8 rfl rfl ?_
  refine xm_E_s r_X11_cut_9 rfl rfl ?_
  refine xm_E_s r_X11_cut_10 rfl rfl ?_
  exact xm_E_lret r_X11_cut_11 rfl
theorem r_X11_paste_0 : co_X11_paste[0]? = some ((0, .iload_n 1, 0, 0, 0, 0, 0, 0, []) : xm_I) := rfl
theorem r_X11_paste_1 : co_X11_paste[1]? = some ((1, .invokestatic 357, 1782, 253, 1, 0, 0, 0, []) : xm_I) := rfl
theorem r_X11_paste_2 : co_X11_paste[2]? = some ((4, .ifCond .eq 10, 0, 0, 6, 0, 0, 0, []) : xm_I) := rfl
theorem r_X11_paste_3 : co_X11_paste[3]? = some ((7, .iload_n 3, 0, 0, 0, 0, 0, 0, []) : xm_I) := rfl
theorem r_X11_paste_4 : co_X11_paste[4]? = some ((8, .invokestatic 357, 1782, 253, 1, 0, 0, 0, []) : xm_I) := rfl
theorem r_X11_paste_5 : co_X11_paste[5]? = some ((11, .ifCond .ne 6, 0, 0, 8, 0, 0, 0, []) : xm_I) := rfl
theorem r_X11_paste_6 : co_X11_paste[6]? = some ((14, .bipush (-2), 0, 0, 0, 0, (-2), 0, []) : xm_I) := rfl
theorem r_X11_paste_7 : co_X11_paste[7]? = some ((16, .ireturn, 0, 0, 0, 0, 0, 0, []) : xm_I) := rfl
theorem r_X11_paste_8 : co_X11_paste[8]? = some ((17, .aload_n 0, 0, 0, 0, 0, 0, 0, []) : xm_I) := rfl
theorem r_X11_paste_9 : co_X11_paste[9]? = some ((18, .getfield 67, 1415, 10, 35, 2, 0, 0, []) : xm_I) := rfl
theorem r_X11_paste_10 : co_X11_paste[10]? = some ((21, .iload_n 1, 0, 0, 0, 0, 0, 0, []) : xm_I) := rfl
theorem r_X11_paste_11 : co_X11_paste[11]? = some ((22, .iaload, 0, 0, 0, 0, 0, 0, []) : xm_I) := rfl
theorem r_X11_paste_12 : co_X11_paste[12]? = some ((23, .iconst (-1), 0, 0, 0, 0, (-1), 0, []) : xm_I) := rfl
theorem r_X11_paste_13 : co_X11_paste[13]? = some ((24, .if_icmp .eq 13, 0, 0, 20, 0, 0, 0, []) : xm_I) := rfl
theorem r_X11_paste_14 : co_X11_paste[14]? = some ((27, .aload_n 0, 0, 0, 0, 0, 0, 0, []) : xm_I) := rfl
theorem r_X11_paste_15 : co_X11_paste[15]? = some ((28, .getfield 67, 1415, 10, 35, 2, 0, 0, []) : xm_I) := rfl
theorem r_X11_paste_16 : co_X11_paste[16]? = some ((31, .iload_n 3, 0, 0, 0, 0, 0, 0, []) : xm_I) := rfl
theorem r_X11_paste_17 : co_X11_paste[17]? = some ((32, .iaload, 0, 0, 0, 0, 0, 0, []) : xm_I) := rfl
theorem r_X11_paste_18 : co_X11_paste[18]? = some ((33, .iconst (-1), 0, 0, 0, 0, (-1), 0, []) : xm_I) := rfl
theorem r_X11_paste_19 : co_X11_paste[19]? = some ((34, .if_icmp .ne 6, 0, 0, 22, 0, 0, 0, []) : xm_I) := rfl
theorem r_X11_paste_20 : co_X11_paste[20]? = some ((37, .bipush (-6), 0, 0, 0, 0, (-6), 0, []) : xm_I) := rfl
theorem r_X11_paste_21 : co_X11_paste[21]? = some ((39, .ireturn, 0, 0, 0, 0, 0, 0, []) : xm_I) := rfl
theorem r_X11_paste_22 : co_X11_paste[22]? = some ((40, .aload_n 0, 0, 0, 0, 0, 0, 0, []) : xm_I) := rfl
theorem r_X11_paste_23 : co_X11_paste[23]? = some ((41, .getfield 70, 1416, 10, 36, 2, 0, 0, []) : xm_I) := rfl
theorem r_X11_paste_24 : co_X11_paste[24]? = some ((44, .iload_n 1, 0, 0, 0, 0, 0, 0, []) : xm_I) := rfl
theorem r_X11_paste_25 : co_X11_paste[25]? = some ((45, .iaload, 0, 0, 0, 0, 0, 0, []) : xm_I) := rfl
theorem r_X11_paste_26 : co_X11_paste[26]? = some ((46, .aload_n 0, 0, 0, 0, 0, 0, 0, []) : xm_I) := rfl
theorem r_X11_paste_27 : co_X11_paste[27]? = some ((47, .getfield 70, 1416, 10, 36, 2, 0, 0, []) : xm_I) := rfl
theorem r_X11_paste_28 : co_X11_paste[28]? = some ((50, .iload_n 3, 0, 0, 0, 0, 0, 0, []) : xm_I) := rfl
theorem r_X11_paste_29 : co_X11_paste[29]? = some ((51, .iaload, 0, 0, 0, 0, 0, 0, []) : xm_I) := rfl
theorem r_X11_paste_30 : co_X11_paste[30]? = some ((52, .if_icmp .eq 6, 0, 0, 33, 0, 0, 0, []) : xm_I) := rfl
theorem r_X11_paste_31 : co_X11_paste[31]? = some ((55, .bipush (-8), 0, 0, 0, 0, (-8), 0, []) : xm_I) := rfl
theorem r_X11_paste_32 : co_X11_paste[32]? = some ((57, .ireturn, 0, 0, 0, 0, 0, 0, []) : xm_I) := rfl
theorem r_X11_paste_33 : co_X11_paste[33]? = some ((58, .iload_n 2, 0, 0, 0, 0, 0, 0, []) : xm_I) := rfl
theorem r_X11_paste_34 : co_X11_paste[34]? = some ((59, .ifCond .lt 48, 0, 0, 63, 0, 0, 0, []) : xm_I) := rfl
theorem r_X11_paste_35 : co_X11_paste[35]? = some ((62, .iload 4, 0, 0, 0, 0, 0, 0, []) : xm_I) := rfl
theorem r_X11_paste_36 : co_X11_paste[36]? = some ((64, .ifCond .lt 43, 0, 0, 63, 0, 0, 0, []) : xm_I) := rfl
theorem r_X11_paste_37 : co_X11_paste[37]? = some ((67, .iload 5, 0, 0, 0, 0, 0, 0, []) : xm_I) := rfl
theorem r_X11_paste_38 : co_X11_paste[38]? = some ((69, .ifCond .lt 38, 0, 0, 63, 0, 0, 0, []) : xm_I) := rfl
theorem r_X11_paste_39 : co_X11_paste[39]? = some ((72, .iload_n 2, 0, 0, 0, 0, 0, 0, []) : xm_I) := rfl
theorem r_X11_paste_40 : co_X11_paste[40]? = some ((73, .i2l, 0, 0, 0, 0, 0, 0, []) : xm_I) := rfl
theorem r_X11_paste_41 : co_X11_paste[41]? = some ((74, .iload 5, 0, 0, 0, 0, 0, 0, []) : xm_I) := rfl
theorem r_X11_paste_42 : co_X11_paste[42]? = some ((76, .i2l, 0, 0, 0, 0, 0, 0, []) : xm_I) := rfl
theorem r_X11_paste_43 : co_X11_paste[43]? = some ((77, .ladd, 0, 0, 0, 0, 0, 0, []) : xm_I) := rfl
theorem r_X11_paste_44 : co_X11_paste[44]? = some ((78, .aload_n 0, 0, 0, 0, 0, 0, 0, []) : xm_I) := rfl
theorem r_X11_paste_45 : co_X11_paste[45]? = some ((79, .getfield 67, 1415, 10, 35, 2, 0, 0, []) : xm_I) := rfl
theorem r_X11_paste_46 : co_X11_paste[46]? = some ((82, .iload_n 1, 0, 0, 0, 0, 0, 0, []) : xm_I) := rfl
theorem r_X11_paste_47 : co_X11_paste[47]? = some ((83, .iaload, 0, 0, 0, 0, 0, 0, []) : xm_I) := rfl
theorem r_X11_paste_48 : co_X11_paste[48]? = some ((84, .i2l, 0, 0, 0, 0, 0, 0, []) : xm_I) := rfl
theorem r_X11_paste_49 : co_X11_paste[49]? = some ((85, .lcmp, 0, 0, 0, 0, 0, 0, []) : xm_I) := rfl
theorem r_X11_paste_50 : co_X11_paste[50]? = some ((86, .ifCond .gt 21, 0, 0, 63, 0, 0, 0, []) : xm_I) := rfl
theorem r_X11_paste_51 : co_X11_paste[51]? = some ((89, .iload 4, 0, 0, 0, 0, 0, 0, []) : xm_I) := rfl
theorem r_X11_paste_52 : co_X11_paste[52]? = some ((91, .i2l, 0, 0, 0, 0, 0, 0, []) : xm_I) := rfl
theorem r_X11_paste_53 : co_X11_paste[53]? = some ((92, .iload 5, 0, 0, 0, 0, 0, 0, []) : xm_I) := rfl
theorem r_X11_paste_54 : co_X11_paste[54]? = some ((94, .i2l, 0, 0, 0, 0, 0, 0, []) : xm_I) := rfl
theorem r_X11_paste_55 : co_X11_paste[55]? = some ((95, .ladd, 0, 0, 0, 0, 0, 0, []) : xm_I) := rfl
theorem r_X11_paste_56 : co_X11_paste[56]? = some ((96, .aload_n 0, 0, 0, 0, 0, 0, 0, []) : xm_I) := rfl
theorem r_X11_paste_57 : co_X11_paste[57]? = some ((97, .getfield 67, 1415, 10, 35, 2, 0, 0, []) : xm_I) := rfl
theorem r_X11_paste_58 : co_X11_paste[58]? = some ((100, .iload_n 3, 0, 0, 0, 0, 0, 0, []) : xm_I) := rfl
theorem r_X11_paste_59 : co_X11_paste[59]? = some ((101, .iaload, 0, 0, 0, 0, 0, 0, []) : xm_I) := rfl
theorem r_X11_paste_60 : co_X11_paste[60]? = some ((102, .i2l, 0, 0, 0, 0, 0, 0, []) : xm_I) := rfl
theorem r_X11_paste_61 : co_X11_paste[61]? = some ((103, .lcmp, 0, 0, 0, 0, 0, 0, []) : xm_I) := rfl
theorem r_X11_paste_62 : co_X11_paste[62]? = some ((104, .ifCond .le 6, 0, 0, 65, 0, 0, 0, []) : xm_I) := rfl
theorem r_X11_paste_63 : co_X11_paste[63]? = some ((107, .bipush (-7), 0, 0, 0, 0, (-7), 0, []) : xm_I) := rfl
theorem r_X11_paste_64 : co_X11_paste[64]? = some ((109, .ireturn, 0, 0, 0, 0, 0, 0, []) : xm_I) := rfl
theorem r_X11_paste_65 : co_X11_paste[65]? = some ((110, .iconst 0, 0, 0, 0, 0, 0, 0, []) : xm_I) := rfl
theorem r_X11_paste_66 : co_X11_paste[66]? = some ((111, .istore 6, 0, 0, 0, 0, 0, 0, []) : xm_I) := rfl
theorem r_X11_paste_67 : co_X11_paste[67]? = some ((113, .iload 6, 0, 0, 0, 0, 0, 0, []) : xm_I) := rfl
theorem r_X11_paste_68 : co_X11_paste[68]? = some ((115, .iload 5, 0, 0, 0, 0, 0, 0, []) : xm_I) := rfl
theorem r_X11_paste_69 : co_X11_paste[69]? = some ((117, .if_icmp .ge 30, 0, 0, 86, 0, 0, 0, []) : xm_I) := rfl
theorem r_X11_paste_70 : co_X11_paste[70]? = some ((120, .aload_n 0, 0, 0, 0, 0, 0, 0, []) : xm_I) := rfl
theorem r_X11_paste_71 : co_X11_paste[71]? = some ((121, .getfield 76, 1418, 10, 38, 2, 0, 0, []) : xm_I) := rfl
theorem r_X11_paste_72 : co_X11_paste[72]? = some ((124, .iload 6, 0, 0, 0, 0, 0, 0, []) : xm_I) := rfl
theorem r_X11_paste_73 : co_X11_paste[73]? = some ((126, .aload_n 0, 0, 0, 0, 0, 0, 0, []) : xm_I) := rfl
theorem r_X11_paste_74 : co_X11_paste[74]? = some ((127, .getfield 73, 1417, 10, 37, 2, 0, 0, []) : xm_I) := rfl
theorem r_X11_paste_75 : co_X11_paste[75]? = some ((130, .bipush 60, 0, 0, 0, 0, 60, 0, []) : xm_I) := rfl
theorem r_X11_paste_76 : co_X11_paste[76]? = some ((132, .iload_n 1, 0, 0, 0, 0, 0, 0, []) : xm_I) := rfl
theorem r_X11_paste_77 : co_X11_paste[77]? = some ((133, .imul, 0, 0, 0, 0, 0, 0, []) : xm_I) := rfl
theorem r_X11_paste_78 : co_X11_paste[78]? = some ((134, .iload_n 2, 0, 0, 0, 0, 0, 0, []) : xm_I) := rfl
theorem r_X11_paste_79 : co_X11_paste[79]? = some ((135, .iadd, 0, 0, 0, 0, 0, 0, []) : xm_I) := rfl
theorem r_X11_paste_80 : co_X11_paste[80]? = some ((136, .iload 6, 0, 0, 0, 0, 0, 0, []) : xm_I) := rfl
theorem r_X11_paste_81 : co_X11_paste[81]? = some ((138, .iadd, 0, 0, 0, 0, 0, 0, []) : xm_I) := rfl
theorem r_X11_paste_82 : co_X11_paste[82]? = some ((139, .laload, 0, 0, 0, 0, 0, 0, []) : xm_I) := rfl
theorem r_X11_paste_83 : co_X11_paste[83]? = some ((140, .lastore, 0, 0, 0, 0, 0, 0, []) : xm_I) := rfl
theorem r_X11_paste_84 : co_X11_paste[84]? = some ((141, .iinc 6 1, 0, 0, 0, 0, 1, 0, []) : xm_I) := rfl
theorem r_X11_paste_85 : co_X11_paste[85]? = some ((144, .goto (-31), 0, 0, 67, 0, 0, 0, []) : xm_I) := rfl
theorem r_X11_paste_86 : co_X11_paste[86]? = some ((147, .iconst 0, 0, 0, 0, 0, 0, 0, []) : xm_I) := rfl
theorem r_X11_paste_87 : co_X11_paste[87]? = some ((148, .istore 6, 0, 0, 0, 0, 0, 0, []) : xm_I) := rfl
theorem r_X11_paste_88 : co_X11_paste[88]? = some ((150, .iload 6, 0, 0, 0, 0, 0, 0, []) : xm_I) := rfl
theorem r_X11_paste_89 : co_X11_paste[89]? = some ((152, .iload 5, 0, 0, 0, 0, 0, 0, []) : xm_I) := rfl
theorem r_X11_paste_90 : co_X11_paste[90]? = some ((154, .if_icmp .ge 31, 0, 0, 107, 0, 0, 0, []) : xm_I) := rfl
theorem r_X11_paste_91 : co_X11_paste[91]? = some ((157, .aload_n 0, 0, 0, 0, 0, 0, 0, []) : xm_I) := rfl
theorem r_X11_paste_92 : co_X11_paste[92]? = some ((158, .getfield 73, 1417, 10, 37, 2, 0, 0, []) : xm_I) := rfl
theorem r_X11_paste_93 : co_X11_paste[93]? = some ((161, .bipush 60, 0, 0, 0, 0, 60, 0, []) : xm_I) := rfl
theorem r_X11_paste_94 : co_X11_paste[94]? = some ((163, .iload_n 3, 0, 0, 0, 0, 0, 0, []) : xm_I) := rfl
theorem r_X11_paste_95 : co_X11_paste[95]? = some ((164, .imul, 0, 0, 0, 0, 0, 0, []) : xm_I) := rfl
theorem r_X11_paste_96 : co_X11_paste[96]? = some ((165, .iload 4, 0, 0, 0, 0, 0, 0, []) : xm_I) := rfl
theorem r_X11_paste_97 : co_X11_paste[97]? = some ((167, .iadd, 0, 0, 0, 0, 0, 0, []) : xm_I) := rfl
theorem r_X11_paste_98 : co_X11_paste[98]? = some ((168, .iload 6, 0, 0, 0, 0, 0, 0, []) : xm_I) := rfl
theorem r_X11_paste_99 : co_X11_paste[99]? = some ((170, .iadd, 0, 0, 0, 0, 0, 0, []) : xm_I) := rfl
theorem r_X11_paste_100 : co_X11_paste[100]? = some ((171, .aload_n 0, 0, 0, 0, 0, 0, 0, []) : xm_I) := rfl
theorem r_X11_paste_101 : co_X11_paste[101]? = some ((172, .getfield 76, 1418, 10, 38, 2, 0, 0, []) : xm_I) := rfl
theorem r_X11_paste_102 : co_X11_paste[102]? = some ((175, .iload 6, 0, 0, 0, 0, 0, 0, []) : xm_I) := rfl
theorem r_X11_paste_103 : co_X11_paste[103]? = some ((177, .laload, 0, 0, 0, 0, 0, 0, []) : xm_I) := rfl
theorem r_X11_paste_104 : co_X11_paste[104]? = some ((178, .lastore, 0, 0, 0, 0, 0, 0, []) : xm_I) := rfl
theorem r_X11_paste_105 : co_X11_paste[105]? = some ((179, .iinc 6 1, 0, 0, 0, 0, 1, 0, []) : xm_I) := rfl
theorem r_X11_paste_106 : co_X11_paste[106]? = some ((182, .goto (-32), 0, 0, 88, 0, 0, 0, []) : xm_I) := rfl
theorem r_X11_paste_107 : co_X11_paste[107]? = some ((185, .iconst 0, 0, 0, 0, 0, 0, 0, []) : xm_I) := rfl
theorem r_X11_paste_108 : co_X11_paste[108]? = some ((186, .ireturn, 0, 0, 0, 0, 0, 0, []) : xm_I) := rfl
theorem p_X11_paste_0_0 {X : xm_X} {P : List xm_M} {d : Nat} {h : xm_H} {l0 : Nat} {l1 : Int32} {l2 : Int32} {l3 : Int32} {l4 : Int32} {l5 : Int32} {h0 : xm_H} {r0 : Int32} (q0 : xm_V X P d 253 [.int l1] h (some (.int r0)) h0) (q1 : r0 = (0 : Int32)) : xm_E X P d co_X11_paste 0 [some (.ref l0), some (.int l1), some (.int l2), some (.int l3), some (.int l4), some (.int l5), none] [] h (some (.int (-2 : Int32))) h0 := by
  refine xm_E_s r_X11_paste_0 rfl rfl ?_
  refine xm_E_cs [.int l1] [] r_X11_paste_1 rfl rfl rfl (Nat.le_of_ble_eq_true rfl) rfl q0 ?_
  refine xm_E_s r_X11_paste_2 rfl rfl ?_
  refine xm_E_t q1 ?_
  refine xm_E_s r_X11_paste_6 rfl rfl ?_
  exact xm_E_iret r_X11_paste_7 rfl rfl
theorem p_X11_paste_0_1 {X : xm_X} {P : List xm_M} {d : Nat} {h : xm_H} {l0 : Nat} {l1 : Int32} {l2 : Int32} {l3 : Int32} {l4 : Int32} {l5 : Int32} {h0 : xm_H} {r0 : Int32} {h1 : xm_H} {r1 : Int32} (q0 : xm_V X P d 253 [.int l1] h (some (.int r0)) h0) (q1 : ¬ (r0 = (0 : Int32))) (q2 : xm_V X P d 253 [.int l3] h0 (some (.int r1)) h1) (q3 : r1 = (0 : Int32)) : xm_E X P d co_X11_paste 0 [some (.ref l0), some (.int l1), some (.int l2), some (.int l3), some (.int l4), some (.int l5), none] [] h (some (.int (-2 : Int32))) h1 := by
  refine xm_E_s r_X11_paste_0 rfl rfl ?_
  refine xm_E_cs [.int l1] [] r_X11_paste_1 rfl rfl rfl (Nat.le_of_ble_eq_true rfl) rfl q0 ?_
  refine xm_E_s r_X11_paste_2 rfl rfl ?_
  refine xm_E_f q1 ?_
  refine xm_E_s r_X11_paste_3 rfl rfl ?_
  refine xm_E_cs [.int l3] [] r_X11_paste_4 rfl rfl rfl (Nat.le_of_ble_eq_true rfl) rfl q2 ?_
  refine xm_E_s r_X11_paste_5 rfl rfl ?_
  refine xm_E_t q3 ?_
  refine xm_E_s r_X11_paste_6 rfl rfl ?_
  exact xm_E_iret r_X11_paste_7 rfl rfl
theorem p_X11_paste_0_2 {X : xm_X} {P : List xm_M} {d : Nat} {h : xm_H} {l0 : Nat} {l1 : Int32} {l2 : Int32} {l3 : Int32} {l4 : Int32} {l5 : Int32} {h0 : xm_H} {r0 : Int32} {h1 : xm_H} {r1 : Int32} {v2 : Nat} {n3 : Nat} (q0 : xm_V X P d 253 [.int l1] h (some (.int r0)) h0) (q1 : ¬ (r0 = (0 : Int32))) (q2 : xm_V X P d 253 [.int l3] h0 (some (.int r1)) h1) (q3 : ¬ (r1 = (0 : Int32))) (q4 : X.1[l0]? = some (.inr 10)) (q5 : h1.2.2 l0 35 = some v2) (q6 : X.1[v2]? = some (.inl (0, n3))) (q7 : ¬ (l1 < 0 ∨ n3 ≤ l1.toNatClampNeg)) (q8 : h1.1 v2 l1.toNatClampNeg = (-1 : Int32)) : xm_E X P d co_X11_paste 0 [some (.ref l0), some (.int l1), some (.int l2), some (.int l3), some (.int l4), some (.int l5), none] [] h (some (.int (-6 : Int32))) h1 := by
  refine xm_E_s r_X11_paste_0 rfl rfl ?_
  refine xm_E_cs [.int l1] [] r_X11_paste_1 rfl rfl rfl (Nat.le_of_ble_eq_true rfl) rfl q0 ?_
  refine xm_E_s r_X11_paste_2 rfl rfl ?_
  refine xm_E_f q1 ?_
  refine xm_E_s r_X11_paste_3 rfl rfl ?_
  refine xm_E_cs [.int l3] [] r_X11_paste_4 rfl rfl rfl (Nat.le_of_ble_eq_true rfl) rfl q2 ?_
  refine xm_E_s r_X11_paste_5 rfl rfl ?_
  refine xm_E_f q3 ?_
  refine xm_E_s r_X11_paste_8 rfl rfl ?_
  refine xm_E_s r_X11_paste_9 rfl (xm_T_gr rfl q4 rfl rfl q5) ?_
  refine xm_E_s r_X11_paste_10 rfl rfl ?_
  refine xm_E_s r_X11_paste_11 rfl (xm_T_iald rfl q6 (by decide) q7) ?_
  refine xm_E_s r_X11_paste_12 rfl rfl ?_
  refine xm_E_s r_X11_paste_13 rfl rfl ?_
  refine xm_E_t q8 ?_
  refine xm_E_s r_X11_paste_20 rfl rfl ?_
  exact xm_E_iret r_X11_paste_21 rfl rfl
theorem p_X11_paste_0_3 {X : xm_X} {P : List xm_M} {d : Nat} {h : xm_H} {l0 : Nat} {l1 : Int32} {l2 : Int32} {l3 : Int32} {l4 : Int32} {l5 : Int32} {h0 : xm_H} {r0 : Int32} {h1 : xm_H} {r1 : Int32} {v2 : Nat} {n3 : Nat} (q0 : xm_V X P d 253 [.int l1] h (some (.int r0)) h0) (q1 : ¬ (r0 = (0 : Int32))) (q2 : xm_V X P d 253 [.int l3] h0 (some (.int r1)) h1) (q3 : ¬ (r1 = (0 : Int32))) (q4 : X.1[l0]? = some (.inr 10)) (q5 : h1.2.2 l0 35 = some v2) (q6 : X.1[v2]? = some (.inl (0, n3))) (q7 : ¬ (l1 < 0 ∨ n3 ≤ l1.toNatClampNeg)) (q8 : ¬ (h1.1 v2 l1.toNatClampNeg = (-1 : Int32))) (q9 : ¬ (l3 < 0 ∨ n3 ≤ l3.toNatClampNeg)) (q10 : h1.1 v2 l3.toNatClampNeg = (-1 : Int32)) : xm_E X P d co_X11_paste 0 [some (.ref l0), some (.int l1), some (.int l2), some (.int l3), some (.int l4), some (.int l5), none] [] h (some (.int (-6 : Int32))) h1 := by
  refine xm_E_s r_X11_paste_0 rfl rfl ?_
  refine xm_E_cs [.int l1] [] r_X11_paste_1 rfl rfl rfl (Nat.le_of_ble_eq_true rfl) rfl q0 ?_
  refine xm_E_s r_X11_paste_2 rfl rfl ?_
  refine xm_E_f q1 ?_
  refine xm_E_s r_X11_paste_3 rfl rfl ?_
  refine xm_E_cs [.int l3] [] r_X11_paste_4 rfl rfl rfl (Nat.le_of_ble_eq_true rfl) rfl q2 ?_
  refine xm_E_s r_X11_paste_5 rfl rfl ?_
  refine xm_E_f q3 ?_
  refine xm_E_s r_X11_paste_8 rfl rfl ?_
  refine xm_E_s r_X11_paste_9 rfl (xm_T_gr rfl q4 rfl rfl q5) ?_
  refine xm_E_s r_X11_paste_10 rfl rfl ?_
  refine xm_E_s r_X11_paste_11 rfl (xm_T_iald rfl q6 (by decide) q7) ?_
  refine xm_E_s r_X11_paste_12 rfl rfl ?_
  refine xm_E_s r_X11_paste_13 rfl rfl ?_
  refine xm_E_f q8 ?_
  refine xm_E_s r_X11_paste_14 rfl rfl ?_
  refine xm_E_s r_X11_paste_15 rfl (xm_T_gr rfl q4 rfl rfl q5) ?_
  refine xm_E_s r_X11_paste_16 rfl rfl ?_
  refine xm_E_s r_X11_paste_17 rfl (xm_T_iald rfl q6 (by decide) q9) ?_
  refine xm_E_s r_X11_paste_18 rfl rfl ?_
  refine xm_E_s r_X11_paste_19 rfl rfl ?_
  refine xm_E_t q10 ?_
  refine xm_E_s r_X11_paste_20 rfl rfl ?_
  exact xm_E_iret r_X11_paste_21 rfl rfl
theorem p_X11_paste_0_4 {X : xm_X} {P : List xm_M} {d : Nat} {h : xm_H} {l0 : Nat} {l1 : Int32} {l2 : Int32} {l3 : Int32} {l4 : Int32} {l5 : Int32} {h0 : xm_H} {r0 : Int32} {h1 : xm_H} {r1 : Int32} {v2 : Nat} {n3 : Nat} {v4 : Nat} {n5 : Nat} (q0 : xm_V X P d 253 [.int l1] h (some (.int r0)) h0) (q1 : ¬ (r0 = (0 : Int32))) (q2 : xm_V X P d 253 [.int l3] h0 (some (.int r1)) h1) (q3 : ¬ (r1 = (0 : Int32))) (q4 : X.1[l0]? = some (.inr 10)) (q5 : h1.2.2 l0 35 = some v2) (q6 : X.1[v2]? = some (.inl (0, n3))) (q7 : ¬ (l1 < 0 ∨ n3 ≤ l1.toNatClampNeg)) (q8 : ¬ (h1.1 v2 l1.toNatClampNeg = (-1 : Int32))) (q9 : ¬ (l3 < 0 ∨ n3 ≤ l3.toNatClampNeg)) (q10 : ¬ (h1.1 v2 l3.toNatClampNeg = (-1 : Int32))) (q11 : h1.2.2 l0 36 = some v4) (q12 : X.1[v4]? = some (.inl (0, n5))) (q13 : ¬ (l1 < 0 ∨ n5 ≤ l1.toNatClampNeg)) (q14 : ¬ (l3 < 0 ∨ n5 ≤ l3.toNatClampNeg)) (q15 : h1.1 v4 l1.toNatClampNeg = h1.1 v4 l3.toNatClampNeg) (q16 : l2 < (0 : Int32)) : xm_E X P d co_X11_paste 0 [some (.ref l0), some (.int l1), some (.int l2), some (.int l3), some (.int l4), some (.int l5), none] [] h (some (.int (-7 : Int32))) h1 := by
  refine xm_E_s r_X11_paste_0 rfl rfl ?_
  refine xm_E_cs [.int l1] [] r_X11_paste_1 rfl rfl rfl (Nat.le_of_ble_eq_true rfl) rfl q0 ?_
  refine xm_E_s r_X11_paste_2 rfl rfl ?_
  refine xm_E_f q1 ?_
  refine xm_E_s r_X11_paste_3 rfl rfl ?_
  refine xm_E_cs [.int l3] [] r_X11_paste_4 rfl rfl rfl (Nat.le_of_ble_eq_true rfl) rfl q2 ?_
  refine xm_E_s r_X11_paste_5 rfl rfl ?_
  refine xm_E_f q3 ?_
  refine xm_E_s r_X11_paste_8 rfl rfl ?_
  refine xm_E_s r_X11_paste_9 rfl (xm_T_gr rfl q4 rfl rfl q5) ?_
  refine xm_E_s r_X11_paste_10 rfl rfl ?_
  refine xm_E_s r_X11_paste_11 rfl (xm_T_iald rfl q6 (by decide) q7) ?_
  refine xm_E_s r_X11_paste_12 rfl rfl ?_
  refine xm_E_s r_X11_paste_13 rfl rfl ?_
  refine xm_E_f q8 ?_
  refine xm_E_s r_X11_paste_14 rfl rfl ?_
  refine xm_E_s r_X11_paste_15 rfl (xm_T_gr rfl q4 rfl rfl q5) ?_
  refine xm_E_s r_X11_paste_16 rfl rfl ?_
  refine xm_E_s r_X11_paste_17 rfl (xm_T_iald rfl q6 (by decide) q9) ?_
  refine xm_E_s r_X11_paste_18 rfl rfl ?_
  refine xm_E_s r_X11_paste_19 rfl rfl ?_
  refine xm_E_f q10 ?_
  refine xm_E_s r_X11_paste_22 rfl rfl ?_
  refine xm_E_s r_X11_paste_23 rfl (xm_T_gr rfl q4 rfl rfl q11) ?_
  refine xm_E_s r_X11_paste_24 rfl rfl ?_
  refine xm_E_s r_X11_paste_25 rfl (xm_T_iald rfl q12 (by decide) q13) ?_
  refine xm_E_s r_X11_paste_26 rfl rfl ?_
  refine xm_E_s r_X11_paste_27 rfl (xm_T_gr rfl q4 rfl rfl q11) ?_
  refine xm_E_s r_X11_paste_28 rfl rfl ?_
  refine xm_E_s r_X11_paste_29 rfl (xm_T_iald rfl q12 (by decide) q14) ?_
  refine xm_E_s r_X11_paste_30 rfl rfl ?_
  refine xm_E_t q15 ?_
  refine xm_E_s r_X11_paste_33 rfl rfl ?_
  refine xm_E_s r_X11_paste_34 rfl rfl ?_
  refine xm_E_t q16 ?_
  refine xm_E_s r_X11_paste_63 rfl rfl ?_
  exact xm_E_iret r_X11_paste_64 rfl rfl
theorem p_X11_paste_0_5 {X : xm_X} {P : List xm_M} {d : Nat} {h : xm_H} {l0 : Nat} {l1 : Int32} {l2 : Int32} {l3 : Int32} {l4 : Int32} {l5 : Int32} {h0 : xm_H} {r0 : Int32} {h1 : xm_H} {r1 : Int32} {v2 : Nat} {n3 : Nat} {v4 : Nat} {n5 : Nat} (q0 : xm_V X P d 253 [.int l1] h (some (.int r0)) h0) (q1 : ¬ (r0 = (0 : Int32))) (q2 : xm_V X P d 253 [.int l3] h0 (some (.int r1)) h1) (q3 : ¬ (r1 = (0 : Int32))) (q4 : X.1[l0]? = some (.inr 10)) (q5 : h1.2.2 l0 35 = some v2) (q6 : X.1[v2]? = some (.inl (0, n3))) (q7 : ¬ (l1 < 0 ∨ n3 ≤ l1.toNatClampNeg)) (q8 : ¬ (h1.1 v2 l1.toNatClampNeg = (-1 : Int32))) (q9 : ¬ (l3 < 0 ∨ n3 ≤ l3.toNatClampNeg)) (q10 : ¬ (h1.1 v2 l3.toNatClampNeg = (-1 : Int32))) (q11 : h1.2.2 l0 36 = some v4) (q12 : X.1[v4]? = some (.inl (0, n5))) (q13 : ¬ (l1 < 0 ∨ n5 ≤ l1.toNatClampNeg)) (q14 : ¬ (l3 < 0 ∨ n5 ≤ l3.toNatClampNeg)) (q15 : h1.1 v4 l1.toNatClampNeg = h1.1 v4 l3.toNatClampNeg) (q16 : ¬ (l2 < (0 : Int32))) (q17 : l4 < (0 : Int32)) : xm_E X P d co_X11_paste 0 [some (.ref l0), some (.int l1), some (.int l2), some (.int l3), some (.int l4), some (.int l5), none] [] h (some (.int (-7 : Int32))) h1 := by
  refine xm_E_s r_X11_paste_0 rfl rfl ?_
  refine xm_E_cs [.int l1] [] r_X11_paste_1 rfl rfl rfl (Nat.le_of_ble_eq_true rfl) rfl q0 ?_
  refine xm_E_s r_X11_paste_2 rfl rfl ?_
  refine xm_E_f q1 ?_
  refine xm_E_s r_X11_paste_3 rfl rfl ?_
  refine xm_E_cs [.int l3] [] r_X11_paste_4 rfl rfl rfl (Nat.le_of_ble_eq_true rfl) rfl q2 ?_
  refine xm_E_s r_X11_paste_5 rfl rfl ?_
  refine xm_E_f q3 ?_
  refine xm_E_s r_X11_paste_8 rfl rfl ?_
  refine xm_E_s r_X11_paste_9 rfl (xm_T_gr rfl q4 rfl rfl q5) ?_
  refine xm_E_s r_X11_paste_10 rfl rfl ?_
  refine xm_E_s r_X11_paste_11 rfl (xm_T_iald rfl q6 (by decide) q7) ?_
  refine xm_E_s r_X11_paste_12 rfl rfl ?_
  refine xm_E_s r_X11_paste_13 rfl rfl ?_
  refine xm_E_f q8 ?_
  refine xm_E_s r_X11_paste_14 rfl rfl ?_
  refine xm_E_s r_X11_paste_15 rfl (xm_T_gr rfl q4 rfl rfl q5) ?_
  refine xm_E_s r_X11_paste_16 rfl rfl ?_
  refine xm_E_s r_X11_paste_17 rfl (xm_T_iald rfl q6 (by decide) q9) ?_
  refine xm_E_s r_X11_paste_18 rfl rfl ?_
  refine xm_E_s r_X11_paste_19 rfl rfl ?_
  refine xm_E_f q10 ?_
  refine xm_E_s r_X11_paste_22 rfl rfl ?_
  refine xm_E_s r_X11_paste_23 rfl (xm_T_gr rfl q4 rfl rfl q11) ?_
  refine xm_E_s r_X11_paste_24 rfl rfl ?_
  refine xm_E_s r_X11_paste_25 rfl (xm_T_iald rfl q12 (by decide) q13) ?_
  refine xm_E_s r_X11_paste_26 rfl rfl ?_
  refine xm_E_s r_X11_paste_27 rfl (xm_T_gr rfl q4 rfl rfl q11) ?_
  refine xm_E_s r_X11_paste_28 rfl rfl ?_
  refine xm_E_s r_X11_paste_29 rfl (xm_T_iald rfl q12 (by decide) q14) ?_
  refine xm_E_s r_X11_paste_30 rfl rfl ?_
  refine xm_E_t q15 ?_
  refine xm_E_s r_X11_paste_33 rfl rfl ?_
  refine xm_E_s r_X11_paste_34 rfl rfl ?_
  refine xm_E_f q16 ?_
  refine xm_E_s r_X11_paste_35 rfl rfl ?_
  refine xm_E_s r_X11_paste_36 rfl rfl ?_
  refine xm_E_t q17 ?_
  refine xm_E_s r_X11_paste_63 rfl rfl ?_
  exact xm_E_iret r_X11_paste_64 rfl rfl
theorem p_X11_paste_0_6 {X : xm_X} {P : List xm_M} {d : Nat} {h : xm_H} {l0 : Nat} {l1 : Int32} {l2 : Int32} {l3 : Int32} {l4 : Int32} {l5 : Int32} {h0 : xm_H} {r0 : Int32} {h1 : xm_H} {r1 : Int32} {v2 : Nat} {n3 : Nat} {v4 : Nat} {n5 : Nat} (q0 : xm_V X P d 253 [.int l1] h (some (.int r0)) h0) (q1 : ¬ (r0 = (0 : Int32))) (q2 : xm_V X P d 253 [.int l3] h0 (some (.int r1)) h1) (q3 : ¬ (r1 = (0 : Int32))) (q4 : X.1[l0]? = some (.inr 10)) (q5 : h1.2.2 l0 35 = some v2) (q6 : X.1[v2]? = some (.inl (0, n3))) (q7 : ¬ (l1 < 0 ∨ n3 ≤ l1.toNatClampNeg)) (q8 : ¬ (h1.1 v2 l1.toNatClampNeg = (-1 : Int32))) (q9 : ¬ (l3 < 0 ∨ n3 ≤ l3.toNatClampNeg)) (q10 : ¬ (h1.1 v2 l3.toNatClampNeg = (-1 : Int32))) (q11 : h1.2.2 l0 36 = some v4) (q12 : X.1[v4]? = some (.inl (0, n5))) (q13 : ¬ (l1 < 0 ∨ n5 ≤ l1.toNatClampNeg)) (q14 : ¬ (l3 < 0 ∨ n5 ≤ l3.toNatClampNeg)) (q15 : h1.1 v4 l1.toNatClampNeg = h1.1 v4 l3.toNatClampNeg) (q16 : ¬ (l2 < (0 : Int32))) (q17 : ¬ (l4 < (0 : Int32))) (q18 : l5 < (0 : Int32)) : xm_E X P d co_X11_paste 0 [some (.ref l0), some (.int l1), some (.int l2), some (.int l3), some (.int l4), some (.int l5), none] [] h (some (.int (-7 : Int32))) h1 := by
  refine xm_E_s r_X11_paste_0 rfl rfl ?_
  refine xm_E_cs [.int l1] [] r_X11_paste_1 rfl rfl rfl (Nat.le_of_ble_eq_true rfl) rfl q0 ?_
  refine xm_E_s r_X11_paste_2 rfl rfl ?_
  refine xm_E_f q1 ?_
  refine xm_E_s r_X11_paste_3 rfl rfl ?_
  refine xm_E_cs [.int l3] [] r_X11_paste_4 rfl rfl rfl (Nat.le_of_ble_eq_true rfl) rfl q2 ?_
  refine xm_E_s r_X11_paste_5 rfl rfl ?_
  refine xm_E_f q3 ?_
  refine xm_E_s r_X11_paste_8 rfl rfl ?_
  refine xm_E_s r_X11_paste_9 rfl (xm_T_gr rfl q4 rfl rfl q5) ?_
  refine xm_E_s r_X11_paste_10 rfl rfl ?_
  refine xm_E_s r_X11_paste_11 rfl (xm_T_iald rfl q6 (by decide) q7) ?_
  refine xm_E_s r_X11_paste_12 rfl rfl ?_
  refine xm_E_s r_X11_paste_13 rfl rfl ?_
  refine xm_E_f q8 ?_
  refine xm_E_s r_X11_paste_14 rfl rfl ?_
  refine xm_E_s r_X11_paste_15 rfl (xm_T_gr rfl q4 rfl rfl q5) ?_
  refine xm_E_s r_X11_paste_16 rfl rfl ?_
  refine xm_E_s r_X11_paste_17 rfl (xm_T_iald rfl q6 (by decide) q9) ?_
  refine xm_E_s r_X11_paste_18 rfl rfl ?_
  refine xm_E_s r_X11_paste_19 rfl rfl ?_
  refine xm_E_f q10 ?_
  refine xm_E_s r_X11_paste_22 rfl rfl ?_
  refine xm_E_s r_X11_paste_23 rfl (xm_T_gr rfl q4 rfl rfl q11) ?_
  refine xm_E_s r_X11_paste_24 rfl rfl ?_
  refine xm_E_s r_X11_paste_25 rfl (xm_T_iald rfl q12 (by decide) q13) ?_
  refine xm_E_s r_X11_paste_26 rfl rfl ?_
  refine xm_E_s r_X11_paste_27 rfl (xm_T_gr rfl q4 rfl rfl q11) ?_
  refine xm_E_s r_X11_paste_28 rfl rfl ?_
  refine xm_E_s r_X11_paste_29 rfl (xm_T_iald rfl q12 (by decide) q14) ?_
  refine xm_E_s r_X11_paste_30 rfl rfl ?_
  refine xm_E_t q15 ?_
  refine xm_E_s r_X11_paste_33 rfl rfl ?_
  refine xm_E_s r_X11_paste_34 rfl rfl ?_
  refine xm_E_f q16 ?_
  refine xm_E_s r_X11_paste_35 rfl rfl ?_
  refine xm_E_s r_X11_paste_36 rfl rfl ?_
  refine xm_E_f q17 ?_
  refine xm_E_s r_X11_paste_37 rfl rfl ?_
  refine xm_E_s r_X11_paste_38 rfl rfl ?_
  refine xm_E_t q18 ?_
  refine xm_E_s r_X11_paste_63 rfl rfl ?_
  exact xm_E_iret r_X11_paste_64 rfl rfl
theorem p_X11_paste_0_7 {X : xm_X} {P : List xm_M} {d : Nat} {h : xm_H} {l0 : Nat} {l1 : Int32} {l2 : Int32} {l3 : Int32} {l4 : Int32} {l5 : Int32} {h0 : xm_H} {r0 : Int32} {h1 : xm_H} {r1 : Int32} {v2 : Nat} {n3 : Nat} {v4 : Nat} {n5 : Nat} (q0 : xm_V X P d 253 [.int l1] h (some (.int r0)) h0) (q1 : ¬ (r0 = (0 : Int32))) (q2 : xm_V X P d 253 [.int l3] h0 (some (.int r1)) h1) (q3 : ¬ (r1 = (0 : Int32))) (q4 : X.1[l0]? = some (.inr 10)) (q5 : h1.2.2 l0 35 = some v2) (q6 : X.1[v2]? = some (.inl (0, n3))) (q7 : ¬ (l1 < 0 ∨ n3 ≤ l1.toNatClampNeg)) (q8 : ¬ (h1.1 v2 l1.toNatClampNeg = (-1 : Int32))) (q9 : ¬ (l3 < 0 ∨ n3 ≤ l3.toNatClampNeg)) (q10 : ¬ (h1.1 v2 l3.toNatClampNeg = (-1 : Int32))) (q11 : h1.2.2 l0 36 = some v4) (q12 : X.1[v4]? = some (.inl (0, n5))) (q13 : ¬ (l1 < 0 ∨ n5 ≤ l1.toNatClampNeg)) (q14 : ¬ (l3 < 0 ∨ n5 ≤ l3.toNatClampNeg)) (q15 : h1.1 v4 l1.toNatClampNeg = h1.1 v4 l3.toNatClampNeg) (q16 : ¬ (l2 < (0 : Int32))) (q17 : ¬ (l4 < (0 : Int32))) (q18 : ¬ (l5 < (0 : Int32))) (q19 : (0 : Int32) < lg_cmp (l2.toInt64 + l5.toInt64) ((h1.1 v2 l1.toNatClampNeg).toInt64)) : xm_E X P d co_X11_paste 0 [some (.ref l0), some (.int l1), some (.int l2), some (.int l3), some (.int l4), some (.int l5), none] [] h (some (.int (-7 : Int32))) h1 := by
  refine xm_E_s r_X11_paste_0 rfl rfl ?_
  refine xm_E_cs [.int l1] [] r_X11_paste_1 rfl rfl rfl (Nat.le_of_ble_eq_true rfl) rfl q0 ?_
  refine xm_E_s r_X11_paste_2 rfl rfl ?_
  refine xm_E_f q1 ?_
  refine xm_E_s r_X11_paste_3 rfl rfl ?_
  refine xm_E_cs [.int l3] [] r_X11_paste_4 rfl rfl rfl (Nat.le_of_ble_eq_true rfl) rfl q2 ?_
  refine xm_E_s r_X11_paste_5 rfl rfl ?_
  refine xm_E_f q3 ?_
  refine xm_E_s r_X11_paste_8 rfl rfl ?_
  refine xm_E_s r_X11_paste_9 rfl (xm_T_gr rfl q4 rfl rfl q5) ?_
  refine xm_E_s r_X11_paste_10 rfl rfl ?_
  refine xm_E_s r_X11_paste_11 rfl (xm_T_iald rfl q6 (by decide) q7) ?_
  refine xm_E_s r_X11_paste_12 rfl rfl ?_
  refine xm_E_s r_X11_paste_13 rfl rfl ?_
  refine xm_E_f q8 ?_
  refine xm_E_s r_X11_paste_14 rfl rfl ?_
  refine xm_E_s r_X11_paste_15 rfl (xm_T_gr rfl q4 rfl rfl q5) ?_
  refine xm_E_s r_X11_paste_16 rfl rfl ?_
  refine xm_E_s r_X11_paste_17 rfl (xm_T_iald rfl q6 (by decide) q9) ?_
  refine xm_E_s r_X11_paste_18 rfl rfl ?_
  refine xm_E_s r_X11_paste_19 rfl rfl ?_
  refine xm_E_f q10 ?_
  refine xm_E_s r_X11_paste_22 rfl rfl ?_
  refine xm_E_s r_X11_paste_23 rfl (xm_T_gr rfl q4 rfl rfl q11) ?_
  refine xm_E_s r_X11_paste_24 rfl rfl ?_
  refine xm_E_s r_X11_paste_25 rfl (xm_T_iald rfl q12 (by decide) q13) ?_
  refine xm_E_s r_X11_paste_26 rfl rfl ?_
  refine xm_E_s r_X11_paste_27 rfl (xm_T_gr rfl q4 rfl rfl q11) ?_
  refine xm_E_s r_X11_paste_28 rfl rfl ?_
  refine xm_E_s r_X11_paste_29 rfl (xm_T_iald rfl q12 (by decide) q14) ?_
  refine xm_E_s r_X11_paste_30 rfl rfl ?_
  refine xm_E_t q15 ?_
  refine xm_E_s r_X11_paste_33 rfl rfl ?_
  refine xm_E_s r_X11_paste_34 rfl rfl ?_
  refine xm_E_f q16 ?_
  refine xm_E_s r_X11_paste_35 rfl rfl ?_
  refine xm_E_s r_X11_paste_36 rfl rfl ?_
  refine xm_E_f q17 ?_
  refine xm_E_s r_X11_paste_37 rfl rfl ?_
  refine xm_E_s r_X11_paste_38 rfl rfl ?_
  refine xm_E_f q18 ?_
  refine xm_E_s r_X11_paste_39 rfl rfl ?_
  refine xm_E_s r_X11_paste_40 rfl rfl ?_
  refine xm_E_s r_X11_paste_41 rfl rfl ?_
  refine xm_E_s r_X11_paste_42 rfl rfl ?_
  refine xm_E_s r_X11_paste_43 rfl rfl ?_
  refine xm_E_s r_X11_paste_44 rfl rfl ?_
  refine xm_E_s r_X11_paste_45 rfl (xm_T_gr rfl q4 rfl rfl q5) ?_
  refine xm_E_s r_X11_paste_46 rfl rfl ?_
  refine xm_E_s r_X11_paste_47 rfl (xm_T_iald rfl q6 (by decide) q7) ?_
  refine xm_E_s r_X11_paste_48 rfl rfl ?_
  refine xm_E_s r_X11_paste_49 rfl rfl ?_
  refine xm_E_s r_X11_paste_50 rfl rfl ?_
  refine xm_E_t q19 ?_
  refine xm_E_s r_X11_paste_63 rfl rfl ?_
  exact xm_E_iret r_X11_paste_64 rfl rfl
theorem p_X11_paste_0_8 {X : xm_X} {P : List xm_M} {d : Nat} {h : xm_H} {l0 : Nat} {l1 : Int32} {l2 : Int32} {l3 : Int32} {l4 : Int32} {l5 : Int32} {h0 : xm_H} {r0 : Int32} {h1 : xm_H} {r1 : Int32} {v2 : Nat} {n3 : Nat} {v4 : Nat} {n5 : Nat} {ro : Option Value} {ho : xm_H} (q0 : xm_V X P d 253 [.int l1] h (some (.int r0)) h0) (q1 : ¬ (r0 = (0 : Int32))) (q2 : xm_V X P d 253 [.int l3] h0 (some (.int r1)) h1) (q3 : ¬ (r1 = (0 : Int32))) (q4 : X.1[l0]? = some (.inr 10)) (q5 : h1.2.2 l0 35 = some v2) (q6 : X.1[v2]? = some (.inl (0, n3))) (q7 : ¬ (l1 < 0 ∨ n3 ≤ l1.toNatClampNeg)) (q8 : ¬ (h1.1 v2 l1.toNatClampNeg = (-1 : Int32))) (q9 : ¬ (l3 < 0 ∨ n3 ≤ l3.toNatClampNeg)) (q10 : ¬ (h1.1 v2 l3.toNatClampNeg = (-1 : Int32))) (q11 : h1.2.2 l0 36 = some v4) (q12 : X.1[v4]? = some (.inl (0, n5))) (q13 : ¬ (l1 < 0 ∨ n5 ≤ l1.toNatClampNeg)) (q14 : ¬ (l3 < 0 ∨ n5 ≤ l3.toNatClampNeg)) (q15 : h1.1 v4 l1.toNatClampNeg = h1.1 v4 l3.toNatClampNeg) (q16 : ¬ (l2 < (0 : Int32))) (q17 : ¬ (l4 < (0 : Int32))) (q18 : ¬ (l5 < (0 : Int32))) (q19 : ¬ ((0 : Int32) < lg_cmp (l2.toInt64 + l5.toInt64) ((h1.1 v2 l1.toNatClampNeg).toInt64))) (q20 : lg_cmp (l4.toInt64 + l5.toInt64) ((h1.1 v2 l3.toNatClampNeg).toInt64) ≤ (0 : Int32)) (K : xm_E X P d co_X11_paste 67 [some (.ref l0), some (.int l1), some (.int l2), some (.int l3), some (.int l4), some (.int l5), some (.int (0 : Int32))] [] h1 ro ho) : xm_E X P d co_X11_paste 0 [some (.ref l0), some (.int l1), some (.int l2), some (.int l3), some (.int l4), some (.int l5), none] [] h ro ho := by
  refine xm_E_s r_X11_paste_0 rfl rfl ?_
  refine xm_E_cs [.int l1] [] r_X11_paste_1 rfl rfl rfl (Nat.le_of_ble_eq_true rfl) rfl q0 ?_
  refine xm_E_s r_X11_paste_2 rfl rfl ?_
  refine xm_E_f q1 ?_
  refine xm_E_s r_X11_paste_3 rfl rfl ?_
  refine xm_E_cs [.int l3] [] r_X11_paste_4 rfl rfl rfl (Nat.le_of_ble_eq_true rfl) rfl q2 ?_
  refine xm_E_s r_X11_paste_5 rfl rfl ?_
  refine xm_E_f q3 ?_
  refine xm_E_s r_X11_paste_8 rfl rfl ?_
  refine xm_E_s r_X11_paste_9 rfl (xm_T_gr rfl q4 rfl rfl q5) ?_
  refine xm_E_s r_X11_paste_10 rfl rfl ?_
  refine xm_E_s r_X11_paste_11 rfl (xm_T_iald rfl q6 (by decide) q7) ?_
  refine xm_E_s r_X11_paste_12 rfl rfl ?_
  refine xm_E_s r_X11_paste_13 rfl rfl ?_
  refine xm_E_f q8 ?_
  refine xm_E_s r_X11_paste_14 rfl rfl ?_
  refine xm_E_s r_X11_paste_15 rfl (xm_T_gr rfl q4 rfl rfl q5) ?_
  refine xm_E_s r_X11_paste_16 rfl rfl ?_
  refine xm_E_s r_X11_paste_17 rfl (xm_T_iald rfl q6 (by decide) q9) ?_
  refine xm_E_s r_X11_paste_18 rfl rfl ?_
  refine xm_E_s r_X11_paste_19 rfl rfl ?_
  refine xm_E_f q10 ?_
  refine xm_E_s r_X11_paste_22 rfl rfl ?_
  refine xm_E_s r_X11_paste_23 rfl (xm_T_gr rfl q4 rfl rfl q11) ?_
  refine xm_E_s r_X11_paste_24 rfl rfl ?_
  refine xm_E_s r_X11_paste_25 rfl (xm_T_iald rfl q12 (by decide) q13) ?_
  refine xm_E_s r_X11_paste_26 rfl rfl ?_
  refine xm_E_s r_X11_paste_27 rfl (xm_T_gr rfl q4 rfl rfl q11) ?_
  refine xm_E_s r_X11_paste_28 rfl rfl ?_
  refine xm_E_s r_X11_paste_29 rfl (xm_T_iald rfl q12 (by decide) q14) ?_
  refine xm_E_s r_X11_paste_30 rfl rfl ?_
  refine xm_E_t q15 ?_
  refine xm_E_s r_X11_paste_33 rfl rfl ?_
  refine xm_E_s r_X11_paste_34 rfl rfl ?_
  refine xm_E_f q16 ?_
  refine xm_E_s r_X11_paste_35 rfl rfl ?_
  refine xm_E_s r_X11_paste_36 rfl rfl ?_
  refine xm_E_f q17 ?_
  refine xm_E_s r_X11_paste_37 rfl rfl ?_
  refine xm_E_s r_X11_paste_38 rfl rfl ?_
  refine xm_E_f q18 ?_
  refine xm_E_s r_X11_paste_39 rfl rfl ?_
  refine xm_E_s r_X11_paste_40 rfl rfl ?_
  refine xm_E_s r_X11_paste_41 rfl rfl ?_
  refine xm_E_s r_X11_paste_42 rfl rfl ?_
  refine xm_E_s r_X11_paste_43 rfl rfl ?_
  refine xm_E_s r_X11_paste_44 rfl rfl ?_
  refine xm_E_s r_X11_paste_45 rfl (xm_T_gr rfl q4 rfl rfl q5) ?_
  refine xm_E_s r_X11_paste_46 rfl rfl ?_
  refine xm_E_s r_X11_paste_47 rfl (xm_T_iald rfl q6 (by decide) q7) ?_
  refine xm_E_s r_X11_paste_48 rfl rfl ?_
  refine xm_E_s r_X11_paste_49 rfl rfl ?_
  refine xm_E_s r_X11_paste_50 rfl rfl ?_
  refine xm_E_f q19 ?_
  refine xm_E_s r_X11_paste_51 rfl rfl ?_
  refine xm_E_s r_X11_paste_52 rfl rfl ?_
  refine xm_E_s r_X11_paste_53 rfl rfl ?_
  refine xm_E_s r_X11_paste_54 rfl rfl ?_
  refine xm_E_s r_X11_paste_55 rfl rfl ?_
  refine xm_E_s r_X11_paste_56 rfl rfl ?_
  refine xm_E_s r_X11_paste_57 rfl (xm_T_gr rfl q4 rfl rfl q5) ?_
  refine xm_E_s r_X11_paste_58 rfl rfl ?_
  refine xm_E_s r_X11_paste_59 rfl (xm_T_iald rfl q6 (by decide) q9) ?_
  refine xm_E_s r_X11_paste_60 rfl rfl ?_
  refine xm_E_s r_X11_paste_61 rfl rfl ?_
  refine xm_E_s r_X11_paste_62 rfl rfl ?_
  refine xm_E_t q20 ?_
  refine xm_E_s r_X11_paste_65 rfl rfl ?_
  refine xm_E_s (ls1 := [some (.ref l0), some (.int l1), some (.int l2), some (.int l3), some (.int l4), some (.int l5), some (.int (0 : Int32))]) r_X11_paste_66 rfl rfl ?_
  exact K
theorem p_X11_paste_0_9 {X : xm_X} {P : List xm_M} {d : Nat} {h : xm_H} {l0 : Nat} {l1 : Int32} {l2 : Int32} {l3 : Int32} {l4 : Int32} {l5 : Int32} {h0 : xm_H} {r0 : Int32} {h1 : xm_H} {r1 : Int32} {v2 : Nat} {n3 : Nat} {v4 : Nat} {n5 : Nat} (q0 : xm_V X P d 253 [.int l1] h (some (.int r0)) h0) (q1 : ¬ (r0 = (0 : Int32))) (q2 : xm_V X P d 253 [.int l3] h0 (some (.int r1)) h1) (q3 : ¬ (r1 = (0 : Int32))) (q4 : X.1[l0]? = some (.inr 10)) (q5 : h1.2.2 l0 35 = some v2) (q6 : X.1[v2]? = some (.inl (0, n3))) (q7 : ¬ (l1 < 0 ∨ n3 ≤ l1.toNatClampNeg)) (q8 : ¬ (h1.1 v2 l1.toNatClampNeg = (-1 : Int32))) (q9 : ¬ (l3 < 0 ∨ n3 ≤ l3.toNatClampNeg)) (q10 : ¬ (h1.1 v2 l3.toNatClampNeg = (-1 : Int32))) (q11 : h1.2.2 l0 36 = some v4) (q12 : X.1[v4]? = some (.inl (0, n5))) (q13 : ¬ (l1 < 0 ∨ n5 ≤ l1.toNatClampNeg)) (q14 : ¬ (l3 < 0 ∨ n5 ≤ l3.toNatClampNeg)) (q15 : h1.1 v4 l1.toNatClampNeg = h1.1 v4 l3.toNatClampNeg) (q16 : ¬ (l2 < (0 : Int32))) (q17 : ¬ (l4 < (0 : Int32))) (q18 : ¬ (l5 < (0 : Int32))) (q19 : ¬ ((0 : Int32) < lg_cmp (l2.toInt64 + l5.toInt64) ((h1.1 v2 l1.toNatClampNeg).toInt64))) (q20 : ¬ (lg_cmp (l4.toInt64 + l5.toInt64) ((h1.1 v2 l3.toNatClampNeg).toInt64) ≤ (0 : Int32))) : xm_E X P d co_X11_paste 0 [some (.ref l0), some (.int l1), some (.int l2), some (.int l3), some (.int l4), some (.int l5), none] [] h (some (.int (-7 : Int32))) h1 := by
  refine xm_E_s r_X11_paste_0 rfl rfl ?_
  refine xm_E_cs [.int l1] [] r_X11_paste_1 rfl rfl rfl (Nat.le_of_ble_eq_true rfl) rfl q0 ?_
  refine xm_E_s r_X11_paste_2 rfl rfl ?_
  refine xm_E_f q1 ?_
  refine xm_E_s r_X11_paste_3 rfl rfl ?_
  refine xm_E_cs [.int l3] [] r_X11_paste_4 rfl rfl rfl (Nat.le_of_ble_eq_true rfl) rfl q2 ?_
  refine xm_E_s r_X11_paste_5 rfl rfl ?_
  refine xm_E_f q3 ?_
  refine xm_E_s r_X11_paste_8 rfl rfl ?_
  refine xm_E_s r_X11_paste_9 rfl (xm_T_gr rfl q4 rfl rfl q5) ?_
  refine xm_E_s r_X11_paste_10 rfl rfl ?_
  refine xm_E_s r_X11_paste_11 rfl (xm_T_iald rfl q6 (by decide) q7) ?_
  refine xm_E_s r_X11_paste_12 rfl rfl ?_
  refine xm_E_s r_X11_paste_13 rfl rfl ?_
  refine xm_E_f q8 ?_
  refine xm_E_s r_X11_paste_14 rfl rfl ?_
  refine xm_E_s r_X11_paste_15 rfl (xm_T_gr rfl q4 rfl rfl q5) ?_
  refine xm_E_s r_X11_paste_16 rfl rfl ?_
  refine xm_E_s r_X11_paste_17 rfl (xm_T_iald rfl q6 (by decide) q9) ?_
  refine xm_E_s r_X11_paste_18 rfl rfl ?_
  refine xm_E_s r_X11_paste_19 rfl rfl ?_
  refine xm_E_f q10 ?_
  refine xm_E_s r_X11_paste_22 rfl rfl ?_
  refine xm_E_s r_X11_paste_23 rfl (xm_T_gr rfl q4 rfl rfl q11) ?_
  refine xm_E_s r_X11_paste_24 rfl rfl ?_
  refine xm_E_s r_X11_paste_25 rfl (xm_T_iald rfl q12 (by decide) q13) ?_
  refine xm_E_s r_X11_paste_26 rfl rfl ?_
  refine xm_E_s r_X11_paste_27 rfl (xm_T_gr rfl q4 rfl rfl q11) ?_
  refine xm_E_s r_X11_paste_28 rfl rfl ?_
  refine xm_E_s r_X11_paste_29 rfl (xm_T_iald rfl q12 (by decide) q14) ?_
  refine xm_E_s r_X11_paste_30 rfl rfl ?_
  refine xm_E_t q15 ?_
  refine xm_E_s r_X11_paste_33 rfl rfl ?_
  refine xm_E_s r_X11_paste_34 rfl rfl ?_
  refine xm_E_f q16 ?_
  refine xm_E_s r_X11_paste_35 rfl rfl ?_
  refine xm_E_s r_X11_paste_36 rfl rfl ?_
  refine xm_E_f q17 ?_
  refine xm_E_s r_X11_paste_37 rfl rfl ?_
  refine xm_E_s r_X11_paste_38 rfl rfl ?_
  refine xm_E_f q18 ?_
  refine xm_E_s r_X11_paste_39 rfl rfl ?_
  refine xm_E_s r_X11_paste_40 rfl rfl ?_
  refine xm_E_s r_X11_paste_41 rfl rfl ?_
  refine xm_E_s r_X11_paste_42 rfl rfl ?_
  refine xm_E_s r_X11_paste_43 rfl rfl ?_
  refine xm_E_s r_X11_paste_44 rfl rfl ?_
  refine xm_E_s r_X11_paste_45 rfl (xm_T_gr rfl q4 rfl rfl q5) ?_
  refine xm_E_s r_X11_paste_46 rfl rfl ?_
  refine xm_E_s r_X11_paste_47 rfl (xm_T_iald rfl q6 (by decide) q7) ?_
  refine xm_E_s r_X11_paste_48 rfl rfl ?_
  refine xm_E_s r_X11_paste_49 rfl rfl ?_
  refine xm_E_s r_X11_paste_50 rfl rfl ?_
  refine xm_E_f q19 ?_
  refine xm_E_s r_X11_paste_51 rfl rfl ?_
  refine xm_E_s r_X11_paste_52 rfl rfl ?_
  refine xm_E_s r_X11_paste_53 rfl rfl ?_
  refine xm_E_s r_X11_paste_54 rfl rfl ?_
  refine xm_E_s r_X11_paste_55 rfl rfl ?_
  refine xm_E_s r_X11_paste_56 rfl rfl ?_
  refine xm_E_s r_X11_paste_57 rfl (xm_T_gr rfl q4 rfl rfl q5) ?_
  refine xm_E_s r_X11_paste_58 rfl rfl ?_
  refine xm_E_s r_X11_paste_59 rfl (xm_T_iald rfl q6 (by decide) q9) ?_
  refine xm_E_s r_X11_paste_60 rfl rfl ?_
  refine xm_E_s r_X11_paste_61 rfl rfl ?_
  refine xm_E_s r_X11_paste_62 rfl rfl ?_
  refine xm_E_f q20 ?_
  refine xm_E_s r_X11_paste_63 rfl rfl ?_
  exact xm_E_iret r_X11_paste_64 rfl rfl
theorem p_X11_paste_0_10 {X : xm_X} {P : List xm_M} {d : Nat} {h : xm_H} {l0 : Nat} {l1 : Int32} {l2 : Int32} {l3 : Int32} {l4 : Int32} {l5 : Int32} {h0 : xm_H} {r0 : Int32} {h1 : xm_H} {r1 : Int32} {v2 : Nat} {n3 : Nat} {v4 : Nat} {n5 : Nat} (q0 : xm_V X P d 253 [.int l1] h (some (.int r0)) h0) (q1 : ¬ (r0 = (0 : Int32))) (q2 : xm_V X P d 253 [.int l3] h0 (some (.int r1)) h1) (q3 : ¬ (r1 = (0 : Int32))) (q4 : X.1[l0]? = some (.inr 10)) (q5 : h1.2.2 l0 35 = some v2) (q6 : X.1[v2]? = some (.inl (0, n3))) (q7 : ¬ (l1 < 0 ∨ n3 ≤ l1.toNatClampNeg)) (q8 : ¬ (h1.1 v2 l1.toNatClampNeg = (-1 : Int32))) (q9 : ¬ (l3 < 0 ∨ n3 ≤ l3.toNatClampNeg)) (q10 : ¬ (h1.1 v2 l3.toNatClampNeg = (-1 : Int32))) (q11 : h1.2.2 l0 36 = some v4) (q12 : X.1[v4]? = some (.inl (0, n5))) (q13 : ¬ (l1 < 0 ∨ n5 ≤ l1.toNatClampNeg)) (q14 : ¬ (l3 < 0 ∨ n5 ≤ l3.toNatClampNeg)) (q15 : ¬ (h1.1 v4 l1.toNatClampNeg = h1.1 v4 l3.toNatClampNeg)) : xm_E X P d co_X11_paste 0 [some (.ref l0), some (.int l1), some (.int l2), some (.int l3), some (.int l4), some (.int l5), none] [] h (some (.int (-8 : Int32))) h1 := by
  refine xm_E_s r_X11_paste_0 rfl rfl ?_
  refine xm_E_cs [.int l1] [] r_X11_paste_1 rfl rfl rfl (Nat.le_of_ble_eq_true rfl) rfl q0 ?_
  refine xm_E_s r_X11_paste_2 rfl rfl ?_
  refine xm_E_f q1 ?_
  refine xm_E_s r_X11_paste_3 rfl rfl ?_
  refine xm_E_cs [.int l3] [] r_X11_paste_4 rfl rfl rfl (Nat.le_of_ble_eq_true rfl) rfl q2 ?_
  refine xm_E_s r_X11_paste_5 rfl rfl ?_
  refine xm_E_f q3 ?_
  refine xm_E_s r_X11_paste_8 rfl rfl ?_
  refine xm_E_s r_X11_paste_9 rfl (xm_T_gr rfl q4 rfl rfl q5) ?_
  refine xm_E_s r_X11_paste_10 rfl rfl ?_
  refine xm_E_s r_X11_paste_11 rfl (xm_T_iald rfl q6 (by decide) q7) ?_
  refine xm_E_s r_X11_paste_12 rfl rfl ?_
  refine xm_E_s r_X11_paste_13 rfl rfl ?_
  refine xm_E_f q8 ?_
  refine xm_E_s r_X11_paste_14 rfl rfl ?_
  refine xm_E_s r_X11_paste_15 rfl (xm_T_gr rfl q4 rfl rfl q5) ?_
  refine xm_E_s r_X11_paste_16 rfl rfl ?_
  refine xm_E_s r_X11_paste_17 rfl (xm_T_iald rfl q6 (by decide) q9) ?_
  refine xm_E_s r_X11_paste_18 rfl rfl ?_
  refine xm_E_s r_X11_paste_19 rfl rfl ?_
  refine xm_E_f q10 ?_
  refine xm_E_s r_X11_paste_22 rfl rfl ?_
  refine xm_E_s r_X11_paste_23 rfl (xm_T_gr rfl q4 rfl rfl q11) ?_
  refine xm_E_s r_X11_paste_24 rfl rfl ?_
  refine xm_E_s r_X11_paste_25 rfl (xm_T_iald rfl q12 (by decide) q13) ?_
  refine xm_E_s r_X11_paste_26 rfl rfl ?_
  refine xm_E_s r_X11_paste_27 rfl (xm_T_gr rfl q4 rfl rfl q11) ?_
  refine xm_E_s r_X11_paste_28 rfl rfl ?_
  refine xm_E_s r_X11_paste_29 rfl (xm_T_iald rfl q12 (by decide) q14) ?_
  refine xm_E_s r_X11_paste_30 rfl rfl ?_
  refine xm_E_f q15 ?_
  refine xm_E_s r_X11_paste_31 rfl rfl ?_
  exact xm_E_iret r_X11_paste_32 rfl rfl
theorem p_X11_paste_67_0 {X : xm_X} {P : List xm_M} {d : Nat} {h : xm_H} {l0 : Nat} {l1 : Int32} {l2 : Int32} {l3 : Int32} {l4 : Int32} {l5 : Int32} {l6 : Int32} {ro : Option Value} {ho : xm_H} (q0 : l5 ≤ l6) (K : xm_E X P d co_X11_paste 88 [some (.ref l0), some (.int l1), some (.int l2), some (.int l3), some (.int l4), some (.int l5), some (.int (0 : Int32))] [] h ro ho) : xm_E X P d co_X11_paste 67 [some (.ref l0), some (.int l1), some (.int l2), some (.int l3), some (.int l4), some (.int l5), some (.int l6)] [] h ro ho := by
  refine xm_E_s r_X11_paste_67 rfl rfl ?_
  refine xm_E_s r_X11_paste_68 rfl rfl ?_
  refine xm_E_s r_X11_paste_69 rfl rfl ?_
  refine xm_E_t q0 ?_
  refine xm_E_s r_X11_paste_86 rfl rfl ?_
  refine xm_E_s (ls1 := [some (.ref l0), some (.int l1), some (.int l2), some (.int l3), some (.int l4), some (.int l5), some (.int (0 : Int32))]) r_X11_paste_87 rfl rfl ?_
  exact K
theorem p_X11_paste_67_1 {X : xm_X} {P : List xm_M} {d : Nat} {h : xm_H} {l0 : Nat} {l1 : Int32} {l2 : Int32} {l3 : Int32} {l4 : Int32} {l5 : Int32} {l6 : Int32} {v0 : Nat} {v1 : Nat} {n2 : Nat} {n3 : Nat} {ro : Option Value} {ho : xm_H} (q0 : ¬ (l5 ≤ l6)) (q1 : X.1[l0]? = some (.inr 10)) (q2 : h.2.2 l0 38 = some v0) (q3 : h.2.2 l0 37 = some v1) (q4 : X.1[v1]? = some (.inl (3, n2))) (q5 : ¬ ((((60 : Int32) * l1) + l2) + l6 < 0 ∨ n2 ≤ ((((60 : Int32) * l1) + l2) + l6).toNatClampNeg)) (q6 : X.1[v0]? = some (.inl (3, n3))) (q7 : ¬ (l6 < 0 ∨ n3 ≤ l6.toNatClampNeg)) (K : xm_E X P d co_X11_paste 67 [some (.ref l0), some (.int l1), some (.int l2), some (.int l3), some (.int l4), some (.int l5), some (.int (l6 + (1 : Int32)))] [] (xm_sl h v0 l6.toNatClampNeg (h.2.1 v1 (((((60 : Int32) * l1) + l2) + l6).toNatClampNeg))) ro ho) : xm_E X P d co_X11_paste 67 [some (.ref l0), some (.int l1), some (.int l2), some (.int l3), some (.int l4), some (.int l5), some (.int l6)] [] h ro ho := by
  refine xm_E_s r_X11_paste_67 rfl rfl ?_
  refine xm_E_s r_X11_paste_68 rfl rfl ?_
  refine xm_E_s r_X11_paste_69 rfl rfl ?_
  refine xm_E_f q0 ?_
  refine xm_E_s r_X11_paste_70 rfl rfl ?_
  refine xm_E_s r_X11_paste_71 rfl (xm_T_gr rfl q1 rfl rfl q2) ?_
  refine xm_E_s r_X11_paste_72 rfl rfl ?_
  refine xm_E_s r_X11_paste_73 rfl rfl ?_
  refine xm_E_s r_X11_paste_74 rfl (xm_T_gr rfl q1 rfl rfl q3) ?_
  refine xm_E_s r_X11_paste_75 rfl rfl ?_
  refine xm_E_s r_X11_paste_76 rfl rfl ?_
  refine xm_E_s r_X11_paste_77 rfl rfl ?_
  refine xm_E_s r_X11_paste_78 rfl rfl ?_
  refine xm_E_s r_X11_paste_79 rfl rfl ?_
  refine xm_E_s r_X11_paste_80 rfl rfl ?_
  refine xm_E_s r_X11_paste_81 rfl rfl ?_
  refine xm_E_s r_X11_paste_82 rfl (xm_T_lald rfl q4 q5) ?_
  refine xm_E_s r_X11_paste_83 rfl (xm_T_last rfl q6 q7) ?_
  refine xm_E_s (ls1 := [some (.ref l0), some (.int l1), some (.int l2), some (.int l3), some (.int l4), some (.int l5), some (.int (l6 + (1 : Int32)))]) r_X11_paste_84 rfl rfl ?_
  refine xm_E_s r_X11_paste_85 rfl rfl ?_
  exact K
theorem p_X11_paste_88_0 {X : xm_X} {P : List xm_M} {d : Nat} {h : xm_H} {l0 : Nat} {l1 : Int32} {l2 : Int32} {l3 : Int32} {l4 : Int32} {l5 : Int32} {l6 : Int32} (q0 : l5 ≤ l6) : xm_E X P d co_X11_paste 88 [some (.ref l0), some (.int l1), some (.int l2), some (.int l3), some (.int l4), some (.int l5), some (.int l6)] [] h (some (.int (0 : Int32))) h := by
  refine xm_E_s r_X11_paste_88 rfl rfl ?_
  refine xm_E_s r_X11_paste_89 rfl rfl ?_
  refine xm_E_s r_X11_paste_90 rfl rfl ?_
  refine xm_E_t q0 ?_
  refine xm_E_s r_X11_paste_107 rfl rfl ?_
  exact xm_E_iret r_X11_paste_108 rfl rfl
theorem p_X11_paste_88_1 {X : xm_X} {P : List xm_M} {d : Nat} {h : xm_H} {l0 : Nat} {l1 : Int32} {l2 : Int32} {l3 : Int32} {l4 : Int32} {l5 : Int32} {l6 : Int32} {v0 : Nat} {v1 : Nat} {n2 : Nat} {n3 : Nat} {ro : Option Value} {ho : xm_H} (q0 : ¬ (l5 ≤ l6)) (q1 : X.1[l0]? = some (.inr 10)) (q2 : h.2.2 l0 37 = some v0) (q3 : h.2.2 l0 38 = some v1) (q4 : X.1[v1]? = some (.inl (3, n2))) (q5 : ¬ (l6 < 0 ∨ n2 ≤ l6.toNatClampNeg)) (q6 : X.1[v0]? = some (.inl (3, n3))) (q7 : ¬ ((((60 : Int32) * l3) + l4) + l6 < 0 ∨ n3 ≤ ((((60 : Int32) * l3) + l4) + l6).toNatClampNeg)) (K : xm_E X P d co_X11_paste 88 [some (.ref l0), some (.int l1), some (.int l2), some (.int l3), some (.int l4), some (.int l5), some (.int (l6 + (1 : Int32)))] [] (xm_sl h v0 (((((60 : Int32) * l3) + l4) + l6).toNatClampNeg) (h.2.1 v1 l6.toNatClampNeg)) ro ho) : xm_E X P d co_X11_paste 88 [some (.ref l0), some (.int l1), some (.int l2), some (.int l3), some (.int l4), some (.int l5), some (.int l6)] [] h ro ho := by
  refine xm_E_s r_X11_paste_88 rfl rfl ?_
  refine xm_E_s r_X11_paste_89 rfl rfl ?_
  refine xm_E_s r_X11_paste_90 rfl rfl ?_
  refine xm_E_f q0 ?_
  refine xm_E_s r_X11_paste_91 rfl rfl ?_
  refine xm_E_s r_X11_paste_92 rfl (xm_T_gr rfl q1 rfl rfl q2) ?_
  refine xm_E_s r_X11_paste_93 rfl rfl ?_
  refine xm_E_s r_X11_paste_94 rfl rfl ?_
  refine xm_E_s r_X11_paste_95 rfl rfl ?_
  refine xm_E_s r_X11_paste_96 rfl rfl ?_
  refine xm_E_s r_X11_paste_97 rfl rfl ?_
  refine xm_E_s r_X11_paste_98 rfl rfl ?_
  refine xm_E_s r_X11_paste_99 rfl rfl ?_
  refine xm_E_s r_X11_paste_100 rfl rfl ?_
  refine xm_E_s r_X11_paste_101 rfl (xm_T_gr rfl q1 rfl rfl q3) ?_
  refine xm_E_s r_X11_paste_102 rfl rfl ?_
  refine xm_E_s r_X11_paste_103 rfl (xm_T_lald rfl q4 q5) ?_
  refine xm_E_s r_X11_paste_104 rfl (xm_T_last rfl q6 q7) ?_
  refine xm_E_s (ls1 := [some (.ref l0), some (.int l1), some (.int l2), some (.int l3), some (.int l4), some (.int l5), some (.int (l6 + (1 : Int32)))]) r_X11_paste_105 rfl rfl ?_
  refine xm_E_s r_X11_paste_106 rfl rfl ?_
  exact K
end XMPA
