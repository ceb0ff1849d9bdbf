/-! the law, behind its constructors -/
theorem r_law_0 : co_law[0]? = some ((16, .iconst 0, 0, 0, 0, 0, 0, 0, []) : xm_I) := rfl
theorem r_law_1 : co_law[1]? = some ((17, .istore_n 3, 0, 0, 0, 0, 0, 0, []) : xm_I) := rfl
theorem r_law_2 : co_law[2]? = some ((18, .iload_n 3, 0, 0, 0, 0, 0, 0, []) : xm_I) := rfl
theorem r_law_3 : co_law[3]? = some ((19, .aload_n 0, 0, 0, 0, 0, 0, 0, []) : xm_I) := rfl
theorem r_law_4 : co_law[4]? = some ((20, .arraylength, 0, 0, 0, 0, 0, 0, []) : xm_I) := rfl
theorem r_law_5 : co_law[5]? = some ((21, .bipush 6, 0, 0, 0, 0, 6, 0, []) : xm_I) := rfl
theorem r_law_6 : co_law[6]? = some ((23, .isub, 0, 0, 0, 0, 0, 0, []) : xm_I) := rfl
theorem r_law_7 : co_law[7]? = some ((24, .if_icmp .gt 1701, 0, 0, 1111, 0, 0, 0, []) : xm_I) := rfl
theorem r_law_8 : co_law[8]? = some ((27, .aload_n 0, 0, 0, 0, 0, 0, 0, []) : xm_I) := rfl
theorem r_law_9 : co_law[9]? = some ((28, .iload_n 3, 0, 0, 0, 0, 0, 0, []) : xm_I) := rfl
theorem r_law_10 : co_law[10]? = some ((29, .iaload, 0, 0, 0, 0, 0, 0, []) : xm_I) := rfl
theorem r_law_11 : co_law[11]? = some ((30, .bipush 63, 0, 0, 0, 0, 63, 0, []) : xm_I) := rfl
theorem r_law_12 : co_law[12]? = some ((32, .iand, 0, 0, 0, 0, 0, 0, []) : xm_I) := rfl
theorem r_law_13 : co_law[13]? = some ((33, .tableswitch 1686 0 56 #[243, 306, 329, 342, 365, 388, 411, 424, 447, 470, 483, 506, 519, 542, 575, 588, 611, 624, 647, 660, 683, 706, 719, 732, 765, 778, 801, 814, 838, 871, 894, 907, 930, 943, 956, 989, 1022, 1055, 1089, 1112, 1125, 1158, 1171, 1204, 1237, 1260, 1273, 1296, 1319, 1362, 1395, 1438, 1461, 1484, 1507, 1550, 1623], 0, 0, 1109, 0, 0, 0, [14, 71, 88, 95, 112, 129, 146, 153, 170, 187, 194, 211, 218, 235, 262, 269, 286, 293, 310, 317, 334, 351, 358, 365, 392, 399, 416, 423, 441, 468, 485, 492, 509, 516, 523, 550, 577, 604, 632, 649, 656, 683, 690, 717, 744, 761, 768, 785, 802, 839, 866, 903, 920, 937, 954, 991, 1052]) : xm_I) := rfl
theorem r_law_14 : co_law[14]? = some ((276, .aload_n 1, 0, 0, 0, 0, 0, 0, []) : xm_I) := rfl
theorem r_law_15 : co_law[15]? = some ((277, .aload_n 0, 0, 0, 0, 0, 0, 0, []) : xm_I) := rfl
theorem r_law_16 : co_law[16]? = some ((278, .iload_n 3, 0, 0, 0, 0, 0, 0, []) : xm_I) := rfl
theorem r_law_17 : co_law[17]? = some ((279, .iconst 1, 0, 0, 0, 0, 1, 0, []) : xm_I) := rfl
theorem r_law_18 : co_law[18]? = some ((280, .iadd, 0, 0, 0, 0, 0, 0, []) : xm_I) := rfl
theorem r_law_19 : co_law[19]? = some ((281, .iaload, 0, 0, 0, 0, 0, 0, []) : xm_I) := rfl
theorem r_law_20 : co_law[20]? = some ((282, .aload_n 0, 0, 0, 0, 0, 0, 0, []) : xm_I) := rfl
theorem r_law_21 : co_law[21]? = some ((283, .iload_n 3, 0, 0, 0, 0, 0, 0, []) : xm_I) := rfl
theorem r_law_22 : co_law[22]? = some ((284, .iconst 2, 0, 0, 0, 0, 2, 0, []) : xm_I) := rfl
theorem r_law_23 : co_law[23]? = some ((285, .iadd, 0, 0, 0, 0, 0, 0, []) : xm_I) := rfl
theorem r_law_24 : co_law[24]? = some ((286, .iaload, 0, 0, 0, 0, 0, 0, []) : xm_I) := rfl
theorem r_law_25 : co_law[25]? = some ((287, .aload_n 0, 0, 0, 0, 0, 0, 0, []) : xm_I) := rfl
theorem r_law_26 : co_law[26]? = some ((288, .iload_n 3, 0, 0, 0, 0, 0, 0, []) : xm_I) := rfl
theorem r_law_27 : co_law[27]? = some ((289, .iconst 3, 0, 0, 0, 0, 3, 0, []) : xm_I) := rfl
theorem r_law_28 : co_law[28]? = some ((290, .iadd, 0, 0, 0, 0, 0, 0, []) : xm_I) := rfl
theorem r_law_29 : co_law[29]? = some ((291, .iaload, 0, 0, 0, 0, 0, 0, []) : xm_I) := rfl
theorem r_law_30 : co_law[30]? = some ((292, .aload_n 0, 0, 0, 0, 0, 0, 0, []) : xm_I) := rfl
theorem r_law_31 : co_law[31]? = some ((293, .iload_n 3, 0, 0, 0, 0, 0, 0, []) : xm_I) := rfl
theorem r_law_32 : co_law[32]? = some ((294, .iconst 4, 0, 0, 0, 0, 4, 0, []) : xm_I) := rfl
theorem r_law_33 : co_law[33]? = some ((295, .iadd, 0, 0, 0, 0, 0, 0, []) : xm_I) := rfl
theorem r_law_34 : co_law[34]? = some ((296, .iaload, 0, 0, 0, 0, 0, 0, []) : xm_I) := rfl
theorem r_law_35 : co_law[35]? = some ((297, .aload_n 0, 0, 0, 0, 0, 0, 0, []) : xm_I) := rfl
theorem r_law_36 : co_law[36]? = some ((298, .iload_n 3, 0, 0, 0, 0, 0, 0, []) : xm_I) := rfl
theorem r_law_37 : co_law[37]? = some ((299, .iconst 5, 0, 0, 0, 0, 5, 0, []) : xm_I) := rfl
theorem r_law_38 : co_law[38]? = some ((300, .iadd, 0, 0, 0, 0, 0, 0, []) : xm_I) := rfl
theorem r_law_39 : co_law[39]? = some ((301, .iaload, 0, 0, 0, 0, 0, 0, []) : xm_I) := rfl
theorem r_law_40 : co_law[40]? = some ((302, .invokevirtual 13, 509, 0, 6, 9, 0, 0, []) : xm_I) := rfl
theorem r_law_41 : co_law[41]? = some ((305, .aload_n 2, 0, 0, 0, 0, 0, 0, []) : xm_I) := rfl
theorem r_law_42 : co_law[42]? = some ((306, .aload_n 0, 0, 0, 0, 0, 0, 0, []) : xm_I) := rfl
theorem r_law_43 : co_law[43]? = some ((307, .iload_n 3, 0, 0, 0, 0, 0, 0, []) : xm_I) := rfl
theorem r_law_44 : co_law[44]? = some ((308, .iconst 1, 0, 0, 0, 0, 1, 0, []) : xm_I) := rfl
theorem r_law_45 : co_law[45]? = some ((309, .iadd, 0, 0, 0, 0, 0, 0, []) : xm_I) := rfl
theorem r_law_46 : co_law[46]? = some ((310, .iaload, 0, 0, 0, 0, 0, 0, []) : xm_I) := rfl
theorem r_law_47 : co_law[47]? = some ((311, .aload_n 0, 0, 0, 0, 0, 0, 0, []) : xm_I) := rfl
theorem r_law_48 : co_law[48]? = some ((312, .iload_n 3, 0, 0, 0, 0, 0, 0, []) : xm_I) := rfl
theorem r_law_49 : co_law[49]? = some ((313, .iconst 2, 0, 0, 0, 0, 2, 0, []) : xm_I) := rfl
theorem r_law_50 : co_law[50]? = some ((314, .iadd, 0, 0, 0, 0, 0, 0, []) : xm_I) := rfl
theorem r_law_51 : co_law[51]? = some ((315, .iaload, 0, 0, 0, 0, 0, 0, []) : xm_I) := rfl
theorem r_law_52 : co_law[52]? = some ((316, .aload_n 0, 0, 0, 0, 0, 0, 0, []) : xm_I) := rfl
theorem r_law_53 : co_law[53]? = some ((317, .iload_n 3, 0, 0, 0, 0, 0, 0, []) : xm_I) := rfl
theorem r_law_54 : co_law[54]? = some ((318, .iconst 3, 0, 0, 0, 0, 3, 0, []) : xm_I) := rfl
theorem r_law_55 : co_law[55]? = some ((319, .iadd, 0, 0, 0, 0, 0, 0, []) : xm_I) := rfl
theorem r_law_56 : co_law[56]? = some ((320, .iaload, 0, 0, 0, 0, 0, 0, []) : xm_I) := rfl
theorem r_law_57 : co_law[57]? = some ((321, .aload_n 0, 0, 0, 0, 0, 0, 0, []) : xm_I) := rfl
theorem r_law_58 : co_law[58]? = some ((322, .iload_n 3, 0, 0, 0, 0, 0, 0, []) : xm_I) := rfl
theorem r_law_59 : co_law[59]? = some ((323, .iconst 4, 0, 0, 0, 0, 4, 0, []) : xm_I) := rfl
theorem r_law_60 : co_law[60]? = some ((324, .iadd, 0, 0, 0, 0, 0, 0, []) : xm_I) := rfl
theorem r_law_61 : co_law[61]? = some ((325, .iaload, 0, 0, 0, 0, 0, 0, []) : xm_I) := rfl
theorem r_law_62 : co_law[62]? = some ((326, .aload_n 0, 0, 0, 0, 0, 0, 0, []) : xm_I) := rfl
theorem r_law_63 : co_law[63]? = some ((327, .iload_n 3, 0, 0, 0, 0, 0, 0, []) : xm_I) := rfl
theorem r_law_64 : co_law[64]? = some ((328, .iconst 5, 0, 0, 0, 0, 5, 0, []) : xm_I) := rfl
theorem r_law_65 : co_law[65]? = some ((329, .iadd, 0, 0, 0, 0, 0, 0, []) : xm_I) := rfl
theorem r_law_66 : co_law[66]? = some ((330, .iaload, 0, 0, 0, 0, 0, 0, []) : xm_I) := rfl
theorem r_law_67 : co_law[67]? = some ((331, .invokevirtual 17, 1510, 193, 6, 10, 0, 0, []) : xm_I) := rfl
theorem r_law_68 : co_law[68]? = some ((334, .if_icmp .eq 1385, 0, 0, 1109, 0, 0, 0, []) : xm_I) := rfl
theorem r_law_69 : co_law[69]? = some ((337, .iconst 0, 0, 0, 0, 0, 0, 0, []) : xm_I) := rfl
theorem r_law_70 : co_law[70]? = some ((338, .ireturn, 0, 0, 0, 3, 0, 0, []) : xm_I) := rfl
theorem r_law_71 : co_law[71]? = some ((339, .aload_n 1, 0, 0, 0, 0, 0, 0, []) : xm_I) := rfl
theorem r_law_72 : co_law[72]? = some ((340, .aload_n 0, 0, 0, 0, 0, 0, 0, []) : xm_I) := rfl
theorem r_law_73 : co_law[73]? = some ((341, .iload_n 3, 0, 0, 0, 0, 0, 0, []) : xm_I) := rfl
theorem r_law_74 : co_law[74]? = some ((342, .iconst 1, 0, 0, 0, 0, 1, 0, []) : xm_I) := rfl
theorem r_law_75 : co_law[75]? = some ((343, .iadd, 0, 0, 0, 0, 0, 0, []) : xm_I) := rfl
theorem r_law_76 : co_law[76]? = some ((344, .iaload, 0, 0, 0, 0, 0, 0, []) : xm_I) := rfl
theorem r_law_77 : co_law[77]? = some ((345, .invokevirtual 18, 521, 3, 2, 9, 0, 0, []) : xm_I) := rfl
theorem r_law_78 : co_law[78]? = some ((348, .aload_n 2, 0, 0, 0, 0, 0, 0, []) : xm_I) := rfl
theorem r_law_79 : co_law[79]? = some ((349, .aload_n 0, 0, 0, 0, 0, 0, 0, []) : xm_I) := rfl
theorem r_law_80 : co_law[80]? = some ((350, .iload_n 3, 0, 0, 0, 0, 0, 0, []) : xm_I) := rfl
theorem r_law_81 : co_law[81]? = some ((351, .iconst 1, 0, 0, 0, 0, 1, 0, []) : xm_I) := rfl
theorem r_law_82 : co_law[82]? = some ((352, .iadd, 0, 0, 0, 0, 0, 0, []) : xm_I) := rfl
theorem r_law_83 : co_law[83]? = some ((353, .iaload, 0, 0, 0, 0, 0, 0, []) : xm_I) := rfl
theorem r_law_84 : co_law[84]? = some ((354, .invokevirtual 22, 1514, 194, 2, 10, 0, 0, []) : xm_I) := rfl
theorem r_law_85 : co_law[85]? = some ((357, .if_icmp .eq 1362, 0, 0, 1109, 0, 0, 0, []) : xm_I) := rfl
theorem r_law_86 : co_law[86]? = some ((360, .iconst 0, 0, 0, 0, 0, 0, 0, []) : xm_I) := rfl
theorem r_law_87 : co_law[87]? = some ((361, .ireturn, 0, 0, 0, 3, 0, 0, []) : xm_I) := rfl
theorem r_law_88 : co_law[88]? = some ((362, .aload_n 1, 0, 0, 0, 0, 0, 0, []) : xm_I) := rfl
theorem r_law_89 : co_law[89]? = some ((363, .invokevirtual 23, 525, 4, 1, 9, 0, 0, []) : xm_I) := rfl
theorem r_law_90 : co_law[90]? = some ((366, .aload_n 2, 0, 0, 0, 0, 0, 0, []) : xm_I) := rfl
theorem r_law_91 : co_law[91]? = some ((367, .invokevirtual 27, 1522, 196, 1, 10, 0, 0, []) : xm_I) := rfl
theorem r_law_92 : co_law[92]? = some ((370, .if_icmp .eq 1349, 0, 0, 1109, 0, 0, 0, []) : xm_I) := rfl
theorem r_law_93 : co_law[93]? = some ((373, .iconst 0, 0, 0, 0, 0, 0, 0, []) : xm_I) := rfl
theorem r_law_94 : co_law[94]? = some ((374, .ireturn, 0, 0, 0, 3, 0, 0, []) : xm_I) := rfl
theorem r_law_95 : co_law[95]? = some ((375, .aload_n 1, 0, 0, 0, 0, 0, 0, []) : xm_I) := rfl
theorem r_law_96 : co_law[96]? = some ((376, .aload_n 0, 0, 0, 0, 0, 0, 0, []) : xm_I) := rfl
theorem r_law_97 : co_law[97]? = some ((377, .iload_n 3, 0, 0, 0, 0, 0, 0, []) : xm_I) := rfl
theorem r_law_98 : co_law[98]? = some ((378, .iconst 1, 0, 0, 0, 0, 1, 0, []) : xm_I) := rfl
theorem r_law_99 : co_law[99]? = some ((379, .iadd, 0, 0, 0, 0, 0, 0, []) : xm_I) := rfl
theorem r_law_100 : co_law[100]? = some ((380, .iaload, 0, 0, 0, 0, 0, 0, []) : xm_I) := rfl
theorem r_law_101 : co_law[101]? = some ((381, .invokevirtual 28, 688, 34, 2, 9, 0, 0, []) : xm_I) := rfl
theorem r_law_102 : co_law[102]? = some ((384, .aload_n 2, 0, 0, 0, 0, 0, 0, []) : xm_I) := rfl
theorem r_law_103 : co_law[103]? = some ((385, .aload_n 0, 0, 0, 0, 0, 0, 0, []) : xm_I) := rfl
theorem r_law_104 : co_law[104]? = some ((386, .iload_n 3, 0, 0, 0, 0, 0, 0, []) : xm_I) := rfl
theorem r_law_105 : co_law[105]? = some ((387, .iconst 1, 0, 0, 0, 0, 1, 0, []) : xm_I) := rfl
theorem r_law_106 : co_law[106]? = some ((388, .iadd, 0, 0, 0, 0, 0, 0, []) : xm_I) := rfl
theorem r_law_107 : co_law[107]? = some ((389, .iaload, 0, 0, 0, 0, 0, 0, []) : xm_I) := rfl
theorem r_law_108 : co_law[108]? = some ((390, .invokevirtual 31, 1518, 195, 2, 10, 0, 0, []) : xm_I) := rfl
theorem r_law_109 : co_law[109]? = some ((393, .if_icmp .eq 1326, 0, 0, 1109, 0, 0, 0, []) : xm_I) := rfl
theorem r_law_110 : co_law[110]? = some ((396, .iconst 0, 0, 0, 0, 0, 0, 0, []) : xm_I) := rfl
theorem r_law_111 : co_law[111]? = some ((397, .ireturn, 0, 0, 0, 3, 0, 0, []) : xm_I) := rfl
theorem r_law_112 : co_law[112]? = some ((398, .aload_n 1, 0, 0, 0, 0, 0, 0, []) : xm_I) := rfl
theorem r_law_113 : co_law[113]? = some ((399, .aload_n 0, 0, 0, 0, 0, 0, 0, []) : xm_I) := rfl
theorem r_law_114 : co_law[114]? = some ((400, .iload_n 3, 0, 0, 0, 0, 0, 0, []) : xm_I) := rfl
theorem r_law_115 : co_law[115]? = some ((401, .iconst 1, 0, 0, 0, 0, 1, 0, []) : xm_I) := rfl
theorem r_law_116 : co_law[116]? = some ((402, .iadd, 0, 0, 0, 0, 0, 0, []) : xm_I) := rfl
theorem r_law_117 : co_law[117]? = some ((403, .iaload, 0, 0, 0, 0, 0, 0, []) : xm_I) := rfl
theorem r_law_118 : co_law[118]? = some ((404, .invokevirtual 32, 692, 35, 2, 9, 0, 0, []) : xm_I) := rfl
theorem r_law_119 : co_law[119]? = some ((407, .aload_n 2, 0, 0, 0, 0, 0, 0, []) : xm_I) := rfl
theorem r_law_120 : co_law[120]? = some ((408, .aload_n 0, 0, 0, 0, 0, 0, 0, []) : xm_I) := rfl
theorem r_law_121 : co_law[121]? = some ((409, .iload_n 3, 0, 0, 0, 0, 0, 0, []) : xm_I) := rfl
theorem r_law_122 : co_law[122]? = some ((410, .iconst 1, 0, 0, 0, 0, 1, 0, []) : xm_I) := rfl
theorem r_law_123 : co_law[123]? = some ((411, .iadd, 0, 0, 0, 0, 0, 0, []) : xm_I) := rfl
theorem r_law_124 : co_law[124]? = some ((412, .iaload, 0, 0, 0, 0, 0, 0, []) : xm_I) := rfl
theorem r_law_125 : co_law[125]? = some ((413, .invokevirtual 35, 1639, 215, 2, 10, 0, 0, []) : xm_I) := rfl
theorem r_law_126 : co_law[126]? = some ((416, .if_icmp .eq 1303, 0, 0, 1109, 0, 0, 0, []) : xm_I) := rfl
theorem r_law_127 : co_law[127]? = some ((419, .iconst 0, 0, 0, 0, 0, 0, 0, []) : xm_I) := rfl
theorem r_law_128 : co_law[128]? = some ((420, .ireturn, 0, 0, 0, 3, 0, 0, []) : xm_I) := rfl
theorem r_law_129 : co_law[129]? = some ((421, .aload_n 1, 0, 0, 0, 0, 0, 0, []) : xm_I) := rfl
theorem r_law_130 : co_law[130]? = some ((422, .aload_n 0, 0, 0, 0, 0, 0, 0, []) : xm_I) := rfl
theorem r_law_131 : co_law[131]? = some ((423, .iload_n 3, 0, 0, 0, 0, 0, 0, []) : xm_I) := rfl
theorem r_law_132 : co_law[132]? = some ((424, .iconst 1, 0, 0, 0, 0, 1, 0, []) : xm_I) := rfl
theorem r_law_133 : co_law[133]? = some ((425, .iadd, 0, 0, 0, 0, 0, 0, []) : xm_I) := rfl
theorem r_law_134 : co_law[134]? = some ((426, .iaload, 0, 0, 0, 0, 0, 0, []) : xm_I) := rfl
theorem r_law_135 : co_law[135]? = some ((427, .invokevirtual 36, 730, 45, 2, 9, 0, 0, []) : xm_I) := rfl
theorem r_law_136 : co_law[136]? = some ((430, .aload_n 2, 0, 0, 0, 0, 0, 0, []) : xm_I) := rfl
theorem r_law_137 : co_law[137]? = some ((431, .aload_n 0, 0, 0, 0, 0, 0, 0, []) : xm_I) := rfl
theorem r_law_138 : co_law[138]? = some ((432, .iload_n 3, 0, 0, 0, 0, 0, 0, []) : xm_I) := rfl
theorem r_law_139 : co_law[139]? = some ((433, .iconst 1, 0, 0, 0, 0, 1, 0, []) : xm_I) := rfl
theorem r_law_140 : co_law[140]? = some ((434, .iadd, 0, 0, 0, 0, 0, 0, []) : xm_I) := rfl
theorem r_law_141 : co_law[141]? = some ((435, .iaload, 0, 0, 0, 0, 0, 0, []) : xm_I) := rfl
theorem r_law_142 : co_law[142]? = some ((436, .invokevirtual 39, 1723, 238, 2, 10, 0, 0, []) : xm_I) := rfl
theorem r_law_143 : co_law[143]? = some ((439, .if_icmp .eq 1280, 0, 0, 1109, 0, 0, 0, []) : xm_I) := rfl
theorem r_law_144 : co_law[144]? = some ((442, .iconst 0, 0, 0, 0, 0, 0, 0, []) : xm_I) := rfl
theorem r_law_145 : co_law[145]? = some ((443, .ireturn, 0, 0, 0, 3, 0, 0, []) : xm_I) := rfl
theorem r_law_146 : co_law[146]? = some ((444, .aload_n 1, 0, 0, 0, 0, 0, 0, []) : xm_I) := rfl
theorem r_law_147 : co_law[147]? = some ((445, .invokevirtual 40, 746, 49, 1, 9, 0, 0, []) : xm_I) := rfl
theorem r_law_148 : co_law[148]? = some ((448, .aload_n 2, 0, 0, 0, 0, 0, 0, []) : xm_I) := rfl
theorem r_law_149 : co_law[149]? = some ((449, .invokevirtual 43, 1731, 240, 1, 10, 0, 0, []) : xm_I) := rfl
theorem r_law_150 : co_law[150]? = some ((452, .if_icmp .eq 1267, 0, 0, 1109, 0, 0, 0, []) : xm_I) := rfl
set_option maxRecDepth 100000 in
theorem r_law_151 : co_law[151]? = some ((455, .iconst 0, 0, 0, 0, 0, 0, 0, []) : xm_I) := rfl
set_option maxRecDepth 100000 in
theorem r_law_152 : co_law[152]? = some ((456, .ireturn, 0, 0, 0, 3, 0, 0, []) : xm_I) := rfl
set_option maxRecDepth 100000 in
theorem r_law_153 : co_law[153]? = some ((457, .aload_n 1, 0, 0, 0, 0, 0, 0, []) : xm_I) := rfl
set_option maxRecDepth 100000 in
theorem r_law_154 : co_law[154]? = some ((458, .aload_n 0, 0, 0, 0, 0, 0, 0, []) : xm_I) := rfl
set_option maxRecDepth 100000 in
theorem r_law_155 : co_law[155]? = some ((459, .iload_n 3, 0, 0, 0, 0, 0, 0, []) : xm_I) := rfl
set_option maxRecDepth 100000 in
theorem r_law_156 : co_law[156]? = some ((460, .iconst 1, 0, 0, 0, 0, 1, 0, []) : xm_I) := rfl
set_option maxRecDepth 100000 in
theorem r_law_157 : co_law[157]? = some ((461, .iadd, 0, 0, 0, 0, 0, 0, []) : xm_I) := rfl
set_option maxRecDepth 100000 in
theorem r_law_158 : co_law[158]? = some ((462, .iaload, 0, 0, 0, 0, 0, 0, []) : xm_I) := rfl
set_option maxRecDepth 100000 in
theorem r_law_159 : co_law[159]? = some ((463, .invokevirtual 44, 750, 50, 2, 9, 0, 0, []) : xm_I) := rfl
set_option maxRecDepth 100000 in
theorem r_law_160 : co_law[160]? = some ((466, .aload_n 2, 0, 0, 0, 0, 0, 0, []) : xm_I) := rfl
set_option maxRecDepth 100000 in
theorem r_law_161 : co_law[161]? = some ((467, .aload_n 0, 0, 0, 0, 0, 0, 0, []) : xm_I) := rfl
set_option maxRecDepth 100000 in
theorem r_law_162 : co_law[162]? = some ((468, .iload_n 3, 0, 0, 0, 0, 0, 0, []) : xm_I) := rfl
set_option maxRecDepth 100000 in
theorem r_law_163 : co_law[163]? = some ((469, .iconst 1, 0, 0, 0, 0, 1, 0, []) : xm_I) := rfl
set_option maxRecDepth 100000 in
theorem r_law_164 : co_law[164]? = some ((470, .iadd, 0, 0, 0, 0, 0, 0, []) : xm_I) := rfl
set_option maxRecDepth 100000 in
theorem r_law_165 : co_law[165]? = some ((471, .iaload, 0, 0, 0, 0, 0, 0, []) : xm_I) := rfl
set_option maxRecDepth 100000 in
theorem r_law_166 : co_law[166]? = some ((472, .invokevirtual 47, 1735, 241, 2, 10, 0, 0, []) : xm_I) := rfl
set_option maxRecDepth 100000 in
theorem r_law_167 : co_law[167]? = some ((475, .if_icmp .eq 1244, 0, 0, 1109, 0, 0, 0, []) : xm_I) := rfl
set_option maxRecDepth 100000 in
theorem r_law_168 : co_law[168]? = some ((478, .iconst 0, 0, 0, 0, 0, 0, 0, []) : xm_I) := rfl
set_option maxRecDepth 100000 in
theorem r_law_169 : co_law[169]? = some ((479, .ireturn, 0, 0, 0, 3, 0, 0, []) : xm_I) := rfl
set_option maxRecDepth 100000 in
theorem r_law_170 : co_law[170]? = some ((480, .aload_n 1, 0, 0, 0, 0, 0, 0, []) : xm_I) := rfl
set_option maxRecDepth 100000 in
theorem r_law_171 : co_law[171]? = some ((481, .aload_n 0, 0, 0, 0, 0, 0, 0, []) : xm_I) := rfl
set_option maxRecDepth 100000 in
theorem r_law_172 : co_law[172]? = some ((482, .iload_n 3, 0, 0, 0, 0, 0, 0, []) : xm_I) := rfl
set_option maxRecDepth 100000 in
theorem r_law_173 : co_law[173]? = some ((483, .iconst 1, 0, 0, 0, 0, 1, 0, []) : xm_I) := rfl
set_option maxRecDepth 100000 in
theorem r_law_174 : co_law[174]? = some ((484, .iadd, 0, 0, 0, 0, 0, 0, []) : xm_I) := rfl
set_option maxRecDepth 100000 in
theorem r_law_175 : co_law[175]? = some ((485, .iaload, 0, 0, 0, 0, 0, 0, []) : xm_I) := rfl
set_option maxRecDepth 100000 in
theorem r_law_176 : co_law[176]? = some ((486, .invokevirtual 48, 777, 55, 2, 9, 0, 0, []) : xm_I) := rfl
set_option maxRecDepth 100000 in
theorem r_law_177 : co_law[177]? = some ((489, .aload_n 2, 0, 0, 0, 0, 0, 0, []) : xm_I) := rfl
set_option maxRecDepth 100000 in
theorem r_law_178 : co_law[178]? = some ((490, .aload_n 0, 0, 0, 0, 0, 0, 0, []) : xm_I) := rfl
set_option maxRecDepth 100000 in
theorem r_law_179 : co_law[179]? = some ((491, .iload_n 3, 0, 0, 0, 0, 0, 0, []) : xm_I) := rfl
set_option maxRecDepth 100000 in
theorem r_law_180 : co_law[180]? = some ((492, .iconst 1, 0, 0, 0, 0, 1, 0, []) : xm_I) := rfl
set_option maxRecDepth 100000 in
theorem r_law_181 : co_law[181]? = some ((493, .iadd, 0, 0, 0, 0, 0, 0, []) : xm_I) := rfl
set_option maxRecDepth 100000 in
theorem r_law_182 : co_law[182]? = some ((494, .iaload, 0, 0, 0, 0, 0, 0, []) : xm_I) := rfl
set_option maxRecDepth 100000 in
theorem r_law_183 : co_law[183]? = some ((495, .invokevirtual 51, 1743, 243, 2, 10, 0, 0, []) : xm_I) := rfl
set_option maxRecDepth 100000 in
theorem r_law_184 : co_law[184]? = some ((498, .if_icmp .eq 1221, 0, 0, 1109, 0, 0, 0, []) : xm_I) := rfl
set_option maxRecDepth 100000 in
theorem r_law_185 : co_law[185]? = some ((501, .iconst 0, 0, 0, 0, 0, 0, 0, []) : xm_I) := rfl
set_option maxRecDepth 100000 in
theorem r_law_186 : co_law[186]? = some ((502, .ireturn, 0, 0, 0, 3, 0, 0, []) : xm_I) := rfl
set_option maxRecDepth 100000 in
theorem r_law_187 : co_law[187]? = some ((503, .aload_n 1, 0, 0, 0, 0, 0, 0, []) : xm_I) := rfl
set_option maxRecDepth 100000 in
theorem r_law_188 : co_law[188]? = some ((504, .invokevirtual 52, 802, 61, 1, 9, 0, 0, []) : xm_I) := rfl
set_option maxRecDepth 100000 in
theorem r_law_189 : co_law[189]? = some ((507, .aload_n 2, 0, 0, 0, 0, 0, 0, []) : xm_I) := rfl
set_option maxRecDepth 100000 in
theorem r_law_190 : co_law[190]? = some ((508, .invokevirtual 55, 1762, 248, 1, 10, 0, 0, []) : xm_I) := rfl
set_option maxRecDepth 100000 in
theorem r_law_191 : co_law[191]? = some ((511, .if_icmp .eq 1208, 0, 0, 1109, 0, 0, 0, []) : xm_I) := rfl
set_option maxRecDepth 100000 in
theorem r_law_192 : co_law[192]? = some ((514, .iconst 0, 0, 0, 0, 0, 0, 0, []) : xm_I) := rfl
set_option maxRecDepth 100000 in
theorem r_law_193 : co_law[193]? = some ((515, .ireturn, 0, 0, 0, 3, 0, 0, []) : xm_I) := rfl
set_option maxRecDepth 100000 in
theorem r_law_194 : co_law[194]? = some ((516, .aload_n 1, 0, 0, 0, 0, 0, 0, []) : xm_I) := rfl
set_option maxRecDepth 100000 in
theorem r_law_195 : co_law[195]? = some ((517, .aload_n 0, 0, 0, 0, 0, 0, 0, []) : xm_I) := rfl
set_option maxRecDepth 100000 in
theorem r_law_196 : co_law[196]? = some ((518, .iload_n 3, 0, 0, 0, 0, 0, 0, []) : xm_I) := rfl
set_option maxRecDepth 100000 in
theorem r_law_197 : co_law[197]? = some ((519, .iconst 1, 0, 0, 0, 0, 1, 0, []) : xm_I) := rfl
set_option maxRecDepth 100000 in
theorem r_law_198 : co_law[198]? = some ((520, .iadd, 0, 0, 0, 0, 0, 0, []) : xm_I) := rfl
set_option maxRecDepth 100000 in
theorem r_law_199 : co_law[199]? = some ((521, .iaload, 0, 0, 0, 0, 0, 0, []) : xm_I) := rfl
set_option maxRecDepth 100000 in
theorem r_law_200 : co_law[200]? = some ((522, .invokevirtual 56, 812, 63, 2, 9, 0, 0, []) : xm_I) := rfl
set_option maxRecDepth 100000 in
theorem r_law_201 : co_law[201]? = some ((525, .aload_n 2, 0, 0, 0, 0, 0, 0, []) : xm_I) := rfl
set_option maxRecDepth 100000 in
theorem r_law_202 : co_law[202]? = some ((526, .aload_n 0, 0, 0, 0, 0, 0, 0, []) : xm_I) := rfl
set_option maxRecDepth 100000 in
theorem r_law_203 : co_law[203]? = some ((527, .iload_n 3, 0, 0, 0, 0, 0, 0, []) : xm_I) := rfl
set_option maxRecDepth 100000 in
theorem r_law_204 : co_law[204]? = some ((528, .iconst 1, 0, 0, 0, 0, 1, 0, []) : xm_I) := rfl
set_option maxRecDepth 100000 in
theorem r_law_205 : co_law[205]? = some ((529, .iadd, 0, 0, 0, 0, 0, 0, []) : xm_I) := rfl
set_option maxRecDepth 100000 in
theorem r_law_206 : co_law[206]? = some ((530, .iaload, 0, 0, 0, 0, 0, 0, []) : xm_I) := rfl
set_option maxRecDepth 100000 in
theorem r_law_207 : co_law[207]? = some ((531, .invokevirtual 59, 1766, 249, 2, 10, 0, 0, []) : xm_I) := rfl
set_option maxRecDepth 100000 in
theorem r_law_208 : co_law[208]? = some ((534, .if_icmp .eq 1185, 0, 0, 1109, 0, 0, 0, []) : xm_I) := rfl
set_option maxRecDepth 100000 in
theorem r_law_209 : co_law[209]? = some ((537, .iconst 0, 0, 0, 0, 0, 0, 0, []) : xm_I) := rfl
set_option maxRecDepth 100000 in
theorem r_law_210 : co_law[210]? = some ((538, .ireturn, 0, 0, 0, 3, 0, 0, []) : xm_I) := rfl
set_option maxRecDepth 100000 in
theorem r_law_211 : co_law[211]? = some ((539, .aload_n 1, 0, 0, 0, 0, 0, 0, []) : xm_I) := rfl
set_option maxRecDepth 100000 in
theorem r_law_212 : co_law[212]? = some ((540, .invokevirtual 60, 820, 65, 1, 9, 0, 0, []) : xm_I) := rfl
set_option maxRecDepth 100000 in
theorem r_law_213 : co_law[213]? = some ((543, .aload_n 2, 0, 0, 0, 0, 0, 0, []) : xm_I) := rfl
set_option maxRecDepth 100000 in
theorem r_law_214 : co_law[214]? = some ((544, .invokevirtual 63, 1770, 250, 1, 10, 0, 0, []) : xm_I) := rfl
set_option maxRecDepth 100000 in
theorem r_law_215 : co_law[215]? = some ((547, .if_icmp .eq 1172, 0, 0, 1109, 0, 0, 0, []) : xm_I) := rfl
set_option maxRecDepth 100000 in
theorem r_law_216 : co_law[216]? = some ((550, .iconst 0, 0, 0, 0, 0, 0, 0, []) : xm_I) := rfl
set_option maxRecDepth 100000 in
theorem r_law_217 : co_law[217]? = some ((551, .ireturn, 0, 0, 0, 3, 0, 0, []) : xm_I) := rfl
set_option maxRecDepth 100000 in
theorem r_law_218 : co_law[218]? = some ((552, .aload_n 1, 0, 0, 0, 0, 0, 0, []) : xm_I) := rfl
set_option maxRecDepth 100000 in
theorem r_law_219 : co_law[219]? = some ((553, .aload_n 0, 0, 0, 0, 0, 0, 0, []) : xm_I) := rfl
set_option maxRecDepth 100000 in
theorem r_law_220 : co_law[220]? = some ((554, .iload_n 3, 0, 0, 0, 0, 0, 0, []) : xm_I) := rfl
set_option maxRecDepth 100000 in
theorem r_law_221 : co_law[221]? = some ((555, .iconst 1, 0, 0, 0, 0, 1, 0, []) : xm_I) := rfl
set_option maxRecDepth 100000 in
theorem r_law_222 : co_law[222]? = some ((556, .iadd, 0, 0, 0, 0, 0, 0, []) : xm_I) := rfl
set_option maxRecDepth 100000 in
theorem r_law_223 : co_law[223]? = some ((557, .iaload, 0, 0, 0, 0, 0, 0, []) : xm_I) := rfl
set_option maxRecDepth 100000 in
theorem r_law_224 : co_law[224]? = some ((558, .invokevirtual 64, 824, 66, 2, 9, 0, 0, []) : xm_I) := rfl
set_option maxRecDepth 100000 in
theorem r_law_225 : co_law[225]? = some ((561, .aload_n 2, 0, 0, 0, 0, 0, 0, []) : xm_I) := rfl
set_option maxRecDepth 100000 in
theorem r_law_226 : co_law[226]? = some ((562, .aload_n 0, 0, 0, 0, 0, 0, 0, []) : xm_I) := rfl
set_option maxRecDepth 100000 in
theorem r_law_227 : co_law[227]? = some ((563, .iload_n 3, 0, 0, 0, 0, 0, 0, []) : xm_I) := rfl
set_option maxRecDepth 100000 in
theorem r_law_228 : co_law[228]? = some ((564, .iconst 1, 0, 0, 0, 0, 1, 0, []) : xm_I) := rfl
set_option maxRecDepth 100000 in
theorem r_law_229 : co_law[229]? = some ((565, .iadd, 0, 0, 0, 0, 0, 0, []) : xm_I) := rfl
set_option maxRecDepth 100000 in
theorem r_law_230 : co_law[230]? = some ((566, .iaload, 0, 0, 0, 0, 0, 0, []) : xm_I) := rfl
set_option maxRecDepth 100000 in
theorem r_law_231 : co_law[231]? = some ((567, .invokevirtual 67, 1774, 251, 2, 10, 0, 0, []) : xm_I) := rfl
set_option maxRecDepth 100000 in
theorem r_law_232 : co_law[232]? = some ((570, .if_icmp .eq 1149, 0, 0, 1109, 0, 0, 0, []) : xm_I) := rfl
set_option maxRecDepth 100000 in
theorem r_law_233 : co_law[233]? = some ((573, .iconst 0, 0, 0, 0, 0, 0, 0, []) : xm_I) := rfl
set_option maxRecDepth 100000 in
theorem r_law_234 : co_law[234]? = some ((574, .ireturn, 0, 0, 0, 3, 0, 0, []) : xm_I) := rfl
set_option maxRecDepth 100000 in
theorem r_law_235 : co_law[235]? = some ((575, .aload_n 1, 0, 0, 0, 0, 0, 0, []) : xm_I) := rfl
set_option maxRecDepth 100000 in
theorem r_law_236 : co_law[236]? = some ((576, .aload_n 0, 0, 0, 0, 0, 0, 0, []) : xm_I) := rfl
set_option maxRecDepth 100000 in
theorem r_law_237 : co_law[237]? = some ((577, .iload_n 3, 0, 0, 0, 0, 0, 0, []) : xm_I) := rfl
set_option maxRecDepth 100000 in
theorem r_law_238 : co_law[238]? = some ((578, .iconst 1, 0, 0, 0, 0, 1, 0, []) : xm_I) := rfl
set_option maxRecDepth 100000 in
theorem r_law_239 : co_law[239]? = some ((579, .iadd, 0, 0, 0, 0, 0, 0, []) : xm_I) := rfl
set_option maxRecDepth 100000 in
theorem r_law_240 : co_law[240]? = some ((580, .iaload, 0, 0, 0, 0, 0, 0, []) : xm_I) := rfl
set_option maxRecDepth 100000 in
theorem r_law_241 : co_law[241]? = some ((581, .aload_n 0, 0, 0, 0, 0, 0, 0, []) : xm_I) := rfl
set_option maxRecDepth 100000 in
theorem r_law_242 : co_law[242]? = some ((582, .iload_n 3, 0, 0, 0, 0, 0, 0, []) : xm_I) := rfl
set_option maxRecDepth 100000 in
theorem r_law_243 : co_law[243]? = some ((583, .iconst 2, 0, 0, 0, 0, 2, 0, []) : xm_I) := rfl
set_option maxRecDepth 100000 in
theorem r_law_244 : co_law[244]? = some ((584, .iadd, 0, 0, 0, 0, 0, 0, []) : xm_I) := rfl
set_option maxRecDepth 100000 in
theorem r_law_245 : co_law[245]? = some ((585, .iaload, 0, 0, 0, 0, 0, 0, []) : xm_I) := rfl
set_option maxRecDepth 100000 in
theorem r_law_246 : co_law[246]? = some ((586, .invokevirtual 68, 859, 74, 3, 9, 0, 0, []) : xm_I) := rfl
set_option maxRecDepth 100000 in
theorem r_law_247 : co_law[247]? = some ((589, .aload_n 2, 0, 0, 0, 0, 0, 0, []) : xm_I) := rfl
set_option maxRecDepth 100000 in
theorem r_law_248 : co_law[248]? = some ((590, .aload_n 0, 0, 0, 0, 0, 0, 0, []) : xm_I) := rfl
set_option maxRecDepth 100000 in
theorem r_law_249 : co_law[249]? = some ((591, .iload_n 3, 0, 0, 0, 0, 0, 0, []) : xm_I) := rfl
set_option maxRecDepth 100000 in
theorem r_law_250 : co_law[250]? = some ((592, .iconst 1, 0, 0, 0, 0, 1, 0, []) : xm_I) := rfl
set_option maxRecDepth 100000 in
theorem r_law_251 : co_law[251]? = some ((593, .iadd, 0, 0, 0, 0, 0, 0, []) : xm_I) := rfl
set_option maxRecDepth 100000 in
theorem r_law_252 : co_law[252]? = some ((594, .iaload, 0, 0, 0, 0, 0, 0, []) : xm_I) := rfl
set_option maxRecDepth 100000 in
theorem r_law_253 : co_law[253]? = some ((595, .aload_n 0, 0, 0, 0, 0, 0, 0, []) : xm_I) := rfl
set_option maxRecDepth 100000 in
theorem r_law_254 : co_law[254]? = some ((596, .iload_n 3, 0, 0, 0, 0, 0, 0, []) : xm_I) := rfl
set_option maxRecDepth 100000 in
theorem r_law_255 : co_law[255]? = some ((597, .iconst 2, 0, 0, 0, 0, 2, 0, []) : xm_I) := rfl
set_option maxRecDepth 100000 in
theorem r_law_256 : co_law[256]? = some ((598, .iadd, 0, 0, 0, 0, 0, 0, []) : xm_I) := rfl
set_option maxRecDepth 100000 in
theorem r_law_257 : co_law[257]? = some ((599, .iaload, 0, 0, 0, 0, 0, 0, []) : xm_I) := rfl
set_option maxRecDepth 100000 in
theorem r_law_258 : co_law[258]? = some ((600, .invokevirtual 72, 1794, 256, 3, 10, 0, 0, []) : xm_I) := rfl
set_option maxRecDepth 100000 in
theorem r_law_259 : co_law[259]? = some ((603, .if_icmp .eq 1116, 0, 0, 1109, 0, 0, 0, []) : xm_I) := rfl
set_option maxRecDepth 100000 in
theorem r_law_260 : co_law[260]? = some ((606, .iconst 0, 0, 0, 0, 0, 0, 0, []) : xm_I) := rfl
set_option maxRecDepth 100000 in
theorem r_law_261 : co_law[261]? = some ((607, .ireturn, 0, 0, 0, 3, 0, 0, []) : xm_I) := rfl
set_option maxRecDepth 100000 in
theorem r_law_262 : co_law[262]? = some ((608, .aload_n 1, 0, 0, 0, 0, 0, 0, []) : xm_I) := rfl
set_option maxRecDepth 100000 in
theorem r_law_263 : co_law[263]? = some ((609, .invokevirtual 73, 869, 77, 1, 9, 0, 0, []) : xm_I) := rfl
set_option maxRecDepth 100000 in
theorem r_law_264 : co_law[264]? = some ((612, .aload_n 2, 0, 0, 0, 0, 0, 0, []) : xm_I) := rfl
set_option maxRecDepth 100000 in
theorem r_law_265 : co_law[265]? = some ((613, .invokevirtual 76, 1798, 257, 1, 10, 0, 0, []) : xm_I) := rfl
set_option maxRecDepth 100000 in
theorem r_law_266 : co_law[266]? = some ((616, .if_icmp .eq 1103, 0, 0, 1109, 0, 0, 0, []) : xm_I) := rfl
set_option maxRecDepth 100000 in
theorem r_law_267 : co_law[267]? = some ((619, .iconst 0, 0, 0, 0, 0, 0, 0, []) : xm_I) := rfl
set_option maxRecDepth 100000 in
theorem r_law_268 : co_law[268]? = some ((620, .ireturn, 0, 0, 0, 3, 0, 0, []) : xm_I) := rfl
set_option maxRecDepth 100000 in
theorem r_law_269 : co_law[269]? = some ((621, .aload_n 1, 0, 0, 0, 0, 0, 0, []) : xm_I) := rfl
set_option maxRecDepth 100000 in
theorem r_law_270 : co_law[270]? = some ((622, .aload_n 0, 0, 0, 0, 0, 0, 0, []) : xm_I) := rfl
set_option maxRecDepth 100000 in
theorem r_law_271 : co_law[271]? = some ((623, .iload_n 3, 0, 0, 0, 0, 0, 0, []) : xm_I) := rfl
set_option maxRecDepth 100000 in
theorem r_law_272 : co_law[272]? = some ((624, .iconst 1, 0, 0, 0, 0, 1, 0, []) : xm_I) := rfl
set_option maxRecDepth 100000 in
theorem r_law_273 : co_law[273]? = some ((625, .iadd, 0, 0, 0, 0, 0, 0, []) : xm_I) := rfl
set_option maxRecDepth 100000 in
theorem r_law_274 : co_law[274]? = some ((626, .iaload, 0, 0, 0, 0, 0, 0, []) : xm_I) := rfl
set_option maxRecDepth 100000 in
theorem r_law_275 : co_law[275]? = some ((627, .invokevirtual 77, 933, 90, 2, 9, 0, 0, []) : xm_I) := rfl
set_option maxRecDepth 100000 in
theorem r_law_276 : co_law[276]? = some ((630, .aload_n 2, 0, 0, 0, 0, 0, 0, []) : xm_I) := rfl
set_option maxRecDepth 100000 in
theorem r_law_277 : co_law[277]? = some ((631, .aload_n 0, 0, 0, 0, 0, 0, 0, []) : xm_I) := rfl
set_option maxRecDepth 100000 in
theorem r_law_278 : co_law[278]? = some ((632, .iload_n 3, 0, 0, 0, 0, 0, 0, []) : xm_I) := rfl
set_option maxRecDepth 100000 in
theorem r_law_279 : co_law[279]? = some ((633, .iconst 1, 0, 0, 0, 0, 1, 0, []) : xm_I) := rfl
set_option maxRecDepth 100000 in
theorem r_law_280 : co_law[280]? = some ((634, .iadd, 0, 0, 0, 0, 0, 0, []) : xm_I) := rfl
set_option maxRecDepth 100000 in
theorem r_law_281 : co_law[281]? = some ((635, .iaload, 0, 0, 0, 0, 0, 0, []) : xm_I) := rfl
set_option maxRecDepth 100000 in
theorem r_law_282 : co_law[282]? = some ((636, .invokevirtual 80, 1843, 268, 2, 10, 0, 0, []) : xm_I) := rfl
set_option maxRecDepth 100000 in
theorem r_law_283 : co_law[283]? = some ((639, .if_icmp .eq 1080, 0, 0, 1109, 0, 0, 0, []) : xm_I) := rfl
set_option maxRecDepth 100000 in
theorem r_law_284 : co_law[284]? = some ((642, .iconst 0, 0, 0, 0, 0, 0, 0, []) : xm_I) := rfl
set_option maxRecDepth 100000 in
theorem r_law_285 : co_law[285]? = some ((643, .ireturn, 0, 0, 0, 3, 0, 0, []) : xm_I) := rfl
set_option maxRecDepth 100000 in
theorem r_law_286 : co_law[286]? = some ((644, .aload_n 1, 0, 0, 0, 0, 0, 0, []) : xm_I) := rfl
set_option maxRecDepth 100000 in
theorem r_law_287 : co_law[287]? = some ((645, .invokevirtual 81, 946, 93, 1, 9, 0, 0, []) : xm_I) := rfl
set_option maxRecDepth 100000 in
theorem r_law_288 : co_law[288]? = some ((648, .aload_n 2, 0, 0, 0, 0, 0, 0, []) : xm_I) := rfl
set_option maxRecDepth 100000 in
theorem r_law_289 : co_law[289]? = some ((649, .invokevirtual 84, 1859, 272, 1, 10, 0, 0, []) : xm_I) := rfl
set_option maxRecDepth 100000 in
theorem r_law_290 : co_law[290]? = some ((652, .if_icmp .eq 1067, 0, 0, 1109, 0, 0, 0, []) : xm_I) := rfl
set_option maxRecDepth 100000 in
theorem r_law_291 : co_law[291]? = some ((655, .iconst 0, 0, 0, 0, 0, 0, 0, []) : xm_I) := rfl
set_option maxRecDepth 100000 in
theorem r_law_292 : co_law[292]? = some ((656, .ireturn, 0, 0, 0, 3, 0, 0, []) : xm_I) := rfl
set_option maxRecDepth 100000 in
theorem r_law_293 : co_law[293]? = some ((657, .aload_n 1, 0, 0, 0, 0, 0, 0, []) : xm_I) := rfl
set_option maxRecDepth 100000 in
theorem r_law_294 : co_law[294]? = some ((658, .aload_n 0, 0, 0, 0, 0, 0, 0, []) : xm_I) := rfl
set_option maxRecDepth 100000 in
theorem r_law_295 : co_law[295]? = some ((659, .iload_n 3, 0, 0, 0, 0, 0, 0, []) : xm_I) := rfl
set_option maxRecDepth 100000 in
theorem r_law_296 : co_law[296]? = some ((660, .iconst 1, 0, 0, 0, 0, 1, 0, []) : xm_I) := rfl
set_option maxRecDepth 100000 in
theorem r_law_297 : co_law[297]? = some ((661, .iadd, 0, 0, 0, 0, 0, 0, []) : xm_I) := rfl
set_option maxRecDepth 100000 in
theorem r_law_298 : co_law[298]? = some ((662, .iaload, 0, 0, 0, 0, 0, 0, []) : xm_I) := rfl
set_option maxRecDepth 100000 in
theorem r_law_299 : co_law[299]? = some ((663, .invokevirtual 85, 965, 97, 2, 9, 0, 0, []) : xm_I) := rfl
set_option maxRecDepth 100000 in
theorem r_law_300 : co_law[300]? = some ((666, .aload_n 2, 0, 0, 0, 0, 0, 0, []) : xm_I) := rfl
set_option maxRecDepth 100000 in
theorem r_law_301 : co_law[301]? = some ((667, .aload_n 0, 0, 0, 0, 0, 0, 0, []) : xm_I) := rfl
set_option maxRecDepth 100000 in
theorem r_law_302 : co_law[302]? = some ((668, .iload_n 3, 0, 0, 0, 0, 0, 0, []) : xm_I) := rfl
set_option maxRecDepth 100000 in
theorem r_law_303 : co_law[303]? = some ((669, .iconst 1, 0, 0, 0, 0, 1, 0, []) : xm_I) := rfl
set_option maxRecDepth 100000 in
theorem r_law_304 : co_law[304]? = some ((670, .iadd, 0, 0, 0, 0, 0, 0, []) : xm_I) := rfl
set_option maxRecDepth 100000 in
theorem r_law_305 : co_law[305]? = some ((671, .iaload, 0, 0, 0, 0, 0, 0, []) : xm_I) := rfl
set_option maxRecDepth 100000 in
theorem r_law_306 : co_law[306]? = some ((672, .invokevirtual 88, 1863, 273, 2, 10, 0, 0, []) : xm_I) := rfl
set_option maxRecDepth 100000 in
theorem r_law_307 : co_law[307]? = some ((675, .if_icmp .eq 1044, 0, 0, 1109, 0, 0, 0, []) : xm_I) := rfl
set_option maxRecDepth 100000 in
theorem r_law_308 : co_law[308]? = some ((678, .iconst 0, 0, 0, 0, 0, 0, 0, []) : xm_I) := rfl
set_option maxRecDepth 100000 in
theorem r_law_309 : co_law[309]? = some ((679, .ireturn, 0, 0, 0, 3, 0, 0, []) : xm_I) := rfl
set_option maxRecDepth 100000 in
theorem r_law_310 : co_law[310]? = some ((680, .aload_n 1, 0, 0, 0, 0, 0, 0, []) : xm_I) := rfl
set_option maxRecDepth 100000 in
theorem r_law_311 : co_law[311]? = some ((681, .invokevirtual 89, 978, 100, 1, 9, 0, 0, []) : xm_I) := rfl
set_option maxRecDepth 100000 in
theorem r_law_312 : co_law[312]? = some ((684, .aload_n 2, 0, 0, 0, 0, 0, 0, []) : xm_I) := rfl
set_option maxRecDepth 100000 in
theorem r_law_313 : co_law[313]? = some ((685, .invokevirtual 92, 1867, 274, 1, 10, 0, 0, []) : xm_I) := rfl
set_option maxRecDepth 100000 in
theorem r_law_314 : co_law[314]? = some ((688, .if_icmp .eq 1031, 0, 0, 1109, 0, 0, 0, []) : xm_I) := rfl
set_option maxRecDepth 100000 in
theorem r_law_315 : co_law[315]? = some ((691, .iconst 0, 0, 0, 0, 0, 0, 0, []) : xm_I) := rfl
set_option maxRecDepth 100000 in
theorem r_law_316 : co_law[316]? = some ((692, .ireturn, 0, 0, 0, 3, 0, 0, []) : xm_I) := rfl
set_option maxRecDepth 100000 in
theorem r_law_317 : co_law[317]? = some ((693, .aload_n 1, 0, 0, 0, 0, 0, 0, []) : xm_I) := rfl
set_option maxRecDepth 100000 in
theorem r_law_318 : co_law[318]? = some ((694, .aload_n 0, 0, 0, 0, 0, 0, 0, []) : xm_I) := rfl
set_option maxRecDepth 100000 in
theorem r_law_319 : co_law[319]? = some ((695, .iload_n 3, 0, 0, 0, 0, 0, 0, []) : xm_I) := rfl
set_option maxRecDepth 100000 in
theorem r_law_320 : co_law[320]? = some ((696, .iconst 1, 0, 0, 0, 0, 1, 0, []) : xm_I) := rfl
set_option maxRecDepth 100000 in
theorem r_law_321 : co_law[321]? = some ((697, .iadd, 0, 0, 0, 0, 0, 0, []) : xm_I) := rfl
set_option maxRecDepth 100000 in
theorem r_law_322 : co_law[322]? = some ((698, .iaload, 0, 0, 0, 0, 0, 0, []) : xm_I) := rfl
set_option maxRecDepth 100000 in
theorem r_law_323 : co_law[323]? = some ((699, .invokevirtual 93, 986, 102, 2, 9, 0, 0, []) : xm_I) := rfl
set_option maxRecDepth 100000 in
theorem r_law_324 : co_law[324]? = some ((702, .aload_n 2, 0, 0, 0, 0, 0, 0, []) : xm_I) := rfl
set_option maxRecDepth 100000 in
theorem r_law_325 : co_law[325]? = some ((703, .aload_n 0, 0, 0, 0, 0, 0, 0, []) : xm_I) := rfl
set_option maxRecDepth 100000 in
theorem r_law_326 : co_law[326]? = some ((704, .iload_n 3, 0, 0, 0, 0, 0, 0, []) : xm_I) := rfl
set_option maxRecDepth 100000 in
theorem r_law_327 : co_law[327]? = some ((705, .iconst 1, 0, 0, 0, 0, 1, 0, []) : xm_I) := rfl
set_option maxRecDepth 100000 in
theorem r_law_328 : co_law[328]? = some ((706, .iadd, 0, 0, 0, 0, 0, 0, []) : xm_I) := rfl
set_option maxRecDepth 100000 in
theorem r_law_329 : co_law[329]? = some ((707, .iaload, 0, 0, 0, 0, 0, 0, []) : xm_I) := rfl
set_option maxRecDepth 100000 in
theorem r_law_330 : co_law[330]? = some ((708, .invokevirtual 96, 1871, 275, 2, 10, 0, 0, []) : xm_I) := rfl
set_option maxRecDepth 100000 in
theorem r_law_331 : co_law[331]? = some ((711, .if_icmp .eq 1008, 0, 0, 1109, 0, 0, 0, []) : xm_I) := rfl
set_option maxRecDepth 100000 in
theorem r_law_332 : co_law[332]? = some ((714, .iconst 0, 0, 0, 0, 0, 0, 0, []) : xm_I) := rfl
set_option maxRecDepth 100000 in
theorem r_law_333 : co_law[333]? = some ((715, .ireturn, 0, 0, 0, 3, 0, 0, []) : xm_I) := rfl
set_option maxRecDepth 100000 in
theorem r_law_334 : co_law[334]? = some ((716, .aload_n 1, 0, 0, 0, 0, 0, 0, []) : xm_I) := rfl
set_option maxRecDepth 100000 in
theorem r_law_335 : co_law[335]? = some ((717, .aload_n 0, 0, 0, 0, 0, 0, 0, []) : xm_I) := rfl
set_option maxRecDepth 100000 in
theorem r_law_336 : co_law[336]? = some ((718, .iload_n 3, 0, 0, 0, 0, 0, 0, []) : xm_I) := rfl
set_option maxRecDepth 100000 in
theorem r_law_337 : co_law[337]? = some ((719, .iconst 1, 0, 0, 0, 0, 1, 0, []) : xm_I) := rfl
set_option maxRecDepth 100000 in
theorem r_law_338 : co_law[338]? = some ((720, .iadd, 0, 0, 0, 0, 0, 0, []) : xm_I) := rfl
set_option maxRecDepth 100000 in
theorem r_law_339 : co_law[339]? = some ((721, .iaload, 0, 0, 0, 0, 0, 0, []) : xm_I) := rfl
set_option maxRecDepth 100000 in
theorem r_law_340 : co_law[340]? = some ((722, .invokevirtual 97, 990, 103, 2, 9, 0, 0, []) : xm_I) := rfl
set_option maxRecDepth 100000 in
theorem r_law_341 : co_law[341]? = some ((725, .aload_n 2, 0, 0, 0, 0, 0, 0, []) : xm_I) := rfl
set_option maxRecDepth 100000 in
theorem r_law_342 : co_law[342]? = some ((726, .aload_n 0, 0, 0, 0, 0, 0, 0, []) : xm_I) := rfl
set_option maxRecDepth 100000 in
theorem r_law_343 : co_law[343]? = some ((727, .iload_n 3, 0, 0, 0, 0, 0, 0, []) : xm_I) := rfl
set_option maxRecDepth 100000 in
theorem r_law_344 : co_law[344]? = some ((728, .iconst 1, 0, 0, 0, 0, 1, 0, []) : xm_I) := rfl
set_option maxRecDepth 100000 in
theorem r_law_345 : co_law[345]? = some ((729, .iadd, 0, 0, 0, 0, 0, 0, []) : xm_I) := rfl
set_option maxRecDepth 100000 in
theorem r_law_346 : co_law[346]? = some ((730, .iaload, 0, 0, 0, 0, 0, 0, []) : xm_I) := rfl
set_option maxRecDepth 100000 in
theorem r_law_347 : co_law[347]? = some ((731, .invokevirtual 100, 1875, 276, 2, 10, 0, 0, []) : xm_I) := rfl
set_option maxRecDepth 100000 in
theorem r_law_348 : co_law[348]? = some ((734, .if_icmp .eq 985, 0, 0, 1109, 0, 0, 0, []) : xm_I) := rfl
set_option maxRecDepth 100000 in
theorem r_law_349 : co_law[349]? = some ((737, .iconst 0, 0, 0, 0, 0, 0, 0, []) : xm_I) := rfl
set_option maxRecDepth 100000 in
theorem r_law_350 : co_law[350]? = some ((738, .ireturn, 0, 0, 0, 3, 0, 0, []) : xm_I) := rfl
set_option maxRecDepth 100000 in
theorem r_law_351 : co_law[351]? = some ((739, .aload_n 1, 0, 0, 0, 0, 0, 0, []) : xm_I) := rfl
set_option maxRecDepth 100000 in
theorem r_law_352 : co_law[352]? = some ((740, .invokevirtual 101, 994, 104, 1, 9, 0, 0, []) : xm_I) := rfl
set_option maxRecDepth 100000 in
theorem r_law_353 : co_law[353]? = some ((743, .aload_n 2, 0, 0, 0, 0, 0, 0, []) : xm_I) := rfl
set_option maxRecDepth 100000 in
theorem r_law_354 : co_law[354]? = some ((744, .invokevirtual 104, 1880, 277, 1, 10, 0, 0, []) : xm_I) := rfl
set_option maxRecDepth 100000 in
theorem r_law_355 : co_law[355]? = some ((747, .if_icmp .eq 972, 0, 0, 1109, 0, 0, 0, []) : xm_I) := rfl
set_option maxRecDepth 100000 in
theorem r_law_356 : co_law[356]? = some ((750, .iconst 0, 0, 0, 0, 0, 0, 0, []) : xm_I) := rfl
set_option maxRecDepth 100000 in
theorem r_law_357 : co_law[357]? = some ((751, .ireturn, 0, 0, 0, 3, 0, 0, []) : xm_I) := rfl
set_option maxRecDepth 100000 in
theorem r_law_358 : co_law[358]? = some ((752, .aload_n 1, 0, 0, 0, 0, 0, 0, []) : xm_I) := rfl
set_option maxRecDepth 100000 in
theorem r_law_359 : co_law[359]? = some ((753, .invokevirtual 105, 1003, 106, 1, 9, 0, 0, []) : xm_I) := rfl
set_option maxRecDepth 100000 in
theorem r_law_360 : co_law[360]? = some ((756, .aload_n 2, 0, 0, 0, 0, 0, 0, []) : xm_I) := rfl
set_option maxRecDepth 100000 in
theorem r_law_361 : co_law[361]? = some ((757, .invokevirtual 108, 1884, 278, 1, 10, 0, 0, []) : xm_I) := rfl
set_option maxRecDepth 100000 in
theorem r_law_362 : co_law[362]? = some ((760, .if_icmp .eq 959, 0, 0, 1109, 0, 0, 0, []) : xm_I) := rfl
set_option maxRecDepth 100000 in
theorem r_law_363 : co_law[363]? = some ((763, .iconst 0, 0, 0, 0, 0, 0, 0, []) : xm_I) := rfl
set_option maxRecDepth 100000 in
theorem r_law_364 : co_law[364]? = some ((764, .ireturn, 0, 0, 0, 3, 0, 0, []) : xm_I) := rfl
set_option maxRecDepth 100000 in
theorem r_law_365 : co_law[365]? = some ((765, .aload_n 1, 0, 0, 0, 0, 0, 0, []) : xm_I) := rfl
set_option maxRecDepth 100000 in
theorem r_law_366 : co_law[366]? = some ((766, .aload_n 0, 0, 0, 0, 0, 0, 0, []) : xm_I) := rfl
set_option maxRecDepth 100000 in
theorem r_law_367 : co_law[367]? = some ((767, .iload_n 3, 0, 0, 0, 0, 0, 0, []) : xm_I) := rfl
set_option maxRecDepth 100000 in
theorem r_law_368 : co_law[368]? = some ((768, .iconst 1, 0, 0, 0, 0, 1, 0, []) : xm_I) := rfl
set_option maxRecDepth 100000 in
theorem r_law_369 : co_law[369]? = some ((769, .iadd, 0, 0, 0, 0, 0, 0, []) : xm_I) := rfl
set_option maxRecDepth 100000 in
theorem r_law_370 : co_law[370]? = some ((770, .iaload, 0, 0, 0, 0, 0, 0, []) : xm_I) := rfl
set_option maxRecDepth 100000 in
theorem r_law_371 : co_law[371]? = some ((771, .aload_n 0, 0, 0, 0, 0, 0, 0, []) : xm_I) := rfl
set_option maxRecDepth 100000 in
theorem r_law_372 : co_law[372]? = some ((772, .iload_n 3, 0, 0, 0, 0, 0, 0, []) : xm_I) := rfl
set_option maxRecDepth 100000 in
theorem r_law_373 : co_law[373]? = some ((773, .iconst 2, 0, 0, 0, 0, 2, 0, []) : xm_I) := rfl
set_option maxRecDepth 100000 in
theorem r_law_374 : co_law[374]? = some ((774, .iadd, 0, 0, 0, 0, 0, 0, []) : xm_I) := rfl
set_option maxRecDepth 100000 in
theorem r_law_375 : co_law[375]? = some ((775, .iaload, 0, 0, 0, 0, 0, 0, []) : xm_I) := rfl
set_option maxRecDepth 100000 in
theorem r_law_376 : co_law[376]? = some ((776, .invokevirtual 109, 1007, 107, 3, 9, 0, 0, []) : xm_I) := rfl
set_option maxRecDepth 100000 in
theorem r_law_377 : co_law[377]? = some ((779, .aload_n 2, 0, 0, 0, 0, 0, 0, []) : xm_I) := rfl
set_option maxRecDepth 100000 in
theorem r_law_378 : co_law[378]? = some ((780, .aload_n 0, 0, 0, 0, 0, 0, 0, []) : xm_I) := rfl
set_option maxRecDepth 100000 in
theorem r_law_379 : co_law[379]? = some ((781, .iload_n 3, 0, 0, 0, 0, 0, 0, []) : xm_I) := rfl
set_option maxRecDepth 100000 in
theorem r_law_380 : co_law[380]? = some ((782, .iconst 1, 0, 0, 0, 0, 1, 0, []) : xm_I) := rfl
set_option maxRecDepth 100000 in
theorem r_law_381 : co_law[381]? = some ((783, .iadd, 0, 0, 0, 0, 0, 0, []) : xm_I) := rfl
set_option maxRecDepth 100000 in
theorem r_law_382 : co_law[382]? = some ((784, .iaload, 0, 0, 0, 0, 0, 0, []) : xm_I) := rfl
set_option maxRecDepth 100000 in
theorem r_law_383 : co_law[383]? = some ((785, .aload_n 0, 0, 0, 0, 0, 0, 0, []) : xm_I) := rfl
set_option maxRecDepth 100000 in
theorem r_law_384 : co_law[384]? = some ((786, .iload_n 3, 0, 0, 0, 0, 0, 0, []) : xm_I) := rfl
set_option maxRecDepth 100000 in
theorem r_law_385 : co_law[385]? = some ((787, .iconst 2, 0, 0, 0, 0, 2, 0, []) : xm_I) := rfl
set_option maxRecDepth 100000 in
theorem r_law_386 : co_law[386]? = some ((788, .iadd, 0, 0, 0, 0, 0, 0, []) : xm_I) := rfl
set_option maxRecDepth 100000 in
theorem r_law_387 : co_law[387]? = some ((789, .iaload, 0, 0, 0, 0, 0, 0, []) : xm_I) := rfl
set_option maxRecDepth 100000 in
theorem r_law_388 : co_law[388]? = some ((790, .invokevirtual 112, 1888, 279, 3, 10, 0, 0, []) : xm_I) := rfl
set_option maxRecDepth 100000 in
theorem r_law_389 : co_law[389]? = some ((793, .if_icmp .eq 926, 0, 0, 1109, 0, 0, 0, []) : xm_I) := rfl
set_option maxRecDepth 100000 in
theorem r_law_390 : co_law[390]? = some ((796, .iconst 0, 0, 0, 0, 0, 0, 0, []) : xm_I) := rfl
set_option maxRecDepth 100000 in
theorem r_law_391 : co_law[391]? = some ((797, .ireturn, 0, 0, 0, 3, 0, 0, []) : xm_I) := rfl
set_option maxRecDepth 100000 in
theorem r_law_392 : co_law[392]? = some ((798, .aload_n 1, 0, 0, 0, 0, 0, 0, []) : xm_I) := rfl
set_option maxRecDepth 100000 in
theorem r_law_393 : co_law[393]? = some ((799, .invokevirtual 113, 1018, 110, 1, 9, 0, 0, []) : xm_I) := rfl
set_option maxRecDepth 100000 in
theorem r_law_394 : co_law[394]? = some ((802, .aload_n 2, 0, 0, 0, 0, 0, 0, []) : xm_I) := rfl
set_option maxRecDepth 100000 in
theorem r_law_395 : co_law[395]? = some ((803, .invokevirtual 116, 1896, 281, 1, 10, 0, 0, []) : xm_I) := rfl
set_option maxRecDepth 100000 in
theorem r_law_396 : co_law[396]? = some ((806, .if_icmp .eq 913, 0, 0, 1109, 0, 0, 0, []) : xm_I) := rfl
set_option maxRecDepth 100000 in
theorem r_law_397 : co_law[397]? = some ((809, .iconst 0, 0, 0, 0, 0, 0, 0, []) : xm_I) := rfl
set_option maxRecDepth 100000 in
theorem r_law_398 : co_law[398]? = some ((810, .ireturn, 0, 0, 0, 3, 0, 0, []) : xm_I) := rfl
set_option maxRecDepth 100000 in
theorem r_law_399 : co_law[399]? = some ((811, .aload_n 1, 0, 0, 0, 0, 0, 0, []) : xm_I) := rfl
set_option maxRecDepth 100000 in
theorem r_law_400 : co_law[400]? = some ((812, .aload_n 0, 0, 0, 0, 0, 0, 0, []) : xm_I) := rfl
set_option maxRecDepth 100000 in
theorem r_law_401 : co_law[401]? = some ((813, .iload_n 3, 0, 0, 0, 0, 0, 0, []) : xm_I) := rfl
set_option maxRecDepth 100000 in
theorem r_law_402 : co_law[402]? = some ((814, .iconst 1, 0, 0, 0, 0, 1, 0, []) : xm_I) := rfl
set_option maxRecDepth 100000 in
theorem r_law_403 : co_law[403]? = some ((815, .iadd, 0, 0, 0, 0, 0, 0, []) : xm_I) := rfl
set_option maxRecDepth 100000 in
theorem r_law_404 : co_law[404]? = some ((816, .iaload, 0, 0, 0, 0, 0, 0, []) : xm_I) := rfl
set_option maxRecDepth 100000 in
theorem r_law_405 : co_law[405]? = some ((817, .invokevirtual 117, 1022, 111, 2, 9, 0, 0, []) : xm_I) := rfl
set_option maxRecDepth 100000 in
theorem r_law_406 : co_law[406]? = some ((820, .aload_n 2, 0, 0, 0, 0, 0, 0, []) : xm_I) := rfl
set_option maxRecDepth 100000 in
theorem r_law_407 : co_law[407]? = some ((821, .aload_n 0, 0, 0, 0, 0, 0, 0, []) : xm_I) := rfl
set_option maxRecDepth 100000 in
theorem r_law_408 : co_law[408]? = some ((822, .iload_n 3, 0, 0, 0, 0, 0, 0, []) : xm_I) := rfl
set_option maxRecDepth 100000 in
theorem r_law_409 : co_law[409]? = some ((823, .iconst 1, 0, 0, 0, 0, 1, 0, []) : xm_I) := rfl
set_option maxRecDepth 100000 in
theorem r_law_410 : co_law[410]? = some ((824, .iadd, 0, 0, 0, 0, 0, 0, []) : xm_I) := rfl
set_option maxRecDepth 100000 in
theorem r_law_411 : co_law[411]? = some ((825, .iaload, 0, 0, 0, 0, 0, 0, []) : xm_I) := rfl
set_option maxRecDepth 100000 in
theorem r_law_412 : co_law[412]? = some ((826, .invokevirtual 120, 1900, 282, 2, 10, 0, 0, []) : xm_I) := rfl
set_option maxRecDepth 100000 in
theorem r_law_413 : co_law[413]? = some ((829, .if_icmp .eq 890, 0, 0, 1109, 0, 0, 0, []) : xm_I) := rfl
set_option maxRecDepth 100000 in
theorem r_law_414 : co_law[414]? = some ((832, .iconst 0, 0, 0, 0, 0, 0, 0, []) : xm_I) := rfl
set_option maxRecDepth 100000 in
theorem r_law_415 : co_law[415]? = some ((833, .ireturn, 0, 0, 0, 3, 0, 0, []) : xm_I) := rfl
set_option maxRecDepth 100000 in
theorem r_law_416 : co_law[416]? = some ((834, .aload_n 1, 0, 0, 0, 0, 0, 0, []) : xm_I) := rfl
set_option maxRecDepth 100000 in
theorem r_law_417 : co_law[417]? = some ((835, .invokevirtual 121, 1030, 113, 1, 9, 0, 0, []) : xm_I) := rfl
set_option maxRecDepth 100000 in
theorem r_law_418 : co_law[418]? = some ((838, .aload_n 2, 0, 0, 0, 0, 0, 0, []) : xm_I) := rfl
set_option maxRecDepth 100000 in
theorem r_law_419 : co_law[419]? = some ((839, .invokevirtual 124, 1905, 283, 1, 10, 0, 0, []) : xm_I) := rfl
set_option maxRecDepth 100000 in
theorem r_law_420 : co_law[420]? = some ((842, .if_icmp .eq 877, 0, 0, 1109, 0, 0, 0, []) : xm_I) := rfl
set_option maxRecDepth 100000 in
theorem r_law_421 : co_law[421]? = some ((845, .iconst 0, 0, 0, 0, 0, 0, 0, []) : xm_I) := rfl
set_option maxRecDepth 100000 in
theorem r_law_422 : co_law[422]? = some ((846, .ireturn, 0, 0, 0, 3, 0, 0, []) : xm_I) := rfl
set_option maxRecDepth 100000 in
theorem r_law_423 : co_law[423]? = some ((847, .aload_n 1, 0, 0, 0, 0, 0, 0, []) : xm_I) := rfl
set_option maxRecDepth 100000 in
theorem r_law_424 : co_law[424]? = some ((848, .aload_n 0, 0, 0, 0, 0, 0, 0, []) : xm_I) := rfl
set_option maxRecDepth 100000 in
theorem r_law_425 : co_law[425]? = some ((849, .iload_n 3, 0, 0, 0, 0, 0, 0, []) : xm_I) := rfl
set_option maxRecDepth 100000 in
theorem r_law_426 : co_law[426]? = some ((850, .iconst 1, 0, 0, 0, 0, 1, 0, []) : xm_I) := rfl
set_option maxRecDepth 100000 in
theorem r_law_427 : co_law[427]? = some ((851, .iadd, 0, 0, 0, 0, 0, 0, []) : xm_I) := rfl
set_option maxRecDepth 100000 in
theorem r_law_428 : co_law[428]? = some ((852, .iaload, 0, 0, 0, 0, 0, 0, []) : xm_I) := rfl
set_option maxRecDepth 100000 in
theorem r_law_429 : co_law[429]? = some ((853, .invokevirtual 125, 1041, 115, 2, 9, 0, 0, []) : xm_I) := rfl
set_option maxRecDepth 100000 in
theorem r_law_430 : co_law[430]? = some ((856, .aload_n 2, 0, 0, 0, 0, 0, 0, []) : xm_I) := rfl
set_option maxRecDepth 100000 in
theorem r_law_431 : co_law[431]? = some ((857, .aload_n 0, 0, 0, 0, 0, 0, 0, []) : xm_I) := rfl
set_option maxRecDepth 100000 in
theorem r_law_432 : co_law[432]? = some ((858, .iload_n 3, 0, 0, 0, 0, 0, 0, []) : xm_I) := rfl
set_option maxRecDepth 100000 in
theorem r_law_433 : co_law[433]? = some ((859, .iconst 1, 0, 0, 0, 0, 1, 0, []) : xm_I) := rfl
set_option maxRecDepth 100000 in
theorem r_law_434 : co_law[434]? = some ((860, .iadd, 0, 0, 0, 0, 0, 0, []) : xm_I) := rfl
set_option maxRecDepth 100000 in
theorem r_law_435 : co_law[435]? = some ((861, .iaload, 0, 0, 0, 0, 0, 0, []) : xm_I) := rfl
set_option maxRecDepth 100000 in
theorem r_law_436 : co_law[436]? = some ((862, .invokevirtual 129, 1910, 284, 2, 10, 0, 0, []) : xm_I) := rfl
set_option maxRecDepth 100000 in
theorem r_law_437 : co_law[437]? = some ((865, .lcmp, 0, 0, 0, 0, 0, 0, []) : xm_I) := rfl
set_option maxRecDepth 100000 in
theorem r_law_438 : co_law[438]? = some ((866, .ifCond .eq 853, 0, 0, 1109, 0, 0, 0, []) : xm_I) := rfl
set_option maxRecDepth 100000 in
theorem r_law_439 : co_law[439]? = some ((869, .iconst 0, 0, 0, 0, 0, 0, 0, []) : xm_I) := rfl
set_option maxRecDepth 100000 in
theorem r_law_440 : co_law[440]? = some ((870, .ireturn, 0, 0, 0, 3, 0, 0, []) : xm_I) := rfl
set_option maxRecDepth 100000 in
theorem r_law_441 : co_law[441]? = some ((871, .aload_n 1, 0, 0, 0, 0, 0, 0, []) : xm_I) := rfl
set_option maxRecDepth 100000 in
theorem r_law_442 : co_law[442]? = some ((872, .aload_n 0, 0, 0, 0, 0, 0, 0, []) : xm_I) := rfl
set_option maxRecDepth 100000 in
theorem r_law_443 : co_law[443]? = some ((873, .iload_n 3, 0, 0, 0, 0, 0, 0, []) : xm_I) := rfl
set_option maxRecDepth 100000 in
theorem r_law_444 : co_law[444]? = some ((874, .iconst 1, 0, 0, 0, 0, 1, 0, []) : xm_I) := rfl
set_option maxRecDepth 100000 in
theorem r_law_445 : co_law[445]? = some ((875, .iadd, 0, 0, 0, 0, 0, 0, []) : xm_I) := rfl
set_option maxRecDepth 100000 in
theorem r_law_446 : co_law[446]? = some ((876, .iaload, 0, 0, 0, 0, 0, 0, []) : xm_I) := rfl
set_option maxRecDepth 100000 in
theorem r_law_447 : co_law[447]? = some ((877, .aload_n 0, 0, 0, 0, 0, 0, 0, []) : xm_I) := rfl
set_option maxRecDepth 100000 in
theorem r_law_448 : co_law[448]? = some ((878, .iload_n 3, 0, 0, 0, 0, 0, 0, []) : xm_I) := rfl
set_option maxRecDepth 100000 in
theorem r_law_449 : co_law[449]? = some ((879, .iconst 2, 0, 0, 0, 0, 2, 0, []) : xm_I) := rfl
set_option maxRecDepth 100000 in
theorem r_law_450 : co_law[450]? = some ((880, .iadd, 0, 0, 0, 0, 0, 0, []) : xm_I) := rfl
set_option maxRecDepth 100000 in
theorem r_law_451 : co_law[451]? = some ((881, .iaload, 0, 0, 0, 0, 0, 0, []) : xm_I) := rfl
set_option maxRecDepth 100000 in
theorem r_law_452 : co_law[452]? = some ((882, .invokevirtual 130, 1065, 120, 3, 9, 0, 0, []) : xm_I) := rfl
set_option maxRecDepth 100000 in
theorem r_law_453 : co_law[453]? = some ((885, .aload_n 2, 0, 0, 0, 0, 0, 0, []) : xm_I) := rfl
set_option maxRecDepth 100000 in
theorem r_law_454 : co_law[454]? = some ((886, .aload_n 0, 0, 0, 0, 0, 0, 0, []) : xm_I) := rfl
set_option maxRecDepth 100000 in
theorem r_law_455 : co_law[455]? = some ((887, .iload_n 3, 0, 0, 0, 0, 0, 0, []) : xm_I) := rfl
set_option maxRecDepth 100000 in
theorem r_law_456 : co_law[456]? = some ((888, .iconst 1, 0, 0, 0, 0, 1, 0, []) : xm_I) := rfl
set_option maxRecDepth 100000 in
theorem r_law_457 : co_law[457]? = some ((889, .iadd, 0, 0, 0, 0, 0, 0, []) : xm_I) := rfl
set_option maxRecDepth 100000 in
theorem r_law_458 : co_law[458]? = some ((890, .iaload, 0, 0, 0, 0, 0, 0, []) : xm_I) := rfl
set_option maxRecDepth 100000 in
theorem r_law_459 : co_law[459]? = some ((891, .aload_n 0, 0, 0, 0, 0, 0, 0, []) : xm_I) := rfl
set_option maxRecDepth 100000 in
theorem r_law_460 : co_law[460]? = some ((892, .iload_n 3, 0, 0, 0, 0, 0, 0, []) : xm_I) := rfl
set_option maxRecDepth 100000 in
theorem r_law_461 : co_law[461]? = some ((893, .iconst 2, 0, 0, 0, 0, 2, 0, []) : xm_I) := rfl
set_option maxRecDepth 100000 in
theorem r_law_462 : co_law[462]? = some ((894, .iadd, 0, 0, 0, 0, 0, 0, []) : xm_I) := rfl
set_option maxRecDepth 100000 in
theorem r_law_463 : co_law[463]? = some ((895, .iaload, 0, 0, 0, 0, 0, 0, []) : xm_I) := rfl
set_option maxRecDepth 100000 in
theorem r_law_464 : co_law[464]? = some ((896, .invokevirtual 133, 1919, 286, 3, 10, 0, 0, []) : xm_I) := rfl
set_option maxRecDepth 100000 in
theorem r_law_465 : co_law[465]? = some ((899, .if_icmp .eq 820, 0, 0, 1109, 0, 0, 0, []) : xm_I) := rfl
set_option maxRecDepth 100000 in
theorem r_law_466 : co_law[466]? = some ((902, .iconst 0, 0, 0, 0, 0, 0, 0, []) : xm_I) := rfl
set_option maxRecDepth 100000 in
theorem r_law_467 : co_law[467]? = some ((903, .ireturn, 0, 0, 0, 3, 0, 0, []) : xm_I) := rfl
set_option maxRecDepth 100000 in
theorem r_law_468 : co_law[468]? = some ((904, .aload_n 1, 0, 0, 0, 0, 0, 0, []) : xm_I) := rfl
set_option maxRecDepth 100000 in
theorem r_law_469 : co_law[469]? = some ((905, .aload_n 0, 0, 0, 0, 0, 0, 0, []) : xm_I) := rfl
set_option maxRecDepth 100000 in
theorem r_law_470 : co_law[470]? = some ((906, .iload_n 3, 0, 0, 0, 0, 0, 0, []) : xm_I) := rfl
set_option maxRecDepth 100000 in
theorem r_law_471 : co_law[471]? = some ((907, .iconst 1, 0, 0, 0, 0, 1, 0, []) : xm_I) := rfl
set_option maxRecDepth 100000 in
theorem r_law_472 : co_law[472]? = some ((908, .iadd, 0, 0, 0, 0, 0, 0, []) : xm_I) := rfl
set_option maxRecDepth 100000 in
theorem r_law_473 : co_law[473]? = some ((909, .iaload, 0, 0, 0, 0, 0, 0, []) : xm_I) := rfl
set_option maxRecDepth 100000 in
theorem r_law_474 : co_law[474]? = some ((910, .invokevirtual 134, 1078, 123, 2, 9, 0, 0, []) : xm_I) := rfl
set_option maxRecDepth 100000 in
theorem r_law_475 : co_law[475]? = some ((913, .aload_n 2, 0, 0, 0, 0, 0, 0, []) : xm_I) := rfl
set_option maxRecDepth 100000 in
theorem r_law_476 : co_law[476]? = some ((914, .aload_n 0, 0, 0, 0, 0, 0, 0, []) : xm_I) := rfl
set_option maxRecDepth 100000 in
theorem r_law_477 : co_law[477]? = some ((915, .iload_n 3, 0, 0, 0, 0, 0, 0, []) : xm_I) := rfl
set_option maxRecDepth 100000 in
theorem r_law_478 : co_law[478]? = some ((916, .iconst 1, 0, 0, 0, 0, 1, 0, []) : xm_I) := rfl
set_option maxRecDepth 100000 in
theorem r_law_479 : co_law[479]? = some ((917, .iadd, 0, 0, 0, 0, 0, 0, []) : xm_I) := rfl
set_option maxRecDepth 100000 in
theorem r_law_480 : co_law[480]? = some ((918, .iaload, 0, 0, 0, 0, 0, 0, []) : xm_I) := rfl
set_option maxRecDepth 100000 in
theorem r_law_481 : co_law[481]? = some ((919, .invokevirtual 137, 1923, 287, 2, 10, 0, 0, []) : xm_I) := rfl
set_option maxRecDepth 100000 in
theorem r_law_482 : co_law[482]? = some ((922, .if_icmp .eq 797, 0, 0, 1109, 0, 0, 0, []) : xm_I) := rfl
set_option maxRecDepth 100000 in
theorem r_law_483 : co_law[483]? = some ((925, .iconst 0, 0, 0, 0, 0, 0, 0, []) : xm_I) := rfl
set_option maxRecDepth 100000 in
theorem r_law_484 : co_law[484]? = some ((926, .ireturn, 0, 0, 0, 3, 0, 0, []) : xm_I) := rfl
set_option maxRecDepth 100000 in
theorem r_law_485 : co_law[485]? = some ((927, .aload_n 1, 0, 0, 0, 0, 0, 0, []) : xm_I) := rfl
set_option maxRecDepth 100000 in
theorem r_law_486 : co_law[486]? = some ((928, .invokevirtual 138, 1082, 124, 1, 9, 0, 0, []) : xm_I) := rfl
set_option maxRecDepth 100000 in
theorem r_law_487 : co_law[487]? = some ((931, .aload_n 2, 0, 0, 0, 0, 0, 0, []) : xm_I) := rfl
set_option maxRecDepth 100000 in
theorem r_law_488 : co_law[488]? = some ((932, .invokevirtual 141, 1927, 288, 1, 10, 0, 0, []) : xm_I) := rfl
set_option maxRecDepth 100000 in
theorem r_law_489 : co_law[489]? = some ((935, .if_icmp .eq 784, 0, 0, 1109, 0, 0, 0, []) : xm_I) := rfl
set_option maxRecDepth 100000 in
theorem r_law_490 : co_law[490]? = some ((938, .iconst 0, 0, 0, 0, 0, 0, 0, []) : xm_I) := rfl
set_option maxRecDepth 100000 in
theorem r_law_491 : co_law[491]? = some ((939, .ireturn, 0, 0, 0, 3, 0, 0, []) : xm_I) := rfl
set_option maxRecDepth 100000 in
theorem r_law_492 : co_law[492]? = some ((940, .aload_n 1, 0, 0, 0, 0, 0, 0, []) : xm_I) := rfl
set_option maxRecDepth 100000 in
theorem r_law_493 : co_law[493]? = some ((941, .aload_n 0, 0, 0, 0, 0, 0, 0, []) : xm_I) := rfl
set_option maxRecDepth 100000 in
theorem r_law_494 : co_law[494]? = some ((942, .iload_n 3, 0, 0, 0, 0, 0, 0, []) : xm_I) := rfl
set_option maxRecDepth 100000 in
theorem r_law_495 : co_law[495]? = some ((943, .iconst 1, 0, 0, 0, 0, 1, 0, []) : xm_I) := rfl
set_option maxRecDepth 100000 in
theorem r_law_496 : co_law[496]? = some ((944, .iadd, 0, 0, 0, 0, 0, 0, []) : xm_I) := rfl
set_option maxRecDepth 100000 in
theorem r_law_497 : co_law[497]? = some ((945, .iaload, 0, 0, 0, 0, 0, 0, []) : xm_I) := rfl
set_option maxRecDepth 100000 in
theorem r_law_498 : co_law[498]? = some ((946, .invokevirtual 142, 1090, 126, 2, 9, 0, 0, []) : xm_I) := rfl
set_option maxRecDepth 100000 in
theorem r_law_499 : co_law[499]? = some ((949, .aload_n 2, 0, 0, 0, 0, 0, 0, []) : xm_I) := rfl
set_option maxRecDepth 100000 in
theorem r_law_500 : co_law[500]? = some ((950, .aload_n 0, 0, 0, 0, 0, 0, 0, []) : xm_I) := rfl
set_option maxRecDepth 100000 in
theorem r_law_501 : co_law[501]? = some ((951, .iload_n 3, 0, 0, 0, 0, 0, 0, []) : xm_I) := rfl
set_option maxRecDepth 100000 in
theorem r_law_502 : co_law[502]? = some ((952, .iconst 1, 0, 0, 0, 0, 1, 0, []) : xm_I) := rfl
set_option maxRecDepth 100000 in
theorem r_law_503 : co_law[503]? = some ((953, .iadd, 0, 0, 0, 0, 0, 0, []) : xm_I) := rfl
set_option maxRecDepth 100000 in
theorem r_law_504 : co_law[504]? = some ((954, .iaload, 0, 0, 0, 0, 0, 0, []) : xm_I) := rfl
set_option maxRecDepth 100000 in
theorem r_law_505 : co_law[505]? = some ((955, .invokevirtual 145, 1935, 290, 2, 10, 0, 0, []) : xm_I) := rfl
set_option maxRecDepth 100000 in
theorem r_law_506 : co_law[506]? = some ((958, .if_icmp .eq 761, 0, 0, 1109, 0, 0, 0, []) : xm_I) := rfl
set_option maxRecDepth 100000 in
theorem r_law_507 : co_law[507]? = some ((961, .iconst 0, 0, 0, 0, 0, 0, 0, []) : xm_I) := rfl
set_option maxRecDepth 100000 in
theorem r_law_508 : co_law[508]? = some ((962, .ireturn, 0, 0, 0, 3, 0, 0, []) : xm_I) := rfl
set_option maxRecDepth 100000 in
theorem r_law_509 : co_law[509]? = some ((963, .aload_n 1, 0, 0, 0, 0, 0, 0, []) : xm_I) := rfl
set_option maxRecDepth 100000 in
theorem r_law_510 : co_law[510]? = some ((964, .invokevirtual 146, 1107, 130, 1, 9, 0, 0, []) : xm_I) := rfl
set_option maxRecDepth 100000 in
theorem r_law_511 : co_law[511]? = some ((967, .aload_n 2, 0, 0, 0, 0, 0, 0, []) : xm_I) := rfl
set_option maxRecDepth 100000 in
theorem r_law_512 : co_law[512]? = some ((968, .invokevirtual 149, 1942, 292, 1, 10, 0, 0, []) : xm_I) := rfl
set_option maxRecDepth 100000 in
theorem r_law_513 : co_law[513]? = some ((971, .if_icmp .eq 748, 0, 0, 1109, 0, 0, 0, []) : xm_I) := rfl
set_option maxRecDepth 100000 in
theorem r_law_514 : co_law[514]? = some ((974, .iconst 0, 0, 0, 0, 0, 0, 0, []) : xm_I) := rfl
set_option maxRecDepth 100000 in
theorem r_law_515 : co_law[515]? = some ((975, .ireturn, 0, 0, 0, 3, 0, 0, []) : xm_I) := rfl
set_option maxRecDepth 100000 in
theorem r_law_516 : co_law[516]? = some ((976, .aload_n 1, 0, 0, 0, 0, 0, 0, []) : xm_I) := rfl
set_option maxRecDepth 100000 in
theorem r_law_517 : co_law[517]? = some ((977, .invokevirtual 150, 1113, 131, 1, 9, 0, 0, []) : xm_I) := rfl
set_option maxRecDepth 100000 in
theorem r_law_518 : co_law[518]? = some ((980, .aload_n 2, 0, 0, 0, 0, 0, 0, []) : xm_I) := rfl
set_option maxRecDepth 100000 in
theorem r_law_519 : co_law[519]? = some ((981, .invokevirtual 153, 1946, 293, 1, 10, 0, 0, []) : xm_I) := rfl
set_option maxRecDepth 100000 in
theorem r_law_520 : co_law[520]? = some ((984, .if_icmp .eq 735, 0, 0, 1109, 0, 0, 0, []) : xm_I) := rfl
set_option maxRecDepth 100000 in
theorem r_law_521 : co_law[521]? = some ((987, .iconst 0, 0, 0, 0, 0, 0, 0, []) : xm_I) := rfl
set_option maxRecDepth 100000 in
theorem r_law_522 : co_law[522]? = some ((988, .ireturn, 0, 0, 0, 3, 0, 0, []) : xm_I) := rfl
set_option maxRecDepth 100000 in
theorem r_law_523 : co_law[523]? = some ((989, .aload_n 1, 0, 0, 0, 0, 0, 0, []) : xm_I) := rfl
set_option maxRecDepth 100000 in
theorem r_law_524 : co_law[524]? = some ((990, .aload_n 0, 0, 0, 0, 0, 0, 0, []) : xm_I) := rfl
set_option maxRecDepth 100000 in
theorem r_law_525 : co_law[525]? = some ((991, .iload_n 3, 0, 0, 0, 0, 0, 0, []) : xm_I) := rfl
set_option maxRecDepth 100000 in
theorem r_law_526 : co_law[526]? = some ((992, .iconst 1, 0, 0, 0, 0, 1, 0, []) : xm_I) := rfl
set_option maxRecDepth 100000 in
theorem r_law_527 : co_law[527]? = some ((993, .iadd, 0, 0, 0, 0, 0, 0, []) : xm_I) := rfl
set_option maxRecDepth 100000 in
theorem r_law_528 : co_law[528]? = some ((994, .iaload, 0, 0, 0, 0, 0, 0, []) : xm_I) := rfl
set_option maxRecDepth 100000 in
theorem r_law_529 : co_law[529]? = some ((995, .aload_n 0, 0, 0, 0, 0, 0, 0, []) : xm_I) := rfl
set_option maxRecDepth 100000 in
theorem r_law_530 : co_law[530]? = some ((996, .iload_n 3, 0, 0, 0, 0, 0, 0, []) : xm_I) := rfl
set_option maxRecDepth 100000 in
theorem r_law_531 : co_law[531]? = some ((997, .iconst 2, 0, 0, 0, 0, 2, 0, []) : xm_I) := rfl
set_option maxRecDepth 100000 in
theorem r_law_532 : co_law[532]? = some ((998, .iadd, 0, 0, 0, 0, 0, 0, []) : xm_I) := rfl
set_option maxRecDepth 100000 in
theorem r_law_533 : co_law[533]? = some ((999, .iaload, 0, 0, 0, 0, 0, 0, []) : xm_I) := rfl
set_option maxRecDepth 100000 in
theorem r_law_534 : co_law[534]? = some ((1000, .invokevirtual 154, 1121, 133, 3, 9, 0, 0, []) : xm_I) := rfl
set_option maxRecDepth 100000 in
theorem r_law_535 : co_law[535]? = some ((1003, .aload_n 2, 0, 0, 0, 0, 0, 0, []) : xm_I) := rfl
set_option maxRecDepth 100000 in
theorem r_law_536 : co_law[536]? = some ((1004, .aload_n 0, 0, 0, 0, 0, 0, 0, []) : xm_I) := rfl
set_option maxRecDepth 100000 in
theorem r_law_537 : co_law[537]? = some ((1005, .iload_n 3, 0, 0, 0, 0, 0, 0, []) : xm_I) := rfl
set_option maxRecDepth 100000 in
theorem r_law_538 : co_law[538]? = some ((1006, .iconst 1, 0, 0, 0, 0, 1, 0, []) : xm_I) := rfl
set_option maxRecDepth 100000 in
theorem r_law_539 : co_law[539]? = some ((1007, .iadd, 0, 0, 0, 0, 0, 0, []) : xm_I) := rfl
set_option maxRecDepth 100000 in
theorem r_law_540 : co_law[540]? = some ((1008, .iaload, 0, 0, 0, 0, 0, 0, []) : xm_I) := rfl
set_option maxRecDepth 100000 in
theorem r_law_541 : co_law[541]? = some ((1009, .aload_n 0, 0, 0, 0, 0, 0, 0, []) : xm_I) := rfl
set_option maxRecDepth 100000 in
theorem r_law_542 : co_law[542]? = some ((1010, .iload_n 3, 0, 0, 0, 0, 0, 0, []) : xm_I) := rfl
set_option maxRecDepth 100000 in
theorem r_law_543 : co_law[543]? = some ((1011, .iconst 2, 0, 0, 0, 0, 2, 0, []) : xm_I) := rfl
set_option maxRecDepth 100000 in
theorem r_law_544 : co_law[544]? = some ((1012, .iadd, 0, 0, 0, 0, 0, 0, []) : xm_I) := rfl
set_option maxRecDepth 100000 in
theorem r_law_545 : co_law[545]? = some ((1013, .iaload, 0, 0, 0, 0, 0, 0, []) : xm_I) := rfl
set_option maxRecDepth 100000 in
theorem r_law_546 : co_law[546]? = some ((1014, .invokevirtual 157, 1950, 294, 3, 10, 0, 0, []) : xm_I) := rfl
set_option maxRecDepth 100000 in
theorem r_law_547 : co_law[547]? = some ((1017, .if_icmp .eq 702, 0, 0, 1109, 0, 0, 0, []) : xm_I) := rfl
set_option maxRecDepth 100000 in
theorem r_law_548 : co_law[548]? = some ((1020, .iconst 0, 0, 0, 0, 0, 0, 0, []) : xm_I) := rfl
set_option maxRecDepth 100000 in
theorem r_law_549 : co_law[549]? = some ((1021, .ireturn, 0, 0, 0, 3, 0, 0, []) : xm_I) := rfl
set_option maxRecDepth 100000 in
theorem r_law_550 : co_law[550]? = some ((1022, .aload_n 1, 0, 0, 0, 0, 0, 0, []) : xm_I) := rfl
set_option maxRecDepth 100000 in
theorem r_law_551 : co_law[551]? = some ((1023, .aload_n 0, 0, 0, 0, 0, 0, 0, []) : xm_I) := rfl
set_option maxRecDepth 100000 in
theorem r_law_552 : co_law[552]? = some ((1024, .iload_n 3, 0, 0, 0, 0, 0, 0, []) : xm_I) := rfl
set_option maxRecDepth 100000 in
theorem r_law_553 : co_law[553]? = some ((1025, .iconst 1, 0, 0, 0, 0, 1, 0, []) : xm_I) := rfl
set_option maxRecDepth 100000 in
theorem r_law_554 : co_law[554]? = some ((1026, .iadd, 0, 0, 0, 0, 0, 0, []) : xm_I) := rfl
set_option maxRecDepth 100000 in
theorem r_law_555 : co_law[555]? = some ((1027, .iaload, 0, 0, 0, 0, 0, 0, []) : xm_I) := rfl
set_option maxRecDepth 100000 in
theorem r_law_556 : co_law[556]? = some ((1028, .aload_n 0, 0, 0, 0, 0, 0, 0, []) : xm_I) := rfl
set_option maxRecDepth 100000 in
theorem r_law_557 : co_law[557]? = some ((1029, .iload_n 3, 0, 0, 0, 0, 0, 0, []) : xm_I) := rfl
set_option maxRecDepth 100000 in
theorem r_law_558 : co_law[558]? = some ((1030, .iconst 2, 0, 0, 0, 0, 2, 0, []) : xm_I) := rfl
set_option maxRecDepth 100000 in
theorem r_law_559 : co_law[559]? = some ((1031, .iadd, 0, 0, 0, 0, 0, 0, []) : xm_I) := rfl
set_option maxRecDepth 100000 in
theorem r_law_560 : co_law[560]? = some ((1032, .iaload, 0, 0, 0, 0, 0, 0, []) : xm_I) := rfl
set_option maxRecDepth 100000 in
theorem r_law_561 : co_law[561]? = some ((1033, .invokevirtual 158, 1139, 138, 3, 9, 0, 0, []) : xm_I) := rfl
set_option maxRecDepth 100000 in
theorem r_law_562 : co_law[562]? = some ((1036, .aload_n 2, 0, 0, 0, 0, 0, 0, []) : xm_I) := rfl
set_option maxRecDepth 100000 in
theorem r_law_563 : co_law[563]? = some ((1037, .aload_n 0, 0, 0, 0, 0, 0, 0, []) : xm_I) := rfl
set_option maxRecDepth 100000 in
theorem r_law_564 : co_law[564]? = some ((1038, .iload_n 3, 0, 0, 0, 0, 0, 0, []) : xm_I) := rfl
set_option maxRecDepth 100000 in
theorem r_law_565 : co_law[565]? = some ((1039, .iconst 1, 0, 0, 0, 0, 1, 0, []) : xm_I) := rfl
set_option maxRecDepth 100000 in
theorem r_law_566 : co_law[566]? = some ((1040, .iadd, 0, 0, 0, 0, 0, 0, []) : xm_I) := rfl
set_option maxRecDepth 100000 in
theorem r_law_567 : co_law[567]? = some ((1041, .iaload, 0, 0, 0, 0, 0, 0, []) : xm_I) := rfl
set_option maxRecDepth 100000 in
theorem r_law_568 : co_law[568]? = some ((1042, .aload_n 0, 0, 0, 0, 0, 0, 0, []) : xm_I) := rfl
set_option maxRecDepth 100000 in
theorem r_law_569 : co_law[569]? = some ((1043, .iload_n 3, 0, 0, 0, 0, 0, 0, []) : xm_I) := rfl
set_option maxRecDepth 100000 in
theorem r_law_570 : co_law[570]? = some ((1044, .iconst 2, 0, 0, 0, 0, 2, 0, []) : xm_I) := rfl
set_option maxRecDepth 100000 in
theorem r_law_571 : co_law[571]? = some ((1045, .iadd, 0, 0, 0, 0, 0, 0, []) : xm_I) := rfl
set_option maxRecDepth 100000 in
theorem r_law_572 : co_law[572]? = some ((1046, .iaload, 0, 0, 0, 0, 0, 0, []) : xm_I) := rfl
set_option maxRecDepth 100000 in
theorem r_law_573 : co_law[573]? = some ((1047, .invokevirtual 161, 1968, 299, 3, 10, 0, 0, []) : xm_I) := rfl
set_option maxRecDepth 100000 in
theorem r_law_574 : co_law[574]? = some ((1050, .if_icmp .eq 669, 0, 0, 1109, 0, 0, 0, []) : xm_I) := rfl
set_option maxRecDepth 100000 in
theorem r_law_575 : co_law[575]? = some ((1053, .iconst 0, 0, 0, 0, 0, 0, 0, []) : xm_I) := rfl
set_option maxRecDepth 100000 in
theorem r_law_576 : co_law[576]? = some ((1054, .ireturn, 0, 0, 0, 3, 0, 0, []) : xm_I) := rfl
set_option maxRecDepth 100000 in
theorem r_law_577 : co_law[577]? = some ((1055, .aload_n 1, 0, 0, 0, 0, 0, 0, []) : xm_I) := rfl
set_option maxRecDepth 100000 in
theorem r_law_578 : co_law[578]? = some ((1056, .aload_n 0, 0, 0, 0, 0, 0, 0, []) : xm_I) := rfl
set_option maxRecDepth 100000 in
theorem r_law_579 : co_law[579]? = some ((1057, .iload_n 3, 0, 0, 0, 0, 0, 0, []) : xm_I) := rfl
set_option maxRecDepth 100000 in
theorem r_law_580 : co_law[580]? = some ((1058, .iconst 1, 0, 0, 0, 0, 1, 0, []) : xm_I) := rfl
set_option maxRecDepth 100000 in
theorem r_law_581 : co_law[581]? = some ((1059, .iadd, 0, 0, 0, 0, 0, 0, []) : xm_I) := rfl
set_option maxRecDepth 100000 in
theorem r_law_582 : co_law[582]? = some ((1060, .iaload, 0, 0, 0, 0, 0, 0, []) : xm_I) := rfl
set_option maxRecDepth 100000 in
theorem r_law_583 : co_law[583]? = some ((1061, .aload_n 0, 0, 0, 0, 0, 0, 0, []) : xm_I) := rfl
set_option maxRecDepth 100000 in
theorem r_law_584 : co_law[584]? = some ((1062, .iload_n 3, 0, 0, 0, 0, 0, 0, []) : xm_I) := rfl
set_option maxRecDepth 100000 in
theorem r_law_585 : co_law[585]? = some ((1063, .iconst 2, 0, 0, 0, 0, 2, 0, []) : xm_I) := rfl
set_option maxRecDepth 100000 in
theorem r_law_586 : co_law[586]? = some ((1064, .iadd, 0, 0, 0, 0, 0, 0, []) : xm_I) := rfl
set_option maxRecDepth 100000 in
theorem r_law_587 : co_law[587]? = some ((1065, .iaload, 0, 0, 0, 0, 0, 0, []) : xm_I) := rfl
set_option maxRecDepth 100000 in
theorem r_law_588 : co_law[588]? = some ((1066, .invokevirtual 162, 1147, 140, 3, 9, 0, 0, []) : xm_I) := rfl
set_option maxRecDepth 100000 in
theorem r_law_589 : co_law[589]? = some ((1069, .aload_n 2, 0, 0, 0, 0, 0, 0, []) : xm_I) := rfl
set_option maxRecDepth 100000 in
theorem r_law_590 : co_law[590]? = some ((1070, .aload_n 0, 0, 0, 0, 0, 0, 0, []) : xm_I) := rfl
set_option maxRecDepth 100000 in
theorem r_law_591 : co_law[591]? = some ((1071, .iload_n 3, 0, 0, 0, 0, 0, 0, []) : xm_I) := rfl
set_option maxRecDepth 100000 in
theorem r_law_592 : co_law[592]? = some ((1072, .iconst 1, 0, 0, 0, 0, 1, 0, []) : xm_I) := rfl
set_option maxRecDepth 100000 in
theorem r_law_593 : co_law[593]? = some ((1073, .iadd, 0, 0, 0, 0, 0, 0, []) : xm_I) := rfl
set_option maxRecDepth 100000 in
theorem r_law_594 : co_law[594]? = some ((1074, .iaload, 0, 0, 0, 0, 0, 0, []) : xm_I) := rfl
set_option maxRecDepth 100000 in
theorem r_law_595 : co_law[595]? = some ((1075, .aload_n 0, 0, 0, 0, 0, 0, 0, []) : xm_I) := rfl
set_option maxRecDepth 100000 in
theorem r_law_596 : co_law[596]? = some ((1076, .iload_n 3, 0, 0, 0, 0, 0, 0, []) : xm_I) := rfl
set_option maxRecDepth 100000 in
theorem r_law_597 : co_law[597]? = some ((1077, .iconst 2, 0, 0, 0, 0, 2, 0, []) : xm_I) := rfl
set_option maxRecDepth 100000 in
theorem r_law_598 : co_law[598]? = some ((1078, .iadd, 0, 0, 0, 0, 0, 0, []) : xm_I) := rfl
set_option maxRecDepth 100000 in
theorem r_law_599 : co_law[599]? = some ((1079, .iaload, 0, 0, 0, 0, 0, 0, []) : xm_I) := rfl
set_option maxRecDepth 100000 in
theorem r_law_600 : co_law[600]? = some ((1080, .invokevirtual 165, 1976, 301, 3, 10, 0, 0, []) : xm_I) := rfl
set_option maxRecDepth 100000 in
theorem r_law_601 : co_law[601]? = some ((1083, .if_icmp .eq 636, 0, 0, 1109, 0, 0, 0, []) : xm_I) := rfl
set_option maxRecDepth 100000 in
theorem r_law_602 : co_law[602]? = some ((1086, .iconst 0, 0, 0, 0, 0, 0, 0, []) : xm_I) := rfl
set_option maxRecDepth 100000 in
theorem r_law_603 : co_law[603]? = some ((1087, .ireturn, 0, 0, 0, 3, 0, 0, []) : xm_I) := rfl
set_option maxRecDepth 100000 in
theorem r_law_604 : co_law[604]? = some ((1088, .aload_n 1, 0, 0, 0, 0, 0, 0, []) : xm_I) := rfl
set_option maxRecDepth 100000 in
theorem r_law_605 : co_law[605]? = some ((1089, .aload_n 0, 0, 0, 0, 0, 0, 0, []) : xm_I) := rfl
set_option maxRecDepth 100000 in
theorem r_law_606 : co_law[606]? = some ((1090, .iload_n 3, 0, 0, 0, 0, 0, 0, []) : xm_I) := rfl
set_option maxRecDepth 100000 in
theorem r_law_607 : co_law[607]? = some ((1091, .iconst 1, 0, 0, 0, 0, 1, 0, []) : xm_I) := rfl
set_option maxRecDepth 100000 in
theorem r_law_608 : co_law[608]? = some ((1092, .iadd, 0, 0, 0, 0, 0, 0, []) : xm_I) := rfl
set_option maxRecDepth 100000 in
theorem r_law_609 : co_law[609]? = some ((1093, .iaload, 0, 0, 0, 0, 0, 0, []) : xm_I) := rfl
set_option maxRecDepth 100000 in
theorem r_law_610 : co_law[610]? = some ((1094, .aload_n 0, 0, 0, 0, 0, 0, 0, []) : xm_I) := rfl
set_option maxRecDepth 100000 in
theorem r_law_611 : co_law[611]? = some ((1095, .iload_n 3, 0, 0, 0, 0, 0, 0, []) : xm_I) := rfl
set_option maxRecDepth 100000 in
theorem r_law_612 : co_law[612]? = some ((1096, .iconst 2, 0, 0, 0, 0, 2, 0, []) : xm_I) := rfl
set_option maxRecDepth 100000 in
theorem r_law_613 : co_law[613]? = some ((1097, .iadd, 0, 0, 0, 0, 0, 0, []) : xm_I) := rfl
set_option maxRecDepth 100000 in
theorem r_law_614 : co_law[614]? = some ((1098, .iaload, 0, 0, 0, 0, 0, 0, []) : xm_I) := rfl
set_option maxRecDepth 100000 in
theorem r_law_615 : co_law[615]? = some ((1099, .invokevirtual 166, 1151, 141, 3, 9, 0, 0, []) : xm_I) := rfl
set_option maxRecDepth 100000 in
theorem r_law_616 : co_law[616]? = some ((1102, .aload_n 2, 0, 0, 0, 0, 0, 0, []) : xm_I) := rfl
set_option maxRecDepth 100000 in
theorem r_law_617 : co_law[617]? = some ((1103, .aload_n 0, 0, 0, 0, 0, 0, 0, []) : xm_I) := rfl
set_option maxRecDepth 100000 in
theorem r_law_618 : co_law[618]? = some ((1104, .iload_n 3, 0, 0, 0, 0, 0, 0, []) : xm_I) := rfl
set_option maxRecDepth 100000 in
theorem r_law_619 : co_law[619]? = some ((1105, .iconst 1, 0, 0, 0, 0, 1, 0, []) : xm_I) := rfl
set_option maxRecDepth 100000 in
theorem r_law_620 : co_law[620]? = some ((1106, .iadd, 0, 0, 0, 0, 0, 0, []) : xm_I) := rfl
set_option maxRecDepth 100000 in
theorem r_law_621 : co_law[621]? = some ((1107, .iaload, 0, 0, 0, 0, 0, 0, []) : xm_I) := rfl
set_option maxRecDepth 100000 in
theorem r_law_622 : co_law[622]? = some ((1108, .aload_n 0, 0, 0, 0, 0, 0, 0, []) : xm_I) := rfl
set_option maxRecDepth 100000 in
theorem r_law_623 : co_law[623]? = some ((1109, .iload_n 3, 0, 0, 0, 0, 0, 0, []) : xm_I) := rfl
set_option maxRecDepth 100000 in
theorem r_law_624 : co_law[624]? = some ((1110, .iconst 2, 0, 0, 0, 0, 2, 0, []) : xm_I) := rfl
set_option maxRecDepth 100000 in
theorem r_law_625 : co_law[625]? = some ((1111, .iadd, 0, 0, 0, 0, 0, 0, []) : xm_I) := rfl
set_option maxRecDepth 100000 in
theorem r_law_626 : co_law[626]? = some ((1112, .iaload, 0, 0, 0, 0, 0, 0, []) : xm_I) := rfl
set_option maxRecDepth 100000 in
theorem r_law_627 : co_law[627]? = some ((1113, .invokevirtual 170, 1980, 302, 3, 10, 0, 0, []) : xm_I) := rfl
set_option maxRecDepth 100000 in
theorem r_law_628 : co_law[628]? = some ((1116, .lcmp, 0, 0, 0, 0, 0, 0, []) : xm_I) := rfl
set_option maxRecDepth 100000 in
theorem r_law_629 : co_law[629]? = some ((1117, .ifCond .eq 602, 0, 0, 1109, 0, 0, 0, []) : xm_I) := rfl
set_option maxRecDepth 100000 in
theorem r_law_630 : co_law[630]? = some ((1120, .iconst 0, 0, 0, 0, 0, 0, 0, []) : xm_I) := rfl
set_option maxRecDepth 100000 in
theorem r_law_631 : co_law[631]? = some ((1121, .ireturn, 0, 0, 0, 3, 0, 0, []) : xm_I) := rfl
set_option maxRecDepth 100000 in
theorem r_law_632 : co_law[632]? = some ((1122, .aload_n 1, 0, 0, 0, 0, 0, 0, []) : xm_I) := rfl
set_option maxRecDepth 100000 in
theorem r_law_633 : co_law[633]? = some ((1123, .aload_n 0, 0, 0, 0, 0, 0, 0, []) : xm_I) := rfl
set_option maxRecDepth 100000 in
theorem r_law_634 : co_law[634]? = some ((1124, .iload_n 3, 0, 0, 0, 0, 0, 0, []) : xm_I) := rfl
set_option maxRecDepth 100000 in
theorem r_law_635 : co_law[635]? = some ((1125, .iconst 1, 0, 0, 0, 0, 1, 0, []) : xm_I) := rfl
set_option maxRecDepth 100000 in
theorem r_law_636 : co_law[636]? = some ((1126, .iadd, 0, 0, 0, 0, 0, 0, []) : xm_I) := rfl
set_option maxRecDepth 100000 in
theorem r_law_637 : co_law[637]? = some ((1127, .iaload, 0, 0, 0, 0, 0, 0, []) : xm_I) := rfl
set_option maxRecDepth 100000 in
theorem r_law_638 : co_law[638]? = some ((1128, .invokevirtual 171, 1166, 144, 2, 9, 0, 0, []) : xm_I) := rfl
set_option maxRecDepth 100000 in
theorem r_law_639 : co_law[639]? = some ((1131, .aload_n 2, 0, 0, 0, 0, 0, 0, []) : xm_I) := rfl
set_option maxRecDepth 100000 in
theorem r_law_640 : co_law[640]? = some ((1132, .aload_n 0, 0, 0, 0, 0, 0, 0, []) : xm_I) := rfl
set_option maxRecDepth 100000 in
theorem r_law_641 : co_law[641]? = some ((1133, .iload_n 3, 0, 0, 0, 0, 0, 0, []) : xm_I) := rfl
set_option maxRecDepth 100000 in
theorem r_law_642 : co_law[642]? = some ((1134, .iconst 1, 0, 0, 0, 0, 1, 0, []) : xm_I) := rfl
set_option maxRecDepth 100000 in
theorem r_law_643 : co_law[643]? = some ((1135, .iadd, 0, 0, 0, 0, 0, 0, []) : xm_I) := rfl
set_option maxRecDepth 100000 in
theorem r_law_644 : co_law[644]? = some ((1136, .iaload, 0, 0, 0, 0, 0, 0, []) : xm_I) := rfl
set_option maxRecDepth 100000 in
theorem r_law_645 : co_law[645]? = some ((1137, .invokevirtual 174, 1986, 303, 2, 10, 0, 0, []) : xm_I) := rfl
set_option maxRecDepth 100000 in
theorem r_law_646 : co_law[646]? = some ((1140, .if_icmp .eq 579, 0, 0, 1109, 0, 0, 0, []) : xm_I) := rfl
set_option maxRecDepth 100000 in
theorem r_law_647 : co_law[647]? = some ((1143, .iconst 0, 0, 0, 0, 0, 0, 0, []) : xm_I) := rfl
set_option maxRecDepth 100000 in
theorem r_law_648 : co_law[648]? = some ((1144, .ireturn, 0, 0, 0, 3, 0, 0, []) : xm_I) := rfl
set_option maxRecDepth 100000 in
theorem r_law_649 : co_law[649]? = some ((1145, .aload_n 1, 0, 0, 0, 0, 0, 0, []) : xm_I) := rfl
set_option maxRecDepth 100000 in
theorem r_law_650 : co_law[650]? = some ((1146, .invokevirtual 175, 1173, 145, 1, 9, 0, 0, []) : xm_I) := rfl
set_option maxRecDepth 100000 in
theorem r_law_651 : co_law[651]? = some ((1149, .aload_n 2, 0, 0, 0, 0, 0, 0, []) : xm_I) := rfl
set_option maxRecDepth 100000 in
theorem r_law_652 : co_law[652]? = some ((1150, .invokevirtual 178, 1991, 304, 1, 10, 0, 0, []) : xm_I) := rfl
set_option maxRecDepth 100000 in
theorem r_law_653 : co_law[653]? = some ((1153, .if_icmp .eq 566, 0, 0, 1109, 0, 0, 0, []) : xm_I) := rfl
set_option maxRecDepth 100000 in
theorem r_law_654 : co_law[654]? = some ((1156, .iconst 0, 0, 0, 0, 0, 0, 0, []) : xm_I) := rfl
set_option maxRecDepth 100000 in
theorem r_law_655 : co_law[655]? = some ((1157, .ireturn, 0, 0, 0, 3, 0, 0, []) : xm_I) := rfl
set_option maxRecDepth 100000 in
theorem r_law_656 : co_law[656]? = some ((1158, .aload_n 1, 0, 0, 0, 0, 0, 0, []) : xm_I) := rfl
set_option maxRecDepth 100000 in
theorem r_law_657 : co_law[657]? = some ((1159, .aload_n 0, 0, 0, 0, 0, 0, 0, []) : xm_I) := rfl
set_option maxRecDepth 100000 in
theorem r_law_658 : co_law[658]? = some ((1160, .iload_n 3, 0, 0, 0, 0, 0, 0, []) : xm_I) := rfl
set_option maxRecDepth 100000 in
theorem r_law_659 : co_law[659]? = some ((1161, .iconst 1, 0, 0, 0, 0, 1, 0, []) : xm_I) := rfl
set_option maxRecDepth 100000 in
theorem r_law_660 : co_law[660]? = some ((1162, .iadd, 0, 0, 0, 0, 0, 0, []) : xm_I) := rfl
set_option maxRecDepth 100000 in
theorem r_law_661 : co_law[661]? = some ((1163, .iaload, 0, 0, 0, 0, 0, 0, []) : xm_I) := rfl
set_option maxRecDepth 100000 in
theorem r_law_662 : co_law[662]? = some ((1164, .aload_n 0, 0, 0, 0, 0, 0, 0, []) : xm_I) := rfl
set_option maxRecDepth 100000 in
theorem r_law_663 : co_law[663]? = some ((1165, .iload_n 3, 0, 0, 0, 0, 0, 0, []) : xm_I) := rfl
set_option maxRecDepth 100000 in
theorem r_law_664 : co_law[664]? = some ((1166, .iconst 2, 0, 0, 0, 0, 2, 0, []) : xm_I) := rfl
set_option maxRecDepth 100000 in
theorem r_law_665 : co_law[665]? = some ((1167, .iadd, 0, 0, 0, 0, 0, 0, []) : xm_I) := rfl
set_option maxRecDepth 100000 in
theorem r_law_666 : co_law[666]? = some ((1168, .iaload, 0, 0, 0, 0, 0, 0, []) : xm_I) := rfl
set_option maxRecDepth 100000 in
theorem r_law_667 : co_law[667]? = some ((1169, .invokevirtual 179, 1177, 146, 3, 9, 0, 0, []) : xm_I) := rfl
set_option maxRecDepth 100000 in
theorem r_law_668 : co_law[668]? = some ((1172, .aload_n 2, 0, 0, 0, 0, 0, 0, []) : xm_I) := rfl
set_option maxRecDepth 100000 in
theorem r_law_669 : co_law[669]? = some ((1173, .aload_n 0, 0, 0, 0, 0, 0, 0, []) : xm_I) := rfl
set_option maxRecDepth 100000 in
theorem r_law_670 : co_law[670]? = some ((1174, .iload_n 3, 0, 0, 0, 0, 0, 0, []) : xm_I) := rfl
set_option maxRecDepth 100000 in
theorem r_law_671 : co_law[671]? = some ((1175, .iconst 1, 0, 0, 0, 0, 1, 0, []) : xm_I) := rfl
set_option maxRecDepth 100000 in
theorem r_law_672 : co_law[672]? = some ((1176, .iadd, 0, 0, 0, 0, 0, 0, []) : xm_I) := rfl
set_option maxRecDepth 100000 in
theorem r_law_673 : co_law[673]? = some ((1177, .iaload, 0, 0, 0, 0, 0, 0, []) : xm_I) := rfl
set_option maxRecDepth 100000 in
theorem r_law_674 : co_law[674]? = some ((1178, .aload_n 0, 0, 0, 0, 0, 0, 0, []) : xm_I) := rfl
set_option maxRecDepth 100000 in
theorem r_law_675 : co_law[675]? = some ((1179, .iload_n 3, 0, 0, 0, 0, 0, 0, []) : xm_I) := rfl
set_option maxRecDepth 100000 in
theorem r_law_676 : co_law[676]? = some ((1180, .iconst 2, 0, 0, 0, 0, 2, 0, []) : xm_I) := rfl
set_option maxRecDepth 100000 in
theorem r_law_677 : co_law[677]? = some ((1181, .iadd, 0, 0, 0, 0, 0, 0, []) : xm_I) := rfl
set_option maxRecDepth 100000 in
theorem r_law_678 : co_law[678]? = some ((1182, .iaload, 0, 0, 0, 0, 0, 0, []) : xm_I) := rfl
set_option maxRecDepth 100000 in
theorem r_law_679 : co_law[679]? = some ((1183, .invokevirtual 182, 1999, 306, 3, 10, 0, 0, []) : xm_I) := rfl
set_option maxRecDepth 100000 in
theorem r_law_680 : co_law[680]? = some ((1186, .if_icmp .eq 533, 0, 0, 1109, 0, 0, 0, []) : xm_I) := rfl
set_option maxRecDepth 100000 in
theorem r_law_681 : co_law[681]? = some ((1189, .iconst 0, 0, 0, 0, 0, 0, 0, []) : xm_I) := rfl
set_option maxRecDepth 100000 in
theorem r_law_682 : co_law[682]? = some ((1190, .ireturn, 0, 0, 0, 3, 0, 0, []) : xm_I) := rfl
set_option maxRecDepth 100000 in
theorem r_law_683 : co_law[683]? = some ((1191, .aload_n 1, 0, 0, 0, 0, 0, 0, []) : xm_I) := rfl
set_option maxRecDepth 100000 in
theorem r_law_684 : co_law[684]? = some ((1192, .invokevirtual 183, 1203, 152, 1, 9, 0, 0, []) : xm_I) := rfl
set_option maxRecDepth 100000 in
theorem r_law_685 : co_law[685]? = some ((1195, .aload_n 2, 0, 0, 0, 0, 0, 0, []) : xm_I) := rfl
set_option maxRecDepth 100000 in
theorem r_law_686 : co_law[686]? = some ((1196, .invokevirtual 186, 2015, 309, 1, 10, 0, 0, []) : xm_I) := rfl
set_option maxRecDepth 100000 in
theorem r_law_687 : co_law[687]? = some ((1199, .if_icmp .eq 520, 0, 0, 1109, 0, 0, 0, []) : xm_I) := rfl
set_option maxRecDepth 100000 in
theorem r_law_688 : co_law[688]? = some ((1202, .iconst 0, 0, 0, 0, 0, 0, 0, []) : xm_I) := rfl
set_option maxRecDepth 100000 in
theorem r_law_689 : co_law[689]? = some ((1203, .ireturn, 0, 0, 0, 3, 0, 0, []) : xm_I) := rfl
set_option maxRecDepth 100000 in
theorem r_law_690 : co_law[690]? = some ((1204, .aload_n 1, 0, 0, 0, 0, 0, 0, []) : xm_I) := rfl
set_option maxRecDepth 100000 in
theorem r_law_691 : co_law[691]? = some ((1205, .aload_n 0, 0, 0, 0, 0, 0, 0, []) : xm_I) := rfl
set_option maxRecDepth 100000 in
theorem r_law_692 : co_law[692]? = some ((1206, .iload_n 3, 0, 0, 0, 0, 0, 0, []) : xm_I) := rfl
set_option maxRecDepth 100000 in
theorem r_law_693 : co_law[693]? = some ((1207, .iconst 1, 0, 0, 0, 0, 1, 0, []) : xm_I) := rfl
set_option maxRecDepth 100000 in
theorem r_law_694 : co_law[694]? = some ((1208, .iadd, 0, 0, 0, 0, 0, 0, []) : xm_I) := rfl
set_option maxRecDepth 100000 in
theorem r_law_695 : co_law[695]? = some ((1209, .iaload, 0, 0, 0, 0, 0, 0, []) : xm_I) := rfl
set_option maxRecDepth 100000 in
theorem r_law_696 : co_law[696]? = some ((1210, .aload_n 0, 0, 0, 0, 0, 0, 0, []) : xm_I) := rfl
set_option maxRecDepth 100000 in
theorem r_law_697 : co_law[697]? = some ((1211, .iload_n 3, 0, 0, 0, 0, 0, 0, []) : xm_I) := rfl
set_option maxRecDepth 100000 in
theorem r_law_698 : co_law[698]? = some ((1212, .iconst 2, 0, 0, 0, 0, 2, 0, []) : xm_I) := rfl
set_option maxRecDepth 100000 in
theorem r_law_699 : co_law[699]? = some ((1213, .iadd, 0, 0, 0, 0, 0, 0, []) : xm_I) := rfl
set_option maxRecDepth 100000 in
theorem r_law_700 : co_law[700]? = some ((1214, .iaload, 0, 0, 0, 0, 0, 0, []) : xm_I) := rfl
set_option maxRecDepth 100000 in
theorem r_law_701 : co_law[701]? = some ((1215, .invokevirtual 187, 1207, 153, 3, 9, 0, 0, []) : xm_I) := rfl
set_option maxRecDepth 100000 in
theorem r_law_702 : co_law[702]? = some ((1218, .aload_n 2, 0, 0, 0, 0, 0, 0, []) : xm_I) := rfl
set_option maxRecDepth 100000 in
theorem r_law_703 : co_law[703]? = some ((1219, .aload_n 0, 0, 0, 0, 0, 0, 0, []) : xm_I) := rfl
set_option maxRecDepth 100000 in
theorem r_law_704 : co_law[704]? = some ((1220, .iload_n 3, 0, 0, 0, 0, 0, 0, []) : xm_I) := rfl
set_option maxRecDepth 100000 in
theorem r_law_705 : co_law[705]? = some ((1221, .iconst 1, 0, 0, 0, 0, 1, 0, []) : xm_I) := rfl
set_option maxRecDepth 100000 in
theorem r_law_706 : co_law[706]? = some ((1222, .iadd, 0, 0, 0, 0, 0, 0, []) : xm_I) := rfl
set_option maxRecDepth 100000 in
theorem r_law_707 : co_law[707]? = some ((1223, .iaload, 0, 0, 0, 0, 0, 0, []) : xm_I) := rfl
set_option maxRecDepth 100000 in
theorem r_law_708 : co_law[708]? = some ((1224, .aload_n 0, 0, 0, 0, 0, 0, 0, []) : xm_I) := rfl
set_option maxRecDepth 100000 in
theorem r_law_709 : co_law[709]? = some ((1225, .iload_n 3, 0, 0, 0, 0, 0, 0, []) : xm_I) := rfl
set_option maxRecDepth 100000 in
theorem r_law_710 : co_law[710]? = some ((1226, .iconst 2, 0, 0, 0, 0, 2, 0, []) : xm_I) := rfl
set_option maxRecDepth 100000 in
theorem r_law_711 : co_law[711]? = some ((1227, .iadd, 0, 0, 0, 0, 0, 0, []) : xm_I) := rfl
set_option maxRecDepth 100000 in
theorem r_law_712 : co_law[712]? = some ((1228, .iaload, 0, 0, 0, 0, 0, 0, []) : xm_I) := rfl
set_option maxRecDepth 100000 in
theorem r_law_713 : co_law[713]? = some ((1229, .invokevirtual 190, 2019, 310, 3, 10, 0, 0, []) : xm_I) := rfl
set_option maxRecDepth 100000 in
theorem r_law_714 : co_law[714]? = some ((1232, .if_icmp .eq 487, 0, 0, 1109, 0, 0, 0, []) : xm_I) := rfl
set_option maxRecDepth 100000 in
theorem r_law_715 : co_law[715]? = some ((1235, .iconst 0, 0, 0, 0, 0, 0, 0, []) : xm_I) := rfl
set_option maxRecDepth 100000 in
theorem r_law_716 : co_law[716]? = some ((1236, .ireturn, 0, 0, 0, 3, 0, 0, []) : xm_I) := rfl
set_option maxRecDepth 100000 in
theorem r_law_717 : co_law[717]? = some ((1237, .aload_n 1, 0, 0, 0, 0, 0, 0, []) : xm_I) := rfl
set_option maxRecDepth 100000 in
theorem r_law_718 : co_law[718]? = some ((1238, .aload_n 0, 0, 0, 0, 0, 0, 0, []) : xm_I) := rfl
set_option maxRecDepth 100000 in
theorem r_law_719 : co_law[719]? = some ((1239, .iload_n 3, 0, 0, 0, 0, 0, 0, []) : xm_I) := rfl
set_option maxRecDepth 100000 in
theorem r_law_720 : co_law[720]? = some ((1240, .iconst 1, 0, 0, 0, 0, 1, 0, []) : xm_I) := rfl
set_option maxRecDepth 100000 in
theorem r_law_721 : co_law[721]? = some ((1241, .iadd, 0, 0, 0, 0, 0, 0, []) : xm_I) := rfl
set_option maxRecDepth 100000 in
theorem r_law_722 : co_law[722]? = some ((1242, .iaload, 0, 0, 0, 0, 0, 0, []) : xm_I) := rfl
set_option maxRecDepth 100000 in
theorem r_law_723 : co_law[723]? = some ((1243, .aload_n 0, 0, 0, 0, 0, 0, 0, []) : xm_I) := rfl
set_option maxRecDepth 100000 in
theorem r_law_724 : co_law[724]? = some ((1244, .iload_n 3, 0, 0, 0, 0, 0, 0, []) : xm_I) := rfl
set_option maxRecDepth 100000 in
theorem r_law_725 : co_law[725]? = some ((1245, .iconst 2, 0, 0, 0, 0, 2, 0, []) : xm_I) := rfl
set_option maxRecDepth 100000 in
theorem r_law_726 : co_law[726]? = some ((1246, .iadd, 0, 0, 0, 0, 0, 0, []) : xm_I) := rfl
set_option maxRecDepth 100000 in
theorem r_law_727 : co_law[727]? = some ((1247, .iaload, 0, 0, 0, 0, 0, 0, []) : xm_I) := rfl
set_option maxRecDepth 100000 in
theorem r_law_728 : co_law[728]? = some ((1248, .invokevirtual 191, 1223, 157, 3, 9, 0, 0, []) : xm_I) := rfl
set_option maxRecDepth 100000 in
theorem r_law_729 : co_law[729]? = some ((1251, .aload_n 2, 0, 0, 0, 0, 0, 0, []) : xm_I) := rfl
set_option maxRecDepth 100000 in
theorem r_law_730 : co_law[730]? = some ((1252, .aload_n 0, 0, 0, 0, 0, 0, 0, []) : xm_I) := rfl
set_option maxRecDepth 100000 in
theorem r_law_731 : co_law[731]? = some ((1253, .iload_n 3, 0, 0, 0, 0, 0, 0, []) : xm_I) := rfl
set_option maxRecDepth 100000 in
theorem r_law_732 : co_law[732]? = some ((1254, .iconst 1, 0, 0, 0, 0, 1, 0, []) : xm_I) := rfl
set_option maxRecDepth 100000 in
theorem r_law_733 : co_law[733]? = some ((1255, .iadd, 0, 0, 0, 0, 0, 0, []) : xm_I) := rfl
set_option maxRecDepth 100000 in
theorem r_law_734 : co_law[734]? = some ((1256, .iaload, 0, 0, 0, 0, 0, 0, []) : xm_I) := rfl
set_option maxRecDepth 100000 in
theorem r_law_735 : co_law[735]? = some ((1257, .aload_n 0, 0, 0, 0, 0, 0, 0, []) : xm_I) := rfl
set_option maxRecDepth 100000 in
theorem r_law_736 : co_law[736]? = some ((1258, .iload_n 3, 0, 0, 0, 0, 0, 0, []) : xm_I) := rfl
set_option maxRecDepth 100000 in
theorem r_law_737 : co_law[737]? = some ((1259, .iconst 2, 0, 0, 0, 0, 2, 0, []) : xm_I) := rfl
set_option maxRecDepth 100000 in
theorem r_law_738 : co_law[738]? = some ((1260, .iadd, 0, 0, 0, 0, 0, 0, []) : xm_I) := rfl
set_option maxRecDepth 100000 in
theorem r_law_739 : co_law[739]? = some ((1261, .iaload, 0, 0, 0, 0, 0, 0, []) : xm_I) := rfl
set_option maxRecDepth 100000 in
theorem r_law_740 : co_law[740]? = some ((1262, .invokevirtual 194, 2036, 314, 3, 10, 0, 0, []) : xm_I) := rfl
set_option maxRecDepth 100000 in
theorem r_law_741 : co_law[741]? = some ((1265, .if_icmp .eq 454, 0, 0, 1109, 0, 0, 0, []) : xm_I) := rfl
set_option maxRecDepth 100000 in
theorem r_law_742 : co_law[742]? = some ((1268, .iconst 0, 0, 0, 0, 0, 0, 0, []) : xm_I) := rfl
set_option maxRecDepth 100000 in
theorem r_law_743 : co_law[743]? = some ((1269, .ireturn, 0, 0, 0, 3, 0, 0, []) : xm_I) := rfl
set_option maxRecDepth 100000 in
theorem r_law_744 : co_law[744]? = some ((1270, .aload_n 1, 0, 0, 0, 0, 0, 0, []) : xm_I) := rfl
set_option maxRecDepth 100000 in
theorem r_law_745 : co_law[745]? = some ((1271, .aload_n 0, 0, 0, 0, 0, 0, 0, []) : xm_I) := rfl
set_option maxRecDepth 100000 in
theorem r_law_746 : co_law[746]? = some ((1272, .iload_n 3, 0, 0, 0, 0, 0, 0, []) : xm_I) := rfl
set_option maxRecDepth 100000 in
theorem r_law_747 : co_law[747]? = some ((1273, .iconst 1, 0, 0, 0, 0, 1, 0, []) : xm_I) := rfl
set_option maxRecDepth 100000 in
theorem r_law_748 : co_law[748]? = some ((1274, .iadd, 0, 0, 0, 0, 0, 0, []) : xm_I) := rfl
set_option maxRecDepth 100000 in
theorem r_law_749 : co_law[749]? = some ((1275, .iaload, 0, 0, 0, 0, 0, 0, []) : xm_I) := rfl
set_option maxRecDepth 100000 in
theorem r_law_750 : co_law[750]? = some ((1276, .invokevirtual 195, 1228, 158, 2, 9, 0, 0, []) : xm_I) := rfl
set_option maxRecDepth 100000 in
theorem r_law_751 : co_law[751]? = some ((1279, .aload_n 2, 0, 0, 0, 0, 0, 0, []) : xm_I) := rfl
set_option maxRecDepth 100000 in
theorem r_law_752 : co_law[752]? = some ((1280, .aload_n 0, 0, 0, 0, 0, 0, 0, []) : xm_I) := rfl
set_option maxRecDepth 100000 in
theorem r_law_753 : co_law[753]? = some ((1281, .iload_n 3, 0, 0, 0, 0, 0, 0, []) : xm_I) := rfl
set_option maxRecDepth 100000 in
theorem r_law_754 : co_law[754]? = some ((1282, .iconst 1, 0, 0, 0, 0, 1, 0, []) : xm_I) := rfl
set_option maxRecDepth 100000 in
theorem r_law_755 : co_law[755]? = some ((1283, .iadd, 0, 0, 0, 0, 0, 0, []) : xm_I) := rfl
set_option maxRecDepth 100000 in
theorem r_law_756 : co_law[756]? = some ((1284, .iaload, 0, 0, 0, 0, 0, 0, []) : xm_I) := rfl
set_option maxRecDepth 100000 in
theorem r_law_757 : co_law[757]? = some ((1285, .invokevirtual 198, 2040, 315, 2, 10, 0, 0, []) : xm_I) := rfl
set_option maxRecDepth 100000 in
theorem r_law_758 : co_law[758]? = some ((1288, .if_icmp .eq 431, 0, 0, 1109, 0, 0, 0, []) : xm_I) := rfl
set_option maxRecDepth 100000 in
theorem r_law_759 : co_law[759]? = some ((1291, .iconst 0, 0, 0, 0, 0, 0, 0, []) : xm_I) := rfl
set_option maxRecDepth 100000 in
theorem r_law_760 : co_law[760]? = some ((1292, .ireturn, 0, 0, 0, 3, 0, 0, []) : xm_I) := rfl
set_option maxRecDepth 100000 in
theorem r_law_761 : co_law[761]? = some ((1293, .aload_n 1, 0, 0, 0, 0, 0, 0, []) : xm_I) := rfl
set_option maxRecDepth 100000 in
theorem r_law_762 : co_law[762]? = some ((1294, .invokevirtual 199, 1232, 159, 1, 9, 0, 0, []) : xm_I) := rfl
set_option maxRecDepth 100000 in
theorem r_law_763 : co_law[763]? = some ((1297, .aload_n 2, 0, 0, 0, 0, 0, 0, []) : xm_I) := rfl
set_option maxRecDepth 100000 in
theorem r_law_764 : co_law[764]? = some ((1298, .invokevirtual 202, 2044, 316, 1, 10, 0, 0, []) : xm_I) := rfl
set_option maxRecDepth 100000 in
theorem r_law_765 : co_law[765]? = some ((1301, .if_icmp .eq 418, 0, 0, 1109, 0, 0, 0, []) : xm_I) := rfl
set_option maxRecDepth 100000 in
theorem r_law_766 : co_law[766]? = some ((1304, .iconst 0, 0, 0, 0, 0, 0, 0, []) : xm_I) := rfl
set_option maxRecDepth 100000 in
theorem r_law_767 : co_law[767]? = some ((1305, .ireturn, 0, 0, 0, 3, 0, 0, []) : xm_I) := rfl
set_option maxRecDepth 100000 in
theorem r_law_768 : co_law[768]? = some ((1306, .aload_n 1, 0, 0, 0, 0, 0, 0, []) : xm_I) := rfl
set_option maxRecDepth 100000 in
theorem r_law_769 : co_law[769]? = some ((1307, .aload_n 0, 0, 0, 0, 0, 0, 0, []) : xm_I) := rfl
set_option maxRecDepth 100000 in
theorem r_law_770 : co_law[770]? = some ((1308, .iload_n 3, 0, 0, 0, 0, 0, 0, []) : xm_I) := rfl
set_option maxRecDepth 100000 in
theorem r_law_771 : co_law[771]? = some ((1309, .iconst 1, 0, 0, 0, 0, 1, 0, []) : xm_I) := rfl
set_option maxRecDepth 100000 in
theorem r_law_772 : co_law[772]? = some ((1310, .iadd, 0, 0, 0, 0, 0, 0, []) : xm_I) := rfl
set_option maxRecDepth 100000 in
theorem r_law_773 : co_law[773]? = some ((1311, .iaload, 0, 0, 0, 0, 0, 0, []) : xm_I) := rfl
set_option maxRecDepth 100000 in
theorem r_law_774 : co_law[774]? = some ((1312, .invokevirtual 203, 1257, 164, 2, 9, 0, 0, []) : xm_I) := rfl
set_option maxRecDepth 100000 in
theorem r_law_775 : co_law[775]? = some ((1315, .aload_n 2, 0, 0, 0, 0, 0, 0, []) : xm_I) := rfl
set_option maxRecDepth 100000 in
theorem r_law_776 : co_law[776]? = some ((1316, .aload_n 0, 0, 0, 0, 0, 0, 0, []) : xm_I) := rfl
set_option maxRecDepth 100000 in
theorem r_law_777 : co_law[777]? = some ((1317, .iload_n 3, 0, 0, 0, 0, 0, 0, []) : xm_I) := rfl
set_option maxRecDepth 100000 in
theorem r_law_778 : co_law[778]? = some ((1318, .iconst 1, 0, 0, 0, 0, 1, 0, []) : xm_I) := rfl
set_option maxRecDepth 100000 in
theorem r_law_779 : co_law[779]? = some ((1319, .iadd, 0, 0, 0, 0, 0, 0, []) : xm_I) := rfl
set_option maxRecDepth 100000 in
theorem r_law_780 : co_law[780]? = some ((1320, .iaload, 0, 0, 0, 0, 0, 0, []) : xm_I) := rfl
set_option maxRecDepth 100000 in
theorem r_law_781 : co_law[781]? = some ((1321, .invokevirtual 206, 2056, 319, 2, 10, 0, 0, []) : xm_I) := rfl
set_option maxRecDepth 100000 in
theorem r_law_782 : co_law[782]? = some ((1324, .if_icmp .eq 395, 0, 0, 1109, 0, 0, 0, []) : xm_I) := rfl
set_option maxRecDepth 100000 in
theorem r_law_783 : co_law[783]? = some ((1327, .iconst 0, 0, 0, 0, 0, 0, 0, []) : xm_I) := rfl
set_option maxRecDepth 100000 in
theorem r_law_784 : co_law[784]? = some ((1328, .ireturn, 0, 0, 0, 3, 0, 0, []) : xm_I) := rfl
set_option maxRecDepth 100000 in
theorem r_law_785 : co_law[785]? = some ((1329, .aload_n 1, 0, 0, 0, 0, 0, 0, []) : xm_I) := rfl
set_option maxRecDepth 100000 in
theorem r_law_786 : co_law[786]? = some ((1330, .aload_n 0, 0, 0, 0, 0, 0, 0, []) : xm_I) := rfl
set_option maxRecDepth 100000 in
theorem r_law_787 : co_law[787]? = some ((1331, .iload_n 3, 0, 0, 0, 0, 0, 0, []) : xm_I) := rfl
set_option maxRecDepth 100000 in
theorem r_law_788 : co_law[788]? = some ((1332, .iconst 1, 0, 0, 0, 0, 1, 0, []) : xm_I) := rfl
set_option maxRecDepth 100000 in
theorem r_law_789 : co_law[789]? = some ((1333, .iadd, 0, 0, 0, 0, 0, 0, []) : xm_I) := rfl
set_option maxRecDepth 100000 in
theorem r_law_790 : co_law[790]? = some ((1334, .iaload, 0, 0, 0, 0, 0, 0, []) : xm_I) := rfl
set_option maxRecDepth 100000 in
theorem r_law_791 : co_law[791]? = some ((1335, .invokevirtual 207, 1265, 166, 2, 9, 0, 0, []) : xm_I) := rfl
set_option maxRecDepth 100000 in
theorem r_law_792 : co_law[792]? = some ((1338, .aload_n 2, 0, 0, 0, 0, 0, 0, []) : xm_I) := rfl
set_option maxRecDepth 100000 in
theorem r_law_793 : co_law[793]? = some ((1339, .aload_n 0, 0, 0, 0, 0, 0, 0, []) : xm_I) := rfl
set_option maxRecDepth 100000 in
theorem r_law_794 : co_law[794]? = some ((1340, .iload_n 3, 0, 0, 0, 0, 0, 0, []) : xm_I) := rfl
set_option maxRecDepth 100000 in
theorem r_law_795 : co_law[795]? = some ((1341, .iconst 1, 0, 0, 0, 0, 1, 0, []) : xm_I) := rfl
set_option maxRecDepth 100000 in
theorem r_law_796 : co_law[796]? = some ((1342, .iadd, 0, 0, 0, 0, 0, 0, []) : xm_I) := rfl
set_option maxRecDepth 100000 in
theorem r_law_797 : co_law[797]? = some ((1343, .iaload, 0, 0, 0, 0, 0, 0, []) : xm_I) := rfl
set_option maxRecDepth 100000 in
theorem r_law_798 : co_law[798]? = some ((1344, .invokevirtual 210, 2060, 320, 2, 10, 0, 0, []) : xm_I) := rfl
set_option maxRecDepth 100000 in
theorem r_law_799 : co_law[799]? = some ((1347, .if_icmp .eq 372, 0, 0, 1109, 0, 0, 0, []) : xm_I) := rfl
set_option maxRecDepth 100000 in
theorem r_law_800 : co_law[800]? = some ((1350, .iconst 0, 0, 0, 0, 0, 0, 0, []) : xm_I) := rfl
set_option maxRecDepth 100000 in
theorem r_law_801 : co_law[801]? = some ((1351, .ireturn, 0, 0, 0, 3, 0, 0, []) : xm_I) := rfl
set_option maxRecDepth 100000 in
theorem r_law_802 : co_law[802]? = some ((1352, .aload_n 1, 0, 0, 0, 0, 0, 0, []) : xm_I) := rfl
set_option maxRecDepth 100000 in
theorem r_law_803 : co_law[803]? = some ((1353, .aload_n 0, 0, 0, 0, 0, 0, 0, []) : xm_I) := rfl
set_option maxRecDepth 100000 in
theorem r_law_804 : co_law[804]? = some ((1354, .iload_n 3, 0, 0, 0, 0, 0, 0, []) : xm_I) := rfl
set_option maxRecDepth 100000 in
theorem r_law_805 : co_law[805]? = some ((1355, .iconst 1, 0, 0, 0, 0, 1, 0, []) : xm_I) := rfl
set_option maxRecDepth 100000 in
theorem r_law_806 : co_law[806]? = some ((1356, .iadd, 0, 0, 0, 0, 0, 0, []) : xm_I) := rfl
set_option maxRecDepth 100000 in
theorem r_law_807 : co_law[807]? = some ((1357, .iaload, 0, 0, 0, 0, 0, 0, []) : xm_I) := rfl
set_option maxRecDepth 100000 in
theorem r_law_808 : co_law[808]? = some ((1358, .aload_n 0, 0, 0, 0, 0, 0, 0, []) : xm_I) := rfl
set_option maxRecDepth 100000 in
theorem r_law_809 : co_law[809]? = some ((1359, .iload_n 3, 0, 0, 0, 0, 0, 0, []) : xm_I) := rfl
set_option maxRecDepth 100000 in
theorem r_law_810 : co_law[810]? = some ((1360, .iconst 2, 0, 0, 0, 0, 2, 0, []) : xm_I) := rfl
set_option maxRecDepth 100000 in
theorem r_law_811 : co_law[811]? = some ((1361, .iadd, 0, 0, 0, 0, 0, 0, []) : xm_I) := rfl
set_option maxRecDepth 100000 in
theorem r_law_812 : co_law[812]? = some ((1362, .iaload, 0, 0, 0, 0, 0, 0, []) : xm_I) := rfl
set_option maxRecDepth 100000 in
theorem r_law_813 : co_law[813]? = some ((1363, .aload_n 0, 0, 0, 0, 0, 0, 0, []) : xm_I) := rfl
set_option maxRecDepth 100000 in
theorem r_law_814 : co_law[814]? = some ((1364, .iload_n 3, 0, 0, 0, 0, 0, 0, []) : xm_I) := rfl
set_option maxRecDepth 100000 in
theorem r_law_815 : co_law[815]? = some ((1365, .iconst 3, 0, 0, 0, 0, 3, 0, []) : xm_I) := rfl
set_option maxRecDepth 100000 in
theorem r_law_816 : co_law[816]? = some ((1366, .iadd, 0, 0, 0, 0, 0, 0, []) : xm_I) := rfl
set_option maxRecDepth 100000 in
theorem r_law_817 : co_law[817]? = some ((1367, .iaload, 0, 0, 0, 0, 0, 0, []) : xm_I) := rfl
set_option maxRecDepth 100000 in
theorem r_law_818 : co_law[818]? = some ((1368, .invokevirtual 211, 1269, 167, 4, 9, 0, 0, []) : xm_I) := rfl
set_option maxRecDepth 100000 in
theorem r_law_819 : co_law[819]? = some ((1371, .aload_n 2, 0, 0, 0, 0, 0, 0, []) : xm_I) := rfl
set_option maxRecDepth 100000 in
theorem r_law_820 : co_law[820]? = some ((1372, .aload_n 0, 0, 0, 0, 0, 0, 0, []) : xm_I) := rfl
set_option maxRecDepth 100000 in
theorem r_law_821 : co_law[821]? = some ((1373, .iload_n 3, 0, 0, 0, 0, 0, 0, []) : xm_I) := rfl
set_option maxRecDepth 100000 in
theorem r_law_822 : co_law[822]? = some ((1374, .iconst 1, 0, 0, 0, 0, 1, 0, []) : xm_I) := rfl
set_option maxRecDepth 100000 in
theorem r_law_823 : co_law[823]? = some ((1375, .iadd, 0, 0, 0, 0, 0, 0, []) : xm_I) := rfl
set_option maxRecDepth 100000 in
theorem r_law_824 : co_law[824]? = some ((1376, .iaload, 0, 0, 0, 0, 0, 0, []) : xm_I) := rfl
set_option maxRecDepth 100000 in
theorem r_law_825 : co_law[825]? = some ((1377, .aload_n 0, 0, 0, 0, 0, 0, 0, []) : xm_I) := rfl
set_option maxRecDepth 100000 in
theorem r_law_826 : co_law[826]? = some ((1378, .iload_n 3, 0, 0, 0, 0, 0, 0, []) : xm_I) := rfl
set_option maxRecDepth 100000 in
theorem r_law_827 : co_law[827]? = some ((1379, .iconst 2, 0, 0, 0, 0, 2, 0, []) : xm_I) := rfl
set_option maxRecDepth 100000 in
theorem r_law_828 : co_law[828]? = some ((1380, .iadd, 0, 0, 0, 0, 0, 0, []) : xm_I) := rfl
set_option maxRecDepth 100000 in
theorem r_law_829 : co_law[829]? = some ((1381, .iaload, 0, 0, 0, 0, 0, 0, []) : xm_I) := rfl
set_option maxRecDepth 100000 in
theorem r_law_830 : co_law[830]? = some ((1382, .aload_n 0, 0, 0, 0, 0, 0, 0, []) : xm_I) := rfl
set_option maxRecDepth 100000 in
theorem r_law_831 : co_law[831]? = some ((1383, .iload_n 3, 0, 0, 0, 0, 0, 0, []) : xm_I) := rfl
set_option maxRecDepth 100000 in
theorem r_law_832 : co_law[832]? = some ((1384, .iconst 3, 0, 0, 0, 0, 3, 0, []) : xm_I) := rfl
set_option maxRecDepth 100000 in
theorem r_law_833 : co_law[833]? = some ((1385, .iadd, 0, 0, 0, 0, 0, 0, []) : xm_I) := rfl
set_option maxRecDepth 100000 in
theorem r_law_834 : co_law[834]? = some ((1386, .iaload, 0, 0, 0, 0, 0, 0, []) : xm_I) := rfl
set_option maxRecDepth 100000 in
theorem r_law_835 : co_law[835]? = some ((1387, .invokevirtual 215, 2064, 321, 4, 10, 0, 0, []) : xm_I) := rfl
set_option maxRecDepth 100000 in
theorem r_law_836 : co_law[836]? = some ((1390, .if_icmp .eq 329, 0, 0, 1109, 0, 0, 0, []) : xm_I) := rfl
set_option maxRecDepth 100000 in
theorem r_law_837 : co_law[837]? = some ((1393, .iconst 0, 0, 0, 0, 0, 0, 0, []) : xm_I) := rfl
set_option maxRecDepth 100000 in
theorem r_law_838 : co_law[838]? = some ((1394, .ireturn, 0, 0, 0, 3, 0, 0, []) : xm_I) := rfl
set_option maxRecDepth 100000 in
theorem r_law_839 : co_law[839]? = some ((1395, .aload_n 1, 0, 0, 0, 0, 0, 0, []) : xm_I) := rfl
set_option maxRecDepth 100000 in
theorem r_law_840 : co_law[840]? = some ((1396, .aload_n 0, 0, 0, 0, 0, 0, 0, []) : xm_I) := rfl
set_option maxRecDepth 100000 in
theorem r_law_841 : co_law[841]? = some ((1397, .iload_n 3, 0, 0, 0, 0, 0, 0, []) : xm_I) := rfl
set_option maxRecDepth 100000 in
theorem r_law_842 : co_law[842]? = some ((1398, .iconst 1, 0, 0, 0, 0, 1, 0, []) : xm_I) := rfl
set_option maxRecDepth 100000 in
theorem r_law_843 : co_law[843]? = some ((1399, .iadd, 0, 0, 0, 0, 0, 0, []) : xm_I) := rfl
set_option maxRecDepth 100000 in
theorem r_law_844 : co_law[844]? = some ((1400, .iaload, 0, 0, 0, 0, 0, 0, []) : xm_I) := rfl
set_option maxRecDepth 100000 in
theorem r_law_845 : co_law[845]? = some ((1401, .aload_n 0, 0, 0, 0, 0, 0, 0, []) : xm_I) := rfl
set_option maxRecDepth 100000 in
theorem r_law_846 : co_law[846]? = some ((1402, .iload_n 3, 0, 0, 0, 0, 0, 0, []) : xm_I) := rfl
set_option maxRecDepth 100000 in
theorem r_law_847 : co_law[847]? = some ((1403, .iconst 2, 0, 0, 0, 0, 2, 0, []) : xm_I) := rfl
set_option maxRecDepth 100000 in
theorem r_law_848 : co_law[848]? = some ((1404, .iadd, 0, 0, 0, 0, 0, 0, []) : xm_I) := rfl
set_option maxRecDepth 100000 in
theorem r_law_849 : co_law[849]? = some ((1405, .iaload, 0, 0, 0, 0, 0, 0, []) : xm_I) := rfl
set_option maxRecDepth 100000 in
theorem r_law_850 : co_law[850]? = some ((1406, .invokevirtual 216, 1294, 171, 3, 9, 0, 0, []) : xm_I) := rfl
set_option maxRecDepth 100000 in
theorem r_law_851 : co_law[851]? = some ((1409, .aload_n 2, 0, 0, 0, 0, 0, 0, []) : xm_I) := rfl
set_option maxRecDepth 100000 in
theorem r_law_852 : co_law[852]? = some ((1410, .aload_n 0, 0, 0, 0, 0, 0, 0, []) : xm_I) := rfl
set_option maxRecDepth 100000 in
theorem r_law_853 : co_law[853]? = some ((1411, .iload_n 3, 0, 0, 0, 0, 0, 0, []) : xm_I) := rfl
set_option maxRecDepth 100000 in
theorem r_law_854 : co_law[854]? = some ((1412, .iconst 1, 0, 0, 0, 0, 1, 0, []) : xm_I) := rfl
set_option maxRecDepth 100000 in
theorem r_law_855 : co_law[855]? = some ((1413, .iadd, 0, 0, 0, 0, 0, 0, []) : xm_I) := rfl
set_option maxRecDepth 100000 in
theorem r_law_856 : co_law[856]? = some ((1414, .iaload, 0, 0, 0, 0, 0, 0, []) : xm_I) := rfl
set_option maxRecDepth 100000 in
theorem r_law_857 : co_law[857]? = some ((1415, .aload_n 0, 0, 0, 0, 0, 0, 0, []) : xm_I) := rfl
set_option maxRecDepth 100000 in
theorem r_law_858 : co_law[858]? = some ((1416, .iload_n 3, 0, 0, 0, 0, 0, 0, []) : xm_I) := rfl
set_option maxRecDepth 100000 in
theorem r_law_859 : co_law[859]? = some ((1417, .iconst 2, 0, 0, 0, 0, 2, 0, []) : xm_I) := rfl
set_option maxRecDepth 100000 in
theorem r_law_860 : co_law[860]? = some ((1418, .iadd, 0, 0, 0, 0, 0, 0, []) : xm_I) := rfl
set_option maxRecDepth 100000 in
theorem r_law_861 : co_law[861]? = some ((1419, .iaload, 0, 0, 0, 0, 0, 0, []) : xm_I) := rfl
set_option maxRecDepth 100000 in
theorem r_law_862 : co_law[862]? = some ((1420, .invokevirtual 219, 2084, 325, 3, 10, 0, 0, []) : xm_I) := rfl
set_option maxRecDepth 100000 in
theorem r_law_863 : co_law[863]? = some ((1423, .if_icmp .eq 296, 0, 0, 1109, 0, 0, 0, []) : xm_I) := rfl
set_option maxRecDepth 100000 in
theorem r_law_864 : co_law[864]? = some ((1426, .iconst 0, 0, 0, 0, 0, 0, 0, []) : xm_I) := rfl
set_option maxRecDepth 100000 in
theorem r_law_865 : co_law[865]? = some ((1427, .ireturn, 0, 0, 0, 3, 0, 0, []) : xm_I) := rfl
set_option maxRecDepth 100000 in
theorem r_law_866 : co_law[866]? = some ((1428, .aload_n 1, 0, 0, 0, 0, 0, 0, []) : xm_I) := rfl
set_option maxRecDepth 100000 in
theorem r_law_867 : co_law[867]? = some ((1429, .aload_n 0, 0, 0, 0, 0, 0, 0, []) : xm_I) := rfl
set_option maxRecDepth 100000 in
theorem r_law_868 : co_law[868]? = some ((1430, .iload_n 3, 0, 0, 0, 0, 0, 0, []) : xm_I) := rfl
set_option maxRecDepth 100000 in
theorem r_law_869 : co_law[869]? = some ((1431, .iconst 1, 0, 0, 0, 0, 1, 0, []) : xm_I) := rfl
set_option maxRecDepth 100000 in
theorem r_law_870 : co_law[870]? = some ((1432, .iadd, 0, 0, 0, 0, 0, 0, []) : xm_I) := rfl
set_option maxRecDepth 100000 in
theorem r_law_871 : co_law[871]? = some ((1433, .iaload, 0, 0, 0, 0, 0, 0, []) : xm_I) := rfl
set_option maxRecDepth 100000 in
theorem r_law_872 : co_law[872]? = some ((1434, .aload_n 0, 0, 0, 0, 0, 0, 0, []) : xm_I) := rfl
set_option maxRecDepth 100000 in
theorem r_law_873 : co_law[873]? = some ((1435, .iload_n 3, 0, 0, 0, 0, 0, 0, []) : xm_I) := rfl
set_option maxRecDepth 100000 in
theorem r_law_874 : co_law[874]? = some ((1436, .iconst 2, 0, 0, 0, 0, 2, 0, []) : xm_I) := rfl
set_option maxRecDepth 100000 in
theorem r_law_875 : co_law[875]? = some ((1437, .iadd, 0, 0, 0, 0, 0, 0, []) : xm_I) := rfl
set_option maxRecDepth 100000 in
theorem r_law_876 : co_law[876]? = some ((1438, .iaload, 0, 0, 0, 0, 0, 0, []) : xm_I) := rfl
set_option maxRecDepth 100000 in
theorem r_law_877 : co_law[877]? = some ((1439, .aload_n 0, 0, 0, 0, 0, 0, 0, []) : xm_I) := rfl
set_option maxRecDepth 100000 in
theorem r_law_878 : co_law[878]? = some ((1440, .iload_n 3, 0, 0, 0, 0, 0, 0, []) : xm_I) := rfl
set_option maxRecDepth 100000 in
theorem r_law_879 : co_law[879]? = some ((1441, .iconst 3, 0, 0, 0, 0, 3, 0, []) : xm_I) := rfl
set_option maxRecDepth 100000 in
theorem r_law_880 : co_law[880]? = some ((1442, .iadd, 0, 0, 0, 0, 0, 0, []) : xm_I) := rfl
set_option maxRecDepth 100000 in
theorem r_law_881 : co_law[881]? = some ((1443, .iaload, 0, 0, 0, 0, 0, 0, []) : xm_I) := rfl
set_option maxRecDepth 100000 in
theorem r_law_882 : co_law[882]? = some ((1444, .invokevirtual 220, 1298, 172, 4, 9, 0, 0, []) : xm_I) := rfl
set_option maxRecDepth 100000 in
theorem r_law_883 : co_law[883]? = some ((1447, .aload_n 2, 0, 0, 0, 0, 0, 0, []) : xm_I) := rfl
set_option maxRecDepth 100000 in
theorem r_law_884 : co_law[884]? = some ((1448, .aload_n 0, 0, 0, 0, 0, 0, 0, []) : xm_I) := rfl
set_option maxRecDepth 100000 in
theorem r_law_885 : co_law[885]? = some ((1449, .iload_n 3, 0, 0, 0, 0, 0, 0, []) : xm_I) := rfl
set_option maxRecDepth 100000 in
theorem r_law_886 : co_law[886]? = some ((1450, .iconst 1, 0, 0, 0, 0, 1, 0, []) : xm_I) := rfl
set_option maxRecDepth 100000 in
theorem r_law_887 : co_law[887]? = some ((1451, .iadd, 0, 0, 0, 0, 0, 0, []) : xm_I) := rfl
set_option maxRecDepth 100000 in
theorem r_law_888 : co_law[888]? = some ((1452, .iaload, 0, 0, 0, 0, 0, 0, []) : xm_I) := rfl
set_option maxRecDepth 100000 in
theorem r_law_889 : co_law[889]? = some ((1453, .aload_n 0, 0, 0, 0, 0, 0, 0, []) : xm_I) := rfl
set_option maxRecDepth 100000 in
theorem r_law_890 : co_law[890]? = some ((1454, .iload_n 3, 0, 0, 0, 0, 0, 0, []) : xm_I) := rfl
set_option maxRecDepth 100000 in
theorem r_law_891 : co_law[891]? = some ((1455, .iconst 2, 0, 0, 0, 0, 2, 0, []) : xm_I) := rfl
set_option maxRecDepth 100000 in
theorem r_law_892 : co_law[892]? = some ((1456, .iadd, 0, 0, 0, 0, 0, 0, []) : xm_I) := rfl
set_option maxRecDepth 100000 in
theorem r_law_893 : co_law[893]? = some ((1457, .iaload, 0, 0, 0, 0, 0, 0, []) : xm_I) := rfl
set_option maxRecDepth 100000 in
theorem r_law_894 : co_law[894]? = some ((1458, .aload_n 0, 0, 0, 0, 0, 0, 0, []) : xm_I) := rfl
set_option maxRecDepth 100000 in
theorem r_law_895 : co_law[895]? = some ((1459, .iload_n 3, 0, 0, 0, 0, 0, 0, []) : xm_I) := rfl
set_option maxRecDepth 100000 in
theorem r_law_896 : co_law[896]? = some ((1460, .iconst 3, 0, 0, 0, 0, 3, 0, []) : xm_I) := rfl
set_option maxRecDepth 100000 in
theorem r_law_897 : co_law[897]? = some ((1461, .iadd, 0, 0, 0, 0, 0, 0, []) : xm_I) := rfl
set_option maxRecDepth 100000 in
theorem r_law_898 : co_law[898]? = some ((1462, .iaload, 0, 0, 0, 0, 0, 0, []) : xm_I) := rfl
set_option maxRecDepth 100000 in
theorem r_law_899 : co_law[899]? = some ((1463, .invokevirtual 223, 2088, 326, 4, 10, 0, 0, []) : xm_I) := rfl
set_option maxRecDepth 100000 in
theorem r_law_900 : co_law[900]? = some ((1466, .if_icmp .eq 253, 0, 0, 1109, 0, 0, 0, []) : xm_I) := rfl
set_option maxRecDepth 100000 in
theorem r_law_901 : co_law[901]? = some ((1469, .iconst 0, 0, 0, 0, 0, 0, 0, []) : xm_I) := rfl
set_option maxRecDepth 100000 in
theorem r_law_902 : co_law[902]? = some ((1470, .ireturn, 0, 0, 0, 3, 0, 0, []) : xm_I) := rfl
set_option maxRecDepth 100000 in
theorem r_law_903 : co_law[903]? = some ((1471, .aload_n 1, 0, 0, 0, 0, 0, 0, []) : xm_I) := rfl
set_option maxRecDepth 100000 in
theorem r_law_904 : co_law[904]? = some ((1472, .aload_n 0, 0, 0, 0, 0, 0, 0, []) : xm_I) := rfl
set_option maxRecDepth 100000 in
theorem r_law_905 : co_law[905]? = some ((1473, .iload_n 3, 0, 0, 0, 0, 0, 0, []) : xm_I) := rfl
set_option maxRecDepth 100000 in
theorem r_law_906 : co_law[906]? = some ((1474, .iconst 1, 0, 0, 0, 0, 1, 0, []) : xm_I) := rfl
set_option maxRecDepth 100000 in
theorem r_law_907 : co_law[907]? = some ((1475, .iadd, 0, 0, 0, 0, 0, 0, []) : xm_I) := rfl
set_option maxRecDepth 100000 in
theorem r_law_908 : co_law[908]? = some ((1476, .iaload, 0, 0, 0, 0, 0, 0, []) : xm_I) := rfl
set_option maxRecDepth 100000 in
theorem r_law_909 : co_law[909]? = some ((1477, .invokevirtual 224, 1302, 173, 2, 9, 0, 0, []) : xm_I) := rfl
set_option maxRecDepth 100000 in
theorem r_law_910 : co_law[910]? = some ((1480, .aload_n 2, 0, 0, 0, 0, 0, 0, []) : xm_I) := rfl
set_option maxRecDepth 100000 in
theorem r_law_911 : co_law[911]? = some ((1481, .aload_n 0, 0, 0, 0, 0, 0, 0, []) : xm_I) := rfl
set_option maxRecDepth 100000 in
theorem r_law_912 : co_law[912]? = some ((1482, .iload_n 3, 0, 0, 0, 0, 0, 0, []) : xm_I) := rfl
set_option maxRecDepth 100000 in
theorem r_law_913 : co_law[913]? = some ((1483, .iconst 1, 0, 0, 0, 0, 1, 0, []) : xm_I) := rfl
set_option maxRecDepth 100000 in
theorem r_law_914 : co_law[914]? = some ((1484, .iadd, 0, 0, 0, 0, 0, 0, []) : xm_I) := rfl
set_option maxRecDepth 100000 in
theorem r_law_915 : co_law[915]? = some ((1485, .iaload, 0, 0, 0, 0, 0, 0, []) : xm_I) := rfl
set_option maxRecDepth 100000 in
theorem r_law_916 : co_law[916]? = some ((1486, .invokevirtual 227, 2092, 327, 2, 10, 0, 0, []) : xm_I) := rfl
set_option maxRecDepth 100000 in
theorem r_law_917 : co_law[917]? = some ((1489, .if_icmp .eq 230, 0, 0, 1109, 0, 0, 0, []) : xm_I) := rfl
set_option maxRecDepth 100000 in
theorem r_law_918 : co_law[918]? = some ((1492, .iconst 0, 0, 0, 0, 0, 0, 0, []) : xm_I) := rfl
set_option maxRecDepth 100000 in
theorem r_law_919 : co_law[919]? = some ((1493, .ireturn, 0, 0, 0, 3, 0, 0, []) : xm_I) := rfl
set_option maxRecDepth 100000 in
theorem r_law_920 : co_law[920]? = some ((1494, .aload_n 1, 0, 0, 0, 0, 0, 0, []) : xm_I) := rfl
set_option maxRecDepth 100000 in
theorem r_law_921 : co_law[921]? = some ((1495, .aload_n 0, 0, 0, 0, 0, 0, 0, []) : xm_I) := rfl
set_option maxRecDepth 100000 in
theorem r_law_922 : co_law[922]? = some ((1496, .iload_n 3, 0, 0, 0, 0, 0, 0, []) : xm_I) := rfl
set_option maxRecDepth 100000 in
theorem r_law_923 : co_law[923]? = some ((1497, .iconst 1, 0, 0, 0, 0, 1, 0, []) : xm_I) := rfl
set_option maxRecDepth 100000 in
theorem r_law_924 : co_law[924]? = some ((1498, .iadd, 0, 0, 0, 0, 0, 0, []) : xm_I) := rfl
set_option maxRecDepth 100000 in
theorem r_law_925 : co_law[925]? = some ((1499, .iaload, 0, 0, 0, 0, 0, 0, []) : xm_I) := rfl
set_option maxRecDepth 100000 in
theorem r_law_926 : co_law[926]? = some ((1500, .invokevirtual 228, 1310, 175, 2, 9, 0, 0, []) : xm_I) := rfl
set_option maxRecDepth 100000 in
theorem r_law_927 : co_law[927]? = some ((1503, .aload_n 2, 0, 0, 0, 0, 0, 0, []) : xm_I) := rfl
set_option maxRecDepth 100000 in
theorem r_law_928 : co_law[928]? = some ((1504, .aload_n 0, 0, 0, 0, 0, 0, 0, []) : xm_I) := rfl
set_option maxRecDepth 100000 in
theorem r_law_929 : co_law[929]? = some ((1505, .iload_n 3, 0, 0, 0, 0, 0, 0, []) : xm_I) := rfl
set_option maxRecDepth 100000 in
theorem r_law_930 : co_law[930]? = some ((1506, .iconst 1, 0, 0, 0, 0, 1, 0, []) : xm_I) := rfl
set_option maxRecDepth 100000 in
theorem r_law_931 : co_law[931]? = some ((1507, .iadd, 0, 0, 0, 0, 0, 0, []) : xm_I) := rfl
set_option maxRecDepth 100000 in
theorem r_law_932 : co_law[932]? = some ((1508, .iaload, 0, 0, 0, 0, 0, 0, []) : xm_I) := rfl
set_option maxRecDepth 100000 in
theorem r_law_933 : co_law[933]? = some ((1509, .invokevirtual 231, 1498, 190, 2, 10, 0, 0, []) : xm_I) := rfl
set_option maxRecDepth 100000 in
theorem r_law_934 : co_law[934]? = some ((1512, .if_icmp .eq 207, 0, 0, 1109, 0, 0, 0, []) : xm_I) := rfl
set_option maxRecDepth 100000 in
theorem r_law_935 : co_law[935]? = some ((1515, .iconst 0, 0, 0, 0, 0, 0, 0, []) : xm_I) := rfl
set_option maxRecDepth 100000 in
theorem r_law_936 : co_law[936]? = some ((1516, .ireturn, 0, 0, 0, 3, 0, 0, []) : xm_I) := rfl
set_option maxRecDepth 100000 in
theorem r_law_937 : co_law[937]? = some ((1517, .aload_n 1, 0, 0, 0, 0, 0, 0, []) : xm_I) := rfl
set_option maxRecDepth 100000 in
theorem r_law_938 : co_law[938]? = some ((1518, .aload_n 0, 0, 0, 0, 0, 0, 0, []) : xm_I) := rfl
set_option maxRecDepth 100000 in
theorem r_law_939 : co_law[939]? = some ((1519, .iload_n 3, 0, 0, 0, 0, 0, 0, []) : xm_I) := rfl
set_option maxRecDepth 100000 in
theorem r_law_940 : co_law[940]? = some ((1520, .iconst 1, 0, 0, 0, 0, 1, 0, []) : xm_I) := rfl
set_option maxRecDepth 100000 in
theorem r_law_941 : co_law[941]? = some ((1521, .iadd, 0, 0, 0, 0, 0, 0, []) : xm_I) := rfl
set_option maxRecDepth 100000 in
theorem r_law_942 : co_law[942]? = some ((1522, .iaload, 0, 0, 0, 0, 0, 0, []) : xm_I) := rfl
set_option maxRecDepth 100000 in
theorem r_law_943 : co_law[943]? = some ((1523, .invokevirtual 232, 1335, 181, 2, 9, 0, 0, []) : xm_I) := rfl
set_option maxRecDepth 100000 in
theorem r_law_944 : co_law[944]? = some ((1526, .aload_n 2, 0, 0, 0, 0, 0, 0, []) : xm_I) := rfl
set_option maxRecDepth 100000 in
theorem r_law_945 : co_law[945]? = some ((1527, .aload_n 0, 0, 0, 0, 0, 0, 0, []) : xm_I) := rfl
set_option maxRecDepth 100000 in
theorem r_law_946 : co_law[946]? = some ((1528, .iload_n 3, 0, 0, 0, 0, 0, 0, []) : xm_I) := rfl
set_option maxRecDepth 100000 in
theorem r_law_947 : co_law[947]? = some ((1529, .iconst 1, 0, 0, 0, 0, 1, 0, []) : xm_I) := rfl
set_option maxRecDepth 100000 in
theorem r_law_948 : co_law[948]? = some ((1530, .iadd, 0, 0, 0, 0, 0, 0, []) : xm_I) := rfl
set_option maxRecDepth 100000 in
theorem r_law_949 : co_law[949]? = some ((1531, .iaload, 0, 0, 0, 0, 0, 0, []) : xm_I) := rfl
set_option maxRecDepth 100000 in
theorem r_law_950 : co_law[950]? = some ((1532, .invokevirtual 235, 1506, 192, 2, 10, 0, 0, []) : xm_I) := rfl
set_option maxRecDepth 100000 in
theorem r_law_951 : co_law[951]? = some ((1535, .if_icmp .eq 184, 0, 0, 1109, 0, 0, 0, []) : xm_I) := rfl
set_option maxRecDepth 100000 in
theorem r_law_952 : co_law[952]? = some ((1538, .iconst 0, 0, 0, 0, 0, 0, 0, []) : xm_I) := rfl
set_option maxRecDepth 100000 in
theorem r_law_953 : co_law[953]? = some ((1539, .ireturn, 0, 0, 0, 3, 0, 0, []) : xm_I) := rfl
set_option maxRecDepth 100000 in
theorem r_law_954 : co_law[954]? = some ((1540, .aload_n 1, 0, 0, 0, 0, 0, 0, []) : xm_I) := rfl
set_option maxRecDepth 100000 in
theorem r_law_955 : co_law[955]? = some ((1541, .aload_n 0, 0, 0, 0, 0, 0, 0, []) : xm_I) := rfl
set_option maxRecDepth 100000 in
theorem r_law_956 : co_law[956]? = some ((1542, .iload_n 3, 0, 0, 0, 0, 0, 0, []) : xm_I) := rfl
set_option maxRecDepth 100000 in
theorem r_law_957 : co_law[957]? = some ((1543, .iconst 1, 0, 0, 0, 0, 1, 0, []) : xm_I) := rfl
set_option maxRecDepth 100000 in
theorem r_law_958 : co_law[958]? = some ((1544, .iadd, 0, 0, 0, 0, 0, 0, []) : xm_I) := rfl
set_option maxRecDepth 100000 in
theorem r_law_959 : co_law[959]? = some ((1545, .iaload, 0, 0, 0, 0, 0, 0, []) : xm_I) := rfl
set_option maxRecDepth 100000 in
theorem r_law_960 : co_law[960]? = some ((1546, .aload_n 0, 0, 0, 0, 0, 0, 0, []) : xm_I) := rfl
set_option maxRecDepth 100000 in
theorem r_law_961 : co_law[961]? = some ((1547, .iload_n 3, 0, 0, 0, 0, 0, 0, []) : xm_I) := rfl
set_option maxRecDepth 100000 in
theorem r_law_962 : co_law[962]? = some ((1548, .iconst 2, 0, 0, 0, 0, 2, 0, []) : xm_I) := rfl
set_option maxRecDepth 100000 in
theorem r_law_963 : co_law[963]? = some ((1549, .iadd, 0, 0, 0, 0, 0, 0, []) : xm_I) := rfl
set_option maxRecDepth 100000 in
theorem r_law_964 : co_law[964]? = some ((1550, .iaload, 0, 0, 0, 0, 0, 0, []) : xm_I) := rfl
set_option maxRecDepth 100000 in
theorem r_law_965 : co_law[965]? = some ((1551, .aload_n 0, 0, 0, 0, 0, 0, 0, []) : xm_I) := rfl
set_option maxRecDepth 100000 in
theorem r_law_966 : co_law[966]? = some ((1552, .iload_n 3, 0, 0, 0, 0, 0, 0, []) : xm_I) := rfl
set_option maxRecDepth 100000 in
theorem r_law_967 : co_law[967]? = some ((1553, .iconst 3, 0, 0, 0, 0, 3, 0, []) : xm_I) := rfl
set_option maxRecDepth 100000 in
theorem r_law_968 : co_law[968]? = some ((1554, .iadd, 0, 0, 0, 0, 0, 0, []) : xm_I) := rfl
set_option maxRecDepth 100000 in
theorem r_law_969 : co_law[969]? = some ((1555, .iaload, 0, 0, 0, 0, 0, 0, []) : xm_I) := rfl
set_option maxRecDepth 100000 in
theorem r_law_970 : co_law[970]? = some ((1556, .invokevirtual 236, 1339, 182, 4, 9, 0, 0, []) : xm_I) := rfl
set_option maxRecDepth 100000 in
theorem r_law_971 : co_law[971]? = some ((1559, .aload_n 2, 0, 0, 0, 0, 0, 0, []) : xm_I) := rfl
set_option maxRecDepth 100000 in
theorem r_law_972 : co_law[972]? = some ((1560, .aload_n 0, 0, 0, 0, 0, 0, 0, []) : xm_I) := rfl
set_option maxRecDepth 100000 in
theorem r_law_973 : co_law[973]? = some ((1561, .iload_n 3, 0, 0, 0, 0, 0, 0, []) : xm_I) := rfl
set_option maxRecDepth 100000 in
theorem r_law_974 : co_law[974]? = some ((1562, .iconst 1, 0, 0, 0, 0, 1, 0, []) : xm_I) := rfl
set_option maxRecDepth 100000 in
theorem r_law_975 : co_law[975]? = some ((1563, .iadd, 0, 0, 0, 0, 0, 0, []) : xm_I) := rfl
set_option maxRecDepth 100000 in
theorem r_law_976 : co_law[976]? = some ((1564, .iaload, 0, 0, 0, 0, 0, 0, []) : xm_I) := rfl
set_option maxRecDepth 100000 in
theorem r_law_977 : co_law[977]? = some ((1565, .aload_n 0, 0, 0, 0, 0, 0, 0, []) : xm_I) := rfl
set_option maxRecDepth 100000 in
theorem r_law_978 : co_law[978]? = some ((1566, .iload_n 3, 0, 0, 0, 0, 0, 0, []) : xm_I) := rfl
set_option maxRecDepth 100000 in
theorem r_law_979 : co_law[979]? = some ((1567, .iconst 2, 0, 0, 0, 0, 2, 0, []) : xm_I) := rfl
set_option maxRecDepth 100000 in
theorem r_law_980 : co_law[980]? = some ((1568, .iadd, 0, 0, 0, 0, 0, 0, []) : xm_I) := rfl
set_option maxRecDepth 100000 in
theorem r_law_981 : co_law[981]? = some ((1569, .iaload, 0, 0, 0, 0, 0, 0, []) : xm_I) := rfl
set_option maxRecDepth 100000 in
theorem r_law_982 : co_law[982]? = some ((1570, .aload_n 0, 0, 0, 0, 0, 0, 0, []) : xm_I) := rfl
set_option maxRecDepth 100000 in
theorem r_law_983 : co_law[983]? = some ((1571, .iload_n 3, 0, 0, 0, 0, 0, 0, []) : xm_I) := rfl
set_option maxRecDepth 100000 in
theorem r_law_984 : co_law[984]? = some ((1572, .iconst 3, 0, 0, 0, 0, 3, 0, []) : xm_I) := rfl
set_option maxRecDepth 100000 in
theorem r_law_985 : co_law[985]? = some ((1573, .iadd, 0, 0, 0, 0, 0, 0, []) : xm_I) := rfl
set_option maxRecDepth 100000 in
theorem r_law_986 : co_law[986]? = some ((1574, .iaload, 0, 0, 0, 0, 0, 0, []) : xm_I) := rfl
set_option maxRecDepth 100000 in
theorem r_law_987 : co_law[987]? = some ((1575, .invokevirtual 239, 2096, 328, 4, 10, 0, 0, []) : xm_I) := rfl
set_option maxRecDepth 100000 in
theorem r_law_988 : co_law[988]? = some ((1578, .if_icmp .eq 141, 0, 0, 1109, 0, 0, 0, []) : xm_I) := rfl
set_option maxRecDepth 100000 in
theorem r_law_989 : co_law[989]? = some ((1581, .iconst 0, 0, 0, 0, 0, 0, 0, []) : xm_I) := rfl
set_option maxRecDepth 100000 in
theorem r_law_990 : co_law[990]? = some ((1582, .ireturn, 0, 0, 0, 3, 0, 0, []) : xm_I) := rfl
set_option maxRecDepth 100000 in
theorem r_law_991 : co_law[991]? = some ((1583, .aload_n 1, 0, 0, 0, 0, 0, 0, []) : xm_I) := rfl
set_option maxRecDepth 100000 in
theorem r_law_992 : co_law[992]? = some ((1584, .aload_n 0, 0, 0, 0, 0, 0, 0, []) : xm_I) := rfl
set_option maxRecDepth 100000 in
theorem r_law_993 : co_law[993]? = some ((1585, .iload_n 3, 0, 0, 0, 0, 0, 0, []) : xm_I) := rfl
set_option maxRecDepth 100000 in
theorem r_law_994 : co_law[994]? = some ((1586, .iconst 1, 0, 0, 0, 0, 1, 0, []) : xm_I) := rfl
set_option maxRecDepth 100000 in
theorem r_law_995 : co_law[995]? = some ((1587, .iadd, 0, 0, 0, 0, 0, 0, []) : xm_I) := rfl
set_option maxRecDepth 100000 in
theorem r_law_996 : co_law[996]? = some ((1588, .iaload, 0, 0, 0, 0, 0, 0, []) : xm_I) := rfl
set_option maxRecDepth 100000 in
theorem r_law_997 : co_law[997]? = some ((1589, .aload_n 0, 0, 0, 0, 0, 0, 0, []) : xm_I) := rfl
set_option maxRecDepth 100000 in
theorem r_law_998 : co_law[998]? = some ((1590, .iload_n 3, 0, 0, 0, 0, 0, 0, []) : xm_I) := rfl
set_option maxRecDepth 100000 in
theorem r_law_999 : co_law[999]? = some ((1591, .iconst 2, 0, 0, 0, 0, 2, 0, []) : xm_I) := rfl
set_option maxRecDepth 100000 in
theorem r_law_1000 : co_law[1000]? = some ((1592, .iadd, 0, 0, 0, 0, 0, 0, []) : xm_I) := rfl
set_option maxRecDepth 100000 in
theorem r_law_1001 : co_law[1001]? = some ((1593, .iaload, 0, 0, 0, 0, 0, 0, []) : xm_I) := rfl
set_option maxRecDepth 100000 in
theorem r_law_1002 : co_law[1002]? = some ((1594, .aload_n 0, 0, 0, 0, 0, 0, 0, []) : xm_I) := rfl
set_option maxRecDepth 100000 in
theorem r_law_1003 : co_law[1003]? = some ((1595, .iload_n 3, 0, 0, 0, 0, 0, 0, []) : xm_I) := rfl
set_option maxRecDepth 100000 in
theorem r_law_1004 : co_law[1004]? = some ((1596, .iconst 3, 0, 0, 0, 0, 3, 0, []) : xm_I) := rfl
set_option maxRecDepth 100000 in
theorem r_law_1005 : co_law[1005]? = some ((1597, .iadd, 0, 0, 0, 0, 0, 0, []) : xm_I) := rfl
set_option maxRecDepth 100000 in
theorem r_law_1006 : co_law[1006]? = some ((1598, .iaload, 0, 0, 0, 0, 0, 0, []) : xm_I) := rfl
set_option maxRecDepth 100000 in
theorem r_law_1007 : co_law[1007]? = some ((1599, .i2l, 0, 0, 0, 0, 0, 0, []) : xm_I) := rfl
set_option maxRecDepth 100000 in
theorem r_law_1008 : co_law[1008]? = some ((1600, .bipush 32, 0, 0, 0, 0, 32, 0, []) : xm_I) := rfl
set_option maxRecDepth 100000 in
theorem r_law_1009 : co_law[1009]? = some ((1602, .lshl, 0, 0, 0, 0, 0, 0, []) : xm_I) := rfl
set_option maxRecDepth 100000 in
theorem r_law_1010 : co_law[1010]? = some ((1603, .aload_n 0, 0, 0, 0, 0, 0, 0, []) : xm_I) := rfl
set_option maxRecDepth 100000 in
theorem r_law_1011 : co_law[1011]? = some ((1604, .iload_n 3, 0, 0, 0, 0, 0, 0, []) : xm_I) := rfl
set_option maxRecDepth 100000 in
theorem r_law_1012 : co_law[1012]? = some ((1605, .iconst 4, 0, 0, 0, 0, 4, 0, []) : xm_I) := rfl
set_option maxRecDepth 100000 in
theorem r_law_1013 : co_law[1013]? = some ((1606, .iadd, 0, 0, 0, 0, 0, 0, []) : xm_I) := rfl
set_option maxRecDepth 100000 in
theorem r_law_1014 : co_law[1014]? = some ((1607, .iaload, 0, 0, 0, 0, 0, 0, []) : xm_I) := rfl
set_option maxRecDepth 100000 in
theorem r_law_1015 : co_law[1015]? = some ((1608, .i2l, 0, 0, 0, 0, 0, 0, []) : xm_I) := rfl
set_option maxRecDepth 100000 in
theorem r_law_1016 : co_law[1016]? = some ((1609, .ldc2_w 240, 2111, 0, 0, 0, 0, 4294967295, []) : xm_I) := rfl
set_option maxRecDepth 100000 in
theorem r_law_1017 : co_law[1017]? = some ((1612, .land, 0, 0, 0, 0, 0, 0, []) : xm_I) := rfl
set_option maxRecDepth 100000 in
theorem r_law_1018 : co_law[1018]? = some ((1613, .lor, 0, 0, 0, 0, 0, 0, []) : xm_I) := rfl
set_option maxRecDepth 100000 in
theorem r_law_1019 : co_law[1019]? = some ((1614, .invokevirtual 242, 1352, 185, 4, 9, 0, 0, []) : xm_I) := rfl
set_option maxRecDepth 100000 in
theorem r_law_1020 : co_law[1020]? = some ((1617, .aload_n 2, 0, 0, 0, 0, 0, 0, []) : xm_I) := rfl
set_option maxRecDepth 100000 in
theorem r_law_1021 : co_law[1021]? = some ((1618, .aload_n 0, 0, 0, 0, 0, 0, 0, []) : xm_I) := rfl
set_option maxRecDepth 100000 in
theorem r_law_1022 : co_law[1022]? = some ((1619, .iload_n 3, 0, 0, 0, 0, 0, 0, []) : xm_I) := rfl
set_option maxRecDepth 100000 in
theorem r_law_1023 : co_law[1023]? = some ((1620, .iconst 1, 0, 0, 0, 0, 1, 0, []) : xm_I) := rfl
set_option maxRecDepth 100000 in
theorem r_law_1024 : co_law[1024]? = some ((1621, .iadd, 0, 0, 0, 0, 0, 0, []) : xm_I) := rfl
set_option maxRecDepth 100000 in
theorem r_law_1025 : co_law[1025]? = some ((1622, .iaload, 0, 0, 0, 0, 0, 0, []) : xm_I) := rfl
set_option maxRecDepth 100000 in
theorem r_law_1026 : co_law[1026]? = some ((1623, .aload_n 0, 0, 0, 0, 0, 0, 0, []) : xm_I) := rfl
set_option maxRecDepth 100000 in
theorem r_law_1027 : co_law[1027]? = some ((1624, .iload_n 3, 0, 0, 0, 0, 0, 0, []) : xm_I) := rfl
set_option maxRecDepth 100000 in
theorem r_law_1028 : co_law[1028]? = some ((1625, .iconst 2, 0, 0, 0, 0, 2, 0, []) : xm_I) := rfl
set_option maxRecDepth 100000 in
theorem r_law_1029 : co_law[1029]? = some ((1626, .iadd, 0, 0, 0, 0, 0, 0, []) : xm_I) := rfl
set_option maxRecDepth 100000 in
theorem r_law_1030 : co_law[1030]? = some ((1627, .iaload, 0, 0, 0, 0, 0, 0, []) : xm_I) := rfl
set_option maxRecDepth 100000 in
theorem r_law_1031 : co_law[1031]? = some ((1628, .aload_n 0, 0, 0, 0, 0, 0, 0, []) : xm_I) := rfl
set_option maxRecDepth 100000 in
theorem r_law_1032 : co_law[1032]? = some ((1629, .iload_n 3, 0, 0, 0, 0, 0, 0, []) : xm_I) := rfl
set_option maxRecDepth 100000 in
theorem r_law_1033 : co_law[1033]? = some ((1630, .iconst 3, 0, 0, 0, 0, 3, 0, []) : xm_I) := rfl
set_option maxRecDepth 100000 in
theorem r_law_1034 : co_law[1034]? = some ((1631, .iadd, 0, 0, 0, 0, 0, 0, []) : xm_I) := rfl
set_option maxRecDepth 100000 in
theorem r_law_1035 : co_law[1035]? = some ((1632, .iaload, 0, 0, 0, 0, 0, 0, []) : xm_I) := rfl
set_option maxRecDepth 100000 in
theorem r_law_1036 : co_law[1036]? = some ((1633, .i2l, 0, 0, 0, 0, 0, 0, []) : xm_I) := rfl
set_option maxRecDepth 100000 in
theorem r_law_1037 : co_law[1037]? = some ((1634, .bipush 32, 0, 0, 0, 0, 32, 0, []) : xm_I) := rfl
set_option maxRecDepth 100000 in
theorem r_law_1038 : co_law[1038]? = some ((1636, .lshl, 0, 0, 0, 0, 0, 0, []) : xm_I) := rfl
set_option maxRecDepth 100000 in
theorem r_law_1039 : co_law[1039]? = some ((1637, .aload_n 0, 0, 0, 0, 0, 0, 0, []) : xm_I) := rfl
set_option maxRecDepth 100000 in
theorem r_law_1040 : co_law[1040]? = some ((1638, .iload_n 3, 0, 0, 0, 0, 0, 0, []) : xm_I) := rfl
set_option maxRecDepth 100000 in
theorem r_law_1041 : co_law[1041]? = some ((1639, .iconst 4, 0, 0, 0, 0, 4, 0, []) : xm_I) := rfl
set_option maxRecDepth 100000 in
theorem r_law_1042 : co_law[1042]? = some ((1640, .iadd, 0, 0, 0, 0, 0, 0, []) : xm_I) := rfl
set_option maxRecDepth 100000 in
theorem r_law_1043 : co_law[1043]? = some ((1641, .iaload, 0, 0, 0, 0, 0, 0, []) : xm_I) := rfl
set_option maxRecDepth 100000 in
theorem r_law_1044 : co_law[1044]? = some ((1642, .i2l, 0, 0, 0, 0, 0, 0, []) : xm_I) := rfl
set_option maxRecDepth 100000 in
theorem r_law_1045 : co_law[1045]? = some ((1643, .ldc2_w 240, 2111, 0, 0, 0, 0, 4294967295, []) : xm_I) := rfl
set_option maxRecDepth 100000 in
theorem r_law_1046 : co_law[1046]? = some ((1646, .land, 0, 0, 0, 0, 0, 0, []) : xm_I) := rfl
set_option maxRecDepth 100000 in
theorem r_law_1047 : co_law[1047]? = some ((1647, .lor, 0, 0, 0, 0, 0, 0, []) : xm_I) := rfl
set_option maxRecDepth 100000 in
theorem r_law_1048 : co_law[1048]? = some ((1648, .invokevirtual 246, 2100, 329, 4, 10, 0, 0, []) : xm_I) := rfl
set_option maxRecDepth 100000 in
theorem r_law_1049 : co_law[1049]? = some ((1651, .if_icmp .eq 68, 0, 0, 1109, 0, 0, 0, []) : xm_I) := rfl
set_option maxRecDepth 100000 in
theorem r_law_1050 : co_law[1050]? = some ((1654, .iconst 0, 0, 0, 0, 0, 0, 0, []) : xm_I) := rfl
set_option maxRecDepth 100000 in
theorem r_law_1051 : co_law[1051]? = some ((1655, .ireturn, 0, 0, 0, 3, 0, 0, []) : xm_I) := rfl
set_option maxRecDepth 100000 in
theorem r_law_1052 : co_law[1052]? = some ((1656, .aload_n 1, 0, 0, 0, 0, 0, 0, []) : xm_I) := rfl
set_option maxRecDepth 100000 in
theorem r_law_1053 : co_law[1053]? = some ((1657, .aload_n 0, 0, 0, 0, 0, 0, 0, []) : xm_I) := rfl
set_option maxRecDepth 100000 in
theorem r_law_1054 : co_law[1054]? = some ((1658, .iload_n 3, 0, 0, 0, 0, 0, 0, []) : xm_I) := rfl
set_option maxRecDepth 100000 in
theorem r_law_1055 : co_law[1055]? = some ((1659, .iconst 1, 0, 0, 0, 0, 1, 0, []) : xm_I) := rfl
set_option maxRecDepth 100000 in
theorem r_law_1056 : co_law[1056]? = some ((1660, .iadd, 0, 0, 0, 0, 0, 0, []) : xm_I) := rfl
set_option maxRecDepth 100000 in
theorem r_law_1057 : co_law[1057]? = some ((1661, .iaload, 0, 0, 0, 0, 0, 0, []) : xm_I) := rfl
set_option maxRecDepth 100000 in
theorem r_law_1058 : co_law[1058]? = some ((1662, .aload_n 0, 0, 0, 0, 0, 0, 0, []) : xm_I) := rfl
set_option maxRecDepth 100000 in
theorem r_law_1059 : co_law[1059]? = some ((1663, .iload_n 3, 0, 0, 0, 0, 0, 0, []) : xm_I) := rfl
set_option maxRecDepth 100000 in
theorem r_law_1060 : co_law[1060]? = some ((1664, .iconst 2, 0, 0, 0, 0, 2, 0, []) : xm_I) := rfl
set_option maxRecDepth 100000 in
theorem r_law_1061 : co_law[1061]? = some ((1665, .iadd, 0, 0, 0, 0, 0, 0, []) : xm_I) := rfl
set_option maxRecDepth 100000 in
theorem r_law_1062 : co_law[1062]? = some ((1666, .iaload, 0, 0, 0, 0, 0, 0, []) : xm_I) := rfl
set_option maxRecDepth 100000 in
theorem r_law_1063 : co_law[1063]? = some ((1667, .aload_n 0, 0, 0, 0, 0, 0, 0, []) : xm_I) := rfl
set_option maxRecDepth 100000 in
theorem r_law_1064 : co_law[1064]? = some ((1668, .iload_n 3, 0, 0, 0, 0, 0, 0, []) : xm_I) := rfl
set_option maxRecDepth 100000 in
theorem r_law_1065 : co_law[1065]? = some ((1669, .iconst 3, 0, 0, 0, 0, 3, 0, []) : xm_I) := rfl
set_option maxRecDepth 100000 in
theorem r_law_1066 : co_law[1066]? = some ((1670, .iadd, 0, 0, 0, 0, 0, 0, []) : xm_I) := rfl
set_option maxRecDepth 100000 in
theorem r_law_1067 : co_law[1067]? = some ((1671, .iaload, 0, 0, 0, 0, 0, 0, []) : xm_I) := rfl
set_option maxRecDepth 100000 in
theorem r_law_1068 : co_law[1068]? = some ((1672, .aload_n 0, 0, 0, 0, 0, 0, 0, []) : xm_I) := rfl
set_option maxRecDepth 100000 in
theorem r_law_1069 : co_law[1069]? = some ((1673, .iload_n 3, 0, 0, 0, 0, 0, 0, []) : xm_I) := rfl
set_option maxRecDepth 100000 in
theorem r_law_1070 : co_law[1070]? = some ((1674, .iconst 4, 0, 0, 0, 0, 4, 0, []) : xm_I) := rfl
set_option maxRecDepth 100000 in
theorem r_law_1071 : co_law[1071]? = some ((1675, .iadd, 0, 0, 0, 0, 0, 0, []) : xm_I) := rfl
set_option maxRecDepth 100000 in
theorem r_law_1072 : co_law[1072]? = some ((1676, .iaload, 0, 0, 0, 0, 0, 0, []) : xm_I) := rfl
set_option maxRecDepth 100000 in
theorem r_law_1073 : co_law[1073]? = some ((1677, .aload_n 0, 0, 0, 0, 0, 0, 0, []) : xm_I) := rfl
set_option maxRecDepth 100000 in
theorem r_law_1074 : co_law[1074]? = some ((1678, .iload_n 3, 0, 0, 0, 0, 0, 0, []) : xm_I) := rfl
set_option maxRecDepth 100000 in
theorem r_law_1075 : co_law[1075]? = some ((1679, .iconst 5, 0, 0, 0, 0, 5, 0, []) : xm_I) := rfl
set_option maxRecDepth 100000 in
theorem r_law_1076 : co_law[1076]? = some ((1680, .iadd, 0, 0, 0, 0, 0, 0, []) : xm_I) := rfl
set_option maxRecDepth 100000 in
theorem r_law_1077 : co_law[1077]? = some ((1681, .iaload, 0, 0, 0, 0, 0, 0, []) : xm_I) := rfl
set_option maxRecDepth 100000 in
theorem r_law_1078 : co_law[1078]? = some ((1682, .invokevirtual 247, 1364, 188, 6, 9, 0, 0, []) : xm_I) := rfl
set_option maxRecDepth 100000 in
theorem r_law_1079 : co_law[1079]? = some ((1685, .aload_n 2, 0, 0, 0, 0, 0, 0, []) : xm_I) := rfl
set_option maxRecDepth 100000 in
theorem r_law_1080 : co_law[1080]? = some ((1686, .aload_n 0, 0, 0, 0, 0, 0, 0, []) : xm_I) := rfl
set_option maxRecDepth 100000 in
theorem r_law_1081 : co_law[1081]? = some ((1687, .iload_n 3, 0, 0, 0, 0, 0, 0, []) : xm_I) := rfl
set_option maxRecDepth 100000 in
theorem r_law_1082 : co_law[1082]? = some ((1688, .iconst 1, 0, 0, 0, 0, 1, 0, []) : xm_I) := rfl
set_option maxRecDepth 100000 in
theorem r_law_1083 : co_law[1083]? = some ((1689, .iadd, 0, 0, 0, 0, 0, 0, []) : xm_I) := rfl
set_option maxRecDepth 100000 in
theorem r_law_1084 : co_law[1084]? = some ((1690, .iaload, 0, 0, 0, 0, 0, 0, []) : xm_I) := rfl
set_option maxRecDepth 100000 in
theorem r_law_1085 : co_law[1085]? = some ((1691, .aload_n 0, 0, 0, 0, 0, 0, 0, []) : xm_I) := rfl
set_option maxRecDepth 100000 in
theorem r_law_1086 : co_law[1086]? = some ((1692, .iload_n 3, 0, 0, 0, 0, 0, 0, []) : xm_I) := rfl
set_option maxRecDepth 100000 in
theorem r_law_1087 : co_law[1087]? = some ((1693, .iconst 2, 0, 0, 0, 0, 2, 0, []) : xm_I) := rfl
set_option maxRecDepth 100000 in
theorem r_law_1088 : co_law[1088]? = some ((1694, .iadd, 0, 0, 0, 0, 0, 0, []) : xm_I) := rfl
set_option maxRecDepth 100000 in
theorem r_law_1089 : co_law[1089]? = some ((1695, .iaload, 0, 0, 0, 0, 0, 0, []) : xm_I) := rfl
set_option maxRecDepth 100000 in
theorem r_law_1090 : co_law[1090]? = some ((1696, .aload_n 0, 0, 0, 0, 0, 0, 0, []) : xm_I) := rfl
set_option maxRecDepth 100000 in
theorem r_law_1091 : co_law[1091]? = some ((1697, .iload_n 3, 0, 0, 0, 0, 0, 0, []) : xm_I) := rfl
set_option maxRecDepth 100000 in
theorem r_law_1092 : co_law[1092]? = some ((1698, .iconst 3, 0, 0, 0, 0, 3, 0, []) : xm_I) := rfl
set_option maxRecDepth 100000 in
theorem r_law_1093 : co_law[1093]? = some ((1699, .iadd, 0, 0, 0, 0, 0, 0, []) : xm_I) := rfl
set_option maxRecDepth 100000 in
theorem r_law_1094 : co_law[1094]? = some ((1700, .iaload, 0, 0, 0, 0, 0, 0, []) : xm_I) := rfl
set_option maxRecDepth 100000 in
theorem r_law_1095 : co_law[1095]? = some ((1701, .aload_n 0, 0, 0, 0, 0, 0, 0, []) : xm_I) := rfl
set_option maxRecDepth 100000 in
theorem r_law_1096 : co_law[1096]? = some ((1702, .iload_n 3, 0, 0, 0, 0, 0, 0, []) : xm_I) := rfl
set_option maxRecDepth 100000 in
theorem r_law_1097 : co_law[1097]? = some ((1703, .iconst 4, 0, 0, 0, 0, 4, 0, []) : xm_I) := rfl
set_option maxRecDepth 100000 in
theorem r_law_1098 : co_law[1098]? = some ((1704, .iadd, 0, 0, 0, 0, 0, 0, []) : xm_I) := rfl
set_option maxRecDepth 100000 in
theorem r_law_1099 : co_law[1099]? = some ((1705, .iaload, 0, 0, 0, 0, 0, 0, []) : xm_I) := rfl
set_option maxRecDepth 100000 in
theorem r_law_1100 : co_law[1100]? = some ((1706, .aload_n 0, 0, 0, 0, 0, 0, 0, []) : xm_I) := rfl
set_option maxRecDepth 100000 in
theorem r_law_1101 : co_law[1101]? = some ((1707, .iload_n 3, 0, 0, 0, 0, 0, 0, []) : xm_I) := rfl
set_option maxRecDepth 100000 in
theorem r_law_1102 : co_law[1102]? = some ((1708, .iconst 5, 0, 0, 0, 0, 5, 0, []) : xm_I) := rfl
set_option maxRecDepth 100000 in
theorem r_law_1103 : co_law[1103]? = some ((1709, .iadd, 0, 0, 0, 0, 0, 0, []) : xm_I) := rfl
set_option maxRecDepth 100000 in
theorem r_law_1104 : co_law[1104]? = some ((1710, .iaload, 0, 0, 0, 0, 0, 0, []) : xm_I) := rfl
set_option maxRecDepth 100000 in
theorem r_law_1105 : co_law[1105]? = some ((1711, .invokevirtual 250, 2107, 331, 6, 10, 0, 0, []) : xm_I) := rfl
set_option maxRecDepth 100000 in
theorem r_law_1106 : co_law[1106]? = some ((1714, .if_icmp .eq 5, 0, 0, 1109, 0, 0, 0, []) : xm_I) := rfl
set_option maxRecDepth 100000 in
theorem r_law_1107 : co_law[1107]? = some ((1717, .iconst 0, 0, 0, 0, 0, 0, 0, []) : xm_I) := rfl
set_option maxRecDepth 100000 in
theorem r_law_1108 : co_law[1108]? = some ((1718, .ireturn, 0, 0, 0, 3, 0, 0, []) : xm_I) := rfl
set_option maxRecDepth 100000 in
theorem r_law_1109 : co_law[1109]? = some ((1719, .iinc 3 6, 0, 0, 0, 0, 6, 0, []) : xm_I) := rfl
set_option maxRecDepth 100000 in
theorem r_law_1110 : co_law[1110]? = some ((1722, .goto (-1704), 0, 0, 2, 0, 0, 0, []) : xm_I) := rfl
set_option maxRecDepth 100000 in
theorem r_law_1111 : co_law[1111]? = some ((1725, .iconst 1, 0, 0, 0, 0, 1, 0, []) : xm_I) := rfl
set_option maxRecDepth 100000 in
theorem r_law_1112 : co_law[1112]? = some ((1726, .ireturn, 0, 0, 0, 3, 0, 0, []) : xm_I) := rfl
theorem p_law_0_0 {X : xm_X} {P : List xm_M} {d : Nat} {h : xm_H} {l0 : Nat} {l1 : Nat} {l2 : Nat} {ro : Option Value} {ho : xm_H}  (K : xm_E X P d co_law 2 [some (.ref l0), some (.ref l1), some (.ref l2), some (.int (0 : Int32))] [] h ro ho) : xm_E X P d co_law 0 [some (.ref l0), some (.ref l1), some (.ref l2), none] [] h ro ho := by
  refine xm_E_s r_law_0 rfl rfl ?_
  refine xm_E_s (ls1 := [some (.ref l0), some (.ref l1), some (.ref l2), some (.int (0 : Int32))]) r_law_1 rfl rfl ?_
  exact K
theorem p_law_2_0 {X : xm_X} {P : List xm_M} {d : Nat} {h : xm_H} {l0 : Nat} {l1 : Nat} {l2 : Nat} {l3 : Int32} {n0 : Nat} {f0 : Nat → Int32} (q0 : X.1[l0]? = none) (q1 : X.2.1 l0 = some (0, n0, f0)) (q2 : (Int32.ofNat n0) - (6 : Int32) < l3) : xm_E X P d co_law 2 [some (.ref l0), some (.ref l1), some (.ref l2), some (.int l3)] [] h (some (.int (1 : Int32))) h := by
  refine xm_E_s r_law_2 rfl rfl ?_
  refine xm_E_s r_law_3 rfl rfl ?_
  refine xm_E_s r_law_4 rfl (xm_T_alenx rfl q0 q1) ?_
  refine xm_E_s r_law_5 rfl rfl ?_
  refine xm_E_s r_law_6 rfl rfl ?_
  refine xm_E_s r_law_7 rfl rfl ?_
  refine xm_E_t q2 ?_
  refine xm_E_s r_law_1111 rfl rfl ?_
  exact xm_E_iret r_law_1112 rfl rfl
theorem p_law_2_1 {X : xm_X} {P : List xm_M} {d : Nat} {h : xm_H} {l0 : Nat} {l1 : Nat} {l2 : Nat} {l3 : Int32} {n0 : Nat} {f0 : Nat → Int32} {h1 : xm_H} {r1 : Int32} {h2 : xm_H} {r2 : Int32} {ro : Option Value} {ho : xm_H} (q0 : X.1[l0]? = none) (q1 : X.2.1 l0 = some (0, n0, f0)) (q2 : ¬ ((Int32.ofNat n0) - (6 : Int32) < l3)) (q3 : ¬ (l3 < 0 ∨ n0 ≤ l3.toNatClampNeg)) (q4 : (f0 l3.toNatClampNeg) &&& (63 : Int32) = (0 : Int32)) (q5 : ¬ (l3 + (1 : Int32) < 0 ∨ n0 ≤ (l3 + (1 : Int32)).toNatClampNeg)) (q6 : ¬ (l3 + (2 : Int32) < 0 ∨ n0 ≤ (l3 + (2 : Int32)).toNatClampNeg)) (q7 : ¬ (l3 + (3 : Int32) < 0 ∨ n0 ≤ (l3 + (3 : Int32)).toNatClampNeg)) (q8 : ¬ (l3 + (4 : Int32) < 0 ∨ n0 ≤ (l3 + (4 : Int32)).toNatClampNeg)) (q9 : ¬ (l3 + (5 : Int32) < 0 ∨ n0 ≤ (l3 + (5 : Int32)).toNatClampNeg)) (q10 : xm_V X P d 0 [.ref l1, .int (f0 ((l3 + (1 : Int32)).toNatClampNeg)), .int (f0 ((l3 + (2 : Int32)).toNatClampNeg)), .int (f0 ((l3 + (3 : Int32)).toNatClampNeg)), .int (f0 ((l3 + (4 : Int32)).toNatClampNeg)), .int (f0 ((l3 + (5 : Int32)).toNatClampNeg))] h (some (.int r1)) h1) (q11 : X.1[l1]? = some (.inr 9)) (q12 : xm_V X P d 193 [.ref l2, .int (f0 ((l3 + (1 : Int32)).toNatClampNeg)), .int (f0 ((l3 + (2 : Int32)).toNatClampNeg)), .int (f0 ((l3 + (3 : Int32)).toNatClampNeg)), .int (f0 ((l3 + (4 : Int32)).toNatClampNeg)), .int (f0 ((l3 + (5 : Int32)).toNatClampNeg))] h1 (some (.int r2)) h2) (q13 : X.1[l2]? = some (.inr 10)) (q14 : r1 = r2) (K : xm_E X P d co_law 2 [some (.ref l0), some (.ref l1), some (.ref l2), some (.int (l3 + (6 : Int32)))] [] h2 ro ho) : xm_E X P d co_law 2 [some (.ref l0), some (.ref l1), some (.ref l2), some (.int l3)] [] h ro ho := by
  refine xm_E_s r_law_2 rfl rfl ?_
  refine xm_E_s r_law_3 rfl rfl ?_
  refine xm_E_s r_law_4 rfl (xm_T_alenx rfl q0 q1) ?_
  refine xm_E_s r_law_5 rfl rfl ?_
  refine xm_E_s r_law_6 rfl rfl ?_
  refine xm_E_s r_law_7 rfl rfl ?_
  refine xm_E_f q2 ?_
  refine xm_E_s r_law_8 rfl rfl ?_
  refine xm_E_s r_law_9 rfl rfl ?_
  refine xm_E_s r_law_10 rfl (xm_T_ialx rfl q0 q1 (by decide) q3) ?_
  refine xm_E_s r_law_11 rfl rfl ?_
  refine xm_E_s r_law_12 rfl rfl ?_
  refine xm_E_s r_law_13 rfl (xm_T_tab (0 : Int32) 14 rfl q4 (by decide) rfl) ?_
  refine xm_E_s r_law_14 rfl rfl ?_
  refine xm_E_s r_law_15 rfl rfl ?_
  refine xm_E_s r_law_16 rfl rfl ?_
  refine xm_E_s r_law_17 rfl rfl ?_
  refine xm_E_s r_law_18 rfl rfl ?_
  refine xm_E_s r_law_19 rfl (xm_T_ialx rfl q0 q1 (by decide) q5) ?_
  refine xm_E_s r_law_20 rfl rfl ?_
  refine xm_E_s r_law_21 rfl rfl ?_
  refine xm_E_s r_law_22 rfl rfl ?_
  refine xm_E_s r_law_23 rfl rfl ?_
  refine xm_E_s r_law_24 rfl (xm_T_ialx rfl q0 q1 (by decide) q6) ?_
  refine xm_E_s r_law_25 rfl rfl ?_
  refine xm_E_s r_law_26 rfl rfl ?_
  refine xm_E_s r_law_27 rfl rfl ?_
  refine xm_E_s r_law_28 rfl rfl ?_
  refine xm_E_s r_law_29 rfl (xm_T_ialx rfl q0 q1 (by decide) q7) ?_
  refine xm_E_s r_law_30 rfl rfl ?_
  refine xm_E_s r_law_31 rfl rfl ?_
  refine xm_E_s r_law_32 rfl rfl ?_
  refine xm_E_s r_law_33 rfl rfl ?_
  refine xm_E_s r_law_34 rfl (xm_T_ialx rfl q0 q1 (by decide) q8) ?_
  refine xm_E_s r_law_35 rfl rfl ?_
  refine xm_E_s r_law_36 rfl rfl ?_
  refine xm_E_s r_law_37 rfl rfl ?_
  refine xm_E_s r_law_38 rfl rfl ?_
  refine xm_E_s r_law_39 rfl (xm_T_ialx rfl q0 q1 (by decide) q9) ?_
  refine xm_E_cv [.ref l1, .int (f0 ((l3 + (1 : Int32)).toNatClampNeg)), .int (f0 ((l3 + (2 : Int32)).toNatClampNeg)), .int (f0 ((l3 + (3 : Int32)).toNatClampNeg)), .int (f0 ((l3 + (4 : Int32)).toNatClampNeg)), .int (f0 ((l3 + (5 : Int32)).toNatClampNeg))] [] r_law_40 rfl rfl (Nat.le_of_ble_eq_true rfl) (xm_rc q11 (by decide)) rfl q10 ?_
  refine xm_E_s r_law_41 rfl rfl ?_
  refine xm_E_s r_law_42 rfl rfl ?_
  refine xm_E_s r_law_43 rfl rfl ?_
  refine xm_E_s r_law_44 rfl rfl ?_
  refine xm_E_s r_law_45 rfl rfl ?_
  refine xm_E_s r_law_46 rfl (xm_T_ialx rfl q0 q1 (by decide) q5) ?_
  refine xm_E_s r_law_47 rfl rfl ?_
  refine xm_E_s r_law_48 rfl rfl ?_
  refine xm_E_s r_law_49 rfl rfl ?_
  refine xm_E_s r_law_50 rfl rfl ?_
  refine xm_E_s r_law_51 rfl (xm_T_ialx rfl q0 q1 (by decide) q6) ?_
  refine xm_E_s r_law_52 rfl rfl ?_
  refine xm_E_s r_law_53 rfl rfl ?_
  refine xm_E_s r_law_54 rfl rfl ?_
  refine xm_E_s r_law_55 rfl rfl ?_
  refine xm_E_s r_law_56 rfl (xm_T_ialx rfl q0 q1 (by decide) q7) ?_
  refine xm_E_s r_law_57 rfl rfl ?_
  refine xm_E_s r_law_58 rfl rfl ?_
  refine xm_E_s r_law_59 rfl rfl ?_
  refine xm_E_s r_law_60 rfl rfl ?_
  refine xm_E_s r_law_61 rfl (xm_T_ialx rfl q0 q1 (by decide) q8) ?_
  refine xm_E_s r_law_62 rfl rfl ?_
  refine xm_E_s r_law_63 rfl rfl ?_
  refine xm_E_s r_law_64 rfl rfl ?_
  refine xm_E_s r_law_65 rfl rfl ?_
  refine xm_E_s r_law_66 rfl (xm_T_ialx rfl q0 q1 (by decide) q9) ?_
  refine xm_E_cv [.ref l2, .int (f0 ((l3 + (1 : Int32)).toNatClampNeg)), .int (f0 ((l3 + (2 : Int32)).toNatClampNeg)), .int (f0 ((l3 + (3 : Int32)).toNatClampNeg)), .int (f0 ((l3 + (4 : Int32)).toNatClampNeg)), .int (f0 ((l3 + (5 : Int32)).toNatClampNeg))] [.int r1] r_law_67 rfl rfl (Nat.le_of_ble_eq_true rfl) (xm_rc q13 (by decide)) rfl q12 ?_
  refine xm_E_s r_law_68 rfl rfl ?_
  refine xm_E_t q14 ?_
  refine xm_E_s (ls1 := [some (.ref l0), some (.ref l1), some (.ref l2), some (.int (l3 + (6 : Int32)))]) r_law_1109 rfl rfl ?_
  refine xm_E_s r_law_1110 rfl rfl ?_
  exact K
theorem p_law_2_2 {X : xm_X} {P : List xm_M} {d : Nat} {h : xm_H} {l0 : Nat} {l1 : Nat} {l2 : Nat} {l3 : Int32} {n0 : Nat} {f0 : Nat → Int32} {h1 : xm_H} {r1 : Int32} {h2 : xm_H} {r2 : Int32} (q0 : X.1[l0]? = none) (q1 : X.2.1 l0 = some (0, n0, f0)) (q2 : ¬ ((Int32.ofNat n0) - (6 : Int32) < l3)) (q3 : ¬ (l3 < 0 ∨ n0 ≤ l3.toNatClampNeg)) (q4 : (f0 l3.toNatClampNeg) &&& (63 : Int32) = (0 : Int32)) (q5 : ¬ (l3 + (1 : Int32) < 0 ∨ n0 ≤ (l3 + (1 : Int32)).toNatClampNeg)) (q6 : ¬ (l3 + (2 : Int32) < 0 ∨ n0 ≤ (l3 + (2 : Int32)).toNatClampNeg)) (q7 : ¬ (l3 + (3 : Int32) < 0 ∨ n0 ≤ (l3 + (3 : Int32)).toNatClampNeg)) (q8 : ¬ (l3 + (4 : Int32) < 0 ∨ n0 ≤ (l3 + (4 : Int32)).toNatClampNeg)) (q9 : ¬ (l3 + (5 : Int32) < 0 ∨ n0 ≤ (l3 + (5 : Int32)).toNatClampNeg)) (q10 : xm_V X P d 0 [.ref l1, .int (f0 ((l3 + (1 : Int32)).toNatClampNeg)), .int (f0 ((l3 + (2 : Int32)).toNatClampNeg)), .int (f0 ((l3 + (3 : Int32)).toNatClampNeg)), .int (f0 ((l3 + (4 : Int32)).toNatClampNeg)), .int (f0 ((l3 + (5 : Int32)).toNatClampNeg))] h (some (.int r1)) h1) (q11 : X.1[l1]? = some (.inr 9)) (q12 : xm_V X P d 193 [.ref l2, .int (f0 ((l3 + (1 : Int32)).toNatClampNeg)), .int (f0 ((l3 + (2 : Int32)).toNatClampNeg)), .int (f0 ((l3 + (3 : Int32)).toNatClampNeg)), .int (f0 ((l3 + (4 : Int32)).toNatClampNeg)), .int (f0 ((l3 + (5 : Int32)).toNatClampNeg))] h1 (some (.int r2)) h2) (q13 : X.1[l2]? = some (.inr 10)) (q14 : ¬ (r1 = r2)) : xm_E X P d co_law 2 [some (.ref l0), some (.ref l1), some (.ref l2), some (.int l3)] [] h (some (.int (0 : Int32))) h2 := by
  refine xm_E_s r_law_2 rfl rfl ?_
  refine xm_E_s r_law_3 rfl rfl ?_
  refine xm_E_s r_law_4 rfl (xm_T_alenx rfl q0 q1) ?_
  refine xm_E_s r_law_5 rfl rfl ?_
  refine xm_E_s r_law_6 rfl rfl ?_
  refine xm_E_s r_law_7 rfl rfl ?_
  refine xm_E_f q2 ?_
  refine xm_E_s r_law_8 rfl rfl ?_
  refine xm_E_s r_law_9 rfl rfl ?_
  refine xm_E_s r_law_10 rfl (xm_T_ialx rfl q0 q1 (by decide) q3) ?_
  refine xm_E_s r_law_11 rfl rfl ?_
  refine xm_E_s r_law_12 rfl rfl ?_
  refine xm_E_s r_law_13 rfl (xm_T_tab (0 : Int32) 14 rfl q4 (by decide) rfl) ?_
  refine xm_E_s r_law_14 rfl rfl ?_
  refine xm_E_s r_law_15 rfl rfl ?_
  refine xm_E_s r_law_16 rfl rfl ?_
  refine xm_E_s r_law_17 rfl rfl ?_
  refine xm_E_s r_law_18 rfl rfl ?_
  refine xm_E_s r_law_19 rfl (xm_T_ialx rfl q0 q1 (by decide) q5) ?_
  refine xm_E_s r_law_20 rfl rfl ?_
  refine xm_E_s r_law_21 rfl rfl ?_
  refine xm_E_s r_law_22 rfl rfl ?_
  refine xm_E_s r_law_23 rfl rfl ?_
  refine xm_E_s r_law_24 rfl (xm_T_ialx rfl q0 q1 (by decide) q6) ?_
  refine xm_E_s r_law_25 rfl rfl ?_
  refine xm_E_s r_law_26 rfl rfl ?_
  refine xm_E_s r_law_27 rfl rfl ?_
  refine xm_E_s r_law_28 rfl rfl ?_
  refine xm_E_s r_law_29 rfl (xm_T_ialx rfl q0 q1 (by decide) q7) ?_
  refine xm_E_s r_law_30 rfl rfl ?_
  refine xm_E_s r_law_31 rfl rfl ?_
  refine xm_E_s r_law_32 rfl rfl ?_
  refine xm_E_s r_law_33 rfl rfl ?_
  refine xm_E_s r_law_34 rfl (xm_T_ialx rfl q0 q1 (by decide) q8) ?_
  refine xm_E_s r_law_35 rfl rfl ?_
  refine xm_E_s r_law_36 rfl rfl ?_
  refine xm_E_s r_law_37 rfl rfl ?_
  refine xm_E_s r_law_38 rfl rfl ?_
  refine xm_E_s r_law_39 rfl (xm_T_ialx rfl q0 q1 (by decide) q9) ?_
  refine xm_E_cv [.ref l1, .int (f0 ((l3 + (1 : Int32)).toNatClampNeg)), .int (f0 ((l3 + (2 : Int32)).toNatClampNeg)), .int (f0 ((l3 + (3 : Int32)).toNatClampNeg)), .int (f0 ((l3 + (4 : Int32)).toNatClampNeg)), .int (f0 ((l3 + (5 : Int32)).toNatClampNeg))] [] r_law_40 rfl rfl (Nat.le_of_ble_eq_true rfl) (xm_rc q11 (by decide)) rfl q10 ?_
  refine xm_E_s r_law_41 rfl rfl ?_
  refine xm_E_s r_law_42 rfl rfl ?_
  refine xm_E_s r_law_43 rfl rfl ?_
  refine xm_E_s r_law_44 rfl rfl ?_
  refine xm_E_s r_law_45 rfl rfl ?_
  refine xm_E_s r_law_46 rfl (xm_T_ialx rfl q0 q1 (by decide) q5) ?_
  refine xm_E_s r_law_47 rfl rfl ?_
  refine xm_E_s r_law_48 rfl rfl ?_
  refine xm_E_s r_law_49 rfl rfl ?_
  refine xm_E_s r_law_50 rfl rfl ?_
  refine xm_E_s r_law_51 rfl (xm_T_ialx rfl q0 q1 (by decide) q6) ?_
  refine xm_E_s r_law_52 rfl rfl ?_
  refine xm_E_s r_law_53 rfl rfl ?_
  refine xm_E_s r_law_54 rfl rfl ?_
  refine xm_E_s r_law_55 rfl rfl ?_
  refine xm_E_s r_law_56 rfl (xm_T_ialx rfl q0 q1 (by decide) q7) ?_
  refine xm_E_s r_law_57 rfl rfl ?_
  refine xm_E_s r_law_58 rfl rfl ?_
  refine xm_E_s r_law_59 rfl rfl ?_
  refine xm_E_s r_law_60 rfl rfl ?_
  refine xm_E_s r_law_61 rfl (xm_T_ialx rfl q0 q1 (by decide) q8) ?_
  refine xm_E_s r_law_62 rfl rfl ?_
  refine xm_E_s r_law_63 rfl rfl ?_
  refine xm_E_s r_law_64 rfl rfl ?_
  refine xm_E_s r_law_65 rfl rfl ?_
  refine xm_E_s r_law_66 rfl (xm_T_ialx rfl q0 q1 (by decide) q9) ?_
  refine xm_E_cv [.ref l2, .int (f0 ((l3 + (1 : Int32)).toNatClampNeg)), .int (f0 ((l3 + (2 : Int32)).toNatClampNeg)), .int (f0 ((l3 + (3 : Int32)).toNatClampNeg)), .int (f0 ((l3 + (4 : Int32)).toNatClampNeg)), .int (f0 ((l3 + (5 : Int32)).toNatClampNeg))] [.int r1] r_law_67 rfl rfl (Nat.le_of_ble_eq_true rfl) (xm_rc q13 (by decide)) rfl q12 ?_
  refine xm_E_s r_law_68 rfl rfl ?_
  refine xm_E_f q14 ?_
  refine xm_E_s r_law_69 rfl rfl ?_
  exact xm_E_iret r_law_70 rfl rfl
theorem p_law_2_3 {X : xm_X} {P : List xm_M} {d : Nat} {h : xm_H} {l0 : Nat} {l1 : Nat} {l2 : Nat} {l3 : Int32} {n0 : Nat} {f0 : Nat → Int32} {h1 : xm_H} {r1 : Int32} {h2 : xm_H} {r2 : Int32} {ro : Option Value} {ho : xm_H} (q0 : X.1[l0]? = none) (q1 : X.2.1 l0 = some (0, n0, f0)) (q2 : ¬ ((Int32.ofNat n0) - (6 : Int32) < l3)) (q3 : ¬ (l3 < 0 ∨ n0 ≤ l3.toNatClampNeg)) (q4 : (f0 l3.toNatClampNeg) &&& (63 : Int32) = (1 : Int32)) (q5 : ¬ (l3 + (1 : Int32) < 0 ∨ n0 ≤ (l3 + (1 : Int32)).toNatClampNeg)) (q6 : xm_V X P d 3 [.ref l1, .int (f0 ((l3 + (1 : Int32)).toNatClampNeg))] h (some (.int r1)) h1) (q7 : X.1[l1]? = some (.inr 9)) (q8 : xm_V X P d 194 [.ref l2, .int (f0 ((l3 + (1 : Int32)).toNatClampNeg))] h1 (some (.int r2)) h2) (q9 : X.1[l2]? = some (.inr 10)) (q10 : r1 = r2) (K : xm_E X P d co_law 2 [some (.ref l0), some (.ref l1), some (.ref l2), some (.int (l3 + (6 : Int32)))] [] h2 ro ho) : xm_E X P d co_law 2 [some (.ref l0), some (.ref l1), some (.ref l2), some (.int l3)] [] h ro ho := by
  refine xm_E_s r_law_2 rfl rfl ?_
  refine xm_E_s r_law_3 rfl rfl ?_
  refine xm_E_s r_law_4 rfl (xm_T_alenx rfl q0 q1) ?_
  refine xm_E_s r_law_5 rfl rfl ?_
  refine xm_E_s r_law_6 rfl rfl ?_
  refine xm_E_s r_law_7 rfl rfl ?_
  refine xm_E_f q2 ?_
  refine xm_E_s r_law_8 rfl rfl ?_
  refine xm_E_s r_law_9 rfl rfl ?_
  refine xm_E_s r_law_10 rfl (xm_T_ialx rfl q0 q1 (by decide) q3) ?_
  refine xm_E_s r_law_11 rfl rfl ?_
  refine xm_E_s r_law_12 rfl rfl ?_
  refine xm_E_s r_law_13 rfl (xm_T_tab (1 : Int32) 71 rfl q4 (by decide) rfl) ?_
  refine xm_E_s r_law_71 rfl rfl ?_
  refine xm_E_s r_law_72 rfl rfl ?_
  refine xm_E_s r_law_73 rfl rfl ?_
  refine xm_E_s r_law_74 rfl rfl ?_
  refine xm_E_s r_law_75 rfl rfl ?_
  refine xm_E_s r_law_76 rfl (xm_T_ialx rfl q0 q1 (by decide) q5) ?_
  refine xm_E_cv [.ref l1, .int (f0 ((l3 + (1 : Int32)).toNatClampNeg))] [] r_law_77 rfl rfl (Nat.le_of_ble_eq_true rfl) (xm_rc q7 (by decide)) rfl q6 ?_
  refine xm_E_s r_law_78 rfl rfl ?_
  refine xm_E_s r_law_79 rfl rfl ?_
  refine xm_E_s r_law_80 rfl rfl ?_
  refine xm_E_s r_law_81 rfl rfl ?_
  refine xm_E_s r_law_82 rfl rfl ?_
  refine xm_E_s r_law_83 rfl (xm_T_ialx rfl q0 q1 (by decide) q5) ?_
  refine xm_E_cv [.ref l2, .int (f0 ((l3 + (1 : Int32)).toNatClampNeg))] [.int r1] r_law_84 rfl rfl (Nat.le_of_ble_eq_true rfl) (xm_rc q9 (by decide)) rfl q8 ?_
  refine xm_E_s r_law_85 rfl rfl ?_
  refine xm_E_t q10 ?_
  refine xm_E_s (ls1 := [some (.ref l0), some (.ref l1), some (.ref l2), some (.int (l3 + (6 : Int32)))]) r_law_1109 rfl rfl ?_
  refine xm_E_s r_law_1110 rfl rfl ?_
  exact K
theorem p_law_2_4 {X : xm_X} {P : List xm_M} {d : Nat} {h : xm_H} {l0 : Nat} {l1 : Nat} {l2 : Nat} {l3 : Int32} {n0 : Nat} {f0 : Nat → Int32} {h1 : xm_H} {r1 : Int32} {h2 : xm_H} {r2 : Int32} (q0 : X.1[l0]? = none) (q1 : X.2.1 l0 = some (0, n0, f0)) (q2 : ¬ ((Int32.ofNat n0) - (6 : Int32) < l3)) (q3 : ¬ (l3 < 0 ∨ n0 ≤ l3.toNatClampNeg)) (q4 : (f0 l3.toNatClampNeg) &&& (63 : Int32) = (1 : Int32)) (q5 : ¬ (l3 + (1 : Int32) < 0 ∨ n0 ≤ (l3 + (1 : Int32)).toNatClampNeg)) (q6 : xm_V X P d 3 [.ref l1, .int (f0 ((l3 + (1 : Int32)).toNatClampNeg))] h (some (.int r1)) h1) (q7 : X.1[l1]? = some (.inr 9)) (q8 : xm_V X P d 194 [.ref l2, .int (f0 ((l3 + (1 : Int32)).toNatClampNeg))] h1 (some (.int r2)) h2) (q9 : X.1[l2]? = some (.inr 10)) (q10 : ¬ (r1 = r2)) : xm_E X P d co_law 2 [some (.ref l0), some (.ref l1), some (.ref l2), some (.int l3)] [] h (some (.int (0 : Int32))) h2 := by
  refine xm_E_s r_law_2 rfl rfl ?_
  refine xm_E_s r_law_3 rfl rfl ?_
  refine xm_E_s r_law_4 rfl (xm_T_alenx rfl q0 q1) ?_
  refine xm_E_s r_law_5 rfl rfl ?_
  refine xm_E_s r_law_6 rfl rfl ?_
  refine xm_E_s r_law_7 rfl rfl ?_
  refine xm_E_f q2 ?_
  refine xm_E_s r_law_8 rfl rfl ?_
  refine xm_E_s r_law_9 rfl rfl ?_
  refine xm_E_s r_law_10 rfl (xm_T_ialx rfl q0 q1 (by decide) q3) ?_
  refine xm_E_s r_law_11 rfl rfl ?_
  refine xm_E_s r_law_12 rfl rfl ?_
  refine xm_E_s r_law_13 rfl (xm_T_tab (1 : Int32) 71 rfl q4 (by decide) rfl) ?_
  refine xm_E_s r_law_71 rfl rfl ?_
  refine xm_E_s r_law_72 rfl rfl ?_
  refine xm_E_s r_law_73 rfl rfl ?_
  refine xm_E_s r_law_74 rfl rfl ?_
  refine xm_E_s r_law_75 rfl rfl ?_
  refine xm_E_s r_law_76 rfl (xm_T_ialx rfl q0 q1 (by decide) q5) ?_
  refine xm_E_cv [.ref l1, .int (f0 ((l3 + (1 : Int32)).toNatClampNeg))] [] r_law_77 rfl rfl (Nat.le_of_ble_eq_true rfl) (xm_rc q7 (by decide)) rfl q6 ?_
  refine xm_E_s r_law_78 rfl rfl ?_
  refine xm_E_s r_law_79 rfl rfl ?_
  refine xm_E_s r_law_80 rfl rfl ?_
  refine xm_E_s r_law_81 rfl rfl ?_
  refine xm_E_s r_law_82 rfl rfl ?_
  refine xm_E_s r_law_83 rfl (xm_T_ialx rfl q0 q1 (by decide) q5) ?_
  refine xm_E_cv [.ref l2, .int (f0 ((l3 + (1 : Int32)).toNatClampNeg))] [.int r1] r_law_84 rfl rfl (Nat.le_of_ble_eq_true rfl) (xm_rc q9 (by decide)) rfl q8 ?_
  refine xm_E_s r_law_85 rfl rfl ?_
  refine xm_E_f q10 ?_
  refine xm_E_s r_law_86 rfl rfl ?_
  exact xm_E_iret r_law_87 rfl rfl
theorem p_law_2_5 {X : xm_X} {P : List xm_M} {d : Nat} {h : xm_H} {l0 : Nat} {l1 : Nat} {l2 : Nat} {l3 : Int32} {n0 : Nat} {f0 : Nat → Int32} {h1 : xm_H} {r1 : Int32} {h2 : xm_H} {r2 : Int32} {ro : Option Value} {ho : xm_H} (q0 : X.1[l0]? = none) (q1 : X.2.1 l0 = some (0, n0, f0)) (q2 : ¬ ((Int32.ofNat n0) - (6 : Int32) < l3)) (q3 : ¬ (l3 < 0 ∨ n0 ≤ l3.toNatClampNeg)) (q4 : (f0 l3.toNatClampNeg) &&& (63 : Int32) = (2 : Int32)) (q5 : xm_V X P d 4 [.ref l1] h (some (.int r1)) h1) (q6 : X.1[l1]? = some (.inr 9)) (q7 : xm_V X P d 196 [.ref l2] h1 (some (.int r2)) h2) (q8 : X.1[l2]? = some (.inr 10)) (q9 : r1 = r2) (K : xm_E X P d co_law 2 [some (.ref l0), some (.ref l1), some (.ref l2), some (.int (l3 + (6 : Int32)))] [] h2 ro ho) : xm_E X P d co_law 2 [some (.ref l0), some (.ref l1), some (.ref l2), some (.int l3)] [] h ro ho := by
  refine xm_E_s r_law_2 rfl rfl ?_
  refine xm_E_s r_law_3 rfl rfl ?_
  refine xm_E_s r_law_4 rfl (xm_T_alenx rfl q0 q1) ?_
  refine xm_E_s r_law_5 rfl rfl ?_
  refine xm_E_s r_law_6 rfl rfl ?_
  refine xm_E_s r_law_7 rfl rfl ?_
  refine xm_E_f q2 ?_
  refine xm_E_s r_law_8 rfl rfl ?_
  refine xm_E_s r_law_9 rfl rfl ?_
  refine xm_E_s r_law_10 rfl (xm_T_ialx rfl q0 q1 (by decide) q3) ?_
  refine xm_E_s r_law_11 rfl rfl ?_
  refine xm_E_s r_law_12 rfl rfl ?_
  refine xm_E_s r_law_13 rfl (xm_T_tab (2 : Int32) 88 rfl q4 (by decide) rfl) ?_
  refine xm_E_s r_law_88 rfl rfl ?_
  refine xm_E_cv [.ref l1] [] r_law_89 rfl rfl (Nat.le_of_ble_eq_true rfl) (xm_rc q6 (by decide)) rfl q5 ?_
  refine xm_E_s r_law_90 rfl rfl ?_
  refine xm_E_cv [.ref l2] [.int r1] r_law_91 rfl rfl (Nat.le_of_ble_eq_true rfl) (xm_rc q8 (by decide)) rfl q7 ?_
  refine xm_E_s r_law_92 rfl rfl ?_
  refine xm_E_t q9 ?_
  refine xm_E_s (ls1 := [some (.ref l0), some (.ref l1), some (.ref l2), some (.int (l3 + (6 : Int32)))]) r_law_1109 rfl rfl ?_
  refine xm_E_s r_law_1110 rfl rfl ?_
  exact K
theorem p_law_2_6 {X : xm_X} {P : List xm_M} {d : Nat} {h : xm_H} {l0 : Nat} {l1 : Nat} {l2 : Nat} {l3 : Int32} {n0 : Nat} {f0 : Nat → Int32} {h1 : xm_H} {r1 : Int32} {h2 : xm_H} {r2 : Int32} (q0 : X.1[l0]? = none) (q1 : X.2.1 l0 = some (0, n0, f0)) (q2 : ¬ ((Int32.ofNat n0) - (6 : Int32) < l3)) (q3 : ¬ (l3 < 0 ∨ n0 ≤ l3.toNatClampNeg)) (q4 : (f0 l3.toNatClampNeg) &&& (63 : Int32) = (2 : Int32)) (q5 : xm_V X P d 4 [.ref l1] h (some (.int r1)) h1) (q6 : X.1[l1]? = some (.inr 9)) (q7 : xm_V X P d 196 [.ref l2] h1 (some (.int r2)) h2) (q8 : X.1[l2]? = some (.inr 10)) (q9 : ¬ (r1 = r2)) : xm_E X P d co_law 2 [some (.ref l0), some (.ref l1), some (.ref l2), some (.int l3)] [] h (some (.int (0 : Int32))) h2 := by
  refine xm_E_s r_law_2 rfl rfl ?_
  refine xm_E_s r_law_3 rfl rfl ?_
  refine xm_E_s r_law_4 rfl (xm_T_alenx rfl q0 q1) ?_
  refine xm_E_s r_law_5 rfl rfl ?_
  refine xm_E_s r_law_6 rfl rfl ?_
  refine xm_E_s r_law_7 rfl rfl ?_
  refine xm_E_f q2 ?_
  refine xm_E_s r_law_8 rfl rfl ?_
  refine xm_E_s r_law_9 rfl rfl ?_
  refine xm_E_s r_law_10 rfl (xm_T_ialx rfl q0 q1 (by decide) q3) ?_
  refine xm_E_s r_law_11 rfl rfl ?_
  refine xm_E_s r_law_12 rfl rfl ?_
  refine xm_E_s r_law_13 rfl (xm_T_tab (2 : Int32) 88 rfl q4 (by decide) rfl) ?_
  refine xm_E_s r_law_88 rfl rfl ?_
  refine xm_E_cv [.ref l1] [] r_law_89 rfl rfl (Nat.le_of_ble_eq_true rfl) (xm_rc q6 (by decide)) rfl q5 ?_
  refine xm_E_s r_law_90 rfl rfl ?_
  refine xm_E_cv [.ref l2] [.int r1] r_law_91 rfl rfl (Nat.le_of_ble_eq_true rfl) (xm_rc q8 (by decide)) rfl q7 ?_
  refine xm_E_s r_law_92 rfl rfl ?_
  refine xm_E_f q9 ?_
  refine xm_E_s r_law_93 rfl rfl ?_
  exact xm_E_iret r_law_94 rfl rfl
theorem p_law_2_7 {X : xm_X} {P : List xm_M} {d : Nat} {h : xm_H} {l0 : Nat} {l1 : Nat} {l2 : Nat} {l3 : Int32} {n0 : Nat} {f0 : Nat → Int32} {h1 : xm_H} {r1 : Int32} {h2 : xm_H} {r2 : Int32} {ro : Option Value} {ho : xm_H} (q0 : X.1[l0]? = none) (q1 : X.2.1 l0 = some (0, n0, f0)) (q2 : ¬ ((Int32.ofNat n0) - (6 : Int32) < l3)) (q3 : ¬ (l3 < 0 ∨ n0 ≤ l3.toNatClampNeg)) (q4 : (f0 l3.toNatClampNeg) &&& (63 : Int32) = (3 : Int32)) (q5 : ¬ (l3 + (1 : Int32) < 0 ∨ n0 ≤ (l3 + (1 : Int32)).toNatClampNeg)) (q6 : xm_V X P d 34 [.ref l1, .int (f0 ((l3 + (1 : Int32)).toNatClampNeg))] h (some (.int r1)) h1) (q7 : X.1[l1]? = some (.inr 9)) (q8 : xm_V X P d 195 [.ref l2, .int (f0 ((l3 + (1 : Int32)).toNatClampNeg))] h1 (some (.int r2)) h2) (q9 : X.1[l2]? = some (.inr 10)) (q10 : r1 = r2) (K : xm_E X P d co_law 2 [some (.ref l0), some (.ref l1), some (.ref l2), some (.int (l3 + (6 : Int32)))] [] h2 ro ho) : xm_E X P d co_law 2 [some (.ref l0), some (.ref l1), some (.ref l2), some (.int l3)] [] h ro ho := by
  refine xm_E_s r_law_2 rfl rfl ?_
  refine xm_E_s r_law_3 rfl rfl ?_
  refine xm_E_s r_law_4 rfl (xm_T_alenx rfl q0 q1) ?_
  refine xm_E_s r_law_5 rfl rfl ?_
  refine xm_E_s r_law_6 rfl rfl ?_
  refine xm_E_s r_law_7 rfl rfl ?_
  refine xm_E_f q2 ?_
  refine xm_E_s r_law_8 rfl rfl ?_
  refine xm_E_s r_law_9 rfl rfl ?_
  refine xm_E_s r_law_10 rfl (xm_T_ialx rfl q0 q1 (by decide) q3) ?_
  refine xm_E_s r_law_11 rfl rfl ?_
  refine xm_E_s r_law_12 rfl rfl ?_
  refine xm_E_s r_law_13 rfl (xm_T_tab (3 : Int32) 95 rfl q4 (by decide) rfl) ?_
  refine xm_E_s r_law_95 rfl rfl ?_
  refine xm_E_s r_law_96 rfl rfl ?_
  refine xm_E_s r_law_97 rfl rfl ?_
  refine xm_E_s r_law_98 rfl rfl ?_
  refine xm_E_s r_law_99 rfl rfl ?_
  refine xm_E_s r_law_100 rfl (xm_T_ialx rfl q0 q1 (by decide) q5) ?_
  refine xm_E_cv [.ref l1, .int (f0 ((l3 + (1 : Int32)).toNatClampNeg))] [] r_law_101 rfl rfl (Nat.le_of_ble_eq_true rfl) (xm_rc q7 (by decide)) rfl q6 ?_
  refine xm_E_s r_law_102 rfl rfl ?_
  refine xm_E_s r_law_103 rfl rfl ?_
  refine xm_E_s r_law_104 rfl rfl ?_
  refine xm_E_s r_law_105 rfl rfl ?_
  refine xm_E_s r_law_106 rfl rfl ?_
  refine xm_E_s r_law_107 rfl (xm_T_ialx rfl q0 q1 (by decide) q5) ?_
  refine xm_E_cv [.ref l2, .int (f0 ((l3 + (1 : Int32)).toNatClampNeg))] [.int r1] r_law_108 rfl rfl (Nat.le_of_ble_eq_true rfl) (xm_rc q9 (by decide)) rfl q8 ?_
  refine xm_E_s r_law_109 rfl rfl ?_
  refine xm_E_t q10 ?_
  refine xm_E_s (ls1 := [some (.ref l0), some (.ref l1), some (.ref l2), some (.int (l3 + (6 : Int32)))]) r_law_1109 rfl rfl ?_
  refine xm_E_s r_law_1110 rfl rfl ?_
  exact K
theorem p_law_2_8 {X : xm_X} {P : List xm_M} {d : Nat} {h : xm_H} {l0 : Nat} {l1 : Nat} {l2 : Nat} {l3 : Int32} {n0 : Nat} {f0 : Nat → Int32} {h1 : xm_H} {r1 : Int32} {h2 : xm_H} {r2 : Int32} (q0 : X.1[l0]? = none) (q1 : X.2.1 l0 = some (0, n0, f0)) (q2 : ¬ ((Int32.ofNat n0) - (6 : Int32) < l3)) (q3 : ¬ (l3 < 0 ∨ n0 ≤ l3.toNatClampNeg)) (q4 : (f0 l3.toNatClampNeg) &&& (63 : Int32) = (3 : Int32)) (q5 : ¬ (l3 + (1 : Int32) < 0 ∨ n0 ≤ (l3 + (1 : Int32)).toNatClampNeg)) (q6 : xm_V X P d 34 [.ref l1, .int (f0 ((l3 + (1 : Int32)).toNatClampNeg))] h (some (.int r1)) h1) (q7 : X.1[l1]? = some (.inr 9)) (q8 : xm_V X P d 195 [.ref l2, .int (f0 ((l3 + (1 : Int32)).toNatClampNeg))] h1 (some (.int r2)) h2) (q9 : X.1[l2]? = some (.inr 10)) (q10 : ¬ (r1 = r2)) : xm_E X P d co_law 2 [some (.ref l0), some (.ref l1), some (.ref l2), some (.int l3)] [] h (some (.int (0 : Int32))) h2 := by
  refine xm_E_s r_law_2 rfl rfl ?_
  refine xm_E_s r_law_3 rfl rfl ?_
  refine xm_E_s r_law_4 rfl (xm_T_alenx rfl q0 q1) ?_
  refine xm_E_s r_law_5 rfl rfl ?_
  refine xm_E_s r_law_6 rfl rfl ?_
  refine xm_E_s r_law_7 rfl rfl ?_
  refine xm_E_f q2 ?_
  refine xm_E_s r_law_8 rfl rfl ?_
  refine xm_E_s r_law_9 rfl rfl ?_
  refine xm_E_s r_law_10 rfl (xm_T_ialx rfl q0 q1 (by decide) q3) ?_
  refine xm_E_s r_law_11 rfl rfl ?_
  refine xm_E_s r_law_12 rfl rfl ?_
  refine xm_E_s r_law_13 rfl (xm_T_tab (3 : Int32) 95 rfl q4 (by decide) rfl) ?_
  refine xm_E_s r_law_95 rfl rfl ?_
  refine xm_E_s r_law_96 rfl rfl ?_
  refine xm_E_s r_law_97 rfl rfl ?_
  refine xm_E_s r_law_98 rfl rfl ?_
  refine xm_E_s r_law_99 rfl rfl ?_
  refine xm_E_s r_law_100 rfl (xm_T_ialx rfl q0 q1 (by decide) q5) ?_
  refine xm_E_cv [.ref l1, .int (f0 ((l3 + (1 : Int32)).toNatClampNeg))] [] r_law_101 rfl rfl (Nat.le_of_ble_eq_true rfl) (xm_rc q7 (by decide)) rfl q6 ?_
  refine xm_E_s r_law_102 rfl rfl ?_
  refine xm_E_s r_law_103 rfl rfl ?_
  refine xm_E_s r_law_104 rfl rfl ?_
  refine xm_E_s r_law_105 rfl rfl ?_
  refine xm_E_s r_law_106 rfl rfl ?_
  refine xm_E_s r_law_107 rfl (xm_T_ialx rfl q0 q1 (by decide) q5) ?_
  refine xm_E_cv [.ref l2, .int (f0 ((l3 + (1 : Int32)).toNatClampNeg))] [.int r1] r_law_108 rfl rfl (Nat.le_of_ble_eq_true rfl) (xm_rc q9 (by decide)) rfl q8 ?_
  refine xm_E_s r_law_109 rfl rfl ?_
  refine xm_E_f q10 ?_
  refine xm_E_s r_law_110 rfl rfl ?_
  exact xm_E_iret r_law_111 rfl rfl
theorem p_law_2_9 {X : xm_X} {P : List xm_M} {d : Nat} {h : xm_H} {l0 : Nat} {l1 : Nat} {l2 : Nat} {l3 : Int32} {n0 : Nat} {f0 : Nat → Int32} {h1 : xm_H} {r1 : Int32} {h2 : xm_H} {r2 : Int32} {ro : Option Value} {ho : xm_H} (q0 : X.1[l0]? = none) (q1 : X.2.1 l0 = some (0, n0, f0)) (q2 : ¬ ((Int32.ofNat n0) - (6 : Int32) < l3)) (q3 : ¬ (l3 < 0 ∨ n0 ≤ l3.toNatClampNeg)) (q4 : (f0 l3.toNatClampNeg) &&& (63 : Int32) = (4 : Int32)) (q5 : ¬ (l3 + (1 : Int32) < 0 ∨ n0 ≤ (l3 + (1 : Int32)).toNatClampNeg)) (q6 : xm_V X P d 35 [.ref l1, .int (f0 ((l3 + (1 : Int32)).toNatClampNeg))] h (some (.int r1)) h1) (q7 : X.1[l1]? = some (.inr 9)) (q8 : xm_V X P d 215 [.ref l2, .int (f0 ((l3 + (1 : Int32)).toNatClampNeg))] h1 (some (.int r2)) h2) (q9 : X.1[l2]? = some (.inr 10)) (q10 : r1 = r2) (K : xm_E X P d co_law 2 [some (.ref l0), some (.ref l1), some (.ref l2), some (.int (l3 + (6 : Int32)))] [] h2 ro ho) : xm_E X P d co_law 2 [some (.ref l0), some (.ref l1), some (.ref l2), some (.int l3)] [] h ro ho := by
  refine xm_E_s r_law_2 rfl rfl ?_
  refine xm_E_s r_law_3 rfl rfl ?_
  refine xm_E_s r_law_4 rfl (xm_T_alenx rfl q0 q1) ?_
  refine xm_E_s r_law_5 rfl rfl ?_
  refine xm_E_s r_law_6 rfl rfl ?_
  refine xm_E_s r_law_7 rfl rfl ?_
  refine xm_E_f q2 ?_
  refine xm_E_s r_law_8 rfl rfl ?_
  refine xm_E_s r_law_9 rfl rfl ?_
  refine xm_E_s r_law_10 rfl (xm_T_ialx rfl q0 q1 (by decide) q3) ?_
  refine xm_E_s r_law_11 rfl rfl ?_
  refine xm_E_s r_law_12 rfl rfl ?_
  refine xm_E_s r_law_13 rfl (xm_T_tab (4 : Int32) 112 rfl q4 (by decide) rfl) ?_
  refine xm_E_s r_law_112 rfl rfl ?_
  refine xm_E_s r_law_113 rfl rfl ?_
  refine xm_E_s r_law_114 rfl rfl ?_
  refine xm_E_s r_law_115 rfl rfl ?_
  refine xm_E_s r_law_116 rfl rfl ?_
  refine xm_E_s r_law_117 rfl (xm_T_ialx rfl q0 q1 (by decide) q5) ?_
  refine xm_E_cv [.ref l1, .int (f0 ((l3 + (1 : Int32)).toNatClampNeg))] [] r_law_118 rfl rfl (Nat.le_of_ble_eq_true rfl) (xm_rc q7 (by decide)) rfl q6 ?_
  refine xm_E_s r_law_119 rfl rfl ?_
  refine xm_E_s r_law_120 rfl rfl ?_
  refine xm_E_s r_law_121 rfl rfl ?_
  refine xm_E_s r_law_122 rfl rfl ?_
  refine xm_E_s r_law_123 rfl rfl ?_
  refine xm_E_s r_law_124 rfl (xm_T_ialx rfl q0 q1 (by decide) q5) ?_
  refine xm_E_cv [.ref l2, .int (f0 ((l3 + (1 : Int32)).toNatClampNeg))] [.int r1] r_law_125 rfl rfl (Nat.le_of_ble_eq_true rfl) (xm_rc q9 (by decide)) rfl q8 ?_
  refine xm_E_s r_law_126 rfl rfl ?_
  refine xm_E_t q10 ?_
  refine xm_E_s (ls1 := [some (.ref l0), some (.ref l1), some (.ref l2), some (.int (l3 + (6 : Int32)))]) r_law_1109 rfl rfl ?_
  refine xm_E_s r_law_1110 rfl rfl ?_
  exact K
theorem p_law_2_10 {X : xm_X} {P : List xm_M} {d : Nat} {h : xm_H} {l0 : Nat} {l1 : Nat} {l2 : Nat} {l3 : Int32} {n0 : Nat} {f0 : Nat → Int32} {h1 : xm_H} {r1 : Int32} {h2 : xm_H} {r2 : Int32} (q0 : X.1[l0]? = none) (q1 : X.2.1 l0 = some (0, n0, f0)) (q2 : ¬ ((Int32.ofNat n0) - (6 : Int32) < l3)) (q3 : ¬ (l3 < 0 ∨ n0 ≤ l3.toNatClampNeg)) (q4 : (f0 l3.toNatClampNeg) &&& (63 : Int32) = (4 : Int32)) (q5 : ¬ (l3 + (1 : Int32) < 0 ∨ n0 ≤ (l3 + (1 : Int32)).toNatClampNeg)) (q6 : xm_V X P d 35 [.ref l1, .int (f0 ((l3 + (1 : Int32)).toNatClampNeg))] h (some (.int r1)) h1) (q7 : X.1[l1]? = some (.inr 9)) (q8 : xm_V X P d 215 [.ref l2, .int (f0 ((l3 + (1 : Int32)).toNatClampNeg))] h1 (some (.int r2)) h2) (q9 : X.1[l2]? = some (.inr 10)) (q10 : ¬ (r1 = r2)) : xm_E X P d co_law 2 [some (.ref l0), some (.ref l1), some (.ref l2), some (.int l3)] [] h (some (.int (0 : Int32))) h2 := by
  refine xm_E_s r_law_2 rfl rfl ?_
  refine xm_E_s r_law_3 rfl rfl ?_
  refine xm_E_s r_law_4 rfl (xm_T_alenx rfl q0 q1) ?_
  refine xm_E_s r_law_5 rfl rfl ?_
  refine xm_E_s r_law_6 rfl rfl ?_
  refine xm_E_s r_law_7 rfl rfl ?_
  refine xm_E_f q2 ?_
  refine xm_E_s r_law_8 rfl rfl ?_
  refine xm_E_s r_law_9 rfl rfl ?_
  refine xm_E_s r_law_10 rfl (xm_T_ialx rfl q0 q1 (by decide) q3) ?_
  refine xm_E_s r_law_11 rfl rfl ?_
  refine xm_E_s r_law_12 rfl rfl ?_
  refine xm_E_s r_law_13 rfl (xm_T_tab (4 : Int32) 112 rfl q4 (by decide) rfl) ?_
  refine xm_E_s r_law_112 rfl rfl ?_
  refine xm_E_s r_law_113 rfl rfl ?_
  refine xm_E_s r_law_114 rfl rfl ?_
  refine xm_E_s r_law_115 rfl rfl ?_
  refine xm_E_s r_law_116 rfl rfl ?_
  refine xm_E_s r_law_117 rfl (xm_T_ialx rfl q0 q1 (by decide) q5) ?_
  refine xm_E_cv [.ref l1, .int (f0 ((l3 + (1 : Int32)).toNatClampNeg))] [] r_law_118 rfl rfl (Nat.le_of_ble_eq_true rfl) (xm_rc q7 (by decide)) rfl q6 ?_
  refine xm_E_s r_law_119 rfl rfl ?_
  refine xm_E_s r_law_120 rfl rfl ?_
  refine xm_E_s r_law_121 rfl rfl ?_
  refine xm_E_s r_law_122 rfl rfl ?_
  refine xm_E_s r_law_123 rfl rfl ?_
  refine xm_E_s r_law_124 rfl (xm_T_ialx rfl q0 q1 (by decide) q5) ?_
  refine xm_E_cv [.ref l2, .int (f0 ((l3 + (1 : Int32)).toNatClampNeg))] [.int r1] r_law_125 rfl rfl (Nat.le_of_ble_eq_true rfl) (xm_rc q9 (by decide)) rfl q8 ?_
  refine xm_E_s r_law_126 rfl rfl ?_
  refine xm_E_f q10 ?_
  refine xm_E_s r_law_127 rfl rfl ?_
  exact xm_E_iret r_law_128 rfl rfl
theorem p_law_2_11 {X : xm_X} {P : List xm_M} {d : Nat} {h : xm_H} {l0 : Nat} {l1 : Nat} {l2 : Nat} {l3 : Int32} {n0 : Nat} {f0 : Nat → Int32} {h1 : xm_H} {r1 : Int32} {h2 : xm_H} {r2 : Int32} {ro : Option Value} {ho : xm_H} (q0 : X.1[l0]? = none) (q1 : X.2.1 l0 = some (0, n0, f0)) (q2 : ¬ ((Int32.ofNat n0) - (6 : Int32) < l3)) (q3 : ¬ (l3 < 0 ∨ n0 ≤ l3.toNatClampNeg)) (q4 : (f0 l3.toNatClampNeg) &&& (63 : Int32) = (5 : Int32)) (q5 : ¬ (l3 + (1 : Int32) < 0 ∨ n0 ≤ (l3 + (1 : Int32)).toNatClampNeg)) (q6 : xm_V X P d 45 [.ref l1, .int (f0 ((l3 + (1 : Int32)).toNatClampNeg))] h (some (.int r1)) h1) (q7 : X.1[l1]? = some (.inr 9)) (q8 : xm_V X P d 238 [.ref l2, .int (f0 ((l3 + (1 : Int32)).toNatClampNeg))] h1 (some (.int r2)) h2) (q9 : X.1[l2]? = some (.inr 10)) (q10 : r1 = r2) (K : xm_E X P d co_law 2 [some (.ref l0), some (.ref l1), some (.ref l2), some (.int (l3 + (6 : Int32)))] [] h2 ro ho) : xm_E X P d co_law 2 [some (.ref l0), some (.ref l1), some (.ref l2), some (.int l3)] [] h ro ho := by
  refine xm_E_s r_law_2 rfl rfl ?_
  refine xm_E_s r_law_3 rfl rfl ?_
  refine xm_E_s r_law_4 rfl (xm_T_alenx rfl q0 q1) ?_
  refine xm_E_s r_law_5 rfl rfl ?_
  refine xm_E_s r_law_6 rfl rfl ?_
  refine xm_E_s r_law_7 rfl rfl ?_
  refine xm_E_f q2 ?_
  refine xm_E_s r_law_8 rfl rfl ?_
  refine xm_E_s r_law_9 rfl rfl ?_
  refine xm_E_s r_law_10 rfl (xm_T_ialx rfl q0 q1 (by decide) q3) ?_
  refine xm_E_s r_law_11 rfl rfl ?_
  refine xm_E_s r_law_12 rfl rfl ?_
  refine xm_E_s r_law_13 rfl (xm_T_tab (5 : Int32) 129 rfl q4 (by decide) rfl) ?_
  refine xm_E_s r_law_129 rfl rfl ?_
  refine xm_E_s r_law_130 rfl rfl ?_
  refine xm_E_s r_law_131 rfl rfl ?_
  refine xm_E_s r_law_132 rfl rfl ?_
  refine xm_E_s r_law_133 rfl rfl ?_
  refine xm_E_s r_law_134 rfl (xm_T_ialx rfl q0 q1 (by decide) q5) ?_
  refine xm_E_cv [.ref l1, .int (f0 ((l3 + (1 : Int32)).toNatClampNeg))] [] r_law_135 rfl rfl (Nat.le_of_ble_eq_true rfl) (xm_rc q7 (by decide)) rfl q6 ?_
  refine xm_E_s r_law_136 rfl rfl ?_
  refine xm_E_s r_law_137 rfl rfl ?_
  refine xm_E_s r_law_138 rfl rfl ?_
  refine xm_E_s r_law_139 rfl rfl ?_
  refine xm_E_s r_law_140 rfl rfl ?_
  refine xm_E_s r_law_141 rfl (xm_T_ialx rfl q0 q1 (by decide) q5) ?_
  refine xm_E_cv [.ref l2, .int (f0 ((l3 + (1 : Int32)).toNatClampNeg))] [.int r1] r_law_142 rfl rfl (Nat.le_of_ble_eq_true rfl) (xm_rc q9 (by decide)) rfl q8 ?_
  refine xm_E_s r_law_143 rfl rfl ?_
  refine xm_E_t q10 ?_
  refine xm_E_s (ls1 := [some (.ref l0), some (.ref l1), some (.ref l2), some (.int (l3 + (6 : Int32)))]) r_law_1109 rfl rfl ?_
  refine xm_E_s r_law_1110 rfl rfl ?_
  exact K
theorem p_law_2_12 {X : xm_X} {P : List xm_M} {d : Nat} {h : xm_H} {l0 : Nat} {l1 : Nat} {l2 : Nat} {l3 : Int32} {n0 : Nat} {f0 : Nat → Int32} {h1 : xm_H} {r1 : Int32} {h2 : xm_H} {r2 : Int32} (q0 : X.1[l0]? = none) (q1 : X.2.1 l0 = some (0, n0, f0)) (q2 : ¬ ((Int32.ofNat n0) - (6 : Int32) < l3)) (q3 : ¬ (l3 < 0 ∨ n0 ≤ l3.toNatClampNeg)) (q4 : (f0 l3.toNatClampNeg) &&& (63 : Int32) = (5 : Int32)) (q5 : ¬ (l3 + (1 : Int32) < 0 ∨ n0 ≤ (l3 + (1 : Int32)).toNatClampNeg)) (q6 : xm_V X P d 45 [.ref l1, .int (f0 ((l3 + (1 : Int32)).toNatClampNeg))] h (some (.int r1)) h1) (q7 : X.1[l1]? = some (.inr 9)) (q8 : xm_V X P d 238 [.ref l2, .int (f0 ((l3 + (1 : Int32)).toNatClampNeg))] h1 (some (.int r2)) h2) (q9 : X.1[l2]? = some (.inr 10)) (q10 : ¬ (r1 = r2)) : xm_E X P d co_law 2 [some (.ref l0), some (.ref l1), some (.ref l2), some (.int l3)] [] h (some (.int (0 : Int32))) h2 := by
  refine xm_E_s r_law_2 rfl rfl ?_
  refine xm_E_s r_law_3 rfl rfl ?_
  refine xm_E_s r_law_4 rfl (xm_T_alenx rfl q0 q1) ?_
  refine xm_E_s r_law_5 rfl rfl ?_
  refine xm_E_s r_law_6 rfl rfl ?_
  refine xm_E_s r_law_7 rfl rfl ?_
  refine xm_E_f q2 ?_
  refine xm_E_s r_law_8 rfl rfl ?_
  refine xm_E_s r_law_9 rfl rfl ?_
  refine xm_E_s r_law_10 rfl (xm_T_ialx rfl q0 q1 (by decide) q3) ?_
  refine xm_E_s r_law_11 rfl rfl ?_
  refine xm_E_s r_law_12 rfl rfl ?_
  refine xm_E_s r_law_13 rfl (xm_T_tab (5 : Int32) 129 rfl q4 (by decide) rfl) ?_
  refine xm_E_s r_law_129 rfl rfl ?_
  refine xm_E_s r_law_130 rfl rfl ?_
  refine xm_E_s r_law_131 rfl rfl ?_
  refine xm_E_s r_law_132 rfl rfl ?_
  refine xm_E_s r_law_133 rfl rfl ?_
  refine xm_E_s r_law_134 rfl (xm_T_ialx rfl q0 q1 (by decide) q5) ?_
  refine xm_E_cv [.ref l1, .int (f0 ((l3 + (1 : Int32)).toNatClampNeg))] [] r_law_135 rfl rfl (Nat.le_of_ble_eq_true rfl) (xm_rc q7 (by decide)) rfl q6 ?_
  refine xm_E_s r_law_136 rfl rfl ?_
  refine xm_E_s r_law_137 rfl rfl ?_
  refine xm_E_s r_law_138 rfl rfl ?_
  refine xm_E_s r_law_139 rfl rfl ?_
  refine xm_E_s r_law_140 rfl rfl ?_
  refine xm_E_s r_law_141 rfl (xm_T_ialx rfl q0 q1 (by decide) q5) ?_
  refine xm_E_cv [.ref l2, .int (f0 ((l3 + (1 : Int32)).toNatClampNeg))] [.int r1] r_law_142 rfl rfl (Nat.le_of_ble_eq_true rfl) (xm_rc q9 (by decide)) rfl q8 ?_
  refine xm_E_s r_law_143 rfl rfl ?_
  refine xm_E_f q10 ?_
  refine xm_E_s r_law_144 rfl rfl ?_
  exact xm_E_iret r_law_145 rfl rfl
theorem p_law_2_13 {X : xm_X} {P : List xm_M} {d : Nat} {h : xm_H} {l0 : Nat} {l1 : Nat} {l2 : Nat} {l3 : Int32} {n0 : Nat} {f0 : Nat → Int32} {h1 : xm_H} {r1 : Int32} {h2 : xm_H} {r2 : Int32} {ro : Option Value} {ho : xm_H} (q0 : X.1[l0]? = none) (q1 : X.2.1 l0 = some (0, n0, f0)) (q2 : ¬ ((Int32.ofNat n0) - (6 : Int32) < l3)) (q3 : ¬ (l3 < 0 ∨ n0 ≤ l3.toNatClampNeg)) (q4 : (f0 l3.toNatClampNeg) &&& (63 : Int32) = (6 : Int32)) (q5 : xm_V X P d 49 [.ref l1] h (some (.int r1)) h1) (q6 : X.1[l1]? = some (.inr 9)) (q7 : xm_V X P d 240 [.ref l2] h1 (some (.int r2)) h2) (q8 : X.1[l2]? = some (.inr 10)) (q9 : r1 = r2) (K : xm_E X P d co_law 2 [some (.ref l0), some (.ref l1), some (.ref l2), some (.int (l3 + (6 : Int32)))] [] h2 ro ho) : xm_E X P d co_law 2 [some (.ref l0), some (.ref l1), some (.ref l2), some (.int l3)] [] h ro ho := by
  refine xm_E_s r_law_2 rfl rfl ?_
  refine xm_E_s r_law_3 rfl rfl ?_
  refine xm_E_s r_law_4 rfl (xm_T_alenx rfl q0 q1) ?_
  refine xm_E_s r_law_5 rfl rfl ?_
  refine xm_E_s r_law_6 rfl rfl ?_
  refine xm_E_s r_law_7 rfl rfl ?_
  refine xm_E_f q2 ?_
  refine xm_E_s r_law_8 rfl rfl ?_
  refine xm_E_s r_law_9 rfl rfl ?_
  refine xm_E_s r_law_10 rfl (xm_T_ialx rfl q0 q1 (by decide) q3) ?_
  refine xm_E_s r_law_11 rfl rfl ?_
  refine xm_E_s r_law_12 rfl rfl ?_
  refine xm_E_s r_law_13 rfl (xm_T_tab (6 : Int32) 146 rfl q4 (by decide) rfl) ?_
  refine xm_E_s r_law_146 rfl rfl ?_
  refine xm_E_cv [.ref l1] [] r_law_147 rfl rfl (Nat.le_of_ble_eq_true rfl) (xm_rc q6 (by decide)) rfl q5 ?_
  refine xm_E_s r_law_148 rfl rfl ?_
  refine xm_E_cv [.ref l2] [.int r1] r_law_149 rfl rfl (Nat.le_of_ble_eq_true rfl) (xm_rc q8 (by decide)) rfl q7 ?_
  refine xm_E_s r_law_150 rfl rfl ?_
  refine xm_E_t q9 ?_
  refine xm_E_s (ls1 := [some (.ref l0), some (.ref l1), some (.ref l2), some (.int (l3 + (6 : Int32)))]) r_law_1109 rfl rfl ?_
  refine xm_E_s r_law_1110 rfl rfl ?_
  exact K
theorem p_law_2_14 {X : xm_X} {P : List xm_M} {d : Nat} {h : xm_H} {l0 : Nat} {l1 : Nat} {l2 : Nat} {l3 : Int32} {n0 : Nat} {f0 : Nat → Int32} {h1 : xm_H} {r1 : Int32} {h2 : xm_H} {r2 : Int32} (q0 : X.1[l0]? = none) (q1 : X.2.1 l0 = some (0, n0, f0)) (q2 : ¬ ((Int32.ofNat n0) - (6 : Int32) < l3)) (q3 : ¬ (l3 < 0 ∨ n0 ≤ l3.toNatClampNeg)) (q4 : (f0 l3.toNatClampNeg) &&& (63 : Int32) = (6 : Int32)) (q5 : xm_V X P d 49 [.ref l1] h (some (.int r1)) h1) (q6 : X.1[l1]? = some (.inr 9)) (q7 : xm_V X P d 240 [.ref l2] h1 (some (.int r2)) h2) (q8 : X.1[l2]? = some (.inr 10)) (q9 : ¬ (r1 = r2)) : xm_E X P d co_law 2 [some (.ref l0), some (.ref l1), some (.ref l2), some (.int l3)] [] h (some (.int (0 : Int32))) h2 := by
  refine xm_E_s r_law_2 rfl rfl ?_
  refine xm_E_s r_law_3 rfl rfl ?_
  refine xm_E_s r_law_4 rfl (xm_T_alenx rfl q0 q1) ?_
  refine xm_E_s r_law_5 rfl rfl ?_
  refine xm_E_s r_law_6 rfl rfl ?_
  refine xm_E_s r_law_7 rfl rfl ?_
  refine xm_E_f q2 ?_
  refine xm_E_s r_law_8 rfl rfl ?_
  refine xm_E_s r_law_9 rfl rfl ?_
  refine xm_E_s r_law_10 rfl (xm_T_ialx rfl q0 q1 (by decide) q3) ?_
  refine xm_E_s r_law_11 rfl rfl ?_
  refine xm_E_s r_law_12 rfl rfl ?_
  refine xm_E_s r_law_13 rfl (xm_T_tab (6 : Int32) 146 rfl q4 (by decide) rfl) ?_
  refine xm_E_s r_law_146 rfl rfl ?_
  refine xm_E_cv [.ref l1] [] r_law_147 rfl rfl (Nat.le_of_ble_eq_true rfl) (xm_rc q6 (by decide)) rfl q5 ?_
  refine xm_E_s r_law_148 rfl rfl ?_
  refine xm_E_cv [.ref l2] [.int r1] r_law_149 rfl rfl (Nat.le_of_ble_eq_true rfl) (xm_rc q8 (by decide)) rfl q7 ?_
  refine xm_E_s r_law_150 rfl rfl ?_
  refine xm_E_f q9 ?_
  refine xm_E_s r_law_151 rfl rfl ?_
  exact xm_E_iret r_law_152 rfl rfl
theorem p_law_2_15 {X : xm_X} {P : List xm_M} {d : Nat} {h : xm_H} {l0 : Nat} {l1 : Nat} {l2 : Nat} {l3 : Int32} {n0 : Nat} {f0 : Nat → Int32} {h1 : xm_H} {r1 : Int32} {h2 : xm_H} {r2 : Int32} {ro : Option Value} {ho : xm_H} (q0 : X.1[l0]? = none) (q1 : X.2.1 l0 = some (0, n0, f0)) (q2 : ¬ ((Int32.ofNat n0) - (6 : Int32) < l3)) (q3 : ¬ (l3 < 0 ∨ n0 ≤ l3.toNatClampNeg)) (q4 : (f0 l3.toNatClampNeg) &&& (63 : Int32) = (7 : Int32)) (q5 : ¬ (l3 + (1 : Int32) < 0 ∨ n0 ≤ (l3 + (1 : Int32)).toNatClampNeg)) (q6 : xm_V X P d 50 [.ref l1, .int (f0 ((l3 + (1 : Int32)).toNatClampNeg))] h (some (.int r1)) h1) (q7 : X.1[l1]? = some (.inr 9)) (q8 : xm_V X P d 241 [.ref l2, .int (f0 ((l3 + (1 : Int32)).toNatClampNeg))] h1 (some (.int r2)) h2) (q9 : X.1[l2]? = some (.inr 10)) (q10 : r1 = r2) (K : xm_E X P d co_law 2 [some (.ref l0), some (.ref l1), some (.ref l2), some (.int (l3 + (6 : Int32)))] [] h2 ro ho) : xm_E X P d co_law 2 [some (.ref l0), some (.ref l1), some (.ref l2), some (.int l3)] [] h ro ho := by
  refine xm_E_s r_law_2 rfl rfl ?_
  refine xm_E_s r_law_3 rfl rfl ?_
  refine xm_E_s r_law_4 rfl (xm_T_alenx rfl q0 q1) ?_
  refine xm_E_s r_law_5 rfl rfl ?_
  refine xm_E_s r_law_6 rfl rfl ?_
  refine xm_E_s r_law_7 rfl rfl ?_
  refine xm_E_f q2 ?_
  refine xm_E_s r_law_8 rfl rfl ?_
  refine xm_E_s r_law_9 rfl rfl ?_
  refine xm_E_s r_law_10 rfl (xm_T_ialx rfl q0 q1 (by decide) q3) ?_
  refine xm_E_s r_law_11 rfl rfl ?_
  refine xm_E_s r_law_12 rfl rfl ?_
  refine xm_E_s r_law_13 rfl (xm_T_tab (7 : Int32) 153 rfl q4 (by decide) rfl) ?_
  refine xm_E_s r_law_153 rfl rfl ?_
  refine xm_E_s r_law_154 rfl rfl ?_
  refine xm_E_s r_law_155 rfl rfl ?_
  refine xm_E_s r_law_156 rfl rfl ?_
  refine xm_E_s r_law_157 rfl rfl ?_
  refine xm_E_s r_law_158 rfl (xm_T_ialx rfl q0 q1 (by decide) q5) ?_
  refine xm_E_cv [.ref l1, .int (f0 ((l3 + (1 : Int32)).toNatClampNeg))] [] r_law_159 rfl rfl (Nat.le_of_ble_eq_true rfl) (xm_rc q7 (by decide)) rfl q6 ?_
  refine xm_E_s r_law_160 rfl rfl ?_
  refine xm_E_s r_law_161 rfl rfl ?_
  refine xm_E_s r_law_162 rfl rfl ?_
  refine xm_E_s r_law_163 rfl rfl ?_
  refine xm_E_s r_law_164 rfl rfl ?_
  refine xm_E_s r_law_165 rfl (xm_T_ialx rfl q0 q1 (by decide) q5) ?_
  refine xm_E_cv [.ref l2, .int (f0 ((l3 + (1 : Int32)).toNatClampNeg))] [.int r1] r_law_166 rfl rfl (Nat.le_of_ble_eq_true rfl) (xm_rc q9 (by decide)) rfl q8 ?_
  refine xm_E_s r_law_167 rfl rfl ?_
  refine xm_E_t q10 ?_
  refine xm_E_s (ls1 := [some (.ref l0), some (.ref l1), some (.ref l2), some (.int (l3 + (6 : Int32)))]) r_law_1109 rfl rfl ?_
  refine xm_E_s r_law_1110 rfl rfl ?_
  exact K
theorem p_law_2_16 {X : xm_X} {P : List xm_M} {d : Nat} {h : xm_H} {l0 : Nat} {l1 : Nat} {l2 : Nat} {l3 : Int32} {n0 : Nat} {f0 : Nat → Int32} {h1 : xm_H} {r1 : Int32} {h2 : xm_H} {r2 : Int32} (q0 : X.1[l0]? = none) (q1 : X.2.1 l0 = some (0, n0, f0)) (q2 : ¬ ((Int32.ofNat n0) - (6 : Int32) < l3)) (q3 : ¬ (l3 < 0 ∨ n0 ≤ l3.toNatClampNeg)) (q4 : (f0 l3.toNatClampNeg) &&& (63 : Int32) = (7 : Int32)) (q5 : ¬ (l3 + (1 : Int32) < 0 ∨ n0 ≤ (l3 + (1 : Int32)).toNatClampNeg)) (q6 : xm_V X P d 50 [.ref l1, .int (f0 ((l3 + (1 : Int32)).toNatClampNeg))] h (some (.int r1)) h1) (q7 : X.1[l1]? = some (.inr 9)) (q8 : xm_V X P d 241 [.ref l2, .int (f0 ((l3 + (1 : Int32)).toNatClampNeg))] h1 (some (.int r2)) h2) (q9 : X.1[l2]? = some (.inr 10)) (q10 : ¬ (r1 = r2)) : xm_E X P d co_law 2 [some (.ref l0), some (.ref l1), some (.ref l2), some (.int l3)] [] h (some (.int (0 : Int32))) h2 := by
  refine xm_E_s r_law_2 rfl rfl ?_
  refine xm_E_s r_law_3 rfl rfl ?_
  refine xm_E_s r_law_4 rfl (xm_T_alenx rfl q0 q1) ?_
  refine xm_E_s r_law_5 rfl rfl ?_
  refine xm_E_s r_law_6 rfl rfl ?_
  refine xm_E_s r_law_7 rfl rfl ?_
  refine xm_E_f q2 ?_
  refine xm_E_s r_law_8 rfl rfl ?_
  refine xm_E_s r_law_9 rfl rfl ?_
  refine xm_E_s r_law_10 rfl (xm_T_ialx rfl q0 q1 (by decide) q3) ?_
  refine xm_E_s r_law_11 rfl rfl ?_
  refine xm_E_s r_law_12 rfl rfl ?_
  refine xm_E_s r_law_13 rfl (xm_T_tab (7 : Int32) 153 rfl q4 (by decide) rfl) ?_
  refine xm_E_s r_law_153 rfl rfl ?_
  refine xm_E_s r_law_154 rfl rfl ?_
  refine xm_E_s r_law_155 rfl rfl ?_
  refine xm_E_s r_law_156 rfl rfl ?_
  refine xm_E_s r_law_157 rfl rfl ?_
  refine xm_E_s r_law_158 rfl (xm_T_ialx rfl q0 q1 (by decide) q5) ?_
  refine xm_E_cv [.ref l1, .int (f0 ((l3 + (1 : Int32)).toNatClampNeg))] [] r_law_159 rfl rfl (Nat.le_of_ble_eq_true rfl) (xm_rc q7 (by decide)) rfl q6 ?_
  refine xm_E_s r_law_160 rfl rfl ?_
  refine xm_E_s r_law_161 rfl rfl ?_
  refine xm_E_s r_law_162 rfl rfl ?_
  refine xm_E_s r_law_163 rfl rfl ?_
  refine xm_E_s r_law_164 rfl rfl ?_
  refine xm_E_s r_law_165 rfl (xm_T_ialx rfl q0 q1 (by decide) q5) ?_
  refine xm_E_cv [.ref l2, .int (f0 ((l3 + (1 : Int32)).toNatClampNeg))] [.int r1] r_law_166 rfl rfl (Nat.le_of_ble_eq_true rfl) (xm_rc q9 (by decide)) rfl q8 ?_
  refine xm_E_s r_law_167 rfl rfl ?_
  refine xm_E_f q10 ?_
  refine xm_E_s r_law_168 rfl rfl ?_
  exact xm_E_iret r_law_169 rfl rfl
theorem p_law_2_17 {X : xm_X} {P : List xm_M} {d : Nat} {h : xm_H} {l0 : Nat} {l1 : Nat} {l2 : Nat} {l3 : Int32} {n0 : Nat} {f0 : Nat → Int32} {h1 : xm_H} {r1 : Int32} {h2 : xm_H} {r2 : Int32} {ro : Option Value} {ho : xm_H} (q0 : X.1[l0]? = none) (q1 : X.2.1 l0 = some (0, n0, f0)) (q2 : ¬ ((Int32.ofNat n0) - (6 : Int32) < l3)) (q3 : ¬ (l3 < 0 ∨ n0 ≤ l3.toNatClampNeg)) (q4 : (f0 l3.toNatClampNeg) &&& (63 : Int32) = (8 : Int32)) (q5 : ¬ (l3 + (1 : Int32) < 0 ∨ n0 ≤ (l3 + (1 : Int32)).toNatClampNeg)) (q6 : xm_V X P d 55 [.ref l1, .int (f0 ((l3 + (1 : Int32)).toNatClampNeg))] h (some (.int r1)) h1) (q7 : X.1[l1]? = some (.inr 9)) (q8 : xm_V X P d 243 [.ref l2, .int (f0 ((l3 + (1 : Int32)).toNatClampNeg))] h1 (some (.int r2)) h2) (q9 : X.1[l2]? = some (.inr 10)) (q10 : r1 = r2) (K : xm_E X P d co_law 2 [some (.ref l0), some (.ref l1), some (.ref l2), some (.int (l3 + (6 : Int32)))] [] h2 ro ho) : xm_E X P d co_law 2 [some (.ref l0), some (.ref l1), some (.ref l2), some (.int l3)] [] h ro ho := by
  refine xm_E_s r_law_2 rfl rfl ?_
  refine xm_E_s r_law_3 rfl rfl ?_
  refine xm_E_s r_law_4 rfl (xm_T_alenx rfl q0 q1) ?_
  refine xm_E_s r_law_5 rfl rfl ?_
  refine xm_E_s r_law_6 rfl rfl ?_
  refine xm_E_s r_law_7 rfl rfl ?_
  refine xm_E_f q2 ?_
  refine xm_E_s r_law_8 rfl rfl ?_
  refine xm_E_s r_law_9 rfl rfl ?_
  refine xm_E_s r_law_10 rfl (xm_T_ialx rfl q0 q1 (by decide) q3) ?_
  refine xm_E_s r_law_11 rfl rfl ?_
  refine xm_E_s r_law_12 rfl rfl ?_
  refine xm_E_s r_law_13 rfl (xm_T_tab (8 : Int32) 170 rfl q4 (by decide) rfl) ?_
  refine xm_E_s r_law_170 rfl rfl ?_
  refine xm_E_s r_law_171 rfl rfl ?_
  refine xm_E_s r_law_172 rfl rfl ?_
  refine xm_E_s r_law_173 rfl rfl ?_
  refine xm_E_s r_law_174 rfl rfl ?_
  refine xm_E_s r_law_175 rfl (xm_T_ialx rfl q0 q1 (by decide) q5) ?_
  refine xm_E_cv [.ref l1, .int (f0 ((l3 + (1 : Int32)).toNatClampNeg))] [] r_law_176 rfl rfl (Nat.le_of_ble_eq_true rfl) (xm_rc q7 (by decide)) rfl q6 ?_
  refine xm_E_s r_law_177 rfl rfl ?_
  refine xm_E_s r_law_178 rfl rfl ?_
  refine xm_E_s r_law_179 rfl rfl ?_
  refine xm_E_s r_law_180 rfl rfl ?_
  refine xm_E_s r_law_181 rfl rfl ?_
  refine xm_E_s r_law_182 rfl (xm_T_ialx rfl q0 q1 (by decide) q5) ?_
  refine xm_E_cv [.ref l2, .int (f0 ((l3 + (1 : Int32)).toNatClampNeg))] [.int r1] r_law_183 rfl rfl (Nat.le_of_ble_eq_true rfl) (xm_rc q9 (by decide)) rfl q8 ?_
  refine xm_E_s r_law_184 rfl rfl ?_
  refine xm_E_t q10 ?_
  refine xm_E_s (ls1 := [some (.ref l0), some (.ref l1), some (.ref l2), some (.int (l3 + (6 : Int32)))]) r_law_1109 rfl rfl ?_
  refine xm_E_s r_law_1110 rfl rfl ?_
  exact K
theorem p_law_2_18 {X : xm_X} {P : List xm_M} {d : Nat} {h : xm_H} {l0 : Nat} {l1 : Nat} {l2 : Nat} {l3 : Int32} {n0 : Nat} {f0 : Nat → Int32} {h1 : xm_H} {r1 : Int32} {h2 : xm_H} {r2 : Int32} (q0 : X.1[l0]? = none) (q1 : X.2.1 l0 = some (0, n0, f0)) (q2 : ¬ ((Int32.ofNat n0) - (6 : Int32) < l3)) (q3 : ¬ (l3 < 0 ∨ n0 ≤ l3.toNatClampNeg)) (q4 : (f0 l3.toNatClampNeg) &&& (63 : Int32) = (8 : Int32)) (q5 : ¬ (l3 + (1 : Int32) < 0 ∨ n0 ≤ (l3 + (1 : Int32)).toNatClampNeg)) (q6 : xm_V X P d 55 [.ref l1, .int (f0 ((l3 + (1 : Int32)).toNatClampNeg))] h (some (.int r1)) h1) (q7 : X.1[l1]? = some (.inr 9)) (q8 : xm_V X P d 243 [.ref l2, .int (f0 ((l3 + (1 : Int32)).toNatClampNeg))] h1 (some (.int r2)) h2) (q9 : X.1[l2]? = some (.inr 10)) (q10 : ¬ (r1 = r2)) : xm_E X P d co_law 2 [some (.ref l0), some (.ref l1), some (.ref l2), some (.int l3)] [] h (some (.int (0 : Int32))) h2 := by
  refine xm_E_s r_law_2 rfl rfl ?_
  refine xm_E_s r_law_3 rfl rfl ?_
  refine xm_E_s r_law_4 rfl (xm_T_alenx rfl q0 q1) ?_
  refine xm_E_s r_law_5 rfl rfl ?_
  refine xm_E_s r_law_6 rfl rfl ?_
  refine xm_E_s r_law_7 rfl rfl ?_
  refine xm_E_f q2 ?_
  refine xm_E_s r_law_8 rfl rfl ?_
  refine xm_E_s r_law_9 rfl rfl ?_
  refine xm_E_s r_law_10 rfl (xm_T_ialx rfl q0 q1 (by decide) q3) ?_
  refine xm_E_s r_law_11 rfl rfl ?_
  refine xm_E_s r_law_12 rfl rfl ?_
  refine xm_E_s r_law_13 rfl (xm_T_tab (8 : Int32) 170 rfl q4 (by decide) rfl) ?_
  refine xm_E_s r_law_170 rfl rfl ?_
  refine xm_E_s r_law_171 rfl rfl ?_
  refine xm_E_s r_law_172 rfl rfl ?_
  refine xm_E_s r_law_173 rfl rfl ?_
  refine xm_E_s r_law_174 rfl rfl ?_
  refine xm_E_s r_law_175 rfl (xm_T_ialx rfl q0 q1 (by decide) q5) ?_
  refine xm_E_cv [.ref l1, .int (f0 ((l3 + (1 : Int32)).toNatClampNeg))] [] r_law_176 rfl rfl (Nat.le_of_ble_eq_true rfl) (xm_rc q7 (by decide)) rfl q6 ?_
  refine xm_E_s r_law_177 rfl rfl ?_
  refine xm_E_s r_law_178 rfl rfl ?_
  refine xm_E_s r_law_179 rfl rfl ?_
  refine xm_E_s r_law_180 rfl rfl ?_
  refine xm_E_s r_law_181 rfl rfl ?_
  refine xm_E_s r_law_182 rfl (xm_T_ialx rfl q0 q1 (by decide) q5) ?_
  refine xm_E_cv [.ref l2, .int (f0 ((l3 + (1 : Int32)).toNatClampNeg))] [.int r1] r_law_183 rfl rfl (Nat.le_of_ble_eq_true rfl) (xm_rc q9 (by decide)) rfl q8 ?_
  refine xm_E_s r_law_184 rfl rfl ?_
  refine xm_E_f q10 ?_
  refine xm_E_s r_law_185 rfl rfl ?_
  exact xm_E_iret r_law_186 rfl rfl
theorem p_law_2_19 {X : xm_X} {P : List xm_M} {d : Nat} {h : xm_H} {l0 : Nat} {l1 : Nat} {l2 : Nat} {l3 : Int32} {n0 : Nat} {f0 : Nat → Int32} {h1 : xm_H} {r1 : Int32} {h2 : xm_H} {r2 : Int32} {ro : Option Value} {ho : xm_H} (q0 : X.1[l0]? = none) (q1 : X.2.1 l0 = some (0, n0, f0)) (q2 : ¬ ((Int32.ofNat n0) - (6 : Int32) < l3)) (q3 : ¬ (l3 < 0 ∨ n0 ≤ l3.toNatClampNeg)) (q4 : (f0 l3.toNatClampNeg) &&& (63 : Int32) = (9 : Int32)) (q5 : xm_V X P d 61 [.ref l1] h (some (.int r1)) h1) (q6 : X.1[l1]? = some (.inr 9)) (q7 : xm_V X P d 248 [.ref l2] h1 (some (.int r2)) h2) (q8 : X.1[l2]? = some (.inr 10)) (q9 : r1 = r2) (K : xm_E X P d co_law 2 [some (.ref l0), some (.ref l1), some (.ref l2), some (.int (l3 + (6 : Int32)))] [] h2 ro ho) : xm_E X P d co_law 2 [some (.ref l0), some (.ref l1), some (.ref l2), some (.int l3)] [] h ro ho := by
  refine xm_E_s r_law_2 rfl rfl ?_
  refine xm_E_s r_law_3 rfl rfl ?_
  refine xm_E_s r_law_4 rfl (xm_T_alenx rfl q0 q1) ?_
  refine xm_E_s r_law_5 rfl rfl ?_
  refine xm_E_s r_law_6 rfl rfl ?_
  refine xm_E_s r_law_7 rfl rfl ?_
  refine xm_E_f q2 ?_
  refine xm_E_s r_law_8 rfl rfl ?_
  refine xm_E_s r_law_9 rfl rfl ?_
  refine xm_E_s r_law_10 rfl (xm_T_ialx rfl q0 q1 (by decide) q3) ?_
  refine xm_E_s r_law_11 rfl rfl ?_
  refine xm_E_s r_law_12 rfl rfl ?_
  refine xm_E_s r_law_13 rfl (xm_T_tab (9 : Int32) 187 rfl q4 (by decide) rfl) ?_
  refine xm_E_s r_law_187 rfl rfl ?_
  refine xm_E_cv [.ref l1] [] r_law_188 rfl rfl (Nat.le_of_ble_eq_true rfl) (xm_rc q6 (by decide)) rfl q5 ?_
  refine xm_E_s r_law_189 rfl rfl ?_
  refine xm_E_cv [.ref l2] [.int r1] r_law_190 rfl rfl (Nat.le_of_ble_eq_true rfl) (xm_rc q8 (by decide)) rfl q7 ?_
  refine xm_E_s r_law_191 rfl rfl ?_
  refine xm_E_t q9 ?_
  refine xm_E_s (ls1 := [some (.ref l0), some (.ref l1), some (.ref l2), some (.int (l3 + (6 : Int32)))]) r_law_1109 rfl rfl ?_
  refine xm_E_s r_law_1110 rfl rfl ?_
  exact K
theorem p_law_2_20 {X : xm_X} {P : List xm_M} {d : Nat} {h : xm_H} {l0 : Nat} {l1 : Nat} {l2 : Nat} {l3 : Int32} {n0 : Nat} {f0 : Nat → Int32} {h1 : xm_H} {r1 : Int32} {h2 : xm_H} {r2 : Int32} (q0 : X.1[l0]? = none) (q1 : X.2.1 l0 = some (0, n0, f0)) (q2 : ¬ ((Int32.ofNat n0) - (6 : Int32) < l3)) (q3 : ¬ (l3 < 0 ∨ n0 ≤ l3.toNatClampNeg)) (q4 : (f0 l3.toNatClampNeg) &&& (63 : Int32) = (9 : Int32)) (q5 : xm_V X P d 61 [.ref l1] h (some (.int r1)) h1) (q6 : X.1[l1]? = some (.inr 9)) (q7 : xm_V X P d 248 [.ref l2] h1 (some (.int r2)) h2) (q8 : X.1[l2]? = some (.inr 10)) (q9 : ¬ (r1 = r2)) : xm_E X P d co_law 2 [some (.ref l0), some (.ref l1), some (.ref l2), some (.int l3)] [] h (some (.int (0 : Int32))) h2 := by
  refine xm_E_s r_law_2 rfl rfl ?_
  refine xm_E_s r_law_3 rfl rfl ?_
  refine xm_E_s r_law_4 rfl (xm_T_alenx rfl q0 q1) ?_
  refine xm_E_s r_law_5 rfl rfl ?_
  refine xm_E_s r_law_6 rfl rfl ?_
  refine xm_E_s r_law_7 rfl rfl ?_
  refine xm_E_f q2 ?_
  refine xm_E_s r_law_8 rfl rfl ?_
  refine xm_E_s r_law_9 rfl rfl ?_
  refine xm_E_s r_law_10 rfl (xm_T_ialx rfl q0 q1 (by decide) q3) ?_
  refine xm_E_s r_law_11 rfl rfl ?_
  refine xm_E_s r_law_12 rfl rfl ?_
  refine xm_E_s r_law_13 rfl (xm_T_tab (9 : Int32) 187 rfl q4 (by decide) rfl) ?_
  refine xm_E_s r_law_187 rfl rfl ?_
  refine xm_E_cv [.ref l1] [] r_law_188 rfl rfl (Nat.le_of_ble_eq_true rfl) (xm_rc q6 (by decide)) rfl q5 ?_
  refine xm_E_s r_law_189 rfl rfl ?_
  refine xm_E_cv [.ref l2] [.int r1] r_law_190 rfl rfl (Nat.le_of_ble_eq_true rfl) (xm_rc q8 (by decide)) rfl q7 ?_
  refine xm_E_s r_law_191 rfl rfl ?_
  refine xm_E_f q9 ?_
  refine xm_E_s r_law_192 rfl rfl ?_
  exact xm_E_iret r_law_193 rfl rfl
theorem p_law_2_21 {X : xm_X} {P : List xm_M} {d : Nat} {h : xm_H} {l0 : Nat} {l1 : Nat} {l2 : Nat} {l3 : Int32} {n0 : Nat} {f0 : Nat → Int32} {h1 : xm_H} {r1 : Int32} {h2 : xm_H} {r2 : Int32} {ro : Option Value} {ho : xm_H} (q0 : X.1[l0]? = none) (q1 : X.2.1 l0 = some (0, n0, f0)) (q2 : ¬ ((Int32.ofNat n0) - (6 : Int32) < l3)) (q3 : ¬ (l3 < 0 ∨ n0 ≤ l3.toNatClampNeg)) (q4 : (f0 l3.toNatClampNeg) &&& (63 : Int32) = (10 : Int32)) (q5 : ¬ (l3 + (1 : Int32) < 0 ∨ n0 ≤ (l3 + (1 : Int32)).toNatClampNeg)) (q6 : xm_V X P d 63 [.ref l1, .int (f0 ((l3 + (1 : Int32)).toNatClampNeg))] h (some (.int r1)) h1) (q7 : X.1[l1]? = some (.inr 9)) (q8 : xm_V X P d 249 [.ref l2, .int (f0 ((l3 + (1 : Int32)).toNatClampNeg))] h1 (some (.int r2)) h2) (q9 : X.1[l2]? = some (.inr 10)) (q10 : r1 = r2) (K : xm_E X P d co_law 2 [some (.ref l0), some (.ref l1), some (.ref l2), some (.int (l3 + (6 : Int32)))] [] h2 ro ho) : xm_E X P d co_law 2 [some (.ref l0), some (.ref l1), some (.ref l2), some (.int l3)] [] h ro ho := by
  refine xm_E_s r_law_2 rfl rfl ?_
  refine xm_E_s r_law_3 rfl rfl ?_
  refine xm_E_s r_law_4 rfl (xm_T_alenx rfl q0 q1) ?_
  refine xm_E_s r_law_5 rfl rfl ?_
  refine xm_E_s r_law_6 rfl rfl ?_
  refine xm_E_s r_law_7 rfl rfl ?_
  refine xm_E_f q2 ?_
  refine xm_E_s r_law_8 rfl rfl ?_
  refine xm_E_s r_law_9 rfl rfl ?_
  refine xm_E_s r_law_10 rfl (xm_T_ialx rfl q0 q1 (by decide) q3) ?_
  refine xm_E_s r_law_11 rfl rfl ?_
  refine xm_E_s r_law_12 rfl rfl ?_
  refine xm_E_s r_law_13 rfl (xm_T_tab (10 : Int32) 194 rfl q4 (by decide) rfl) ?_
  refine xm_E_s r_law_194 rfl rfl ?_
  refine xm_E_s r_law_195 rfl rfl ?_
  refine xm_E_s r_law_196 rfl rfl ?_
  refine xm_E_s r_law_197 rfl rfl ?_
  refine xm_E_s r_law_198 rfl rfl ?_
  refine xm_E_s r_law_199 rfl (xm_T_ialx rfl q0 q1 (by decide) q5) ?_
  refine xm_E_cv [.ref l1, .int (f0 ((l3 + (1 : Int32)).toNatClampNeg))] [] r_law_200 rfl rfl (Nat.le_of_ble_eq_true rfl) (xm_rc q7 (by decide)) rfl q6 ?_
  refine xm_E_s r_law_201 rfl rfl ?_
  refine xm_E_s r_law_202 rfl rfl ?_
  refine xm_E_s r_law_203 rfl rfl ?_
  refine xm_E_s r_law_204 rfl rfl ?_
  refine xm_E_s r_law_205 rfl rfl ?_
  refine xm_E_s r_law_206 rfl (xm_T_ialx rfl q0 q1 (by decide) q5) ?_
  refine xm_E_cv [.ref l2, .int (f0 ((l3 + (1 : Int32)).toNatClampNeg))] [.int r1] r_law_207 rfl rfl (Nat.le_of_ble_eq_true rfl) (xm_rc q9 (by decide)) rfl q8 ?_
  refine xm_E_s r_law_208 rfl rfl ?_
  refine xm_E_t q10 ?_
  refine xm_E_s (ls1 := [some (.ref l0), some (.ref l1), some (.ref l2), some (.int (l3 + (6 : Int32)))]) r_law_1109 rfl rfl ?_
  refine xm_E_s r_law_1110 rfl rfl ?_
  exact K
theorem p_law_2_22 {X : xm_X} {P : List xm_M} {d : Nat} {h : xm_H} {l0 : Nat} {l1 : Nat} {l2 : Nat} {l3 : Int32} {n0 : Nat} {f0 : Nat → Int32} {h1 : xm_H} {r1 : Int32} {h2 : xm_H} {r2 : Int32} (q0 : X.1[l0]? = none) (q1 : X.2.1 l0 = some (0, n0, f0)) (q2 : ¬ ((Int32.ofNat n0) - (6 : Int32) < l3)) (q3 : ¬ (l3 < 0 ∨ n0 ≤ l3.toNatClampNeg)) (q4 : (f0 l3.toNatClampNeg) &&& (63 : Int32) = (10 : Int32)) (q5 : ¬ (l3 + (1 : Int32) < 0 ∨ n0 ≤ (l3 + (1 : Int32)).toNatClampNeg)) (q6 : xm_V X P d 63 [.ref l1, .int (f0 ((l3 + (1 : Int32)).toNatClampNeg))] h (some (.int r1)) h1) (q7 : X.1[l1]? = some (.inr 9)) (q8 : xm_V X P d 249 [.ref l2, .int (f0 ((l3 + (1 : Int32)).toNatClampNeg))] h1 (some (.int r2)) h2) (q9 : X.1[l2]? = some (.inr 10)) (q10 : ¬ (r1 = r2)) : xm_E X P d co_law 2 [some (.ref l0), some (.ref l1), some (.ref l2), some (.int l3)] [] h (some (.int (0 : Int32))) h2 := by
  refine xm_E_s r_law_2 rfl rfl ?_
  refine xm_E_s r_law_3 rfl rfl ?_
  refine xm_E_s r_law_4 rfl (xm_T_alenx rfl q0 q1) ?_
  refine xm_E_s r_law_5 rfl rfl ?_
  refine xm_E_s r_law_6 rfl rfl ?_
  refine xm_E_s r_law_7 rfl rfl ?_
  refine xm_E_f q2 ?_
  refine xm_E_s r_law_8 rfl rfl ?_
  refine xm_E_s r_law_9 rfl rfl ?_
  refine xm_E_s r_law_10 rfl (xm_T_ialx rfl q0 q1 (by decide) q3) ?_
  refine xm_E_s r_law_11 rfl rfl ?_
  refine xm_E_s r_law_12 rfl rfl ?_
  refine xm_E_s r_law_13 rfl (xm_T_tab (10 : Int32) 194 rfl q4 (by decide) rfl) ?_
  refine xm_E_s r_law_194 rfl rfl ?_
  refine xm_E_s r_law_195 rfl rfl ?_
  refine xm_E_s r_law_196 rfl rfl ?_
  refine xm_E_s r_law_197 rfl rfl ?_
  refine xm_E_s r_law_198 rfl rfl ?_
  refine xm_E_s r_law_199 rfl (xm_T_ialx rfl q0 q1 (by decide) q5) ?_
  refine xm_E_cv [.ref l1, .int (f0 ((l3 + (1 : Int32)).toNatClampNeg))] [] r_law_200 rfl rfl (Nat.le_of_ble_eq_true rfl) (xm_rc q7 (by decide)) rfl q6 ?_
  refine xm_E_s r_law_201 rfl rfl ?_
  refine xm_E_s r_law_202 rfl rfl ?_
  refine xm_E_s r_law_203 rfl rfl ?_
  refine xm_E_s r_law_204 rfl rfl ?_
  refine xm_E_s r_law_205 rfl rfl ?_
  refine xm_E_s r_law_206 rfl (xm_T_ialx rfl q0 q1 (by decide) q5) ?_
  refine xm_E_cv [.ref l2, .int (f0 ((l3 + (1 : Int32)).toNatClampNeg))] [.int r1] r_law_207 rfl rfl (Nat.le_of_ble_eq_true rfl) (xm_rc q9 (by decide)) rfl q8 ?_
  refine xm_E_s r_law_208 rfl rfl ?_
  refine xm_E_f q10 ?_
  refine xm_E_s r_law_209 rfl rfl ?_
  exact xm_E_iret r_law_210 rfl rfl
theorem p_law_2_23 {X : xm_X} {P : List xm_M} {d : Nat} {h : xm_H} {l0 : Nat} {l1 : Nat} {l2 : Nat} {l3 : Int32} {n0 : Nat} {f0 : Nat → Int32} {h1 : xm_H} {r1 : Int32} {h2 : xm_H} {r2 : Int32} {ro : Option Value} {ho : xm_H} (q0 : X.1[l0]? = none) (q1 : X.2.1 l0 = some (0, n0, f0)) (q2 : ¬ ((Int32.ofNat n0) - (6 : Int32) < l3)) (q3 : ¬ (l3 < 0 ∨ n0 ≤ l3.toNatClampNeg)) (q4 : (f0 l3.toNatClampNeg) &&& (63 : Int32) = (11 : Int32)) (q5 : xm_V X P d 65 [.ref l1] h (some (.int r1)) h1) (q6 : X.1[l1]? = some (.inr 9)) (q7 : xm_V X P d 250 [.ref l2] h1 (some (.int r2)) h2) (q8 : X.1[l2]? = some (.inr 10)) (q9 : r1 = r2) (K : xm_E X P d co_law 2 [some (.ref l0), some (.ref l1), some (.ref l2), some (.int (l3 + (6 : Int32)))] [] h2 ro ho) : xm_E X P d co_law 2 [some (.ref l0), some (.ref l1), some (.ref l2), some (.int l3)] [] h ro ho := by
  refine xm_E_s r_law_2 rfl rfl ?_
  refine xm_E_s r_law_3 rfl rfl ?_
  refine xm_E_s r_law_4 rfl (xm_T_alenx rfl q0 q1) ?_
  refine xm_E_s r_law_5 rfl rfl ?_
  refine xm_E_s r_law_6 rfl rfl ?_
  refine xm_E_s r_law_7 rfl rfl ?_
  refine xm_E_f q2 ?_
  refine xm_E_s r_law_8 rfl rfl ?_
  refine xm_E_s r_law_9 rfl rfl ?_
  refine xm_E_s r_law_10 rfl (xm_T_ialx rfl q0 q1 (by decide) q3) ?_
  refine xm_E_s r_law_11 rfl rfl ?_
  refine xm_E_s r_law_12 rfl rfl ?_
  refine xm_E_s r_law_13 rfl (xm_T_tab (11 : Int32) 211 rfl q4 (by decide) rfl) ?_
  refine xm_E_s r_law_211 rfl rfl ?_
  refine xm_E_cv [.ref l1] [] r_law_212 rfl rfl (Nat.le_of_ble_eq_true rfl) (xm_rc q6 (by decide)) rfl q5 ?_
  refine xm_E_s r_law_213 rfl rfl ?_
  refine xm_E_cv [.ref l2] [.int r1] r_law_214 rfl rfl (Nat.le_of_ble_eq_true rfl) (xm_rc q8 (by decide)) rfl q7 ?_
  refine xm_E_s r_law_215 rfl rfl ?_
  refine xm_E_t q9 ?_
  refine xm_E_s (ls1 := [some (.ref l0), some (.ref l1), some (.ref l2), some (.int (l3 + (6 : Int32)))]) r_law_1109 rfl rfl ?_
  refine xm_E_s r_law_1110 rfl rfl ?_
  exact K
theorem p_law_2_24 {X : xm_X} {P : List xm_M} {d : Nat} {h : xm_H} {l0 : Nat} {l1 : Nat} {l2 : Nat} {l3 : Int32} {n0 : Nat} {f0 : Nat → Int32} {h1 : xm_H} {r1 : Int32} {h2 : xm_H} {r2 : Int32} (q0 : X.1[l0]? = none) (q1 : X.2.1 l0 = some (0, n0, f0)) (q2 : ¬ ((Int32.ofNat n0) - (6 : Int32) < l3)) (q3 : ¬ (l3 < 0 ∨ n0 ≤ l3.toNatClampNeg)) (q4 : (f0 l3.toNatClampNeg) &&& (63 : Int32) = (11 : Int32)) (q5 : xm_V X P d 65 [.ref l1] h (some (.int r1)) h1) (q6 : X.1[l1]? = some (.inr 9)) (q7 : xm_V X P d 250 [.ref l2] h1 (some (.int r2)) h2) (q8 : X.1[l2]? = some (.inr 10)) (q9 : ¬ (r1 = r2)) : xm_E X P d co_law 2 [some (.ref l0), some (.ref l1), some (.ref l2), some (.int l3)] [] h (some (.int (0 : Int32))) h2 := by
  refine xm_E_s r_law_2 rfl rfl ?_
  refine xm_E_s r_law_3 rfl rfl ?_
  refine xm_E_s r_law_4 rfl (xm_T_alenx rfl q0 q1) ?_
  refine xm_E_s r_law_5 rfl rfl ?_
  refine xm_E_s r_law_6 rfl rfl ?_
  refine xm_E_s r_law_7 rfl rfl ?_
  refine xm_E_f q2 ?_
  refine xm_E_s r_law_8 rfl rfl ?_
  refine xm_E_s r_law_9 rfl rfl ?_
  refine xm_E_s r_law_10 rfl (xm_T_ialx rfl q0 q1 (by decide) q3) ?_
  refine xm_E_s r_law_11 rfl rfl ?_
  refine xm_E_s r_law_12 rfl rfl ?_
  refine xm_E_s r_law_13 rfl (xm_T_tab (11 : Int32) 211 rfl q4 (by decide) rfl) ?_
  refine xm_E_s r_law_211 rfl rfl ?_
  refine xm_E_cv [.ref l1] [] r_law_212 rfl rfl (Nat.le_of_ble_eq_true rfl) (xm_rc q6 (by decide)) rfl q5 ?_
  refine xm_E_s r_law_213 rfl rfl ?_
  refine xm_E_cv [.ref l2] [.int r1] r_law_214 rfl rfl (Nat.le_of_ble_eq_true rfl) (xm_rc q8 (by decide)) rfl q7 ?_
  refine xm_E_s r_law_215 rfl rfl ?_
  refine xm_E_f q9 ?_
  refine xm_E_s r_law_216 rfl rfl ?_
  exact xm_E_iret r_law_217 rfl rfl
theorem p_law_2_25 {X : xm_X} {P : List xm_M} {d : Nat} {h : xm_H} {l0 : Nat} {l1 : Nat} {l2 : Nat} {l3 : Int32} {n0 : Nat} {f0 : Nat → Int32} {h1 : xm_H} {r1 : Int32} {h2 : xm_H} {r2 : Int32} {ro : Option Value} {ho : xm_H} (q0 : X.1[l0]? = none) (q1 : X.2.1 l0 = some (0, n0, f0)) (q2 : ¬ ((Int32.ofNat n0) - (6 : Int32) < l3)) (q3 : ¬ (l3 < 0 ∨ n0 ≤ l3.toNatClampNeg)) (q4 : (f0 l3.toNatClampNeg) &&& (63 : Int32) = (12 : Int32)) (q5 : ¬ (l3 + (1 : Int32) < 0 ∨ n0 ≤ (l3 + (1 : Int32)).toNatClampNeg)) (q6 : xm_V X P d 66 [.ref l1, .int (f0 ((l3 + (1 : Int32)).toNatClampNeg))] h (some (.int r1)) h1) (q7 : X.1[l1]? = some (.inr 9)) (q8 : xm_V X P d 251 [.ref l2, .int (f0 ((l3 + (1 : Int32)).toNatClampNeg))] h1 (some (.int r2)) h2) (q9 : X.1[l2]? = some (.inr 10)) (q10 : r1 = r2) (K : xm_E X P d co_law 2 [some (.ref l0), some (.ref l1), some (.ref l2), some (.int (l3 + (6 : Int32)))] [] h2 ro ho) : xm_E X P d co_law 2 [some (.ref l0), some (.ref l1), some (.ref l2), some (.int l3)] [] h ro ho := by
  refine xm_E_s r_law_2 rfl rfl ?_
  refine xm_E_s r_law_3 rfl rfl ?_
  refine xm_E_s r_law_4 rfl (xm_T_alenx rfl q0 q1) ?_
  refine xm_E_s r_law_5 rfl rfl ?_
  refine xm_E_s r_law_6 rfl rfl ?_
  refine xm_E_s r_law_7 rfl rfl ?_
  refine xm_E_f q2 ?_
  refine xm_E_s r_law_8 rfl rfl ?_
  refine xm_E_s r_law_9 rfl rfl ?_
  refine xm_E_s r_law_10 rfl (xm_T_ialx rfl q0 q1 (by decide) q3) ?_
  refine xm_E_s r_law_11 rfl rfl ?_
  refine xm_E_s r_law_12 rfl rfl ?_
  refine xm_E_s r_law_13 rfl (xm_T_tab (12 : Int32) 218 rfl q4 (by decide) rfl) ?_
  refine xm_E_s r_law_218 rfl rfl ?_
  refine xm_E_s r_law_219 rfl rfl ?_
  refine xm_E_s r_law_220 rfl rfl ?_
  refine xm_E_s r_law_221 rfl rfl ?_
  refine xm_E_s r_law_222 rfl rfl ?_
  refine xm_E_s r_law_223 rfl (xm_T_ialx rfl q0 q1 (by decide) q5) ?_
  refine xm_E_cv [.ref l1, .int (f0 ((l3 + (1 : Int32)).toNatClampNeg))] [] r_law_224 rfl rfl (Nat.le_of_ble_eq_true rfl) (xm_rc q7 (by decide)) rfl q6 ?_
  refine xm_E_s r_law_225 rfl rfl ?_
  refine xm_E_s r_law_226 rfl rfl ?_
  refine xm_E_s r_law_227 rfl rfl ?_
  refine xm_E_s r_law_228 rfl rfl ?_
  refine xm_E_s r_law_229 rfl rfl ?_
  refine xm_E_s r_law_230 rfl (xm_T_ialx rfl q0 q1 (by decide) q5) ?_
  refine xm_E_cv [.ref l2, .int (f0 ((l3 + (1 : Int32)).toNatClampNeg))] [.int r1] r_law_231 rfl rfl (Nat.le_of_ble_eq_true rfl) (xm_rc q9 (by decide)) rfl q8 ?_
  refine xm_E_s r_law_232 rfl rfl ?_
  refine xm_E_t q10 ?_
  refine xm_E_s (ls1 := [some (.ref l0), some (.ref l1), some (.ref l2), some (.int (l3 + (6 : Int32)))]) r_law_1109 rfl rfl ?_
  refine xm_E_s r_law_1110 rfl rfl ?_
  exact K
theorem p_law_2_26 {X : xm_X} {P : List xm_M} {d : Nat} {h : xm_H} {l0 : Nat} {l1 : Nat} {l2 : Nat} {l3 : Int32} {n0 : Nat} {f0 : Nat → Int32} {h1 : xm_H} {r1 : Int32} {h2 : xm_H} {r2 : Int32} (q0 : X.1[l0]? = none) (q1 : X.2.1 l0 = some (0, n0, f0)) (q2 : ¬ ((Int32.ofNat n0) - (6 : Int32) < l3)) (q3 : ¬ (l3 < 0 ∨ n0 ≤ l3.toNatClampNeg)) (q4 : (f0 l3.toNatClampNeg) &&& (63 : Int32) = (12 : Int32)) (q5 : ¬ (l3 + (1 : Int32) < 0 ∨ n0 ≤ (l3 + (1 : Int32)).toNatClampNeg)) (q6 : xm_V X P d 66 [.ref l1, .int (f0 ((l3 + (1 : Int32)).toNatClampNeg))] h (some (.int r1)) h1) (q7 : X.1[l1]? = some (.inr 9)) (q8 : xm_V X P d 251 [.ref l2, .int (f0 ((l3 + (1 : Int32)).toNatClampNeg))] h1 (some (.int r2)) h2) (q9 : X.1[l2]? = some (.inr 10)) (q10 : ¬ (r1 = r2)) : xm_E X P d co_law 2 [some (.ref l0), some (.ref l1), some (.ref l2), some (.int l3)] [] h (some (.int (0 : Int32))) h2 := by
  refine xm_E_s r_law_2 rfl rfl ?_
  refine xm_E_s r_law_3 rfl rfl ?_
  refine xm_E_s r_law_4 rfl (xm_T_alenx rfl q0 q1) ?_
  refine xm_E_s r_law_5 rfl rfl ?_
  refine xm_E_s r_law_6 rfl rfl ?_
  refine xm_E_s r_law_7 rfl rfl ?_
  refine xm_E_f q2 ?_
  refine xm_E_s r_law_8 rfl rfl ?_
  refine xm_E_s r_law_9 rfl rfl ?_
  refine xm_E_s r_law_10 rfl (xm_T_ialx rfl q0 q1 (by decide) q3) ?_
  refine xm_E_s r_law_11 rfl rfl ?_
  refine xm_E_s r_law_12 rfl rfl ?_
  refine xm_E_s r_law_13 rfl (xm_T_tab (12 : Int32) 218 rfl q4 (by decide) rfl) ?_
  refine xm_E_s r_law_218 rfl rfl ?_
  refine xm_E_s r_law_219 rfl rfl ?_
  refine xm_E_s r_law_220 rfl rfl ?_
  refine xm_E_s r_law_221 rfl rfl ?_
  refine xm_E_s r_law_222 rfl rfl ?_
  refine xm_E_s r_law_223 rfl (xm_T_ialx rfl q0 q1 (by decide) q5) ?_
  refine xm_E_cv [.ref l1, .int (f0 ((l3 + (1 : Int32)).toNatClampNeg))] [] r_law_224 rfl rfl (Nat.le_of_ble_eq_true rfl) (xm_rc q7 (by decide)) rfl q6 ?_
  refine xm_E_s r_law_225 rfl rfl ?_
  refine xm_E_s r_law_226 rfl rfl ?_
  refine xm_E_s r_law_227 rfl rfl ?_
  refine xm_E_s r_law_228 rfl rfl ?_
  refine xm_E_s r_law_229 rfl rfl ?_
  refine xm_E_s r_law_230 rfl (xm_T_ialx rfl q0 q1 (by decide) q5) ?_
  refine xm_E_cv [.ref l2, .int (f0 ((l3 + (1 : Int32)).toNatClampNeg))] [.int r1] r_law_231 rfl rfl (Nat.le_of_ble_eq_true rfl) (xm_rc q9 (by decide)) rfl q8 ?_
  refine xm_E_s r_law_232 rfl rfl ?_
  refine xm_E_f q10 ?_
  refine xm_E_s r_law_233 rfl rfl ?_
  exact xm_E_iret r_law_234 rfl rfl
theorem p_law_2_27 {X : xm_X} {P : List xm_M} {d : Nat} {h : xm_H} {l0 : Nat} {l1 : Nat} {l2 : Nat} {l3 : Int32} {n0 : Nat} {f0 : Nat → Int32} {h1 : xm_H} {r1 : Int32} {h2 : xm_H} {r2 : Int32} {ro : Option Value} {ho : xm_H} (q0 : X.1[l0]? = none) (q1 : X.2.1 l0 = some (0, n0, f0)) (q2 : ¬ ((Int32.ofNat n0) - (6 : Int32) < l3)) (q3 : ¬ (l3 < 0 ∨ n0 ≤ l3.toNatClampNeg)) (q4 : (f0 l3.toNatClampNeg) &&& (63 : Int32) = (13 : Int32)) (q5 : ¬ (l3 + (1 : Int32) < 0 ∨ n0 ≤ (l3 + (1 : Int32)).toNatClampNeg)) (q6 : ¬ (l3 + (2 : Int32) < 0 ∨ n0 ≤ (l3 + (2 : Int32)).toNatClampNeg)) (q7 : xm_V X P d 74 [.ref l1, .int (f0 ((l3 + (1 : Int32)).toNatClampNeg)), .int (f0 ((l3 + (2 : Int32)).toNatClampNeg))] h (some (.int r1)) h1) (q8 : X.1[l1]? = some (.inr 9)) (q9 : xm_V X P d 256 [.ref l2, .int (f0 ((l3 + (1 : Int32)).toNatClampNeg)), .int (f0 ((l3 + (2 : Int32)).toNatClampNeg))] h1 (some (.int r2)) h2) (q10 : X.1[l2]? = some (.inr 10)) (q11 : r1 = r2) (K : xm_E X P d co_law 2 [some (.ref l0), some (.ref l1), some (.ref l2), some (.int (l3 + (6 : Int32)))] [] h2 ro ho) : xm_E X P d co_law 2 [some (.ref l0), some (.ref l1), some (.ref l2), some (.int l3)] [] h ro ho := by
  refine xm_E_s r_law_2 rfl rfl ?_
  refine xm_E_s r_law_3 rfl rfl ?_
  refine xm_E_s r_law_4 rfl (xm_T_alenx rfl q0 q1) ?_
  refine xm_E_s r_law_5 rfl rfl ?_
  refine xm_E_s r_law_6 rfl rfl ?_
  refine xm_E_s r_law_7 rfl rfl ?_
  refine xm_E_f q2 ?_
  refine xm_E_s r_law_8 rfl rfl ?_
  refine xm_E_s r_law_9 rfl rfl ?_
  refine xm_E_s r_law_10 rfl (xm_T_ialx rfl q0 q1 (by decide) q3) ?_
  refine xm_E_s r_law_11 rfl rfl ?_
  refine xm_E_s r_law_12 rfl rfl ?_
  refine xm_E_s r_law_13 rfl (xm_T_tab (13 : Int32) 235 rfl q4 (by decide) rfl) ?_
  refine xm_E_s r_law_235 rfl rfl ?_
  refine xm_E_s r_law_236 rfl rfl ?_
  refine xm_E_s r_law_237 rfl rfl ?_
  refine xm_E_s r_law_238 rfl rfl ?_
  refine xm_E_s r_law_239 rfl rfl ?_
  refine xm_E_s r_law_240 rfl (xm_T_ialx rfl q0 q1 (by decide) q5) ?_
  refine xm_E_s r_law_241 rfl rfl ?_
  refine xm_E_s r_law_242 rfl rfl ?_
  refine xm_E_s r_law_243 rfl rfl ?_
  refine xm_E_s r_law_244 rfl rfl ?_
  refine xm_E_s r_law_245 rfl (xm_T_ialx rfl q0 q1 (by decide) q6) ?_
  refine xm_E_cv [.ref l1, .int (f0 ((l3 + (1 : Int32)).toNatClampNeg)), .int (f0 ((l3 + (2 : Int32)).toNatClampNeg))] [] r_law_246 rfl rfl (Nat.le_of_ble_eq_true rfl) (xm_rc q8 (by decide)) rfl q7 ?_
  refine xm_E_s r_law_247 rfl rfl ?_
  refine xm_E_s r_law_248 rfl rfl ?_
  refine xm_E_s r_law_249 rfl rfl ?_
  refine xm_E_s r_law_250 rfl rfl ?_
  refine xm_E_s r_law_251 rfl rfl ?_
  refine xm_E_s r_law_252 rfl (xm_T_ialx rfl q0 q1 (by decide) q5) ?_
  refine xm_E_s r_law_253 rfl rfl ?_
  refine xm_E_s r_law_254 rfl rfl ?_
  refine xm_E_s r_law_255 rfl rfl ?_
  refine xm_E_s r_law_256 rfl rfl ?_
  refine xm_E_s r_law_257 rfl (xm_T_ialx rfl q0 q1 (by decide) q6) ?_
  refine xm_E_cv [.ref l2, .int (f0 ((l3 + (1 : Int32)).toNatClampNeg)), .int (f0 ((l3 + (2 : Int32)).toNatClampNeg))] [.int r1] r_law_258 rfl rfl (Nat.le_of_ble_eq_true rfl) (xm_rc q10 (by decide)) rfl q9 ?_
  refine xm_E_s r_law_259 rfl rfl ?_
  refine xm_E_t q11 ?_
  refine xm_E_s (ls1 := [some (.ref l0), some (.ref l1), some (.ref l2), some (.int (l3 + (6 : Int32)))]) r_law_1109 rfl rfl ?_
  refine xm_E_s r_law_1110 rfl rfl ?_
  exact K
theorem p_law_2_28 {X : xm_X} {P : List xm_M} {d : Nat} {h : xm_H} {l0 : Nat} {l1 : Nat} {l2 : Nat} {l3 : Int32} {n0 : Nat} {f0 : Nat → Int32} {h1 : xm_H} {r1 : Int32} {h2 : xm_H} {r2 : Int32} (q0 : X.1[l0]? = none) (q1 : X.2.1 l0 = some (0, n0, f0)) (q2 : ¬ ((Int32.ofNat n0) - (6 : Int32) < l3)) (q3 : ¬ (l3 < 0 ∨ n0 ≤ l3.toNatClampNeg)) (q4 : (f0 l3.toNatClampNeg) &&& (63 : Int32) = (13 : Int32)) (q5 : ¬ (l3 + (1 : Int32) < 0 ∨ n0 ≤ (l3 + (1 : Int32)).toNatClampNeg)) (q6 : ¬ (l3 + (2 : Int32) < 0 ∨ n0 ≤ (l3 + (2 : Int32)).toNatClampNeg)) (q7 : xm_V X P d 74 [.ref l1, .int (f0 ((l3 + (1 : Int32)).toNatClampNeg)), .int (f0 ((l3 + (2 : Int32)).toNatClampNeg))] h (some (.int r1)) h1) (q8 : X.1[l1]? = some (.inr 9)) (q9 : xm_V X P d 256 [.ref l2, .int (f0 ((l3 + (1 : Int32)).toNatClampNeg)), .int (f0 ((l3 + (2 : Int32)).toNatClampNeg))] h1 (some (.int r2)) h2) (q10 : X.1[l2]? = some (.inr 10)) (q11 : ¬ (r1 = r2)) : xm_E X P d co_law 2 [some (.ref l0), some (.ref l1), some (.ref l2), some (.int l3)] [] h (some (.int (0 : Int32))) h2 := by
  refine xm_E_s r_law_2 rfl rfl ?_
  refine xm_E_s r_law_3 rfl rfl ?_
  refine xm_E_s r_law_4 rfl (xm_T_alenx rfl q0 q1) ?_
  refine xm_E_s r_law_5 rfl rfl ?_
  refine xm_E_s r_law_6 rfl rfl ?_
  refine xm_E_s r_law_7 rfl rfl ?_
  refine xm_E_f q2 ?_
  refine xm_E_s r_law_8 rfl rfl ?_
  refine xm_E_s r_law_9 rfl rfl ?_
  refine xm_E_s r_law_10 rfl (xm_T_ialx rfl q0 q1 (by decide) q3) ?_
  refine xm_E_s r_law_11 rfl rfl ?_
  refine xm_E_s r_law_12 rfl rfl ?_
  refine xm_E_s r_law_13 rfl (xm_T_tab (13 : Int32) 235 rfl q4 (by decide) rfl) ?_
  refine xm_E_s r_law_235 rfl rfl ?_
  refine xm_E_s r_law_236 rfl rfl ?_
  refine xm_E_s r_law_237 rfl rfl ?_
  refine xm_E_s r_law_238 rfl rfl ?_
  refine xm_E_s r_law_239 rfl rfl ?_
  refine xm_E_s r_law_240 rfl (xm_T_ialx rfl q0 q1 (by decide) q5) ?_
  refine xm_E_s r_law_241 rfl rfl ?_
  refine xm_E_s r_law_242 rfl rfl ?_
  refine xm_E_s r_law_243 rfl rfl ?_
  refine xm_E_s r_law_244 rfl rfl ?_
  refine xm_E_s r_law_245 rfl (xm_T_ialx rfl q0 q1 (by decide) q6) ?_
  refine xm_E_cv [.ref l1, .int (f0 ((l3 + (1 : Int32)).toNatClampNeg)), .int (f0 ((l3 + (2 : Int32)).toNatClampNeg))] [] r_law_246 rfl rfl (Nat.le_of_ble_eq_true rfl) (xm_rc q8 (by decide)) rfl q7 ?_
  refine xm_E_s r_law_247 rfl rfl ?_
  refine xm_E_s r_law_248 rfl rfl ?_
  refine xm_E_s r_law_249 rfl rfl ?_
  refine xm_E_s r_law_250 rfl rfl ?_
  refine xm_E_s r_law_251 rfl rfl ?_
  refine xm_E_s r_law_252 rfl (xm_T_ialx rfl q0 q1 (by decide) q5) ?_
  refine xm_E_s r_law_253 rfl rfl ?_
  refine xm_E_s r_law_254 rfl rfl ?_
  refine xm_E_s r_law_255 rfl rfl ?_
  refine xm_E_s r_law_256 rfl rfl ?_
  refine xm_E_s r_law_257 rfl (xm_T_ialx rfl q0 q1 (by decide) q6) ?_
  refine xm_E_cv [.ref l2, .int (f0 ((l3 + (1 : Int32)).toNatClampNeg)), .int (f0 ((l3 + (2 : Int32)).toNatClampNeg))] [.int r1] r_law_258 rfl rfl (Nat.le_of_ble_eq_true rfl) (xm_rc q10 (by decide)) rfl q9 ?_
  refine xm_E_s r_law_259 rfl rfl ?_
  refine xm_E_f q11 ?_
  refine xm_E_s r_law_260 rfl rfl ?_
  exact xm_E_iret r_law_261 rfl rfl
theorem p_law_2_29 {X : xm_X} {P : List xm_M} {d : Nat} {h : xm_H} {l0 : Nat} {l1 : Nat} {l2 : Nat} {l3 : Int32} {n0 : Nat} {f0 : Nat → Int32} {h1 : xm_H} {r1 : Int32} {h2 : xm_H} {r2 : Int32} {ro : Option Value} {ho : xm_H} (q0 : X.1[l0]? = none) (q1 : X.2.1 l0 = some (0, n0, f0)) (q2 : ¬ ((Int32.ofNat n0) - (6 : Int32) < l3)) (q3 : ¬ (l3 < 0 ∨ n0 ≤ l3.toNatClampNeg)) (q4 : (f0 l3.toNatClampNeg) &&& (63 : Int32) = (14 : Int32)) (q5 : xm_V X P d 77 [.ref l1] h (some (.int r1)) h1) (q6 : X.1[l1]? = some (.inr 9)) (q7 : xm_V X P d 257 [.ref l2] h1 (some (.int r2)) h2) (q8 : X.1[l2]? = some (.inr 10)) (q9 : r1 = r2) (K : xm_E X P d co_law 2 [some (.ref l0), some (.ref l1), some (.ref l2), some (.int (l3 + (6 : Int32)))] [] h2 ro ho) : xm_E X P d co_law 2 [some (.ref l0), some (.ref l1), some (.ref l2), some (.int l3)] [] h ro ho := by
  refine xm_E_s r_law_2 rfl rfl ?_
  refine xm_E_s r_law_3 rfl rfl ?_
  refine xm_E_s r_law_4 rfl (xm_T_alenx rfl q0 q1) ?_
  refine xm_E_s r_law_5 rfl rfl ?_
  refine xm_E_s r_law_6 rfl rfl ?_
  refine xm_E_s r_law_7 rfl rfl ?_
  refine xm_E_f q2 ?_
  refine xm_E_s r_law_8 rfl rfl ?_
  refine xm_E_s r_law_9 rfl rfl ?_
  refine xm_E_s r_law_10 rfl (xm_T_ialx rfl q0 q1 (by decide) q3) ?_
  refine xm_E_s r_law_11 rfl rfl ?_
  refine xm_E_s r_law_12 rfl rfl ?_
  refine xm_E_s r_law_13 rfl (xm_T_tab (14 : Int32) 262 rfl q4 (by decide) rfl) ?_
  refine xm_E_s r_law_262 rfl rfl ?_
  refine xm_E_cv [.ref l1] [] r_law_263 rfl rfl (Nat.le_of_ble_eq_true rfl) (xm_rc q6 (by decide)) rfl q5 ?_
  refine xm_E_s r_law_264 rfl rfl ?_
  refine xm_E_cv [.ref l2] [.int r1] r_law_265 rfl rfl (Nat.le_of_ble_eq_true rfl) (xm_rc q8 (by decide)) rfl q7 ?_
  refine xm_E_s r_law_266 rfl rfl ?_
  refine xm_E_t q9 ?_
  refine xm_E_s (ls1 := [some (.ref l0), some (.ref l1), some (.ref l2), some (.int (l3 + (6 : Int32)))]) r_law_1109 rfl rfl ?_
  refine xm_E_s r_law_1110 rfl rfl ?_
  exact K
theorem p_law_2_30 {X : xm_X} {P : List xm_M} {d : Nat} {h : xm_H} {l0 : Nat} {l1 : Nat} {l2 : Nat} {l3 : Int32} {n0 : Nat} {f0 : Nat → Int32} {h1 : xm_H} {r1 : Int32} {h2 : xm_H} {r2 : Int32} (q0 : X.1[l0]? = none) (q1 : X.2.1 l0 = some (0, n0, f0)) (q2 : ¬ ((Int32.ofNat n0) - (6 : Int32) < l3)) (q3 : ¬ (l3 < 0 ∨ n0 ≤ l3.toNatClampNeg)) (q4 : (f0 l3.toNatClampNeg) &&& (63 : Int32) = (14 : Int32)) (q5 : xm_V X P d 77 [.ref l1] h (some (.int r1)) h1) (q6 : X.1[l1]? = some (.inr 9)) (q7 : xm_V X P d 257 [.ref l2] h1 (some (.int r2)) h2) (q8 : X.1[l2]? = some (.inr 10)) (q9 : ¬ (r1 = r2)) : xm_E X P d co_law 2 [some (.ref l0), some (.ref l1), some (.ref l2), some (.int l3)] [] h (some (.int (0 : Int32))) h2 := by
  refine xm_E_s r_law_2 rfl rfl ?_
  refine xm_E_s r_law_3 rfl rfl ?_
  refine xm_E_s r_law_4 rfl (xm_T_alenx rfl q0 q1) ?_
  refine xm_E_s r_law_5 rfl rfl ?_
  refine xm_E_s r_law_6 rfl rfl ?_
  refine xm_E_s r_law_7 rfl rfl ?_
  refine xm_E_f q2 ?_
  refine xm_E_s r_law_8 rfl rfl ?_
  refine xm_E_s r_law_9 rfl rfl ?_
  refine xm_E_s r_law_10 rfl (xm_T_ialx rfl q0 q1 (by decide) q3) ?_
  refine xm_E_s r_law_11 rfl rfl ?_
  refine xm_E_s r_law_12 rfl rfl ?_
  refine xm_E_s r_law_13 rfl (xm_T_tab (14 : Int32) 262 rfl q4 (by decide) rfl) ?_
  refine xm_E_s r_law_262 rfl rfl ?_
  refine xm_E_cv [.ref l1] [] r_law_263 rfl rfl (Nat.le_of_ble_eq_true rfl) (xm_rc q6 (by decide)) rfl q5 ?_
  refine xm_E_s r_law_264 rfl rfl ?_
  refine xm_E_cv [.ref l2] [.int r1] r_law_265 rfl rfl (Nat.le_of_ble_eq_true rfl) (xm_rc q8 (by decide)) rfl q7 ?_
  refine xm_E_s r_law_266 rfl rfl ?_
  refine xm_E_f q9 ?_
  refine xm_E_s r_law_267 rfl rfl ?_
  exact xm_E_iret r_law_268 rfl rfl
theorem p_law_2_31 {X : xm_X} {P : List xm_M} {d : Nat} {h : xm_H} {l0 : Nat} {l1 : Nat} {l2 : Nat} {l3 : Int32} {n0 : Nat} {f0 : Nat → Int32} {h1 : xm_H} {r1 : Int32} {h2 : xm_H} {r2 : Int32} {ro : Option Value} {ho : xm_H} (q0 : X.1[l0]? = none) (q1 : X.2.1 l0 = some (0, n0, f0)) (q2 : ¬ ((Int32.ofNat n0) - (6 : Int32) < l3)) (q3 : ¬ (l3 < 0 ∨ n0 ≤ l3.toNatClampNeg)) (q4 : (f0 l3.toNatClampNeg) &&& (63 : Int32) = (15 : Int32)) (q5 : ¬ (l3 + (1 : Int32) < 0 ∨ n0 ≤ (l3 + (1 : Int32)).toNatClampNeg)) (q6 : xm_V X P d 90 [.ref l1, .int (f0 ((l3 + (1 : Int32)).toNatClampNeg))] h (some (.int r1)) h1) (q7 : X.1[l1]? = some (.inr 9)) (q8 : xm_V X P d 268 [.ref l2, .int (f0 ((l3 + (1 : Int32)).toNatClampNeg))] h1 (some (.int r2)) h2) (q9 : X.1[l2]? = some (.inr 10)) (q10 : r1 = r2) (K : xm_E X P d co_law 2 [some (.ref l0), some (.ref l1), some (.ref l2), some (.int (l3 + (6 : Int32)))] [] h2 ro ho) : xm_E X P d co_law 2 [some (.ref l0), some (.ref l1), some (.ref l2), some (.int l3)] [] h ro ho := by
  refine xm_E_s r_law_2 rfl rfl ?_
  refine xm_E_s r_law_3 rfl rfl ?_
  refine xm_E_s r_law_4 rfl (xm_T_alenx rfl q0 q1) ?_
  refine xm_E_s r_law_5 rfl rfl ?_
  refine xm_E_s r_law_6 rfl rfl ?_
  refine xm_E_s r_law_7 rfl rfl ?_
  refine xm_E_f q2 ?_
  refine xm_E_s r_law_8 rfl rfl ?_
  refine xm_E_s r_law_9 rfl rfl ?_
  refine xm_E_s r_law_10 rfl (xm_T_ialx rfl q0 q1 (by decide) q3) ?_
  refine xm_E_s r_law_11 rfl rfl ?_
  refine xm_E_s r_law_12 rfl rfl ?_
  refine xm_E_s r_law_13 rfl (xm_T_tab (15 : Int32) 269 rfl q4 (by decide) rfl) ?_
  refine xm_E_s r_law_269 rfl rfl ?_
  refine xm_E_s r_law_270 rfl rfl ?_
  refine xm_E_s r_law_271 rfl rfl ?_
  refine xm_E_s r_law_272 rfl rfl ?_
  refine xm_E_s r_law_273 rfl rfl ?_
  refine xm_E_s r_law_274 rfl (xm_T_ialx rfl q0 q1 (by decide) q5) ?_
  refine xm_E_cv [.ref l1, .int (f0 ((l3 + (1 : Int32)).toNatClampNeg))] [] r_law_275 rfl rfl (Nat.le_of_ble_eq_true rfl) (xm_rc q7 (by decide)) rfl q6 ?_
  refine xm_E_s r_law_276 rfl rfl ?_
  refine xm_E_s r_law_277 rfl rfl ?_
  refine xm_E_s r_law_278 rfl rfl ?_
  refine xm_E_s r_law_279 rfl rfl ?_
  refine xm_E_s r_law_280 rfl rfl ?_
  refine xm_E_s r_law_281 rfl (xm_T_ialx rfl q0 q1 (by decide) q5) ?_
  refine xm_E_cv [.ref l2, .int (f0 ((l3 + (1 : Int32)).toNatClampNeg))] [.int r1] r_law_282 rfl rfl (Nat.le_of_ble_eq_true rfl) (xm_rc q9 (by decide)) rfl q8 ?_
  refine xm_E_s r_law_283 rfl rfl ?_
  refine xm_E_t q10 ?_
  refine xm_E_s (ls1 := [some (.ref l0), some (.ref l1), some (.ref l2), some (.int (l3 + (6 : Int32)))]) r_law_1109 rfl rfl ?_
  refine xm_E_s r_law_1110 rfl rfl ?_
  exact K
theorem p_law_2_32 {X : xm_X} {P : List xm_M} {d : Nat} {h : xm_H} {l0 : Nat} {l1 : Nat} {l2 : Nat} {l3 : Int32} {n0 : Nat} {f0 : Nat → Int32} {h1 : xm_H} {r1 : Int32} {h2 : xm_H} {r2 : Int32} (q0 : X.1[l0]? = none) (q1 : X.2.1 l0 = some (0, n0, f0)) (q2 : ¬ ((Int32.ofNat n0) - (6 : Int32) < l3)) (q3 : ¬ (l3 < 0 ∨ n0 ≤ l3.toNatClampNeg)) (q4 : (f0 l3.toNatClampNeg) &&& (63 : Int32) = (15 : Int32)) (q5 : ¬ (l3 + (1 : Int32) < 0 ∨ n0 ≤ (l3 + (1 : Int32)).toNatClampNeg)) (q6 : xm_V X P d 90 [.ref l1, .int (f0 ((l3 + (1 : Int32)).toNatClampNeg))] h (some (.int r1)) h1) (q7 : X.1[l1]? = some (.inr 9)) (q8 : xm_V X P d 268 [.ref l2, .int (f0 ((l3 + (1 : Int32)).toNatClampNeg))] h1 (some (.int r2)) h2) (q9 : X.1[l2]? = some (.inr 10)) (q10 : ¬ (r1 = r2)) : xm_E X P d co_law 2 [some (.ref l0), some (.ref l1), some (.ref l2), some (.int l3)] [] h (some (.int (0 : Int32))) h2 := by
  refine xm_E_s r_law_2 rfl rfl ?_
  refine xm_E_s r_law_3 rfl rfl ?_
  refine xm_E_s r_law_4 rfl (xm_T_alenx rfl q0 q1) ?_
  refine xm_E_s r_law_5 rfl rfl ?_
  refine xm_E_s r_law_6 rfl rfl ?_
  refine xm_E_s r_law_7 rfl rfl ?_
  refine xm_E_f q2 ?_
  refine xm_E_s r_law_8 rfl rfl ?_
  refine xm_E_s r_law_9 rfl rfl ?_
  refine xm_E_s r_law_10 rfl (xm_T_ialx rfl q0 q1 (by decide) q3) ?_
  refine xm_E_s r_law_11 rfl rfl ?_
  refine xm_E_s r_law_12 rfl rfl ?_
  refine xm_E_s r_law_13 rfl (xm_T_tab (15 : Int32) 269 rfl q4 (by decide) rfl) ?_
  refine xm_E_s r_law_269 rfl rfl ?_
  refine xm_E_s r_law_270 rfl rfl ?_
  refine xm_E_s r_law_271 rfl rfl ?_
  refine xm_E_s r_law_272 rfl rfl ?_
  refine xm_E_s r_law_273 rfl rfl ?_
  refine xm_E_s r_law_274 rfl (xm_T_ialx rfl q0 q1 (by decide) q5) ?_
  refine xm_E_cv [.ref l1, .int (f0 ((l3 + (1 : Int32)).toNatClampNeg))] [] r_law_275 rfl rfl (Nat.le_of_ble_eq_true rfl) (xm_rc q7 (by decide)) rfl q6 ?_
  refine xm_E_s r_law_276 rfl rfl ?_
  refine xm_E_s r_law_277 rfl rfl ?_
  refine xm_E_s r_law_278 rfl rfl ?_
  refine xm_E_s r_law_279 rfl rfl ?_
  refine xm_E_s r_law_280 rfl rfl ?_
  refine xm_E_s r_law_281 rfl (xm_T_ialx rfl q0 q1 (by decide) q5) ?_
  refine xm_E_cv [.ref l2, .int (f0 ((l3 + (1 : Int32)).toNatClampNeg))] [.int r1] r_law_282 rfl rfl (Nat.le_of_ble_eq_true rfl) (xm_rc q9 (by decide)) rfl q8 ?_
  refine xm_E_s r_law_283 rfl rfl ?_
  refine xm_E_f q10 ?_
  refine xm_E_s r_law_284 rfl rfl ?_
  exact xm_E_iret r_law_285 rfl rfl
theorem p_law_2_33 {X : xm_X} {P : List xm_M} {d : Nat} {h : xm_H} {l0 : Nat} {l1 : Nat} {l2 : Nat} {l3 : Int32} {n0 : Nat} {f0 : Nat → Int32} {h1 : xm_H} {r1 : Int32} {h2 : xm_H} {r2 : Int32} {ro : Option Value} {ho : xm_H} (q0 : X.1[l0]? = none) (q1 : X.2.1 l0 = some (0, n0, f0)) (q2 : ¬ ((Int32.ofNat n0) - (6 : Int32) < l3)) (q3 : ¬ (l3 < 0 ∨ n0 ≤ l3.toNatClampNeg)) (q4 : (f0 l3.toNatClampNeg) &&& (63 : Int32) = (16 : Int32)) (q5 : xm_V X P d 93 [.ref l1] h (some (.int r1)) h1) (q6 : X.1[l1]? = some (.inr 9)) (q7 : xm_V X P d 272 [.ref l2] h1 (some (.int r2)) h2) (q8 : X.1[l2]? = some (.inr 10)) (q9 : r1 = r2) (K : xm_E X P d co_law 2 [some (.ref l0), some (.ref l1), some (.ref l2), some (.int (l3 + (6 : Int32)))] [] h2 ro ho) : xm_E X P d co_law 2 [some (.ref l0), some (.ref l1), some (.ref l2), some (.int l3)] [] h ro ho := by
  refine xm_E_s r_law_2 rfl rfl ?_
  refine xm_E_s r_law_3 rfl rfl ?_
  refine xm_E_s r_law_4 rfl (xm_T_alenx rfl q0 q1) ?_
  refine xm_E_s r_law_5 rfl rfl ?_
  refine xm_E_s r_law_6 rfl rfl ?_
  refine xm_E_s r_law_7 rfl rfl ?_
  refine xm_E_f q2 ?_
  refine xm_E_s r_law_8 rfl rfl ?_
  refine xm_E_s r_law_9 rfl rfl ?_
  refine xm_E_s r_law_10 rfl (xm_T_ialx rfl q0 q1 (by decide) q3) ?_
  refine xm_E_s r_law_11 rfl rfl ?_
  refine xm_E_s r_law_12 rfl rfl ?_
  refine xm_E_s r_law_13 rfl (xm_T_tab (16 : Int32) 286 rfl q4 (by decide) rfl) ?_
  refine xm_E_s r_law_286 rfl rfl ?_
  refine xm_E_cv [.ref l1] [] r_law_287 rfl rfl (Nat.le_of_ble_eq_true rfl) (xm_rc q6 (by decide)) rfl q5 ?_
  refine xm_E_s r_law_288 rfl rfl ?_
  refine xm_E_cv [.ref l2] [.int r1] r_law_289 rfl rfl (Nat.le_of_ble_eq_true rfl) (xm_rc q8 (by decide)) rfl q7 ?_
  refine xm_E_s r_law_290 rfl rfl ?_
  refine xm_E_t q9 ?_
  refine xm_E_s (ls1 := [some (.ref l0), some (.ref l1), some (.ref l2), some (.int (l3 + (6 : Int32)))]) r_law_1109 rfl rfl ?_
  refine xm_E_s r_law_1110 rfl rfl ?_
  exact K
theorem p_law_2_34 {X : xm_X} {P : List xm_M} {d : Nat} {h : xm_H} {l0 : Nat} {l1 : Nat} {l2 : Nat} {l3 : Int32} {n0 : Nat} {f0 : Nat → Int32} {h1 : xm_H} {r1 : Int32} {h2 : xm_H} {r2 : Int32} (q0 : X.1[l0]? = none) (q1 : X.2.1 l0 = some (0, n0, f0)) (q2 : ¬ ((Int32.ofNat n0) - (6 : Int32) < l3)) (q3 : ¬ (l3 < 0 ∨ n0 ≤ l3.toNatClampNeg)) (q4 : (f0 l3.toNatClampNeg) &&& (63 : Int32) = (16 : Int32)) (q5 : xm_V X P d 93 [.ref l1] h (some (.int r1)) h1) (q6 : X.1[l1]? = some (.inr 9)) (q7 : xm_V X P d 272 [.ref l2] h1 (some (.int r2)) h2) (q8 : X.1[l2]? = some (.inr 10)) (q9 : ¬ (r1 = r2)) : xm_E X P d co_law 2 [some (.ref l0), some (.ref l1), some (.ref l2), some (.int l3)] [] h (some (.int (0 : Int32))) h2 := by
  refine xm_E_s r_law_2 rfl rfl ?_
  refine xm_E_s r_law_3 rfl rfl ?_
  refine xm_E_s r_law_4 rfl (xm_T_alenx rfl q0 q1) ?_
  refine xm_E_s r_law_5 rfl rfl ?_
  refine xm_E_s r_law_6 rfl rfl ?_
  refine xm_E_s r_law_7 rfl rfl ?_
  refine xm_E_f q2 ?_
  refine xm_E_s r_law_8 rfl rfl ?_
  refine xm_E_s r_law_9 rfl rfl ?_
  refine xm_E_s r_law_10 rfl (xm_T_ialx rfl q0 q1 (by decide) q3) ?_
  refine xm_E_s r_law_11 rfl rfl ?_
  refine xm_E_s r_law_12 rfl rfl ?_
  refine xm_E_s r_law_13 rfl (xm_T_tab (16 : Int32) 286 rfl q4 (by decide) rfl) ?_
  refine xm_E_s r_law_286 rfl rfl ?_
  refine xm_E_cv [.ref l1] [] r_law_287 rfl rfl (Nat.le_of_ble_eq_true rfl) (xm_rc q6 (by decide)) rfl q5 ?_
  refine xm_E_s r_law_288 rfl rfl ?_
  refine xm_E_cv [.ref l2] [.int r1] r_law_289 rfl rfl (Nat.le_of_ble_eq_true rfl) (xm_rc q8 (by decide)) rfl q7 ?_
  refine xm_E_s r_law_290 rfl rfl ?_
  refine xm_E_f q9 ?_
  refine xm_E_s r_law_291 rfl rfl ?_
  exact xm_E_iret r_law_292 rfl rfl
theorem p_law_2_35 {X : xm_X} {P : List xm_M} {d : Nat} {h : xm_H} {l0 : Nat} {l1 : Nat} {l2 : Nat} {l3 : Int32} {n0 : Nat} {f0 : Nat → Int32} {h1 : xm_H} {r1 : Int32} {h2 : xm_H} {r2 : Int32} {ro : Option Value} {ho : xm_H} (q0 : X.1[l0]? = none) (q1 : X.2.1 l0 = some (0, n0, f0)) (q2 : ¬ ((Int32.ofNat n0) - (6 : Int32) < l3)) (q3 : ¬ (l3 < 0 ∨ n0 ≤ l3.toNatClampNeg)) (q4 : (f0 l3.toNatClampNeg) &&& (63 : Int32) = (17 : Int32)) (q5 : ¬ (l3 + (1 : Int32) < 0 ∨ n0 ≤ (l3 + (1 : Int32)).toNatClampNeg)) (q6 : xm_V X P d 97 [.ref l1, .int (f0 ((l3 + (1 : Int32)).toNatClampNeg))] h (some (.int r1)) h1) (q7 : X.1[l1]? = some (.inr 9)) (q8 : xm_V X P d 273 [.ref l2, .int (f0 ((l3 + (1 : Int32)).toNatClampNeg))] h1 (some (.int r2)) h2) (q9 : X.1[l2]? = some (.inr 10)) (q10 : r1 = r2) (K : xm_E X P d co_law 2 [some (.ref l0), some (.ref l1), some (.ref l2), some (.int (l3 + (6 : Int32)))] [] h2 ro ho) : xm_E X P d co_law 2 [some (.ref l0), some (.ref l1), some (.ref l2), some (.int l3)] [] h ro ho := by
  refine xm_E_s r_law_2 rfl rfl ?_
  refine xm_E_s r_law_3 rfl rfl ?_
  refine xm_E_s r_law_4 rfl (xm_T_alenx rfl q0 q1) ?_
  refine xm_E_s r_law_5 rfl rfl ?_
  refine xm_E_s r_law_6 rfl rfl ?_
  refine xm_E_s r_law_7 rfl rfl ?_
  refine xm_E_f q2 ?_
  refine xm_E_s r_law_8 rfl rfl ?_
  refine xm_E_s r_law_9 rfl rfl ?_
  refine xm_E_s r_law_10 rfl (xm_T_ialx rfl q0 q1 (by decide) q3) ?_
  refine xm_E_s r_law_11 rfl rfl ?_
  refine xm_E_s r_law_12 rfl rfl ?_
  refine xm_E_s r_law_13 rfl (xm_T_tab (17 : Int32) 293 rfl q4 (by decide) rfl) ?_
  refine xm_E_s r_law_293 rfl rfl ?_
  refine xm_E_s r_law_294 rfl rfl ?_
  refine xm_E_s r_law_295 rfl rfl ?_
  refine xm_E_s r_law_296 rfl rfl ?_
  refine xm_E_s r_law_297 rfl rfl ?_
  refine xm_E_s r_law_298 rfl (xm_T_ialx rfl q0 q1 (by decide) q5) ?_
  refine xm_E_cv [.ref l1, .int (f0 ((l3 + (1 : Int32)).toNatClampNeg))] [] r_law_299 rfl rfl (Nat.le_of_ble_eq_true rfl) (xm_rc q7 (by decide)) rfl q6 ?_
  refine xm_E_s r_law_300 rfl rfl ?_
  refine xm_E_s r_law_301 rfl rfl ?_
  refine xm_E_s r_law_302 rfl rfl ?_
  refine xm_E_s r_law_303 rfl rfl ?_
  refine xm_E_s r_law_304 rfl rfl ?_
  refine xm_E_s r_law_305 rfl (xm_T_ialx rfl q0 q1 (by decide) q5) ?_
  refine xm_E_cv [.ref l2, .int (f0 ((l3 + (1 : Int32)).toNatClampNeg))] [.int r1] r_law_306 rfl rfl (Nat.le_of_ble_eq_true rfl) (xm_rc q9 (by decide)) rfl q8 ?_
  refine xm_E_s r_law_307 rfl rfl ?_
  refine xm_E_t q10 ?_
  refine xm_E_s (ls1 := [some (.ref l0), some (.ref l1), some (.ref l2), some (.int (l3 + (6 : Int32)))]) r_law_1109 rfl rfl ?_
  refine xm_E_s r_law_1110 rfl rfl ?_
  exact K
theorem p_law_2_36 {X : xm_X} {P : List xm_M} {d : Nat} {h : xm_H} {l0 : Nat} {l1 : Nat} {l2 : Nat} {l3 : Int32} {n0 : Nat} {f0 : Nat → Int32} {h1 : xm_H} {r1 : Int32} {h2 : xm_H} {r2 : Int32} (q0 : X.1[l0]? = none) (q1 : X.2.1 l0 = some (0, n0, f0)) (q2 : ¬ ((Int32.ofNat n0) - (6 : Int32) < l3)) (q3 : ¬ (l3 < 0 ∨ n0 ≤ l3.toNatClampNeg)) (q4 : (f0 l3.toNatClampNeg) &&& (63 : Int32) = (17 : Int32)) (q5 : ¬ (l3 + (1 : Int32) < 0 ∨ n0 ≤ (l3 + (1 : Int32)).toNatClampNeg)) (q6 : xm_V X P d 97 [.ref l1, .int (f0 ((l3 + (1 : Int32)).toNatClampNeg))] h (some (.int r1)) h1) (q7 : X.1[l1]? = some (.inr 9)) (q8 : xm_V X P d 273 [.ref l2, .int (f0 ((l3 + (1 : Int32)).toNatClampNeg))] h1 (some (.int r2)) h2) (q9 : X.1[l2]? = some (.inr 10)) (q10 : ¬ (r1 = r2)) : xm_E X P d co_law 2 [some (.ref l0), some (.ref l1), some (.ref l2), some (.int l3)] [] h (some (.int (0 : Int32))) h2 := by
  refine xm_E_s r_law_2 rfl rfl ?_
  refine xm_E_s r_law_3 rfl rfl ?_
  refine xm_E_s r_law_4 rfl (xm_T_alenx rfl q0 q1) ?_
  refine xm_E_s r_law_5 rfl rfl ?_
  refine xm_E_s r_law_6 rfl rfl ?_
  refine xm_E_s r_law_7 rfl rfl ?_
  refine xm_E_f q2 ?_
  refine xm_E_s r_law_8 rfl rfl ?_
  refine xm_E_s r_law_9 rfl rfl ?_
  refine xm_E_s r_law_10 rfl (xm_T_ialx rfl q0 q1 (by decide) q3) ?_
  refine xm_E_s r_law_11 rfl rfl ?_
  refine xm_E_s r_law_12 rfl rfl ?_
  refine xm_E_s r_law_13 rfl (xm_T_tab (17 : Int32) 293 rfl q4 (by decide) rfl) ?_
  refine xm_E_s r_law_293 rfl rfl ?_
  refine xm_E_s r_law_294 rfl rfl ?_
  refine xm_E_s r_law_295 rfl rfl ?_
  refine xm_E_s r_law_296 rfl rfl ?_
  refine xm_E_s r_law_297 rfl rfl ?_
  refine xm_E_s r_law_298 rfl (xm_T_ialx rfl q0 q1 (by decide) q5) ?_
  refine xm_E_cv [.ref l1, .int (f0 ((l3 + (1 : Int32)).toNatClampNeg))] [] r_law_299 rfl rfl (Nat.le_of_ble_eq_true rfl) (xm_rc q7 (by decide)) rfl q6 ?_
  refine xm_E_s r_law_300 rfl rfl ?_
  refine xm_E_s r_law_301 rfl rfl ?_
  refine xm_E_s r_law_302 rfl rfl ?_
  refine xm_E_s r_law_303 rfl rfl ?_
  refine xm_E_s r_law_304 rfl rfl ?_
  refine xm_E_s r_law_305 rfl (xm_T_ialx rfl q0 q1 (by decide) q5) ?_
  refine xm_E_cv [.ref l2, .int (f0 ((l3 + (1 : Int32)).toNatClampNeg))] [.int r1] r_law_306 rfl rfl (Nat.le_of_ble_eq_true rfl) (xm_rc q9 (by decide)) rfl q8 ?_
  refine xm_E_s r_law_307 rfl rfl ?_
  refine xm_E_f q10 ?_
  refine xm_E_s r_law_308 rfl rfl ?_
  exact xm_E_iret r_law_309 rfl rfl
theorem p_law_2_37 {X : xm_X} {P : List xm_M} {d : Nat} {h : xm_H} {l0 : Nat} {l1 : Nat} {l2 : Nat} {l3 : Int32} {n0 : Nat} {f0 : Nat → Int32} {h1 : xm_H} {r1 : Int32} {h2 : xm_H} {r2 : Int32} {ro : Option Value} {ho : xm_H} (q0 : X.1[l0]? = none) (q1 : X.2.1 l0 = some (0, n0, f0)) (q2 : ¬ ((Int32.ofNat n0) - (6 : Int32) < l3)) (q3 : ¬ (l3 < 0 ∨ n0 ≤ l3.toNatClampNeg)) (q4 : (f0 l3.toNatClampNeg) &&& (63 : Int32) = (18 : Int32)) (q5 : xm_V X P d 100 [.ref l1] h (some (.int r1)) h1) (q6 : X.1[l1]? = some (.inr 9)) (q7 : xm_V X P d 274 [.ref l2] h1 (some (.int r2)) h2) (q8 : X.1[l2]? = some (.inr 10)) (q9 : r1 = r2) (K : xm_E X P d co_law 2 [some (.ref l0), some (.ref l1), some (.ref l2), some (.int (l3 + (6 : Int32)))] [] h2 ro ho) : xm_E X P d co_law 2 [some (.ref l0), some (.ref l1), some (.ref l2), some (.int l3)] [] h ro ho := by
  refine xm_E_s r_law_2 rfl rfl ?_
  refine xm_E_s r_law_3 rfl rfl ?_
  refine xm_E_s r_law_4 rfl (xm_T_alenx rfl q0 q1) ?_
  refine xm_E_s r_law_5 rfl rfl ?_
  refine xm_E_s r_law_6 rfl rfl ?_
  refine xm_E_s r_law_7 rfl rfl ?_
  refine xm_E_f q2 ?_
  refine xm_E_s r_law_8 rfl rfl ?_
  refine xm_E_s r_law_9 rfl rfl ?_
  refine xm_E_s r_law_10 rfl (xm_T_ialx rfl q0 q1 (by decide) q3) ?_
  refine xm_E_s r_law_11 rfl rfl ?_
  refine xm_E_s r_law_12 rfl rfl ?_
  refine xm_E_s r_law_13 rfl (xm_T_tab (18 : Int32) 310 rfl q4 (by decide) rfl) ?_
  refine xm_E_s r_law_310 rfl rfl ?_
  refine xm_E_cv [.ref l1] [] r_law_311 rfl rfl (Nat.le_of_ble_eq_true rfl) (xm_rc q6 (by decide)) rfl q5 ?_
  refine xm_E_s r_law_312 rfl rfl ?_
  refine xm_E_cv [.ref l2] [.int r1] r_law_313 rfl rfl (Nat.le_of_ble_eq_true rfl) (xm_rc q8 (by decide)) rfl q7 ?_
  refine xm_E_s r_law_314 rfl rfl ?_
  refine xm_E_t q9 ?_
  refine xm_E_s (ls1 := [some (.ref l0), some (.ref l1), some (.ref l2), some (.int (l3 + (6 : Int32)))]) r_law_1109 rfl rfl ?_
  refine xm_E_s r_law_1110 rfl rfl ?_
  exact K
theorem p_law_2_38 {X : xm_X} {P : List xm_M} {d : Nat} {h : xm_H} {l0 : Nat} {l1 : Nat} {l2 : Nat} {l3 : Int32} {n0 : Nat} {f0 : Nat → Int32} {h1 : xm_H} {r1 : Int32} {h2 : xm_H} {r2 : Int32} (q0 : X.1[l0]? = none) (q1 : X.2.1 l0 = some (0, n0, f0)) (q2 : ¬ ((Int32.ofNat n0) - (6 : Int32) < l3)) (q3 : ¬ (l3 < 0 ∨ n0 ≤ l3.toNatClampNeg)) (q4 : (f0 l3.toNatClampNeg) &&& (63 : Int32) = (18 : Int32)) (q5 : xm_V X P d 100 [.ref l1] h (some (.int r1)) h1) (q6 : X.1[l1]? = some (.inr 9)) (q7 : xm_V X P d 274 [.ref l2] h1 (some (.int r2)) h2) (q8 : X.1[l2]? = some (.inr 10)) (q9 : ¬ (r1 = r2)) : xm_E X P d co_law 2 [some (.ref l0), some (.ref l1), some (.ref l2), some (.int l3)] [] h (some (.int (0 : Int32))) h2 := by
  refine xm_E_s r_law_2 rfl rfl ?_
  refine xm_E_s r_law_3 rfl rfl ?_
  refine xm_E_s r_law_4 rfl (xm_T_alenx rfl q0 q1) ?_
  refine xm_E_s r_law_5 rfl rfl ?_
  refine xm_E_s r_law_6 rfl rfl ?_
  refine xm_E_s r_law_7 rfl rfl ?_
  refine xm_E_f q2 ?_
  refine xm_E_s r_law_8 rfl rfl ?_
  refine xm_E_s r_law_9 rfl rfl ?_
  refine xm_E_s r_law_10 rfl (xm_T_ialx rfl q0 q1 (by decide) q3) ?_
  refine xm_E_s r_law_11 rfl rfl ?_
  refine xm_E_s r_law_12 rfl rfl ?_
  refine xm_E_s r_law_13 rfl (xm_T_tab (18 : Int32) 310 rfl q4 (by decide) rfl) ?_
  refine xm_E_s r_law_310 rfl rfl ?_
  refine xm_E_cv [.ref l1] [] r_law_311 rfl rfl (Nat.le_of_ble_eq_true rfl) (xm_rc q6 (by decide)) rfl q5 ?_
  refine xm_E_s r_law_312 rfl rfl ?_
  refine xm_E_cv [.ref l2] [.int r1] r_law_313 rfl rfl (Nat.le_of_ble_eq_true rfl) (xm_rc q8 (by decide)) rfl q7 ?_
  refine xm_E_s r_law_314 rfl rfl ?_
  refine xm_E_f q9 ?_
  refine xm_E_s r_law_315 rfl rfl ?_
  exact xm_E_iret r_law_316 rfl rfl
theorem p_law_2_39 {X : xm_X} {P : List xm_M} {d : Nat} {h : xm_H} {l0 : Nat} {l1 : Nat} {l2 : Nat} {l3 : Int32} {n0 : Nat} {f0 : Nat → Int32} {h1 : xm_H} {r1 : Int32} {h2 : xm_H} {r2 : Int32} {ro : Option Value} {ho : xm_H} (q0 : X.1[l0]? = none) (q1 : X.2.1 l0 = some (0, n0, f0)) (q2 : ¬ ((Int32.ofNat n0) - (6 : Int32) < l3)) (q3 : ¬ (l3 < 0 ∨ n0 ≤ l3.toNatClampNeg)) (q4 : (f0 l3.toNatClampNeg) &&& (63 : Int32) = (19 : Int32)) (q5 : ¬ (l3 + (1 : Int32) < 0 ∨ n0 ≤ (l3 + (1 : Int32)).toNatClampNeg)) (q6 : xm_V X P d 102 [.ref l1, .int (f0 ((l3 + (1 : Int32)).toNatClampNeg))] h (some (.int r1)) h1) (q7 : X.1[l1]? = some (.inr 9)) (q8 : xm_V X P d 275 [.ref l2, .int (f0 ((l3 + (1 : Int32)).toNatClampNeg))] h1 (some (.int r2)) h2) (q9 : X.1[l2]? = some (.inr 10)) (q10 : r1 = r2) (K : xm_E X P d co_law 2 [some (.ref l0), some (.ref l1), some (.ref l2), some (.int (l3 + (6 : Int32)))] [] h2 ro ho) : xm_E X P d co_law 2 [some (.ref l0), some (.ref l1), some (.ref l2), some (.int l3)] [] h ro ho := by
  refine xm_E_s r_law_2 rfl rfl ?_
  refine xm_E_s r_law_3 rfl rfl ?_
  refine xm_E_s r_law_4 rfl (xm_T_alenx rfl q0 q1) ?_
  refine xm_E_s r_law_5 rfl rfl ?_
  refine xm_E_s r_law_6 rfl rfl ?_
  refine xm_E_s r_law_7 rfl rfl ?_
  refine xm_E_f q2 ?_
  refine xm_E_s r_law_8 rfl rfl ?_
  refine xm_E_s r_law_9 rfl rfl ?_
  refine xm_E_s r_law_10 rfl (xm_T_ialx rfl q0 q1 (by decide) q3) ?_
  refine xm_E_s r_law_11 rfl rfl ?_
  refine xm_E_s r_law_12 rfl rfl ?_
  refine xm_E_s r_law_13 rfl (xm_T_tab (19 : Int32) 317 rfl q4 (by decide) rfl) ?_
  refine xm_E_s r_law_317 rfl rfl ?_
  refine xm_E_s r_law_318 rfl rfl ?_
  refine xm_E_s r_law_319 rfl rfl ?_
  refine xm_E_s r_law_320 rfl rfl ?_
  refine xm_E_s r_law_321 rfl rfl ?_
  refine xm_E_s r_law_322 rfl (xm_T_ialx rfl q0 q1 (by decide) q5) ?_
  refine xm_E_cv [.ref l1, .int (f0 ((l3 + (1 : Int32)).toNatClampNeg))] [] r_law_323 rfl rfl (Nat.le_of_ble_eq_true rfl) (xm_rc q7 (by decide)) rfl q6 ?_
  refine xm_E_s r_law_324 rfl rfl ?_
  refine xm_E_s r_law_325 rfl rfl ?_
  refine xm_E_s r_law_326 rfl rfl ?_
  refine xm_E_s r_law_327 rfl rfl ?_
  refine xm_E_s r_law_328 rfl rfl ?_
  refine xm_E_s r_law_329 rfl (xm_T_ialx rfl q0 q1 (by decide) q5) ?_
  refine xm_E_cv [.ref l2, .int (f0 ((l3 + (1 : Int32)).toNatClampNeg))] [.int r1] r_law_330 rfl rfl (Nat.le_of_ble_eq_true rfl) (xm_rc q9 (by decide)) rfl q8 ?_
  refine xm_E_s r_law_331 rfl rfl ?_
  refine xm_E_t q10 ?_
  refine xm_E_s (ls1 := [some (.ref l0), some (.ref l1), some (.ref l2), some (.int (l3 + (6 : Int32)))]) r_law_1109 rfl rfl ?_
  refine xm_E_s r_law_1110 rfl rfl ?_
  exact K
theorem p_law_2_40 {X : xm_X} {P : List xm_M} {d : Nat} {h : xm_H} {l0 : Nat} {l1 : Nat} {l2 : Nat} {l3 : Int32} {n0 : Nat} {f0 : Nat → Int32} {h1 : xm_H} {r1 : Int32} {h2 : xm_H} {r2 : Int32} (q0 : X.1[l0]? = none) (q1 : X.2.1 l0 = some (0, n0, f0)) (q2 : ¬ ((Int32.ofNat n0) - (6 : Int32) < l3)) (q3 : ¬ (l3 < 0 ∨ n0 ≤ l3.toNatClampNeg)) (q4 : (f0 l3.toNatClampNeg) &&& (63 : Int32) = (19 : Int32)) (q5 : ¬ (l3 + (1 : Int32) < 0 ∨ n0 ≤ (l3 + (1 : Int32)).toNatClampNeg)) (q6 : xm_V X P d 102 [.ref l1, .int (f0 ((l3 + (1 : Int32)).toNatClampNeg))] h (some (.int r1)) h1) (q7 : X.1[l1]? = some (.inr 9)) (q8 : xm_V X P d 275 [.ref l2, .int (f0 ((l3 + (1 : Int32)).toNatClampNeg))] h1 (some (.int r2)) h2) (q9 : X.1[l2]? = some (.inr 10)) (q10 : ¬ (r1 = r2)) : xm_E X P d co_law 2 [some (.ref l0), some (.ref l1), some (.ref l2), some (.int l3)] [] h (some (.int (0 : Int32))) h2 := by
  refine xm_E_s r_law_2 rfl rfl ?_
  refine xm_E_s r_law_3 rfl rfl ?_
  refine xm_E_s r_law_4 rfl (xm_T_alenx rfl q0 q1) ?_
  refine xm_E_s r_law_5 rfl rfl ?_
  refine xm_E_s r_law_6 rfl rfl ?_
  refine xm_E_s r_law_7 rfl rfl ?_
  refine xm_E_f q2 ?_
  refine xm_E_s r_law_8 rfl rfl ?_
  refine xm_E_s r_law_9 rfl rfl ?_
  refine xm_E_s r_law_10 rfl (xm_T_ialx rfl q0 q1 (by decide) q3) ?_
  refine xm_E_s r_law_11 rfl rfl ?_
  refine xm_E_s r_law_12 rfl rfl ?_
  refine xm_E_s r_law_13 rfl (xm_T_tab (19 : Int32) 317 rfl q4 (by decide) rfl) ?_
  refine xm_E_s r_law_317 rfl rfl ?_
  refine xm_E_s r_law_318 rfl rfl ?_
  refine xm_E_s r_law_319 rfl rfl ?_
  refine xm_E_s r_law_320 rfl rfl ?_
  refine xm_E_s r_law_321 rfl rfl ?_
  refine xm_E_s r_law_322 rfl (xm_T_ialx rfl q0 q1 (by decide) q5) ?_
  refine xm_E_cv [.ref l1, .int (f0 ((l3 + (1 : Int32)).toNatClampNeg))] [] r_law_323 rfl rfl (Nat.le_of_ble_eq_true rfl) (xm_rc q7 (by decide)) rfl q6 ?_
  refine xm_E_s r_law_324 rfl rfl ?_
  refine xm_E_s r_law_325 rfl rfl ?_
  refine xm_E_s r_law_326 rfl rfl ?_
  refine xm_E_s r_law_327 rfl rfl ?_
  refine xm_E_s r_law_328 rfl rfl ?_
  refine xm_E_s r_law_329 rfl (xm_T_ialx rfl q0 q1 (by decide) q5) ?_
  refine xm_E_cv [.ref l2, .int (f0 ((l3 + (1 : Int32)).toNatClampNeg))] [.int r1] r_law_330 rfl rfl (Nat.le_of_ble_eq_true rfl) (xm_rc q9 (by decide)) rfl q8 ?_
  refine xm_E_s r_law_331 rfl rfl ?_
  refine xm_E_f q10 ?_
  refine xm_E_s r_law_332 rfl rfl ?_
  exact xm_E_iret r_law_333 rfl rfl
theorem p_law_2_41 {X : xm_X} {P : List xm_M} {d : Nat} {h : xm_H} {l0 : Nat} {l1 : Nat} {l2 : Nat} {l3 : Int32} {n0 : Nat} {f0 : Nat → Int32} {h1 : xm_H} {r1 : Int32} {h2 : xm_H} {r2 : Int32} {ro : Option Value} {ho : xm_H} (q0 : X.1[l0]? = none) (q1 : X.2.1 l0 = some (0, n0, f0)) (q2 : ¬ ((Int32.ofNat n0) - (6 : Int32) < l3)) (q3 : ¬ (l3 < 0 ∨ n0 ≤ l3.toNatClampNeg)) (q4 : (f0 l3.toNatClampNeg) &&& (63 : Int32) = (20 : Int32)) (q5 : ¬ (l3 + (1 : Int32) < 0 ∨ n0 ≤ (l3 + (1 : Int32)).toNatClampNeg)) (q6 : xm_V X P d 103 [.ref l1, .int (f0 ((l3 + (1 : Int32)).toNatClampNeg))] h (some (.int r1)) h1) (q7 : X.1[l1]? = some (.inr 9)) (q8 : xm_V X P d 276 [.ref l2, .int (f0 ((l3 + (1 : Int32)).toNatClampNeg))] h1 (some (.int r2)) h2) (q9 : X.1[l2]? = some (.inr 10)) (q10 : r1 = r2) (K : xm_E X P d co_law 2 [some (.ref l0), some (.ref l1), some (.ref l2), some (.int (l3 + (6 : Int32)))] [] h2 ro ho) : xm_E X P d co_law 2 [some (.ref l0), some (.ref l1), some (.ref l2), some (.int l3)] [] h ro ho := by
  refine xm_E_s r_law_2 rfl rfl ?_
  refine xm_E_s r_law_3 rfl rfl ?_
  refine xm_E_s r_law_4 rfl (xm_T_alenx rfl q0 q1) ?_
  refine xm_E_s r_law_5 rfl rfl ?_
  refine xm_E_s r_law_6 rfl rfl ?_
  refine xm_E_s r_law_7 rfl rfl ?_
  refine xm_E_f q2 ?_
  refine xm_E_s r_law_8 rfl rfl ?_
  refine xm_E_s r_law_9 rfl rfl ?_
  refine xm_E_s r_law_10 rfl (xm_T_ialx rfl q0 q1 (by decide) q3) ?_
  refine xm_E_s r_law_11 rfl rfl ?_
  refine xm_E_s r_law_12 rfl rfl ?_
  refine xm_E_s r_law_13 rfl (xm_T_tab (20 : Int32) 334 rfl q4 (by decide) rfl) ?_
  refine xm_E_s r_law_334 rfl rfl ?_
  refine xm_E_s r_law_335 rfl rfl ?_
  refine xm_E_s r_law_336 rfl rfl ?_
  refine xm_E_s r_law_337 rfl rfl ?_
  refine xm_E_s r_law_338 rfl rfl ?_
  refine xm_E_s r_law_339 rfl (xm_T_ialx rfl q0 q1 (by decide) q5) ?_
  refine xm_E_cv [.ref l1, .int (f0 ((l3 + (1 : Int32)).toNatClampNeg))] [] r_law_340 rfl rfl (Nat.le_of_ble_eq_true rfl) (xm_rc q7 (by decide)) rfl q6 ?_
  refine xm_E_s r_law_341 rfl rfl ?_
  refine xm_E_s r_law_342 rfl rfl ?_
  refine xm_E_s r_law_343 rfl rfl ?_
  refine xm_E_s r_law_344 rfl rfl ?_
  refine xm_E_s r_law_345 rfl rfl ?_
  refine xm_E_s r_law_346 rfl (xm_T_ialx rfl q0 q1 (by decide) q5) ?_
  refine xm_E_cv [.ref l2, .int (f0 ((l3 + (1 : Int32)).toNatClampNeg))] [.int r1] r_law_347 rfl rfl (Nat.le_of_ble_eq_true rfl) (xm_rc q9 (by decide)) rfl q8 ?_
  refine xm_E_s r_law_348 rfl rfl ?_
  refine xm_E_t q10 ?_
  refine xm_E_s (ls1 := [some (.ref l0), some (.ref l1), some (.ref l2), some (.int (l3 + (6 : Int32)))]) r_law_1109 rfl rfl ?_
  refine xm_E_s r_law_1110 rfl rfl ?_
  exact K
theorem p_law_2_42 {X : xm_X} {P : List xm_M} {d : Nat} {h : xm_H} {l0 : Nat} {l1 : Nat} {l2 : Nat} {l3 : Int32} {n0 : Nat} {f0 : Nat → Int32} {h1 : xm_H} {r1 : Int32} {h2 : xm_H} {r2 : Int32} (q0 : X.1[l0]? = none) (q1 : X.2.1 l0 = some (0, n0, f0)) (q2 : ¬ ((Int32.ofNat n0) - (6 : Int32) < l3)) (q3 : ¬ (l3 < 0 ∨ n0 ≤ l3.toNatClampNeg)) (q4 : (f0 l3.toNatClampNeg) &&& (63 : Int32) = (20 : Int32)) (q5 : ¬ (l3 + (1 : Int32) < 0 ∨ n0 ≤ (l3 + (1 : Int32)).toNatClampNeg)) (q6 : xm_V X P d 103 [.ref l1, .int (f0 ((l3 + (1 : Int32)).toNatClampNeg))] h (some (.int r1)) h1) (q7 : X.1[l1]? = some (.inr 9)) (q8 : xm_V X P d 276 [.ref l2, .int (f0 ((l3 + (1 : Int32)).toNatClampNeg))] h1 (some (.int r2)) h2) (q9 : X.1[l2]? = some (.inr 10)) (q10 : ¬ (r1 = r2)) : xm_E X P d co_law 2 [some (.ref l0), some (.ref l1), some (.ref l2), some (.int l3)] [] h (some (.int (0 : Int32))) h2 := by
  refine xm_E_s r_law_2 rfl rfl ?_
  refine xm_E_s r_law_3 rfl rfl ?_
  refine xm_E_s r_law_4 rfl (xm_T_alenx rfl q0 q1) ?_
  refine xm_E_s r_law_5 rfl rfl ?_
  refine xm_E_s r_law_6 rfl rfl ?_
  refine xm_E_s r_law_7 rfl rfl ?_
  refine xm_E_f q2 ?_
  refine xm_E_s r_law_8 rfl rfl ?_
  refine xm_E_s r_law_9 rfl rfl ?_
  refine xm_E_s r_law_10 rfl (xm_T_ialx rfl q0 q1 (by decide) q3) ?_
  refine xm_E_s r_law_11 rfl rfl ?_
  refine xm_E_s r_law_12 rfl rfl ?_
  refine xm_E_s r_law_13 rfl (xm_T_tab (20 : Int32) 334 rfl q4 (by decide) rfl) ?_
  refine xm_E_s r_law_334 rfl rfl ?_
  refine xm_E_s r_law_335 rfl rfl ?_
  refine xm_E_s r_law_336 rfl rfl ?_
  refine xm_E_s r_law_337 rfl rfl ?_
  refine xm_E_s r_law_338 rfl rfl ?_
  refine xm_E_s r_law_339 rfl (xm_T_ialx rfl q0 q1 (by decide) q5) ?_
  refine xm_E_cv [.ref l1, .int (f0 ((l3 + (1 : Int32)).toNatClampNeg))] [] r_law_340 rfl rfl (Nat.le_of_ble_eq_true rfl) (xm_rc q7 (by decide)) rfl q6 ?_
  refine xm_E_s r_law_341 rfl rfl ?_
  refine xm_E_s r_law_342 rfl rfl ?_
  refine xm_E_s r_law_343 rfl rfl ?_
  refine xm_E_s r_law_344 rfl rfl ?_
  refine xm_E_s r_law_345 rfl rfl ?_
  refine xm_E_s r_law_346 rfl (xm_T_ialx rfl q0 q1 (by decide) q5) ?_
  refine xm_E_cv [.ref l2, .int (f0 ((l3 + (1 : Int32)).toNatClampNeg))] [.int r1] r_law_347 rfl rfl (Nat.le_of_ble_eq_true rfl) (xm_rc q9 (by decide)) rfl q8 ?_
  refine xm_E_s r_law_348 rfl rfl ?_
  refine xm_E_f q10 ?_
  refine xm_E_s r_law_349 rfl rfl ?_
  exact xm_E_iret r_law_350 rfl rfl
theorem p_law_2_43 {X : xm_X} {P : List xm_M} {d : Nat} {h : xm_H} {l0 : Nat} {l1 : Nat} {l2 : Nat} {l3 : Int32} {n0 : Nat} {f0 : Nat → Int32} {h1 : xm_H} {r1 : Int32} {h2 : xm_H} {r2 : Int32} {ro : Option Value} {ho : xm_H} (q0 : X.1[l0]? = none) (q1 : X.2.1 l0 = some (0, n0, f0)) (q2 : ¬ ((Int32.ofNat n0) - (6 : Int32) < l3)) (q3 : ¬ (l3 < 0 ∨ n0 ≤ l3.toNatClampNeg)) (q4 : (f0 l3.toNatClampNeg) &&& (63 : Int32) = (21 : Int32)) (q5 : xm_V X P d 104 [.ref l1] h (some (.int r1)) h1) (q6 : X.1[l1]? = some (.inr 9)) (q7 : xm_V X P d 277 [.ref l2] h1 (some (.int r2)) h2) (q8 : X.1[l2]? = some (.inr 10)) (q9 : r1 = r2) (K : xm_E X P d co_law 2 [some (.ref l0), some (.ref l1), some (.ref l2), some (.int (l3 + (6 : Int32)))] [] h2 ro ho) : xm_E X P d co_law 2 [some (.ref l0), some (.ref l1), some (.ref l2), some (.int l3)] [] h ro ho := by
  refine xm_E_s r_law_2 rfl rfl ?_
  refine xm_E_s r_law_3 rfl rfl ?_
  refine xm_E_s r_law_4 rfl (xm_T_alenx rfl q0 q1) ?_
  refine xm_E_s r_law_5 rfl rfl ?_
  refine xm_E_s r_law_6 rfl rfl ?_
  refine xm_E_s r_law_7 rfl rfl ?_
  refine xm_E_f q2 ?_
  refine xm_E_s r_law_8 rfl rfl ?_
  refine xm_E_s r_law_9 rfl rfl ?_
  refine xm_E_s r_law_10 rfl (xm_T_ialx rfl q0 q1 (by decide) q3) ?_
  refine xm_E_s r_law_11 rfl rfl ?_
  refine xm_E_s r_law_12 rfl rfl ?_
  refine xm_E_s r_law_13 rfl (xm_T_tab (21 : Int32) 351 rfl q4 (by decide) rfl) ?_
  refine xm_E_s r_law_351 rfl rfl ?_
  refine xm_E_cv [.ref l1] [] r_law_352 rfl rfl (Nat.le_of_ble_eq_true rfl) (xm_rc q6 (by decide)) rfl q5 ?_
  refine xm_E_s r_law_353 rfl rfl ?_
  refine xm_E_cv [.ref l2] [.int r1] r_law_354 rfl rfl (Nat.le_of_ble_eq_true rfl) (xm_rc q8 (by decide)) rfl q7 ?_
  refine xm_E_s r_law_355 rfl rfl ?_
  refine xm_E_t q9 ?_
  refine xm_E_s (ls1 := [some (.ref l0), some (.ref l1), some (.ref l2), some (.int (l3 + (6 : Int32)))]) r_law_1109 rfl rfl ?_
  refine xm_E_s r_law_1110 rfl rfl ?_
  exact K
theorem p_law_2_44 {X : xm_X} {P : List xm_M} {d : Nat} {h : xm_H} {l0 : Nat} {l1 : Nat} {l2 : Nat} {l3 : Int32} {n0 : Nat} {f0 : Nat → Int32} {h1 : xm_H} {r1 : Int32} {h2 : xm_H} {r2 : Int32} (q0 : X.1[l0]? = none) (q1 : X.2.1 l0 = some (0, n0, f0)) (q2 : ¬ ((Int32.ofNat n0) - (6 : Int32) < l3)) (q3 : ¬ (l3 < 0 ∨ n0 ≤ l3.toNatClampNeg)) (q4 : (f0 l3.toNatClampNeg) &&& (63 : Int32) = (21 : Int32)) (q5 : xm_V X P d 104 [.ref l1] h (some (.int r1)) h1) (q6 : X.1[l1]? = some (.inr 9)) (q7 : xm_V X P d 277 [.ref l2] h1 (some (.int r2)) h2) (q8 : X.1[l2]? = some (.inr 10)) (q9 : ¬ (r1 = r2)) : xm_E X P d co_law 2 [some (.ref l0), some (.ref l1), some (.ref l2), some (.int l3)] [] h (some (.int (0 : Int32))) h2 := by
  refine xm_E_s r_law_2 rfl rfl ?_
  refine xm_E_s r_law_3 rfl rfl ?_
  refine xm_E_s r_law_4 rfl (xm_T_alenx rfl q0 q1) ?_
  refine xm_E_s r_law_5 rfl rfl ?_
  refine xm_E_s r_law_6 rfl rfl ?_
  refine xm_E_s r_law_7 rfl rfl ?_
  refine xm_E_f q2 ?_
  refine xm_E_s r_law_8 rfl rfl ?_
  refine xm_E_s r_law_9 rfl rfl ?_
  refine xm_E_s r_law_10 rfl (xm_T_ialx rfl q0 q1 (by decide) q3) ?_
  refine xm_E_s r_law_11 rfl rfl ?_
  refine xm_E_s r_law_12 rfl rfl ?_
  refine xm_E_s r_law_13 rfl (xm_T_tab (21 : Int32) 351 rfl q4 (by decide) rfl) ?_
  refine xm_E_s r_law_351 rfl rfl ?_
  refine xm_E_cv [.ref l1] [] r_law_352 rfl rfl (Nat.le_of_ble_eq_true rfl) (xm_rc q6 (by decide)) rfl q5 ?_
  refine xm_E_s r_law_353 rfl rfl ?_
  refine xm_E_cv [.ref l2] [.int r1] r_law_354 rfl rfl (Nat.le_of_ble_eq_true rfl) (xm_rc q8 (by decide)) rfl q7 ?_
  refine xm_E_s r_law_355 rfl rfl ?_
  refine xm_E_f q9 ?_
  refine xm_E_s r_law_356 rfl rfl ?_
  exact xm_E_iret r_law_357 rfl rfl
theorem p_law_2_45 {X : xm_X} {P : List xm_M} {d : Nat} {h : xm_H} {l0 : Nat} {l1 : Nat} {l2 : Nat} {l3 : Int32} {n0 : Nat} {f0 : Nat → Int32} {h1 : xm_H} {r1 : Int32} {h2 : xm_H} {r2 : Int32} {ro : Option Value} {ho : xm_H} (q0 : X.1[l0]? = none) (q1 : X.2.1 l0 = some (0, n0, f0)) (q2 : ¬ ((Int32.ofNat n0) - (6 : Int32) < l3)) (q3 : ¬ (l3 < 0 ∨ n0 ≤ l3.toNatClampNeg)) (q4 : (f0 l3.toNatClampNeg) &&& (63 : Int32) = (22 : Int32)) (q5 : xm_V X P d 106 [.ref l1] h (some (.int r1)) h1) (q6 : X.1[l1]? = some (.inr 9)) (q7 : xm_V X P d 278 [.ref l2] h1 (some (.int r2)) h2) (q8 : X.1[l2]? = some (.inr 10)) (q9 : r1 = r2) (K : xm_E X P d co_law 2 [some (.ref l0), some (.ref l1), some (.ref l2), some (.int (l3 + (6 : Int32)))] [] h2 ro ho) : xm_E X P d co_law 2 [some (.ref l0), some (.ref l1), some (.ref l2), some (.int l3)] [] h ro ho := by
  refine xm_E_s r_law_2 rfl rfl ?_
  refine xm_E_s r_law_3 rfl rfl ?_
  refine xm_E_s r_law_4 rfl (xm_T_alenx rfl q0 q1) ?_
  refine xm_E_s r_law_5 rfl rfl ?_
  refine xm_E_s r_law_6 rfl rfl ?_
  refine xm_E_s r_law_7 rfl rfl ?_
  refine xm_E_f q2 ?_
  refine xm_E_s r_law_8 rfl rfl ?_
  refine xm_E_s r_law_9 rfl rfl ?_
  refine xm_E_s r_law_10 rfl (xm_T_ialx rfl q0 q1 (by decide) q3) ?_
  refine xm_E_s r_law_11 rfl rfl ?_
  refine xm_E_s r_law_12 rfl rfl ?_
  refine xm_E_s r_law_13 rfl (xm_T_tab (22 : Int32) 358 rfl q4 (by decide) rfl) ?_
  refine xm_E_s r_law_358 rfl rfl ?_
  refine xm_E_cv [.ref l1] [] r_law_359 rfl rfl (Nat.le_of_ble_eq_true rfl) (xm_rc q6 (by decide)) rfl q5 ?_
  refine xm_E_s r_law_360 rfl rfl ?_
  refine xm_E_cv [.ref l2] [.int r1] r_law_361 rfl rfl (Nat.le_of_ble_eq_true rfl) (xm_rc q8 (by decide)) rfl q7 ?_
  refine xm_E_s r_law_362 rfl rfl ?_
  refine xm_E_t q9 ?_
  refine xm_E_s (ls1 := [some (.ref l0), some (.ref l1), some (.ref l2), some (.int (l3 + (6 : Int32)))]) r_law_1109 rfl rfl ?_
  refine xm_E_s r_law_1110 rfl rfl ?_
  exact K
theorem p_law_2_46 {X : xm_X} {P : List xm_M} {d : Nat} {h : xm_H} {l0 : Nat} {l1 : Nat} {l2 : Nat} {l3 : Int32} {n0 : Nat} {f0 : Nat → Int32} {h1 : xm_H} {r1 : Int32} {h2 : xm_H} {r2 : Int32} (q0 : X.1[l0]? = none) (q1 : X.2.1 l0 = some (0, n0, f0)) (q2 : ¬ ((Int32.ofNat n0) - (6 : Int32) < l3)) (q3 : ¬ (l3 < 0 ∨ n0 ≤ l3.toNatClampNeg)) (q4 : (f0 l3.toNatClampNeg) &&& (63 : Int32) = (22 : Int32)) (q5 : xm_V X P d 106 [.ref l1] h (some (.int r1)) h1) (q6 : X.1[l1]? = some (.inr 9)) (q7 : xm_V X P d 278 [.ref l2] h1 (some (.int r2)) h2) (q8 : X.1[l2]? = some (.inr 10)) (q9 : ¬ (r1 = r2)) : xm_E X P d co_law 2 [some (.ref l0), some (.ref l1), some (.ref l2), some (.int l3)] [] h (some (.int (0 : Int32))) h2 := by
  refine xm_E_s r_law_2 rfl rfl ?_
  refine xm_E_s r_law_3 rfl rfl ?_
  refine xm_E_s r_law_4 rfl (xm_T_alenx rfl q0 q1) ?_
  refine xm_E_s r_law_5 rfl rfl ?_
  refine xm_E_s r_law_6 rfl rfl ?_
  refine xm_E_s r_law_7 rfl rfl ?_
  refine xm_E_f q2 ?_
  refine xm_E_s r_law_8 rfl rfl ?_
  refine xm_E_s r_law_9 rfl rfl ?_
  refine xm_E_s r_law_10 rfl (xm_T_ialx rfl q0 q1 (by decide) q3) ?_
  refine xm_E_s r_law_11 rfl rfl ?_
  refine xm_E_s r_law_12 rfl rfl ?_
  refine xm_E_s r_law_13 rfl (xm_T_tab (22 : Int32) 358 rfl q4 (by decide) rfl) ?_
  refine xm_E_s r_law_358 rfl rfl ?_
  refine xm_E_cv [.ref l1] [] r_law_359 rfl rfl (Nat.le_of_ble_eq_true rfl) (xm_rc q6 (by decide)) rfl q5 ?_
  refine xm_E_s r_law_360 rfl rfl ?_
  refine xm_E_cv [.ref l2] [.int r1] r_law_361 rfl rfl (Nat.le_of_ble_eq_true rfl) (xm_rc q8 (by decide)) rfl q7 ?_
  refine xm_E_s r_law_362 rfl rfl ?_
  refine xm_E_f q9 ?_
  refine xm_E_s r_law_363 rfl rfl ?_
  exact xm_E_iret r_law_364 rfl rfl
theorem p_law_2_47 {X : xm_X} {P : List xm_M} {d : Nat} {h : xm_H} {l0 : Nat} {l1 : Nat} {l2 : Nat} {l3 : Int32} {n0 : Nat} {f0 : Nat → Int32} {h1 : xm_H} {r1 : Int32} {h2 : xm_H} {r2 : Int32} {ro : Option Value} {ho : xm_H} (q0 : X.1[l0]? = none) (q1 : X.2.1 l0 = some (0, n0, f0)) (q2 : ¬ ((Int32.ofNat n0) - (6 : Int32) < l3)) (q3 : ¬ (l3 < 0 ∨ n0 ≤ l3.toNatClampNeg)) (q4 : (f0 l3.toNatClampNeg) &&& (63 : Int32) = (23 : Int32)) (q5 : ¬ (l3 + (1 : Int32) < 0 ∨ n0 ≤ (l3 + (1 : Int32)).toNatClampNeg)) (q6 : ¬ (l3 + (2 : Int32) < 0 ∨ n0 ≤ (l3 + (2 : Int32)).toNatClampNeg)) (q7 : xm_V X P d 107 [.ref l1, .int (f0 ((l3 + (1 : Int32)).toNatClampNeg)), .int (f0 ((l3 + (2 : Int32)).toNatClampNeg))] h (some (.int r1)) h1) (q8 : X.1[l1]? = some (.inr 9)) (q9 : xm_V X P d 279 [.ref l2, .int (f0 ((l3 + (1 : Int32)).toNatClampNeg)), .int (f0 ((l3 + (2 : Int32)).toNatClampNeg))] h1 (some (.int r2)) h2) (q10 : X.1[l2]? = some (.inr 10)) (q11 : r1 = r2) (K : xm_E X P d co_law 2 [some (.ref l0), some (.ref l1), some (.ref l2), some (.int (l3 + (6 : Int32)))] [] h2 ro ho) : xm_E X P d co_law 2 [some (.ref l0), some (.ref l1), some (.ref l2), some (.int l3)] [] h ro ho := by
  refine xm_E_s r_law_2 rfl rfl ?_
  refine xm_E_s r_law_3 rfl rfl ?_
  refine xm_E_s r_law_4 rfl (xm_T_alenx rfl q0 q1) ?_
  refine xm_E_s r_law_5 rfl rfl ?_
  refine xm_E_s r_law_6 rfl rfl ?_
  refine xm_E_s r_law_7 rfl rfl ?_
  refine xm_E_f q2 ?_
  refine xm_E_s r_law_8 rfl rfl ?_
  refine xm_E_s r_law_9 rfl rfl ?_
  refine xm_E_s r_law_10 rfl (xm_T_ialx rfl q0 q1 (by decide) q3) ?_
  refine xm_E_s r_law_11 rfl rfl ?_
  refine xm_E_s r_law_12 rfl rfl ?_
  refine xm_E_s r_law_13 rfl (xm_T_tab (23 : Int32) 365 rfl q4 (by decide) rfl) ?_
  refine xm_E_s r_law_365 rfl rfl ?_
  refine xm_E_s r_law_366 rfl rfl ?_
  refine xm_E_s r_law_367 rfl rfl ?_
  refine xm_E_s r_law_368 rfl rfl ?_
  refine xm_E_s r_law_369 rfl rfl ?_
  refine xm_E_s r_law_370 rfl (xm_T_ialx rfl q0 q1 (by decide) q5) ?_
  refine xm_E_s r_law_371 rfl rfl ?_
  refine xm_E_s r_law_372 rfl rfl ?_
  refine xm_E_s r_law_373 rfl rfl ?_
  refine xm_E_s r_law_374 rfl rfl ?_
  refine xm_E_s r_law_375 rfl (xm_T_ialx rfl q0 q1 (by decide) q6) ?_
  refine xm_E_cv [.ref l1, .int (f0 ((l3 + (1 : Int32)).toNatClampNeg)), .int (f0 ((l3 + (2 : Int32)).toNatClampNeg))] [] r_law_376 rfl rfl (Nat.le_of_ble_eq_true rfl) (xm_rc q8 (by decide)) rfl q7 ?_
  refine xm_E_s r_law_377 rfl rfl ?_
  refine xm_E_s r_law_378 rfl rfl ?_
  refine xm_E_s r_law_379 rfl rfl ?_
  refine xm_E_s r_law_380 rfl rfl ?_
  refine xm_E_s r_law_381 rfl rfl ?_
  refine xm_E_s r_law_382 rfl (xm_T_ialx rfl q0 q1 (by decide) q5) ?_
  refine xm_E_s r_law_383 rfl rfl ?_
  refine xm_E_s r_law_384 rfl rfl ?_
  refine xm_E_s r_law_385 rfl rfl ?_
  refine xm_E_s r_law_386 rfl rfl ?_
  refine xm_E_s r_law_387 rfl (xm_T_ialx rfl q0 q1 (by decide) q6) ?_
  refine xm_E_cv [.ref l2, .int (f0 ((l3 + (1 : Int32)).toNatClampNeg)), .int (f0 ((l3 + (2 : Int32)).toNatClampNeg))] [.int r1] r_law_388 rfl rfl (Nat.le_of_ble_eq_true rfl) (xm_rc q10 (by decide)) rfl q9 ?_
  refine xm_E_s r_law_389 rfl rfl ?_
  refine xm_E_t q11 ?_
  refine xm_E_s (ls1 := [some (.ref l0), some (.ref l1), some (.ref l2), some (.int (l3 + (6 : Int32)))]) r_law_1109 rfl rfl ?_
  refine xm_E_s r_law_1110 rfl rfl ?_
  exact K
theorem p_law_2_48 {X : xm_X} {P : List xm_M} {d : Nat} {h : xm_H} {l0 : Nat} {l1 : Nat} {l2 : Nat} {l3 : Int32} {n0 : Nat} {f0 : Nat → Int32} {h1 : xm_H} {r1 : Int32} {h2 : xm_H} {r2 : Int32} (q0 : X.1[l0]? = none) (q1 : X.2.1 l0 = some (0, n0, f0)) (q2 : ¬ ((Int32.ofNat n0) - (6 : Int32) < l3)) (q3 : ¬ (l3 < 0 ∨ n0 ≤ l3.toNatClampNeg)) (q4 : (f0 l3.toNatClampNeg) &&& (63 : Int32) = (23 : Int32)) (q5 : ¬ (l3 + (1 : Int32) < 0 ∨ n0 ≤ (l3 + (1 : Int32)).toNatClampNeg)) (q6 : ¬ (l3 + (2 : Int32) < 0 ∨ n0 ≤ (l3 + (2 : Int32)).toNatClampNeg)) (q7 : xm_V X P d 107 [.ref l1, .int (f0 ((l3 + (1 : Int32)).toNatClampNeg)), .int (f0 ((l3 + (2 : Int32)).toNatClampNeg))] h (some (.int r1)) h1) (q8 : X.1[l1]? = some (.inr 9)) (q9 : xm_V X P d 279 [.ref l2, .int (f0 ((l3 + (1 : Int32)).toNatClampNeg)), .int (f0 ((l3 + (2 : Int32)).toNatClampNeg))] h1 (some (.int r2)) h2) (q10 : X.1[l2]? = some (.inr 10)) (q11 : ¬ (r1 = r2)) : xm_E X P d co_law 2 [some (.ref l0), some (.ref l1), some (.ref l2), some (.int l3)] [] h (some (.int (0 : Int32))) h2 := by
  refine xm_E_s r_law_2 rfl rfl ?_
  refine xm_E_s r_law_3 rfl rfl ?_
  refine xm_E_s r_law_4 rfl (xm_T_alenx rfl q0 q1) ?_
  refine xm_E_s r_law_5 rfl rfl ?_
  refine xm_E_s r_law_6 rfl rfl ?_
  refine xm_E_s r_law_7 rfl rfl ?_
  refine xm_E_f q2 ?_
  refine xm_E_s r_law_8 rfl rfl ?_
  refine xm_E_s r_law_9 rfl rfl ?_
  refine xm_E_s r_law_10 rfl (xm_T_ialx rfl q0 q1 (by decide) q3) ?_
  refine xm_E_s r_law_11 rfl rfl ?_
  refine xm_E_s r_law_12 rfl rfl ?_
  refine xm_E_s r_law_13 rfl (xm_T_tab (23 : Int32) 365 rfl q4 (by decide) rfl) ?_
  refine xm_E_s r_law_365 rfl rfl ?_
  refine xm_E_s r_law_366 rfl rfl ?_
  refine xm_E_s r_law_367 rfl rfl ?_
  refine xm_E_s r_law_368 rfl rfl ?_
  refine xm_E_s r_law_369 rfl rfl ?_
  refine xm_E_s r_law_370 rfl (xm_T_ialx rfl q0 q1 (by decide) q5) ?_
  refine xm_E_s r_law_371 rfl rfl ?_
  refine xm_E_s r_law_372 rfl rfl ?_
  refine xm_E_s r_law_373 rfl rfl ?_
  refine xm_E_s r_law_374 rfl rfl ?_
  refine xm_E_s r_law_375 rfl (xm_T_ialx rfl q0 q1 (by decide) q6) ?_
  refine xm_E_cv [.ref l1, .int (f0 ((l3 + (1 : Int32)).toNatClampNeg)), .int (f0 ((l3 + (2 : Int32)).toNatClampNeg))] [] r_law_376 rfl rfl (Nat.le_of_ble_eq_true rfl) (xm_rc q8 (by decide)) rfl q7 ?_
  refine xm_E_s r_law_377 rfl rfl ?_
  refine xm_E_s r_law_378 rfl rfl ?_
  refine xm_E_s r_law_379 rfl rfl ?_
  refine xm_E_s r_law_380 rfl rfl ?_
  refine xm_E_s r_law_381 rfl rfl ?_
  refine xm_E_s r_law_382 rfl (xm_T_ialx rfl q0 q1 (by decide) q5) ?_
  refine xm_E_s r_law_383 rfl rfl ?_
  refine xm_E_s r_law_384 rfl rfl ?_
  refine xm_E_s r_law_385 rfl rfl ?_
  refine xm_E_s r_law_386 rfl rfl ?_
  refine xm_E_s r_law_387 rfl (xm_T_ialx rfl q0 q1 (by decide) q6) ?_
  refine xm_E_cv [.ref l2, .int (f0 ((l3 + (1 : Int32)).toNatClampNeg)), .int (f0 ((l3 + (2 : Int32)).toNatClampNeg))] [.int r1] r_law_388 rfl rfl (Nat.le_of_ble_eq_true rfl) (xm_rc q10 (by decide)) rfl q9 ?_
  refine xm_E_s r_law_389 rfl rfl ?_
  refine xm_E_f q11 ?_
  refine xm_E_s r_law_390 rfl rfl ?_
  exact xm_E_iret r_law_391 rfl rfl
theorem p_law_2_49 {X : xm_X} {P : List xm_M} {d : Nat} {h : xm_H} {l0 : Nat} {l1 : Nat} {l2 : Nat} {l3 : Int32} {n0 : Nat} {f0 : Nat → Int32} {h1 : xm_H} {r1 : Int32} {h2 : xm_H} {r2 : Int32} {ro : Option Value} {ho : xm_H} (q0 : X.1[l0]? = none) (q1 : X.2.1 l0 = some (0, n0, f0)) (q2 : ¬ ((Int32.ofNat n0) - (6 : Int32) < l3)) (q3 : ¬ (l3 < 0 ∨ n0 ≤ l3.toNatClampNeg)) (q4 : (f0 l3.toNatClampNeg) &&& (63 : Int32) = (24 : Int32)) (q5 : xm_V X P d 110 [.ref l1] h (some (.int r1)) h1) (q6 : X.1[l1]? = some (.inr 9)) (q7 : xm_V X P d 281 [.ref l2] h1 (some (.int r2)) h2) (q8 : X.1[l2]? = some (.inr 10)) (q9 : r1 = r2) (K : xm_E X P d co_law 2 [some (.ref l0), some (.ref l1), some (.ref l2), some (.int (l3 + (6 : Int32)))] [] h2 ro ho) : xm_E X P d co_law 2 [some (.ref l0), some (.ref l1), some (.ref l2), some (.int l3)] [] h ro ho := by
  refine xm_E_s r_law_2 rfl rfl ?_
  refine xm_E_s r_law_3 rfl rfl ?_
  refine xm_E_s r_law_4 rfl (xm_T_alenx rfl q0 q1) ?_
  refine xm_E_s r_law_5 rfl rfl ?_
  refine xm_E_s r_law_6 rfl rfl ?_
  refine xm_E_s r_law_7 rfl rfl ?_
  refine xm_E_f q2 ?_
  refine xm_E_s r_law_8 rfl rfl ?_
  refine xm_E_s r_law_9 rfl rfl ?_
  refine xm_E_s r_law_10 rfl (xm_T_ialx rfl q0 q1 (by decide) q3) ?_
  refine xm_E_s r_law_11 rfl rfl ?_
  refine xm_E_s r_law_12 rfl rfl ?_
  refine xm_E_s r_law_13 rfl (xm_T_tab (24 : Int32) 392 rfl q4 (by decide) rfl) ?_
  refine xm_E_s r_law_392 rfl rfl ?_
  refine xm_E_cv [.ref l1] [] r_law_393 rfl rfl (Nat.le_of_ble_eq_true rfl) (xm_rc q6 (by decide)) rfl q5 ?_
  refine xm_E_s r_law_394 rfl rfl ?_
  refine xm_E_cv [.ref l2] [.int r1] r_law_395 rfl rfl (Nat.le_of_ble_eq_true rfl) (xm_rc q8 (by decide)) rfl q7 ?_
  refine xm_E_s r_law_396 rfl rfl ?_
  refine xm_E_t q9 ?_
  refine xm_E_s (ls1 := [some (.ref l0), some (.ref l1), some (.ref l2), some (.int (l3 + (6 : Int32)))]) r_law_1109 rfl rfl ?_
  refine xm_E_s r_law_1110 rfl rfl ?_
  exact K
theorem p_law_2_50 {X : xm_X} {P : List xm_M} {d : Nat} {h : xm_H} {l0 : Nat} {l1 : Nat} {l2 : Nat} {l3 : Int32} {n0 : Nat} {f0 : Nat → Int32} {h1 : xm_H} {r1 : Int32} {h2 : xm_H} {r2 : Int32} (q0 : X.1[l0]? = none) (q1 : X.2.1 l0 = some (0, n0, f0)) (q2 : ¬ ((Int32.ofNat n0) - (6 : Int32) < l3)) (q3 : ¬ (l3 < 0 ∨ n0 ≤ l3.toNatClampNeg)) (q4 : (f0 l3.toNatClampNeg) &&& (63 : Int32) = (24 : Int32)) (q5 : xm_V X P d 110 [.ref l1] h (some (.int r1)) h1) (q6 : X.1[l1]? = some (.inr 9)) (q7 : xm_V X P d 281 [.ref l2] h1 (some (.int r2)) h2) (q8 : X.1[l2]? = some (.inr 10)) (q9 : ¬ (r1 = r2)) : xm_E X P d co_law 2 [some (.ref l0), some (.ref l1), some (.ref l2), some (.int l3)] [] h (some (.int (0 : Int32))) h2 := by
  refine xm_E_s r_law_2 rfl rfl ?_
  refine xm_E_s r_law_3 rfl rfl ?_
  refine xm_E_s r_law_4 rfl (xm_T_alenx rfl q0 q1) ?_
  refine xm_E_s r_law_5 rfl rfl ?_
  refine xm_E_s r_law_6 rfl rfl ?_
  refine xm_E_s r_law_7 rfl rfl ?_
  refine xm_E_f q2 ?_
  refine xm_E_s r_law_8 rfl rfl ?_
  refine xm_E_s r_law_9 rfl rfl ?_
  refine xm_E_s r_law_10 rfl (xm_T_ialx rfl q0 q1 (by decide) q3) ?_
  refine xm_E_s r_law_11 rfl rfl ?_
  refine xm_E_s r_law_12 rfl rfl ?_
  refine xm_E_s r_law_13 rfl (xm_T_tab (24 : Int32) 392 rfl q4 (by decide) rfl) ?_
  refine xm_E_s r_law_392 rfl rfl ?_
  refine xm_E_cv [.ref l1] [] r_law_393 rfl rfl (Nat.le_of_ble_eq_true rfl) (xm_rc q6 (by decide)) rfl q5 ?_
  refine xm_E_s r_law_394 rfl rfl ?_
  refine xm_E_cv [.ref l2] [.int r1] r_law_395 rfl rfl (Nat.le_of_ble_eq_true rfl) (xm_rc q8 (by decide)) rfl q7 ?_
  refine xm_E_s r_law_396 rfl rfl ?_
  refine xm_E_f q9 ?_
  refine xm_E_s r_law_397 rfl rfl ?_
  exact xm_E_iret r_law_398 rfl rfl
theorem p_law_2_51 {X : xm_X} {P : List xm_M} {d : Nat} {h : xm_H} {l0 : Nat} {l1 : Nat} {l2 : Nat} {l3 : Int32} {n0 : Nat} {f0 : Nat → Int32} {h1 : xm_H} {r1 : Int32} {h2 : xm_H} {r2 : Int32} {ro : Option Value} {ho : xm_H} (q0 : X.1[l0]? = none) (q1 : X.2.1 l0 = some (0, n0, f0)) (q2 : ¬ ((Int32.ofNat n0) - (6 : Int32) < l3)) (q3 : ¬ (l3 < 0 ∨ n0 ≤ l3.toNatClampNeg)) (q4 : (f0 l3.toNatClampNeg) &&& (63 : Int32) = (25 : Int32)) (q5 : ¬ (l3 + (1 : Int32) < 0 ∨ n0 ≤ (l3 + (1 : Int32)).toNatClampNeg)) (q6 : xm_V X P d 111 [.ref l1, .int (f0 ((l3 + (1 : Int32)).toNatClampNeg))] h (some (.int r1)) h1) (q7 : X.1[l1]? = some (.inr 9)) (q8 : xm_V X P d 282 [.ref l2, .int (f0 ((l3 + (1 : Int32)).toNatClampNeg))] h1 (some (.int r2)) h2) (q9 : X.1[l2]? = some (.inr 10)) (q10 : r1 = r2) (K : xm_E X P d co_law 2 [some (.ref l0), some (.ref l1), some (.ref l2), some (.int (l3 + (6 : Int32)))] [] h2 ro ho) : xm_E X P d co_law 2 [some (.ref l0), some (.ref l1), some (.ref l2), some (.int l3)] [] h ro ho := by
  refine xm_E_s r_law_2 rfl rfl ?_
  refine xm_E_s r_law_3 rfl rfl ?_
  refine xm_E_s r_law_4 rfl (xm_T_alenx rfl q0 q1) ?_
  refine xm_E_s r_law_5 rfl rfl ?_
  refine xm_E_s r_law_6 rfl rfl ?_
  refine xm_E_s r_law_7 rfl rfl ?_
  refine xm_E_f q2 ?_
  refine xm_E_s r_law_8 rfl rfl ?_
  refine xm_E_s r_law_9 rfl rfl ?_
  refine xm_E_s r_law_10 rfl (xm_T_ialx rfl q0 q1 (by decide) q3) ?_
  refine xm_E_s r_law_11 rfl rfl ?_
  refine xm_E_s r_law_12 rfl rfl ?_
  refine xm_E_s r_law_13 rfl (xm_T_tab (25 : Int32) 399 rfl q4 (by decide) rfl) ?_
  refine xm_E_s r_law_399 rfl rfl ?_
  refine xm_E_s r_law_400 rfl rfl ?_
  refine xm_E_s r_law_401 rfl rfl ?_
  refine xm_E_s r_law_402 rfl rfl ?_
  refine xm_E_s r_law_403 rfl rfl ?_
  refine xm_E_s r_law_404 rfl (xm_T_ialx rfl q0 q1 (by decide) q5) ?_
  refine xm_E_cv [.ref l1, .int (f0 ((l3 + (1 : Int32)).toNatClampNeg))] [] r_law_405 rfl rfl (Nat.le_of_ble_eq_true rfl) (xm_rc q7 (by decide)) rfl q6 ?_
  refine xm_E_s r_law_406 rfl rfl ?_
  refine xm_E_s r_law_407 rfl rfl ?_
  refine xm_E_s r_law_408 rfl rfl ?_
  refine xm_E_s r_law_409 rfl rfl ?_
  refine xm_E_s r_law_410 rfl rfl ?_
  refine xm_E_s r_law_411 rfl (xm_T_ialx rfl q0 q1 (by decide) q5) ?_
  refine xm_E_cv [.ref l2, .int (f0 ((l3 + (1 : Int32)).toNatClampNeg))] [.int r1] r_law_412 rfl rfl (Nat.le_of_ble_eq_true rfl) (xm_rc q9 (by decide)) rfl q8 ?_
  refine xm_E_s r_law_413 rfl rfl ?_
  refine xm_E_t q10 ?_
  refine xm_E_s (ls1 := [some (.ref l0), some (.ref l1), some (.ref l2), some (.int (l3 + (6 : Int32)))]) r_law_1109 rfl rfl ?_
  refine xm_E_s r_law_1110 rfl rfl ?_
  exact K
theorem p_law_2_52 {X : xm_X} {P : List xm_M} {d : Nat} {h : xm_H} {l0 : Nat} {l1 : Nat} {l2 : Nat} {l3 : Int32} {n0 : Nat} {f0 : Nat → Int32} {h1 : xm_H} {r1 : Int32} {h2 : xm_H} {r2 : Int32} (q0 : X.1[l0]? = none) (q1 : X.2.1 l0 = some (0, n0, f0)) (q2 : ¬ ((Int32.ofNat n0) - (6 : Int32) < l3)) (q3 : ¬ (l3 < 0 ∨ n0 ≤ l3.toNatClampNeg)) (q4 : (f0 l3.toNatClampNeg) &&& (63 : Int32) = (25 : Int32)) (q5 : ¬ (l3 + (1 : Int32) < 0 ∨ n0 ≤ (l3 + (1 : Int32)).toNatClampNeg)) (q6 : xm_V X P d 111 [.ref l1, .int (f0 ((l3 + (1 : Int32)).toNatClampNeg))] h (some (.int r1)) h1) (q7 : X.1[l1]? = some (.inr 9)) (q8 : xm_V X P d 282 [.ref l2, .int (f0 ((l3 + (1 : Int32)).toNatClampNeg))] h1 (some (.int r2)) h2) (q9 : X.1[l2]? = some (.inr 10)) (q10 : ¬ (r1 = r2)) : xm_E X P d co_law 2 [some (.ref l0), some (.ref l1), some (.ref l2), some (.int l3)] [] h (some (.int (0 : Int32))) h2 := by
  refine xm_E_s r_law_2 rfl rfl ?_
  refine xm_E_s r_law_3 rfl rfl ?_
  refine xm_E_s r_law_4 rfl (xm_T_alenx rfl q0 q1) ?_
  refine xm_E_s r_law_5 rfl rfl ?_
  refine xm_E_s r_law_6 rfl rfl ?_
  refine xm_E_s r_law_7 rfl rfl ?_
  refine xm_E_f q2 ?_
  refine xm_E_s r_law_8 rfl rfl ?_
  refine xm_E_s r_law_9 rfl rfl ?_
  refine xm_E_s r_law_10 rfl (xm_T_ialx rfl q0 q1 (by decide) q3) ?_
  refine xm_E_s r_law_11 rfl rfl ?_
  refine xm_E_s r_law_12 rfl rfl ?_
  refine xm_E_s r_law_13 rfl (xm_T_tab (25 : Int32) 399 rfl q4 (by decide) rfl) ?_
  refine xm_E_s r_law_399 rfl rfl ?_
  refine xm_E_s r_law_400 rfl rfl ?_
  refine xm_E_s r_law_401 rfl rfl ?_
  refine xm_E_s r_law_402 rfl rfl ?_
  refine xm_E_s r_law_403 rfl rfl ?_
  refine xm_E_s r_law_404 rfl (xm_T_ialx rfl q0 q1 (by decide) q5) ?_
  refine xm_E_cv [.ref l1, .int (f0 ((l3 + (1 : Int32)).toNatClampNeg))] [] r_law_405 rfl rfl (Nat.le_of_ble_eq_true rfl) (xm_rc q7 (by decide)) rfl q6 ?_
  refine xm_E_s r_law_406 rfl rfl ?_
  refine xm_E_s r_law_407 rfl rfl ?_
  refine xm_E_s r_law_408 rfl rfl ?_
  refine xm_E_s r_law_409 rfl rfl ?_
  refine xm_E_s r_law_410 rfl rfl ?_
  refine xm_E_s r_law_411 rfl (xm_T_ialx rfl q0 q1 (by decide) q5) ?_
  refine xm_E_cv [.ref l2, .int (f0 ((l3 + (1 : Int32)).toNatClampNeg))] [.int r1] r_law_412 rfl rfl (Nat.le_of_ble_eq_true rfl) (xm_rc q9 (by decide)) rfl q8 ?_
  refine xm_E_s r_law_413 rfl rfl ?_
  refine xm_E_f q10 ?_
  refine xm_E_s r_law_414 rfl rfl ?_
  exact xm_E_iret r_law_415 rfl rfl
theorem p_law_2_53 {X : xm_X} {P : List xm_M} {d : Nat} {h : xm_H} {l0 : Nat} {l1 : Nat} {l2 : Nat} {l3 : Int32} {n0 : Nat} {f0 : Nat → Int32} {h1 : xm_H} {r1 : Int32} {h2 : xm_H} {r2 : Int32} {ro : Option Value} {ho : xm_H} (q0 : X.1[l0]? = none) (q1 : X.2.1 l0 = some (0, n0, f0)) (q2 : ¬ ((Int32.ofNat n0) - (6 : Int32) < l3)) (q3 : ¬ (l3 < 0 ∨ n0 ≤ l3.toNatClampNeg)) (q4 : (f0 l3.toNatClampNeg) &&& (63 : Int32) = (26 : Int32)) (q5 : xm_V X P d 113 [.ref l1] h (some (.int r1)) h1) (q6 : X.1[l1]? = some (.inr 9)) (q7 : xm_V X P d 283 [.ref l2] h1 (some (.int r2)) h2) (q8 : X.1[l2]? = some (.inr 10)) (q9 : r1 = r2) (K : xm_E X P d co_law 2 [some (.ref l0), some (.ref l1), some (.ref l2), some (.int (l3 + (6 : Int32)))] [] h2 ro ho) : xm_E X P d co_law 2 [some (.ref l0), some (.ref l1), some (.ref l2), some (.int l3)] [] h ro ho := by
  refine xm_E_s r_law_2 rfl rfl ?_
  refine xm_E_s r_law_3 rfl rfl ?_
  refine xm_E_s r_law_4 rfl (xm_T_alenx rfl q0 q1) ?_
  refine xm_E_s r_law_5 rfl rfl ?_
  refine xm_E_s r_law_6 rfl rfl ?_
  refine xm_E_s r_law_7 rfl rfl ?_
  refine xm_E_f q2 ?_
  refine xm_E_s r_law_8 rfl rfl ?_
  refine xm_E_s r_law_9 rfl rfl ?_
  refine xm_E_s r_law_10 rfl (xm_T_ialx rfl q0 q1 (by decide) q3) ?_
  refine xm_E_s r_law_11 rfl rfl ?_
  refine xm_E_s r_law_12 rfl rfl ?_
  refine xm_E_s r_law_13 rfl (xm_T_tab (26 : Int32) 416 rfl q4 (by decide) rfl) ?_
  refine xm_E_s r_law_416 rfl rfl ?_
  refine xm_E_cv [.ref l1] [] r_law_417 rfl rfl (Nat.le_of_ble_eq_true rfl) (xm_rc q6 (by decide)) rfl q5 ?_
  refine xm_E_s r_law_418 rfl rfl ?_
  refine xm_E_cv [.ref l2] [.int r1] r_law_419 rfl rfl (Nat.le_of_ble_eq_true rfl) (xm_rc q8 (by decide)) rfl q7 ?_
  refine xm_E_s r_law_420 rfl rfl ?_
  refine xm_E_t q9 ?_
  refine xm_E_s (ls1 := [some (.ref l0), some (.ref l1), some (.ref l2), some (.int (l3 + (6 : Int32)))]) r_law_1109 rfl rfl ?_
  refine xm_E_s r_law_1110 rfl rfl ?_
  exact K
theorem p_law_2_54 {X : xm_X} {P : List xm_M} {d : Nat} {h : xm_H} {l0 : Nat} {l1 : Nat} {l2 : Nat} {l3 : Int32} {n0 : Nat} {f0 : Nat → Int32} {h1 : xm_H} {r1 : Int32} {h2 : xm_H} {r2 : Int32} (q0 : X.1[l0]? = none) (q1 : X.2.1 l0 = some (0, n0, f0)) (q2 : ¬ ((Int32.ofNat n0) - (6 : Int32) < l3)) (q3 : ¬ (l3 < 0 ∨ n0 ≤ l3.toNatClampNeg)) (q4 : (f0 l3.toNatClampNeg) &&& (63 : Int32) = (26 : Int32)) (q5 : xm_V X P d 113 [.ref l1] h (some (.int r1)) h1) (q6 : X.1[l1]? = some (.inr 9)) (q7 : xm_V X P d 283 [.ref l2] h1 (some (.int r2)) h2) (q8 : X.1[l2]? = some (.inr 10)) (q9 : ¬ (r1 = r2)) : xm_E X P d co_law 2 [some (.ref l0), some (.ref l1), some (.ref l2), some (.int l3)] [] h (some (.int (0 : Int32))) h2 := by
  refine xm_E_s r_law_2 rfl rfl ?_
  refine xm_E_s r_law_3 rfl rfl ?_
  refine xm_E_s r_law_4 rfl (xm_T_alenx rfl q0 q1) ?_
  refine xm_E_s r_law_5 rfl rfl ?_
  refine xm_E_s r_law_6 rfl rfl ?_
  refine xm_E_s r_law_7 rfl rfl ?_
  refine xm_E_f q2 ?_
  refine xm_E_s r_law_8 rfl rfl ?_
  refine xm_E_s r_law_9 rfl rfl ?_
  refine xm_E_s r_law_10 rfl (xm_T_ialx rfl q0 q1 (by decide) q3) ?_
  refine xm_E_s r_law_11 rfl rfl ?_
  refine xm_E_s r_law_12 rfl rfl ?_
  refine xm_E_s r_law_13 rfl (xm_T_tab (26 : Int32) 416 rfl q4 (by decide) rfl) ?_
  refine xm_E_s r_law_416 rfl rfl ?_
  refine xm_E_cv [.ref l1] [] r_law_417 rfl rfl (Nat.le_of_ble_eq_true rfl) (xm_rc q6 (by decide)) rfl q5 ?_
  refine xm_E_s r_law_418 rfl rfl ?_
  refine xm_E_cv [.ref l2] [.int r1] r_law_419 rfl rfl (Nat.le_of_ble_eq_true rfl) (xm_rc q8 (by decide)) rfl q7 ?_
  refine xm_E_s r_law_420 rfl rfl ?_
  refine xm_E_f q9 ?_
  refine xm_E_s r_law_421 rfl rfl ?_
  exact xm_E_iret r_law_422 rfl rfl
theorem p_law_2_55 {X : xm_X} {P : List xm_M} {d : Nat} {h : xm_H} {l0 : Nat} {l1 : Nat} {l2 : Nat} {l3 : Int32} {n0 : Nat} {f0 : Nat → Int32} {h1 : xm_H} {r1 : Int64} {h2 : xm_H} {r2 : Int64} {ro : Option Value} {ho : xm_H} (q0 : X.1[l0]? = none) (q1 : X.2.1 l0 = some (0, n0, f0)) (q2 : ¬ ((Int32.ofNat n0) - (6 : Int32) < l3)) (q3 : ¬ (l3 < 0 ∨ n0 ≤ l3.toNatClampNeg)) (q4 : (f0 l3.toNatClampNeg) &&& (63 : Int32) = (27 : Int32)) (q5 : ¬ (l3 + (1 : Int32) < 0 ∨ n0 ≤ (l3 + (1 : Int32)).toNatClampNeg)) (q6 : xm_V X P d 115 [.ref l1, .int (f0 ((l3 + (1 : Int32)).toNatClampNeg))] h (some (.long r1)) h1) (q7 : X.1[l1]? = some (.inr 9)) (q8 : xm_V X P d 284 [.ref l2, .int (f0 ((l3 + (1 : Int32)).toNatClampNeg))] h1 (some (.long r2)) h2) (q9 : X.1[l2]? = some (.inr 10)) (q10 : lg_cmp r1 r2 = (0 : Int32)) (K : xm_E X P d co_law 2 [some (.ref l0), some (.ref l1), some (.ref l2), some (.int (l3 + (6 : Int32)))] [] h2 ro ho) : xm_E X P d co_law 2 [some (.ref l0), some (.ref l1), some (.ref l2), some (.int l3)] [] h ro ho := by
  refine xm_E_s r_law_2 rfl rfl ?_
  refine xm_E_s r_law_3 rfl rfl ?_
  refine xm_E_s r_law_4 rfl (xm_T_alenx rfl q0 q1) ?_
  refine xm_E_s r_law_5 rfl rfl ?_
  refine xm_E_s r_law_6 rfl rfl ?_
  refine xm_E_s r_law_7 rfl rfl ?_
  refine xm_E_f q2 ?_
  refine xm_E_s r_law_8 rfl rfl ?_
  refine xm_E_s r_law_9 rfl rfl ?_
  refine xm_E_s r_law_10 rfl (xm_T_ialx rfl q0 q1 (by decide) q3) ?_
  refine xm_E_s r_law_11 rfl rfl ?_
  refine xm_E_s r_law_12 rfl rfl ?_
  refine xm_E_s r_law_13 rfl (xm_T_tab (27 : Int32) 423 rfl q4 (by decide) rfl) ?_
  refine xm_E_s r_law_423 rfl rfl ?_
  refine xm_E_s r_law_424 rfl rfl ?_
  refine xm_E_s r_law_425 rfl rfl ?_
  refine xm_E_s r_law_426 rfl rfl ?_
  refine xm_E_s r_law_427 rfl rfl ?_
  refine xm_E_s r_law_428 rfl (xm_T_ialx rfl q0 q1 (by decide) q5) ?_
  refine xm_E_cv [.ref l1, .int (f0 ((l3 + (1 : Int32)).toNatClampNeg))] [] r_law_429 rfl rfl (Nat.le_of_ble_eq_true rfl) (xm_rc q7 (by decide)) rfl q6 ?_
  refine xm_E_s r_law_430 rfl rfl ?_
  refine xm_E_s r_law_431 rfl rfl ?_
  refine xm_E_s r_law_432 rfl rfl ?_
  refine xm_E_s r_law_433 rfl rfl ?_
  refine xm_E_s r_law_434 rfl rfl ?_
  refine xm_E_s r_law_435 rfl (xm_T_ialx rfl q0 q1 (by decide) q5) ?_
  refine xm_E_cv [.ref l2, .int (f0 ((l3 + (1 : Int32)).toNatClampNeg))] [.long r1] r_law_436 rfl rfl (Nat.le_of_ble_eq_true rfl) (xm_rc q9 (by decide)) rfl q8 ?_
  refine xm_E_s r_law_437 rfl rfl ?_
  refine xm_E_s r_law_438 rfl rfl ?_
  refine xm_E_t q10 ?_
  refine xm_E_s (ls1 := [some (.ref l0), some (.ref l1), some (.ref l2), some (.int (l3 + (6 : Int32)))]) r_law_1109 rfl rfl ?_
  refine xm_E_s r_law_1110 rfl rfl ?_
  exact K
theorem p_law_2_56 {X : xm_X} {P : List xm_M} {d : Nat} {h : xm_H} {l0 : Nat} {l1 : Nat} {l2 : Nat} {l3 : Int32} {n0 : Nat} {f0 : Nat → Int32} {h1 : xm_H} {r1 : Int64} {h2 : xm_H} {r2 : Int64} (q0 : X.1[l0]? = none) (q1 : X.2.1 l0 = some (0, n0, f0)) (q2 : ¬ ((Int32.ofNat n0) - (6 : Int32) < l3)) (q3 : ¬ (l3 < 0 ∨ n0 ≤ l3.toNatClampNeg)) (q4 : (f0 l3.toNatClampNeg) &&& (63 : Int32) = (27 : Int32)) (q5 : ¬ (l3 + (1 : Int32) < 0 ∨ n0 ≤ (l3 + (1 : Int32)).toNatClampNeg)) (q6 : xm_V X P d 115 [.ref l1, .int (f0 ((l3 + (1 : Int32)).toNatClampNeg))] h (some (.long r1)) h1) (q7 : X.1[l1]? = some (.inr 9)) (q8 : xm_V X P d 284 [.ref l2, .int (f0 ((l3 + (1 : Int32)).toNatClampNeg))] h1 (some (.long r2)) h2) (q9 : X.1[l2]? = some (.inr 10)) (q10 : ¬ (lg_cmp r1 r2 = (0 : Int32))) : xm_E X P d co_law 2 [some (.ref l0), some (.ref l1), some (.ref l2), some (.int l3)] [] h (some (.int (0 : Int32))) h2 := by
  refine xm_E_s r_law_2 rfl rfl ?_
  refine xm_E_s r_law_3 rfl rfl ?_
  refine xm_E_s r_law_4 rfl (xm_T_alenx rfl q0 q1) ?_
  refine xm_E_s r_law_5 rfl rfl ?_
  refine xm_E_s r_law_6 rfl rfl ?_
  refine xm_E_s r_law_7 rfl rfl ?_
  refine xm_E_f q2 ?_
  refine xm_E_s r_law_8 rfl rfl ?_
  refine xm_E_s r_law_9 rfl rfl ?_
  refine xm_E_s r_law_10 rfl (xm_T_ialx rfl q0 q1 (by decide) q3) ?_
  refine xm_E_s r_law_11 rfl rfl ?_
  refine xm_E_s r_law_12 rfl rfl ?_
  refine xm_E_s r_law_13 rfl (xm_T_tab (27 : Int32) 423 rfl q4 (by decide) rfl) ?_
  refine xm_E_s r_law_423 rfl rfl ?_
  refine xm_E_s r_law_424 rfl rfl ?_
  refine xm_E_s r_law_425 rfl rfl ?_
  refine xm_E_s r_law_426 rfl rfl ?_
  refine xm_E_s r_law_427 rfl rfl ?_
  refine xm_E_s r_law_428 rfl (xm_T_ialx rfl q0 q1 (by decide) q5) ?_
  refine xm_E_cv [.ref l1, .int (f0 ((l3 + (1 : Int32)).toNatClampNeg))] [] r_law_429 rfl rfl (Nat.le_of_ble_eq_true rfl) (xm_rc q7 (by decide)) rfl q6 ?_
  refine xm_E_s r_law_430 rfl rfl ?_
  refine xm_E_s r_law_431 rfl rfl ?_
  refine xm_E_s r_law_432 rfl rfl ?_
  refine xm_E_s r_law_433 rfl rfl ?_
  refine xm_E_s r_law_434 rfl rfl ?_
  refine xm_E_s r_law_435 rfl (xm_T_ialx rfl q0 q1 (by decide) q5) ?_
  refine xm_E_cv [.ref l2, .int (f0 ((l3 + (1 : Int32)).toNatClampNeg))] [.long r1] r_law_436 rfl rfl (Nat.le_of_ble_eq_true rfl) (xm_rc q9 (by decide)) rfl q8 ?_
  refine xm_E_s r_law_437 rfl rfl ?_
  refine xm_E_s r_law_438 rfl rfl ?_
  refine xm_E_f q10 ?_
  refine xm_E_s r_law_439 rfl rfl ?_
  exact xm_E_iret r_law_440 rfl rfl
theorem p_law_2_57 {X : xm_X} {P : List xm_M} {d : Nat} {h : xm_H} {l0 : Nat} {l1 : Nat} {l2 : Nat} {l3 : Int32} {n0 : Nat} {f0 : Nat → Int32} {h1 : xm_H} {r1 : Int32} {h2 : xm_H} {r2 : Int32} {ro : Option Value} {ho : xm_H} (q0 : X.1[l0]? = none) (q1 : X.2.1 l0 = some (0, n0, f0)) (q2 : ¬ ((Int32.ofNat n0) - (6 : Int32) < l3)) (q3 : ¬ (l3 < 0 ∨ n0 ≤ l3.toNatClampNeg)) (q4 : (f0 l3.toNatClampNeg) &&& (63 : Int32) = (28 : Int32)) (q5 : ¬ (l3 + (1 : Int32) < 0 ∨ n0 ≤ (l3 + (1 : Int32)).toNatClampNeg)) (q6 : ¬ (l3 + (2 : Int32) < 0 ∨ n0 ≤ (l3 + (2 : Int32)).toNatClampNeg)) (q7 : xm_V X P d 120 [.ref l1, .int (f0 ((l3 + (1 : Int32)).toNatClampNeg)), .int (f0 ((l3 + (2 : Int32)).toNatClampNeg))] h (some (.int r1)) h1) (q8 : X.1[l1]? = some (.inr 9)) (q9 : xm_V X P d 286 [.ref l2, .int (f0 ((l3 + (1 : Int32)).toNatClampNeg)), .int (f0 ((l3 + (2 : Int32)).toNatClampNeg))] h1 (some (.int r2)) h2) (q10 : X.1[l2]? = some (.inr 10)) (q11 : r1 = r2) (K : xm_E X P d co_law 2 [some (.ref l0), some (.ref l1), some (.ref l2), some (.int (l3 + (6 : Int32)))] [] h2 ro ho) : xm_E X P d co_law 2 [some (.ref l0), some (.ref l1), some (.ref l2), some (.int l3)] [] h ro ho := by
  refine xm_E_s r_law_2 rfl rfl ?_
  refine xm_E_s r_law_3 rfl rfl ?_
  refine xm_E_s r_law_4 rfl (xm_T_alenx rfl q0 q1) ?_
  refine xm_E_s r_law_5 rfl rfl ?_
  refine xm_E_s r_law_6 rfl rfl ?_
  refine xm_E_s r_law_7 rfl rfl ?_
  refine xm_E_f q2 ?_
  refine xm_E_s r_law_8 rfl rfl ?_
  refine xm_E_s r_law_9 rfl rfl ?_
  refine xm_E_s r_law_10 rfl (xm_T_ialx rfl q0 q1 (by decide) q3) ?_
  refine xm_E_s r_law_11 rfl rfl ?_
  refine xm_E_s r_law_12 rfl rfl ?_
  refine xm_E_s r_law_13 rfl (xm_T_tab (28 : Int32) 441 rfl q4 (by decide) rfl) ?_
  refine xm_E_s r_law_441 rfl rfl ?_
  refine xm_E_s r_law_442 rfl rfl ?_
  refine xm_E_s r_law_443 rfl rfl ?_
  refine xm_E_s r_law_444 rfl rfl ?_
  refine xm_E_s r_law_445 rfl rfl ?_
  refine xm_E_s r_law_446 rfl (xm_T_ialx rfl q0 q1 (by decide) q5) ?_
  refine xm_E_s r_law_447 rfl rfl ?_
  refine xm_E_s r_law_448 rfl rfl ?_
  refine xm_E_s r_law_449 rfl rfl ?_
  refine xm_E_s r_law_450 rfl rfl ?_
  refine xm_E_s r_law_451 rfl (xm_T_ialx rfl q0 q1 (by decide) q6) ?_
  refine xm_E_cv [.ref l1, .int (f0 ((l3 + (1 : Int32)).toNatClampNeg)), .int (f0 ((l3 + (2 : Int32)).toNatClampNeg))] [] r_law_452 rfl rfl (Nat.le_of_ble_eq_true rfl) (xm_rc q8 (by decide)) rfl q7 ?_
  refine xm_E_s r_law_453 rfl rfl ?_
  refine xm_E_s r_law_454 rfl rfl ?_
  refine xm_E_s r_law_455 rfl rfl ?_
  refine xm_E_s r_law_456 rfl rfl ?_
  refine xm_E_s r_law_457 rfl rfl ?_
  refine xm_E_s r_law_458 rfl (xm_T_ialx rfl q0 q1 (by decide) q5) ?_
  refine xm_E_s r_law_459 rfl rfl ?_
  refine xm_E_s r_law_460 rfl rfl ?_
  refine xm_E_s r_law_461 rfl rfl ?_
  refine xm_E_s r_law_462 rfl rfl ?_
  refine xm_E_s r_law_463 rfl (xm_T_ialx rfl q0 q1 (by decide) q6) ?_
  refine xm_E_cv [.ref l2, .int (f0 ((l3 + (1 : Int32)).toNatClampNeg)), .int (f0 ((l3 + (2 : Int32)).toNatClampNeg))] [.int r1] r_law_464 rfl rfl (Nat.le_of_ble_eq_true rfl) (xm_rc q10 (by decide)) rfl q9 ?_
  refine xm_E_s r_law_465 rfl rfl ?_
  refine xm_E_t q11 ?_
  refine xm_E_s (ls1 := [some (.ref l0), some (.ref l1), some (.ref l2), some (.int (l3 + (6 : Int32)))]) r_law_1109 rfl rfl ?_
  refine xm_E_s r_law_1110 rfl rfl ?_
  exact K
theorem p_law_2_58 {X : xm_X} {P : List xm_M} {d : Nat} {h : xm_H} {l0 : Nat} {l1 : Nat} {l2 : Nat} {l3 : Int32} {n0 : Nat} {f0 : Nat → Int32} {h1 : xm_H} {r1 : Int32} {h2 : xm_H} {r2 : Int32} (q0 : X.1[l0]? = none) (q1 : X.2.1 l0 = some (0, n0, f0)) (q2 : ¬ ((Int32.ofNat n0) - (6 : Int32) < l3)) (q3 : ¬ (l3 < 0 ∨ n0 ≤ l3.toNatClampNeg)) (q4 : (f0 l3.toNatClampNeg) &&& (63 : Int32) = (28 : Int32)) (q5 : ¬ (l3 + (1 : Int32) < 0 ∨ n0 ≤ (l3 + (1 : Int32)).toNatClampNeg)) (q6 : ¬ (l3 + (2 : Int32) < 0 ∨ n0 ≤ (l3 + (2 : Int32)).toNatClampNeg)) (q7 : xm_V X P d 120 [.ref l1, .int (f0 ((l3 + (1 : Int32)).toNatClampNeg)), .int (f0 ((l3 + (2 : Int32)).toNatClampNeg))] h (some (.int r1)) h1) (q8 : X.1[l1]? = some (.inr 9)) (q9 : xm_V X P d 286 [.ref l2, .int (f0 ((l3 + (1 : Int32)).toNatClampNeg)), .int (f0 ((l3 + (2 : Int32)).toNatClampNeg))] h1 (some (.int r2)) h2) (q10 : X.1[l2]? = some (.inr 10)) (q11 : ¬ (r1 = r2)) : xm_E X P d co_law 2 [some (.ref l0), some (.ref l1), some (.ref l2), some (.int l3)] [] h (some (.int (0 : Int32))) h2 := by
  refine xm_E_s r_law_2 rfl rfl ?_
  refine xm_E_s r_law_3 rfl rfl ?_
  refine xm_E_s r_law_4 rfl (xm_T_alenx rfl q0 q1) ?_
  refine xm_E_s r_law_5 rfl rfl ?_
  refine xm_E_s r_law_6 rfl rfl ?_
  refine xm_E_s r_law_7 rfl rfl ?_
  refine xm_E_f q2 ?_
  refine xm_E_s r_law_8 rfl rfl ?_
  refine xm_E_s r_law_9 rfl rfl ?_
  refine xm_E_s r_law_10 rfl (xm_T_ialx rfl q0 q1 (by decide) q3) ?_
  refine xm_E_s r_law_11 rfl rfl ?_
  refine xm_E_s r_law_12 rfl rfl ?_
  refine xm_E_s r_law_13 rfl (xm_T_tab (28 : Int32) 441 rfl q4 (by decide) rfl) ?_
  refine xm_E_s r_law_441 rfl rfl ?_
  refine xm_E_s r_law_442 rfl rfl ?_
  refine xm_E_s r_law_443 rfl rfl ?_
  refine xm_E_s r_law_444 rfl rfl ?_
  refine xm_E_s r_law_445 rfl rfl ?_
  refine xm_E_s r_law_446 rfl (xm_T_ialx rfl q0 q1 (by decide) q5) ?_
  refine xm_E_s r_law_447 rfl rfl ?_
  refine xm_E_s r_law_448 rfl rfl ?_
  refine xm_E_s r_law_449 rfl rfl ?_
  refine xm_E_s r_law_450 rfl rfl ?_
  refine xm_E_s r_law_451 rfl (xm_T_ialx rfl q0 q1 (by decide) q6) ?_
  refine xm_E_cv [.ref l1, .int (f0 ((l3 + (1 : Int32)).toNatClampNeg)), .int (f0 ((l3 + (2 : Int32)).toNatClampNeg))] [] r_law_452 rfl rfl (Nat.le_of_ble_eq_true rfl) (xm_rc q8 (by decide)) rfl q7 ?_
  refine xm_E_s r_law_453 rfl rfl ?_
  refine xm_E_s r_law_454 rfl rfl ?_
  refine xm_E_s r_law_455 rfl rfl ?_
  refine xm_E_s r_law_456 rfl rfl ?_
  refine xm_E_s r_law_457 rfl rfl ?_
  refine xm_E_s r_law_458 rfl (xm_T_ialx rfl q0 q1 (by decide) q5) ?_
  refine xm_E_s r_law_459 rfl rfl ?_
  refine xm_E_s r_law_460 rfl rfl ?_
  refine xm_E_s r_law_461 rfl rfl ?_
  refine xm_E_s r_law_462 rfl rfl ?_
  refine xm_E_s r_law_463 rfl (xm_T_ialx rfl q0 q1 (by decide) q6) ?_
  refine xm_E_cv [.ref l2, .int (f0 ((l3 + (1 : Int32)).toNatClampNeg)), .int (f0 ((l3 + (2 : Int32)).toNatClampNeg))] [.int r1] r_law_464 rfl rfl (Nat.le_of_ble_eq_true rfl) (xm_rc q10 (by decide)) rfl q9 ?_
  refine xm_E_s r_law_465 rfl rfl ?_
  refine xm_E_f q11 ?_
  refine xm_E_s r_law_466 rfl rfl ?_
  exact xm_E_iret r_law_467 rfl rfl
theorem p_law_2_59 {X : xm_X} {P : List xm_M} {d : Nat} {h : xm_H} {l0 : Nat} {l1 : Nat} {l2 : Nat} {l3 : Int32} {n0 : Nat} {f0 : Nat → Int32} {h1 : xm_H} {r1 : Int32} {h2 : xm_H} {r2 : Int32} {ro : Option Value} {ho : xm_H} (q0 : X.1[l0]? = none) (q1 : X.2.1 l0 = some (0, n0, f0)) (q2 : ¬ ((Int32.ofNat n0) - (6 : Int32) < l3)) (q3 : ¬ (l3 < 0 ∨ n0 ≤ l3.toNatClampNeg)) (q4 : (f0 l3.toNatClampNeg) &&& (63 : Int32) = (29 : Int32)) (q5 : ¬ (l3 + (1 : Int32) < 0 ∨ n0 ≤ (l3 + (1 : Int32)).toNatClampNeg)) (q6 : xm_V X P d 123 [.ref l1, .int (f0 ((l3 + (1 : Int32)).toNatClampNeg))] h (some (.int r1)) h1) (q7 : X.1[l1]? = some (.inr 9)) (q8 : xm_V X P d 287 [.ref l2, .int (f0 ((l3 + (1 : Int32)).toNatClampNeg))] h1 (some (.int r2)) h2) (q9 : X.1[l2]? = some (.inr 10)) (q10 : r1 = r2) (K : xm_E X P d co_law 2 [some (.ref l0), some (.ref l1), some (.ref l2), some (.int (l3 + (6 : Int32)))] [] h2 ro ho) : xm_E X P d co_law 2 [some (.ref l0), some (.ref l1), some (.ref l2), some (.int l3)] [] h ro ho := by
  refine xm_E_s r_law_2 rfl rfl ?_
  refine xm_E_s r_law_3 rfl rfl ?_
  refine xm_E_s r_law_4 rfl (xm_T_alenx rfl q0 q1) ?_
  refine xm_E_s r_law_5 rfl rfl ?_
  refine xm_E_s r_law_6 rfl rfl ?_
  refine xm_E_s r_law_7 rfl rfl ?_
  refine xm_E_f q2 ?_
  refine xm_E_s r_law_8 rfl rfl ?_
  refine xm_E_s r_law_9 rfl rfl ?_
  refine xm_E_s r_law_10 rfl (xm_T_ialx rfl q0 q1 (by decide) q3) ?_
  refine xm_E_s r_law_11 rfl rfl ?_
  refine xm_E_s r_law_12 rfl rfl ?_
  refine xm_E_s r_law_13 rfl (xm_T_tab (29 : Int32) 468 rfl q4 (by decide) rfl) ?_
  refine xm_E_s r_law_468 rfl rfl ?_
  refine xm_E_s r_law_469 rfl rfl ?_
  refine xm_E_s r_law_470 rfl rfl ?_
  refine xm_E_s r_law_471 rfl rfl ?_
  refine xm_E_s r_law_472 rfl rfl ?_
  refine xm_E_s r_law_473 rfl (xm_T_ialx rfl q0 q1 (by decide) q5) ?_
  refine xm_E_cv [.ref l1, .int (f0 ((l3 + (1 : Int32)).toNatClampNeg))] [] r_law_474 rfl rfl (Nat.le_of_ble_eq_true rfl) (xm_rc q7 (by decide)) rfl q6 ?_
  refine xm_E_s r_law_475 rfl rfl ?_
  refine xm_E_s r_law_476 rfl rfl ?_
  refine xm_E_s r_law_477 rfl rfl ?_
  refine xm_E_s r_law_478 rfl rfl ?_
  refine xm_E_s r_law_479 rfl rfl ?_
  refine xm_E_s r_law_480 rfl (xm_T_ialx rfl q0 q1 (by decide) q5) ?_
  refine xm_E_cv [.ref l2, .int (f0 ((l3 + (1 : Int32)).toNatClampNeg))] [.int r1] r_law_481 rfl rfl (Nat.le_of_ble_eq_true rfl) (xm_rc q9 (by decide)) rfl q8 ?_
  refine xm_E_s r_law_482 rfl rfl ?_
  refine xm_E_t q10 ?_
  refine xm_E_s (ls1 := [some (.ref l0), some (.ref l1), some (.ref l2), some (.int (l3 + (6 : Int32)))]) r_law_1109 rfl rfl ?_
  refine xm_E_s r_law_1110 rfl rfl ?_
  exact K
theorem p_law_2_60 {X : xm_X} {P : List xm_M} {d : Nat} {h : xm_H} {l0 : Nat} {l1 : Nat} {l2 : Nat} {l3 : Int32} {n0 : Nat} {f0 : Nat → Int32} {h1 : xm_H} {r1 : Int32} {h2 : xm_H} {r2 : Int32} (q0 : X.1[l0]? = none) (q1 : X.2.1 l0 = some (0, n0, f0)) (q2 : ¬ ((Int32.ofNat n0) - (6 : Int32) < l3)) (q3 : ¬ (l3 < 0 ∨ n0 ≤ l3.toNatClampNeg)) (q4 : (f0 l3.toNatClampNeg) &&& (63 : Int32) = (29 : Int32)) (q5 : ¬ (l3 + (1 : Int32) < 0 ∨ n0 ≤ (l3 + (1 : Int32)).toNatClampNeg)) (q6 : xm_V X P d 123 [.ref l1, .int (f0 ((l3 + (1 : Int32)).toNatClampNeg))] h (some (.int r1)) h1) (q7 : X.1[l1]? = some (.inr 9)) (q8 : xm_V X P d 287 [.ref l2, .int (f0 ((l3 + (1 : Int32)).toNatClampNeg))] h1 (some (.int r2)) h2) (q9 : X.1[l2]? = some (.inr 10)) (q10 : ¬ (r1 = r2)) : xm_E X P d co_law 2 [some (.ref l0), some (.ref l1), some (.ref l2), some (.int l3)] [] h (some (.int (0 : Int32))) h2 := by
  refine xm_E_s r_law_2 rfl rfl ?_
  refine xm_E_s r_law_3 rfl rfl ?_
  refine xm_E_s r_law_4 rfl (xm_T_alenx rfl q0 q1) ?_
  refine xm_E_s r_law_5 rfl rfl ?_
  refine xm_E_s r_law_6 rfl rfl ?_
  refine xm_E_s r_law_7 rfl rfl ?_
  refine xm_E_f q2 ?_
  refine xm_E_s r_law_8 rfl rfl ?_
  refine xm_E_s r_law_9 rfl rfl ?_
  refine xm_E_s r_law_10 rfl (xm_T_ialx rfl q0 q1 (by decide) q3) ?_
  refine xm_E_s r_law_11 rfl rfl ?_
  refine xm_E_s r_law_12 rfl rfl ?_
  refine xm_E_s r_law_13 rfl (xm_T_tab (29 : Int32) 468 rfl q4 (by decide) rfl) ?_
  refine xm_E_s r_law_468 rfl rfl ?_
  refine xm_E_s r_law_469 rfl rfl ?_
  refine xm_E_s r_law_470 rfl rfl ?_
  refine xm_E_s r_law_471 rfl rfl ?_
  refine xm_E_s r_law_472 rfl rfl ?_
  refine xm_E_s r_law_473 rfl (xm_T_ialx rfl q0 q1 (by decide) q5) ?_
  refine xm_E_cv [.ref l1, .int (f0 ((l3 + (1 : Int32)).toNatClampNeg))] [] r_law_474 rfl rfl (Nat.le_of_ble_eq_true rfl) (xm_rc q7 (by decide)) rfl q6 ?_
  refine xm_E_s r_law_475 rfl rfl ?_
  refine xm_E_s r_law_476 rfl rfl ?_
  refine xm_E_s r_law_477 rfl rfl ?_
  refine xm_E_s r_law_478 rfl rfl ?_
  refine xm_E_s r_law_479 rfl rfl ?_
  refine xm_E_s r_law_480 rfl (xm_T_ialx rfl q0 q1 (by decide) q5) ?_
  refine xm_E_cv [.ref l2, .int (f0 ((l3 + (1 : Int32)).toNatClampNeg))] [.int r1] r_law_481 rfl rfl (Nat.le_of_ble_eq_true rfl) (xm_rc q9 (by decide)) rfl q8 ?_
  refine xm_E_s r_law_482 rfl rfl ?_
  refine xm_E_f q10 ?_
  refine xm_E_s r_law_483 rfl rfl ?_
  exact xm_E_iret r_law_484 rfl rfl
theorem p_law_2_61 {X : xm_X} {P : List xm_M} {d : Nat} {h : xm_H} {l0 : Nat} {l1 : Nat} {l2 : Nat} {l3 : Int32} {n0 : Nat} {f0 : Nat → Int32} {h1 : xm_H} {r1 : Int32} {h2 : xm_H} {r2 : Int32} {ro : Option Value} {ho : xm_H} (q0 : X.1[l0]? = none) (q1 : X.2.1 l0 = some (0, n0, f0)) (q2 : ¬ ((Int32.ofNat n0) - (6 : Int32) < l3)) (q3 : ¬ (l3 < 0 ∨ n0 ≤ l3.toNatClampNeg)) (q4 : (f0 l3.toNatClampNeg) &&& (63 : Int32) = (30 : Int32)) (q5 : xm_V X P d 124 [.ref l1] h (some (.int r1)) h1) (q6 : X.1[l1]? = some (.inr 9)) (q7 : xm_V X P d 288 [.ref l2] h1 (some (.int r2)) h2) (q8 : X.1[l2]? = some (.inr 10)) (q9 : r1 = r2) (K : xm_E X P d co_law 2 [some (.ref l0), some (.ref l1), some (.ref l2), some (.int (l3 + (6 : Int32)))] [] h2 ro ho) : xm_E X P d co_law 2 [some (.ref l0), some (.ref l1), some (.ref l2), some (.int l3)] [] h ro ho := by
  refine xm_E_s r_law_2 rfl rfl ?_
  refine xm_E_s r_law_3 rfl rfl ?_
  refine xm_E_s r_law_4 rfl (xm_T_alenx rfl q0 q1) ?_
  refine xm_E_s r_law_5 rfl rfl ?_
  refine xm_E_s r_law_6 rfl rfl ?_
  refine xm_E_s r_law_7 rfl rfl ?_
  refine xm_E_f q2 ?_
  refine xm_E_s r_law_8 rfl rfl ?_
  refine xm_E_s r_law_9 rfl rfl ?_
  refine xm_E_s r_law_10 rfl (xm_T_ialx rfl q0 q1 (by decide) q3) ?_
  refine xm_E_s r_law_11 rfl rfl ?_
  refine xm_E_s r_law_12 rfl rfl ?_
  refine xm_E_s r_law_13 rfl (xm_T_tab (30 : Int32) 485 rfl q4 (by decide) rfl) ?_
  refine xm_E_s r_law_485 rfl rfl ?_
  refine xm_E_cv [.ref l1] [] r_law_486 rfl rfl (Nat.le_of_ble_eq_true rfl) (xm_rc q6 (by decide)) rfl q5 ?_
  refine xm_E_s r_law_487 rfl rfl ?_
  refine xm_E_cv [.ref l2] [.int r1] r_law_488 rfl rfl (Nat.le_of_ble_eq_true rfl) (xm_rc q8 (by decide)) rfl q7 ?_
  refine xm_E_s r_law_489 rfl rfl ?_
  refine xm_E_t q9 ?_
  refine xm_E_s (ls1 := [some (.ref l0), some (.ref l1), some (.ref l2), some (.int (l3 + (6 : Int32)))]) r_law_1109 rfl rfl ?_
  refine xm_E_s r_law_1110 rfl rfl ?_
  exact K
theorem p_law_2_62 {X : xm_X} {P : List xm_M} {d : Nat} {h : xm_H} {l0 : Nat} {l1 : Nat} {l2 : Nat} {l3 : Int32} {n0 : Nat} {f0 : Nat → Int32} {h1 : xm_H} {r1 : Int32} {h2 : xm_H} {r2 : Int32} (q0 : X.1[l0]? = none) (q1 : X.2.1 l0 = some (0, n0, f0)) (q2 : ¬ ((Int32.ofNat n0) - (6 : Int32) < l3)) (q3 : ¬ (l3 < 0 ∨ n0 ≤ l3.toNatClampNeg)) (q4 : (f0 l3.toNatClampNeg) &&& (63 : Int32) = (30 : Int32)) (q5 : xm_V X P d 124 [.ref l1] h (some (.int r1)) h1) (q6 : X.1[l1]? = some (.inr 9)) (q7 : xm_V X P d 288 [.ref l2] h1 (some (.int r2)) h2) (q8 : X.1[l2]? = some (.inr 10)) (q9 : ¬ (r1 = r2)) : xm_E X P d co_law 2 [some (.ref l0), some (.ref l1), some (.ref l2), some (.int l3)] [] h (some (.int (0 : Int32))) h2 := by
  refine xm_E_s r_law_2 rfl rfl ?_
  refine xm_E_s r_law_3 rfl rfl ?_
  refine xm_E_s r_law_4 rfl (xm_T_alenx rfl q0 q1) ?_
  refine xm_E_s r_law_5 rfl rfl ?_
  refine xm_E_s r_law_6 rfl rfl ?_
  refine xm_E_s r_law_7 rfl rfl ?_
  refine xm_E_f q2 ?_
  refine xm_E_s r_law_8 rfl rfl ?_
  refine xm_E_s r_law_9 rfl rfl ?_
  refine xm_E_s r_law_10 rfl (xm_T_ialx rfl q0 q1 (by decide) q3) ?_
  refine xm_E_s r_law_11 rfl rfl ?_
  refine xm_E_s r_law_12 rfl rfl ?_
  refine xm_E_s r_law_13 rfl (xm_T_tab (30 : Int32) 485 rfl q4 (by decide) rfl) ?_
  refine xm_E_s r_law_485 rfl rfl ?_
  refine xm_E_cv [.ref l1] [] r_law_486 rfl rfl (Nat.le_of_ble_eq_true rfl) (xm_rc q6 (by decide)) rfl q5 ?_
  refine xm_E_s r_law_487 rfl rfl ?_
  refine xm_E_cv [.ref l2] [.int r1] r_law_488 rfl rfl (Nat.le_of_ble_eq_true rfl) (xm_rc q8 (by decide)) rfl q7 ?_
  refine xm_E_s r_law_489 rfl rfl ?_
  refine xm_E_f q9 ?_
  refine xm_E_s r_law_490 rfl rfl ?_
  exact xm_E_iret r_law_491 rfl rfl
theorem p_law_2_63 {X : xm_X} {P : List xm_M} {d : Nat} {h : xm_H} {l0 : Nat} {l1 : Nat} {l2 : Nat} {l3 : Int32} {n0 : Nat} {f0 : Nat → Int32} {h1 : xm_H} {r1 : Int32} {h2 : xm_H} {r2 : Int32} {ro : Option Value} {ho : xm_H} (q0 : X.1[l0]? = none) (q1 : X.2.1 l0 = some (0, n0, f0)) (q2 : ¬ ((Int32.ofNat n0) - (6 : Int32) < l3)) (q3 : ¬ (l3 < 0 ∨ n0 ≤ l3.toNatClampNeg)) (q4 : (f0 l3.toNatClampNeg) &&& (63 : Int32) = (31 : Int32)) (q5 : ¬ (l3 + (1 : Int32) < 0 ∨ n0 ≤ (l3 + (1 : Int32)).toNatClampNeg)) (q6 : xm_V X P d 126 [.ref l1, .int (f0 ((l3 + (1 : Int32)).toNatClampNeg))] h (some (.int r1)) h1) (q7 : X.1[l1]? = some (.inr 9)) (q8 : xm_V X P d 290 [.ref l2, .int (f0 ((l3 + (1 : Int32)).toNatClampNeg))] h1 (some (.int r2)) h2) (q9 : X.1[l2]? = some (.inr 10)) (q10 : r1 = r2) (K : xm_E X P d co_law 2 [some (.ref l0), some (.ref l1), some (.ref l2), some (.int (l3 + (6 : Int32)))] [] h2 ro ho) : xm_E X P d co_law 2 [some (.ref l0), some (.ref l1), some (.ref l2), some (.int l3)] [] h ro ho := by
  refine xm_E_s r_law_2 rfl rfl ?_
  refine xm_E_s r_law_3 rfl rfl ?_
  refine xm_E_s r_law_4 rfl (xm_T_alenx rfl q0 q1) ?_
  refine xm_E_s r_law_5 rfl rfl ?_
  refine xm_E_s r_law_6 rfl rfl ?_
  refine xm_E_s r_law_7 rfl rfl ?_
  refine xm_E_f q2 ?_
  refine xm_E_s r_law_8 rfl rfl ?_
  refine xm_E_s r_law_9 rfl rfl ?_
  refine xm_E_s r_law_10 rfl (xm_T_ialx rfl q0 q1 (by decide) q3) ?_
  refine xm_E_s r_law_11 rfl rfl ?_
  refine xm_E_s r_law_12 rfl rfl ?_
  refine xm_E_s r_law_13 rfl (xm_T_tab (31 : Int32) 492 rfl q4 (by decide) rfl) ?_
  refine xm_E_s r_law_492 rfl rfl ?_
  refine xm_E_s r_law_493 rfl rfl ?_
  refine xm_E_s r_law_494 rfl rfl ?_
  refine xm_E_s r_law_495 rfl rfl ?_
  refine xm_E_s r_law_496 rfl rfl ?_
  refine xm_E_s r_law_497 rfl (xm_T_ialx rfl q0 q1 (by decide) q5) ?_
  refine xm_E_cv [.ref l1, .int (f0 ((l3 + (1 : Int32)).toNatClampNeg))] [] r_law_498 rfl rfl (Nat.le_of_ble_eq_true rfl) (xm_rc q7 (by decide)) rfl q6 ?_
  refine xm_E_s r_law_499 rfl rfl ?_
  refine xm_E_s r_law_500 rfl rfl ?_
  refine xm_E_s r_law_501 rfl rfl ?_
  refine xm_E_s r_law_502 rfl rfl ?_
  refine xm_E_s r_law_503 rfl rfl ?_
  refine xm_E_s r_law_504 rfl (xm_T_ialx rfl q0 q1 (by decide) q5) ?_
  refine xm_E_cv [.ref l2, .int (f0 ((l3 + (1 : Int32)).toNatClampNeg))] [.int r1] r_law_505 rfl rfl (Nat.le_of_ble_eq_true rfl) (xm_rc q9 (by decide)) rfl q8 ?_
  refine xm_E_s r_law_506 rfl rfl ?_
  refine xm_E_t q10 ?_
  refine xm_E_s (ls1 := [some (.ref l0), some (.ref l1), some (.ref l2), some (.int (l3 + (6 : Int32)))]) r_law_1109 rfl rfl ?_
  refine xm_E_s r_law_1110 rfl rfl ?_
  exact K
theorem p_law_2_64 {X : xm_X} {P : List xm_M} {d : Nat} {h : xm_H} {l0 : Nat} {l1 : Nat} {l2 : Nat} {l3 : Int32} {n0 : Nat} {f0 : Nat → Int32} {h1 : xm_H} {r1 : Int32} {h2 : xm_H} {r2 : Int32} (q0 : X.1[l0]? = none) (q1 : X.2.1 l0 = some (0, n0, f0)) (q2 : ¬ ((Int32.ofNat n0) - (6 : Int32) < l3)) (q3 : ¬ (l3 < 0 ∨ n0 ≤ l3.toNatClampNeg)) (q4 : (f0 l3.toNatClampNeg) &&& (63 : Int32) = (31 : Int32)) (q5 : ¬ (l3 + (1 : Int32) < 0 ∨ n0 ≤ (l3 + (1 : Int32)).toNatClampNeg)) (q6 : xm_V X P d 126 [.ref l1, .int (f0 ((l3 + (1 : Int32)).toNatClampNeg))] h (some (.int r1)) h1) (q7 : X.1[l1]? = some (.inr 9)) (q8 : xm_V X P d 290 [.ref l2, .int (f0 ((l3 + (1 : Int32)).toNatClampNeg))] h1 (some (.int r2)) h2) (q9 : X.1[l2]? = some (.inr 10)) (q10 : ¬ (r1 = r2)) : xm_E X P d co_law 2 [some (.ref l0), some (.ref l1), some (.ref l2), some (.int l3)] [] h (some (.int (0 : Int32))) h2 := by
  refine xm_E_s r_law_2 rfl rfl ?_
  refine xm_E_s r_law_3 rfl rfl ?_
  refine xm_E_s r_law_4 rfl (xm_T_alenx rfl q0 q1) ?_
  refine xm_E_s r_law_5 rfl rfl ?_
  refine xm_E_s r_law_6 rfl rfl ?_
  refine xm_E_s r_law_7 rfl rfl ?_
  refine xm_E_f q2 ?_
  refine xm_E_s r_law_8 rfl rfl ?_
  refine xm_E_s r_law_9 rfl rfl ?_
  refine xm_E_s r_law_10 rfl (xm_T_ialx rfl q0 q1 (by decide) q3) ?_
  refine xm_E_s r_law_11 rfl rfl ?_
  refine xm_E_s r_law_12 rfl rfl ?_
  refine xm_E_s r_law_13 rfl (xm_T_tab (31 : Int32) 492 rfl q4 (by decide) rfl) ?_
  refine xm_E_s r_law_492 rfl rfl ?_
  refine xm_E_s r_law_493 rfl rfl ?_
  refine xm_E_s r_law_494 rfl rfl ?_
  refine xm_E_s r_law_495 rfl rfl ?_
  refine xm_E_s r_law_496 rfl rfl ?_
  refine xm_E_s r_law_497 rfl (xm_T_ialx rfl q0 q1 (by decide) q5) ?_
  refine xm_E_cv [.ref l1, .int (f0 ((l3 + (1 : Int32)).toNatClampNeg))] [] r_law_498 rfl rfl (Nat.le_of_ble_eq_true rfl) (xm_rc q7 (by decide)) rfl q6 ?_
  refine xm_E_s r_law_499 rfl rfl ?_
  refine xm_E_s r_law_500 rfl rfl ?_
  refine xm_E_s r_law_501 rfl rfl ?_
  refine xm_E_s r_law_502 rfl rfl ?_
  refine xm_E_s r_law_503 rfl rfl ?_
  refine xm_E_s r_law_504 rfl (xm_T_ialx rfl q0 q1 (by decide) q5) ?_
  refine xm_E_cv [.ref l2, .int (f0 ((l3 + (1 : Int32)).toNatClampNeg))] [.int r1] r_law_505 rfl rfl (Nat.le_of_ble_eq_true rfl) (xm_rc q9 (by decide)) rfl q8 ?_
  refine xm_E_s r_law_506 rfl rfl ?_
  refine xm_E_f q10 ?_
  refine xm_E_s r_law_507 rfl rfl ?_
  exact xm_E_iret r_law_508 rfl rfl
theorem p_law_2_65 {X : xm_X} {P : List xm_M} {d : Nat} {h : xm_H} {l0 : Nat} {l1 : Nat} {l2 : Nat} {l3 : Int32} {n0 : Nat} {f0 : Nat → Int32} {h1 : xm_H} {r1 : Int32} {h2 : xm_H} {r2 : Int32} {ro : Option Value} {ho : xm_H} (q0 : X.1[l0]? = none) (q1 : X.2.1 l0 = some (0, n0, f0)) (q2 : ¬ ((Int32.ofNat n0) - (6 : Int32) < l3)) (q3 : ¬ (l3 < 0 ∨ n0 ≤ l3.toNatClampNeg)) (q4 : (f0 l3.toNatClampNeg) &&& (63 : Int32) = (32 : Int32)) (q5 : xm_V X P d 130 [.ref l1] h (some (.int r1)) h1) (q6 : X.1[l1]? = some (.inr 9)) (q7 : xm_V X P d 292 [.ref l2] h1 (some (.int r2)) h2) (q8 : X.1[l2]? = some (.inr 10)) (q9 : r1 = r2) (K : xm_E X P d co_law 2 [some (.ref l0), some (.ref l1), some (.ref l2), some (.int (l3 + (6 : Int32)))] [] h2 ro ho) : xm_E X P d co_law 2 [some (.ref l0), some (.ref l1), some (.ref l2), some (.int l3)] [] h ro ho := by
  refine xm_E_s r_law_2 rfl rfl ?_
  refine xm_E_s r_law_3 rfl rfl ?_
  refine xm_E_s r_law_4 rfl (xm_T_alenx rfl q0 q1) ?_
  refine xm_E_s r_law_5 rfl rfl ?_
  refine xm_E_s r_law_6 rfl rfl ?_
  refine xm_E_s r_law_7 rfl rfl ?_
  refine xm_E_f q2 ?_
  refine xm_E_s r_law_8 rfl rfl ?_
  refine xm_E_s r_law_9 rfl rfl ?_
  refine xm_E_s r_law_10 rfl (xm_T_ialx rfl q0 q1 (by decide) q3) ?_
  refine xm_E_s r_law_11 rfl rfl ?_
  refine xm_E_s r_law_12 rfl rfl ?_
  refine xm_E_s r_law_13 rfl (xm_T_tab (32 : Int32) 509 rfl q4 (by decide) rfl) ?_
  refine xm_E_s r_law_509 rfl rfl ?_
  refine xm_E_cv [.ref l1] [] r_law_510 rfl rfl (Nat.le_of_ble_eq_true rfl) (xm_rc q6 (by decide)) rfl q5 ?_
  refine xm_E_s r_law_511 rfl rfl ?_
  refine xm_E_cv [.ref l2] [.int r1] r_law_512 rfl rfl (Nat.le_of_ble_eq_true rfl) (xm_rc q8 (by decide)) rfl q7 ?_
  refine xm_E_s r_law_513 rfl rfl ?_
  refine xm_E_t q9 ?_
  refine xm_E_s (ls1 := [some (.ref l0), some (.ref l1), some (.ref l2), some (.int (l3 + (6 : Int32)))]) r_law_1109 rfl rfl ?_
  refine xm_E_s r_law_1110 rfl rfl ?_
  exact K
theorem p_law_2_66 {X : xm_X} {P : List xm_M} {d : Nat} {h : xm_H} {l0 : Nat} {l1 : Nat} {l2 : Nat} {l3 : Int32} {n0 : Nat} {f0 : Nat → Int32} {h1 : xm_H} {r1 : Int32} {h2 : xm_H} {r2 : Int32} (q0 : X.1[l0]? = none) (q1 : X.2.1 l0 = some (0, n0, f0)) (q2 : ¬ ((Int32.ofNat n0) - (6 : Int32) < l3)) (q3 : ¬ (l3 < 0 ∨ n0 ≤ l3.toNatClampNeg)) (q4 : (f0 l3.toNatClampNeg) &&& (63 : Int32) = (32 : Int32)) (q5 : xm_V X P d 130 [.ref l1] h (some (.int r1)) h1) (q6 : X.1[l1]? = some (.inr 9)) (q7 : xm_V X P d 292 [.ref l2] h1 (some (.int r2)) h2) (q8 : X.1[l2]? = some (.inr 10)) (q9 : ¬ (r1 = r2)) : xm_E X P d co_law 2 [some (.ref l0), some (.ref l1), some (.ref l2), some (.int l3)] [] h (some (.int (0 : Int32))) h2 := by
  refine xm_E_s r_law_2 rfl rfl ?_
  refine xm_E_s r_law_3 rfl rfl ?_
  refine xm_E_s r_law_4 rfl (xm_T_alenx rfl q0 q1) ?_
  refine xm_E_s r_law_5 rfl rfl ?_
  refine xm_E_s r_law_6 rfl rfl ?_
  refine xm_E_s r_law_7 rfl rfl ?_
  refine xm_E_f q2 ?_
  refine xm_E_s r_law_8 rfl rfl ?_
  refine xm_E_s r_law_9 rfl rfl ?_
  refine xm_E_s r_law_10 rfl (xm_T_ialx rfl q0 q1 (by decide) q3) ?_
  refine xm_E_s r_law_11 rfl rfl ?_
  refine xm_E_s r_law_12 rfl rfl ?_
  refine xm_E_s r_law_13 rfl (xm_T_tab (32 : Int32) 509 rfl q4 (by decide) rfl) ?_
  refine xm_E_s r_law_509 rfl rfl ?_
  refine xm_E_cv [.ref l1] [] r_law_510 rfl rfl (Nat.le_of_ble_eq_true rfl) (xm_rc q6 (by decide)) rfl q5 ?_
  refine xm_E_s r_law_511 rfl rfl ?_
  refine xm_E_cv [.ref l2] [.int r1] r_law_512 rfl rfl (Nat.le_of_ble_eq_true rfl) (xm_rc q8 (by decide)) rfl q7 ?_
  refine xm_E_s r_law_513 rfl rfl ?_
  refine xm_E_f q9 ?_
  refine xm_E_s r_law_514 rfl rfl ?_
  exact xm_E_iret r_law_515 rfl rfl
theorem p_law_2_67 {X : xm_X} {P : List xm_M} {d : Nat} {h : xm_H} {l0 : Nat} {l1 : Nat} {l2 : Nat} {l3 : Int32} {n0 : Nat} {f0 : Nat → Int32} {h1 : xm_H} {r1 : Int32} {h2 : xm_H} {r2 : Int32} {ro : Option Value} {ho : xm_H} (q0 : X.1[l0]? = none) (q1 : X.2.1 l0 = some (0, n0, f0)) (q2 : ¬ ((Int32.ofNat n0) - (6 : Int32) < l3)) (q3 : ¬ (l3 < 0 ∨ n0 ≤ l3.toNatClampNeg)) (q4 : (f0 l3.toNatClampNeg) &&& (63 : Int32) = (33 : Int32)) (q5 : xm_V X P d 131 [.ref l1] h (some (.int r1)) h1) (q6 : X.1[l1]? = some (.inr 9)) (q7 : xm_V X P d 293 [.ref l2] h1 (some (.int r2)) h2) (q8 : X.1[l2]? = some (.inr 10)) (q9 : r1 = r2) (K : xm_E X P d co_law 2 [some (.ref l0), some (.ref l1), some (.ref l2), some (.int (l3 + (6 : Int32)))] [] h2 ro ho) : xm_E X P d co_law 2 [some (.ref l0), some (.ref l1), some (.ref l2), some (.int l3)] [] h ro ho := by
  refine xm_E_s r_law_2 rfl rfl ?_
  refine xm_E_s r_law_3 rfl rfl ?_
  refine xm_E_s r_law_4 rfl (xm_T_alenx rfl q0 q1) ?_
  refine xm_E_s r_law_5 rfl rfl ?_
  refine xm_E_s r_law_6 rfl rfl ?_
  refine xm_E_s r_law_7 rfl rfl ?_
  refine xm_E_f q2 ?_
  refine xm_E_s r_law_8 rfl rfl ?_
  refine xm_E_s r_law_9 rfl rfl ?_
  refine xm_E_s r_law_10 rfl (xm_T_ialx rfl q0 q1 (by decide) q3) ?_
  refine xm_E_s r_law_11 rfl rfl ?_
  refine xm_E_s r_law_12 rfl rfl ?_
  refine xm_E_s r_law_13 rfl (xm_T_tab (33 : Int32) 516 rfl q4 (by decide) rfl) ?_
  refine xm_E_s r_law_516 rfl rfl ?_
  refine xm_E_cv [.ref l1] [] r_law_517 rfl rfl (Nat.le_of_ble_eq_true rfl) (xm_rc q6 (by decide)) rfl q5 ?_
  refine xm_E_s r_law_518 rfl rfl ?_
  refine xm_E_cv [.ref l2] [.int r1] r_law_519 rfl rfl (Nat.le_of_ble_eq_true rfl) (xm_rc q8 (by decide)) rfl q7 ?_
  refine xm_E_s r_law_520 rfl rfl ?_
  refine xm_E_t q9 ?_
  refine xm_E_s (ls1 := [some (.ref l0), some (.ref l1), some (.ref l2), some (.int (l3 + (6 : Int32)))]) r_law_1109 rfl rfl ?_
  refine xm_E_s r_law_1110 rfl rfl ?_
  exact K
theorem p_law_2_68 {X : xm_X} {P : List xm_M} {d : Nat} {h : xm_H} {l0 : Nat} {l1 : Nat} {l2 : Nat} {l3 : Int32} {n0 : Nat} {f0 : Nat → Int32} {h1 : xm_H} {r1 : Int32} {h2 : xm_H} {r2 : Int32} (q0 : X.1[l0]? = none) (q1 : X.2.1 l0 = some (0, n0, f0)) (q2 : ¬ ((Int32.ofNat n0) - (6 : Int32) < l3)) (q3 : ¬ (l3 < 0 ∨ n0 ≤ l3.toNatClampNeg)) (q4 : (f0 l3.toNatClampNeg) &&& (63 : Int32) = (33 : Int32)) (q5 : xm_V X P d 131 [.ref l1] h (some (.int r1)) h1) (q6 : X.1[l1]? = some (.inr 9)) (q7 : xm_V X P d 293 [.ref l2] h1 (some (.int r2)) h2) (q8 : X.1[l2]? = some (.inr 10)) (q9 : ¬ (r1 = r2)) : xm_E X P d co_law 2 [some (.ref l0), some (.ref l1), some (.ref l2), some (.int l3)] [] h (some (.int (0 : Int32))) h2 := by
  refine xm_E_s r_law_2 rfl rfl ?_
  refine xm_E_s r_law_3 rfl rfl ?_
  refine xm_E_s r_law_4 rfl (xm_T_alenx rfl q0 q1) ?_
  refine xm_E_s r_law_5 rfl rfl ?_
  refine xm_E_s r_law_6 rfl rfl ?_
  refine xm_E_s r_law_7 rfl rfl ?_
  refine xm_E_f q2 ?_
  refine xm_E_s r_law_8 rfl rfl ?_
  refine xm_E_s r_law_9 rfl rfl ?_
  refine xm_E_s r_law_10 rfl (xm_T_ialx rfl q0 q1 (by decide) q3) ?_
  refine xm_E_s r_law_11 rfl rfl ?_
  refine xm_E_s r_law_12 rfl rfl ?_
  refine xm_E_s r_law_13 rfl (xm_T_tab (33 : Int32) 516 rfl q4 (by decide) rfl) ?_
  refine xm_E_s r_law_516 rfl rfl ?_
  refine xm_E_cv [.ref l1] [] r_law_517 rfl rfl (Nat.le_of_ble_eq_true rfl) (xm_rc q6 (by decide)) rfl q5 ?_
  refine xm_E_s r_law_518 rfl rfl ?_
  refine xm_E_cv [.ref l2] [.int r1] r_law_519 rfl rfl (Nat.le_of_ble_eq_true rfl) (xm_rc q8 (by decide)) rfl q7 ?_
  refine xm_E_s r_law_520 rfl rfl ?_
  refine xm_E_f q9 ?_
  refine xm_E_s r_law_521 rfl rfl ?_
  exact xm_E_iret r_law_522 rfl rfl
theorem p_law_2_69 {X : xm_X} {P : List xm_M} {d : Nat} {h : xm_H} {l0 : Nat} {l1 : Nat} {l2 : Nat} {l3 : Int32} {n0 : Nat} {f0 : Nat → Int32} {h1 : xm_H} {r1 : Int32} {h2 : xm_H} {r2 : Int32} {ro : Option Value} {ho : xm_H} (q0 : X.1[l0]? = none) (q1 : X.2.1 l0 = some (0, n0, f0)) (q2 : ¬ ((Int32.ofNat n0) - (6 : Int32) < l3)) (q3 : ¬ (l3 < 0 ∨ n0 ≤ l3.toNatClampNeg)) (q4 : (f0 l3.toNatClampNeg) &&& (63 : Int32) = (34 : Int32)) (q5 : ¬ (l3 + (1 : Int32) < 0 ∨ n0 ≤ (l3 + (1 : Int32)).toNatClampNeg)) (q6 : ¬ (l3 + (2 : Int32) < 0 ∨ n0 ≤ (l3 + (2 : Int32)).toNatClampNeg)) (q7 : xm_V X P d 133 [.ref l1, .int (f0 ((l3 + (1 : Int32)).toNatClampNeg)), .int (f0 ((l3 + (2 : Int32)).toNatClampNeg))] h (some (.int r1)) h1) (q8 : X.1[l1]? = some (.inr 9)) (q9 : xm_V X P d 294 [.ref l2, .int (f0 ((l3 + (1 : Int32)).toNatClampNeg)), .int (f0 ((l3 + (2 : Int32)).toNatClampNeg))] h1 (some (.int r2)) h2) (q10 : X.1[l2]? = some (.inr 10)) (q11 : r1 = r2) (K : xm_E X P d co_law 2 [some (.ref l0), some (.ref l1), some (.ref l2), some (.int (l3 + (6 : Int32)))] [] h2 ro ho) : xm_E X P d co_law 2 [some (.ref l0), some (.ref l1), some (.ref l2), some (.int l3)] [] h ro ho := by
  refine xm_E_s r_law_2 rfl rfl ?_
  refine xm_E_s r_law_3 rfl rfl ?_
  refine xm_E_s r_law_4 rfl (xm_T_alenx rfl q0 q1) ?_
  refine xm_E_s r_law_5 rfl rfl ?_
  refine xm_E_s r_law_6 rfl rfl ?_
  refine xm_E_s r_law_7 rfl rfl ?_
  refine xm_E_f q2 ?_
  refine xm_E_s r_law_8 rfl rfl ?_
  refine xm_E_s r_law_9 rfl rfl ?_
  refine xm_E_s r_law_10 rfl (xm_T_ialx rfl q0 q1 (by decide) q3) ?_
  refine xm_E_s r_law_11 rfl rfl ?_
  refine xm_E_s r_law_12 rfl rfl ?_
  refine xm_E_s r_law_13 rfl (xm_T_tab (34 : Int32) 523 rfl q4 (by decide) rfl) ?_
  refine xm_E_s r_law_523 rfl rfl ?_
  refine xm_E_s r_law_524 rfl rfl ?_
  refine xm_E_s r_law_525 rfl rfl ?_
  refine xm_E_s r_law_526 rfl rfl ?_
  refine xm_E_s r_law_527 rfl rfl ?_
  refine xm_E_s r_law_528 rfl (xm_T_ialx rfl q0 q1 (by decide) q5) ?_
  refine xm_E_s r_law_529 rfl rfl ?_
  refine xm_E_s r_law_530 rfl rfl ?_
  refine xm_E_s r_law_531 rfl rfl ?_
  refine xm_E_s r_law_532 rfl rfl ?_
  refine xm_E_s r_law_533 rfl (xm_T_ialx rfl q0 q1 (by decide) q6) ?_
  refine xm_E_cv [.ref l1, .int (f0 ((l3 + (1 : Int32)).toNatClampNeg)), .int (f0 ((l3 + (2 : Int32)).toNatClampNeg))] [] r_law_534 rfl rfl (Nat.le_of_ble_eq_true rfl) (xm_rc q8 (by decide)) rfl q7 ?_
  refine xm_E_s r_law_535 rfl rfl ?_
  refine xm_E_s r_law_536 rfl rfl ?_
  refine xm_E_s r_law_537 rfl rfl ?_
  refine xm_E_s r_law_538 rfl rfl ?_
  refine xm_E_s r_law_539 rfl rfl ?_
  refine xm_E_s r_law_540 rfl (xm_T_ialx rfl q0 q1 (by decide) q5) ?_
  refine xm_E_s r_law_541 rfl rfl ?_
  refine xm_E_s r_law_542 rfl rfl ?_
  refine xm_E_s r_law_543 rfl rfl ?_
  refine xm_E_s r_law_544 rfl rfl ?_
  refine xm_E_s r_law_545 rfl (xm_T_ialx rfl q0 q1 (by decide) q6) ?_
  refine xm_E_cv [.ref l2, .int (f0 ((l3 + (1 : Int32)).toNatClampNeg)), .int (f0 ((l3 + (2 : Int32)).toNatClampNeg))] [.int r1] r_law_546 rfl rfl (Nat.le_of_ble_eq_true rfl) (xm_rc q10 (by decide)) rfl q9 ?_
  refine xm_E_s r_law_547 rfl rfl ?_
  refine xm_E_t q11 ?_
  refine xm_E_s (ls1 := [some (.ref l0), some (.ref l1), some (.ref l2), some (.int (l3 + (6 : Int32)))]) r_law_1109 rfl rfl ?_
  refine xm_E_s r_law_1110 rfl rfl ?_
  exact K
theorem p_law_2_70 {X : xm_X} {P : List xm_M} {d : Nat} {h : xm_H} {l0 : Nat} {l1 : Nat} {l2 : Nat} {l3 : Int32} {n0 : Nat} {f0 : Nat → Int32} {h1 : xm_H} {r1 : Int32} {h2 : xm_H} {r2 : Int32} (q0 : X.1[l0]? = none) (q1 : X.2.1 l0 = some (0, n0, f0)) (q2 : ¬ ((Int32.ofNat n0) - (6 : Int32) < l3)) (q3 : ¬ (l3 < 0 ∨ n0 ≤ l3.toNatClampNeg)) (q4 : (f0 l3.toNatClampNeg) &&& (63 : Int32) = (34 : Int32)) (q5 : ¬ (l3 + (1 : Int32) < 0 ∨ n0 ≤ (l3 + (1 : Int32)).toNatClampNeg)) (q6 : ¬ (l3 + (2 : Int32) < 0 ∨ n0 ≤ (l3 + (2 : Int32)).toNatClampNeg)) (q7 : xm_V X P d 133 [.ref l1, .int (f0 ((l3 + (1 : Int32)).toNatClampNeg)), .int (f0 ((l3 + (2 : Int32)).toNatClampNeg))] h (some (.int r1)) h1) (q8 : X.1[l1]? = some (.inr 9)) (q9 : xm_V X P d 294 [.ref l2, .int (f0 ((l3 + (1 : Int32)).toNatClampNeg)), .int (f0 ((l3 + (2 : Int32)).toNatClampNeg))] h1 (some (.int r2)) h2) (q10 : X.1[l2]? = some (.inr 10)) (q11 : ¬ (r1 = r2)) : xm_E X P d co_law 2 [some (.ref l0), some (.ref l1), some (.ref l2), some (.int l3)] [] h (some (.int (0 : Int32))) h2 := by
  refine xm_E_s r_law_2 rfl rfl ?_
  refine xm_E_s r_law_3 rfl rfl ?_
  refine xm_E_s r_law_4 rfl (xm_T_alenx rfl q0 q1) ?_
  refine xm_E_s r_law_5 rfl rfl ?_
  refine xm_E_s r_law_6 rfl rfl ?_
  refine xm_E_s r_law_7 rfl rfl ?_
  refine xm_E_f q2 ?_
  refine xm_E_s r_law_8 rfl rfl ?_
  refine xm_E_s r_law_9 rfl rfl ?_
  refine xm_E_s r_law_10 rfl (xm_T_ialx rfl q0 q1 (by decide) q3) ?_
  refine xm_E_s r_law_11 rfl rfl ?_
  refine xm_E_s r_law_12 rfl rfl ?_
  refine xm_E_s r_law_13 rfl (xm_T_tab (34 : Int32) 523 rfl q4 (by decide) rfl) ?_
  refine xm_E_s r_law_523 rfl rfl ?_
  refine xm_E_s r_law_524 rfl rfl ?_
  refine xm_E_s r_law_525 rfl rfl ?_
  refine xm_E_s r_law_526 rfl rfl ?_
  refine xm_E_s r_law_527 rfl rfl ?_
  refine xm_E_s r_law_528 rfl (xm_T_ialx rfl q0 q1 (by decide) q5) ?_
  refine xm_E_s r_law_529 rfl rfl ?_
  refine xm_E_s r_law_530 rfl rfl ?_
  refine xm_E_s r_law_531 rfl rfl ?_
  refine xm_E_s r_law_532 rfl rfl ?_
  refine xm_E_s r_law_533 rfl (xm_T_ialx rfl q0 q1 (by decide) q6) ?_
  refine xm_E_cv [.ref l1, .int (f0 ((l3 + (1 : Int32)).toNatClampNeg)), .int (f0 ((l3 + (2 : Int32)).toNatClampNeg))] [] r_law_534 rfl rfl (Nat.le_of_ble_eq_true rfl) (xm_rc q8 (by decide)) rfl q7 ?_
  refine xm_E_s r_law_535 rfl rfl ?_
  refine xm_E_s r_law_536 rfl rfl ?_
  refine xm_E_s r_law_537 rfl rfl ?_
  refine xm_E_s r_law_538 rfl rfl ?_
  refine xm_E_s r_law_539 rfl rfl ?_
  refine xm_E_s r_law_540 rfl (xm_T_ialx rfl q0 q1 (by decide) q5) ?_
  refine xm_E_s r_law_541 rfl rfl ?_
  refine xm_E_s r_law_542 rfl rfl ?_
  refine xm_E_s r_law_543 rfl rfl ?_
  refine xm_E_s r_law_544 rfl rfl ?_
  refine xm_E_s r_law_545 rfl (xm_T_ialx rfl q0 q1 (by decide) q6) ?_
  refine xm_E_cv [.ref l2, .int (f0 ((l3 + (1 : Int32)).toNatClampNeg)), .int (f0 ((l3 + (2 : Int32)).toNatClampNeg))] [.int r1] r_law_546 rfl rfl (Nat.le_of_ble_eq_true rfl) (xm_rc q10 (by decide)) rfl q9 ?_
  refine xm_E_s r_law_547 rfl rfl ?_
  refine xm_E_f q11 ?_
  refine xm_E_s r_law_548 rfl rfl ?_
  exact xm_E_iret r_law_549 rfl rfl
theorem p_law_2_71 {X : xm_X} {P : List xm_M} {d : Nat} {h : xm_H} {l0 : Nat} {l1 : Nat} {l2 : Nat} {l3 : Int32} {n0 : Nat} {f0 : Nat → Int32} {h1 : xm_H} {r1 : Int32} {h2 : xm_H} {r2 : Int32} {ro : Option Value} {ho : xm_H} (q0 : X.1[l0]? = none) (q1 : X.2.1 l0 = some (0, n0, f0)) (q2 : ¬ ((Int32.ofNat n0) - (6 : Int32) < l3)) (q3 : ¬ (l3 < 0 ∨ n0 ≤ l3.toNatClampNeg)) (q4 : (f0 l3.toNatClampNeg) &&& (63 : Int32) = (35 : Int32)) (q5 : ¬ (l3 + (1 : Int32) < 0 ∨ n0 ≤ (l3 + (1 : Int32)).toNatClampNeg)) (q6 : ¬ (l3 + (2 : Int32) < 0 ∨ n0 ≤ (l3 + (2 : Int32)).toNatClampNeg)) (q7 : xm_V X P d 138 [.ref l1, .int (f0 ((l3 + (1 : Int32)).toNatClampNeg)), .int (f0 ((l3 + (2 : Int32)).toNatClampNeg))] h (some (.int r1)) h1) (q8 : X.1[l1]? = some (.inr 9)) (q9 : xm_V X P d 299 [.ref l2, .int (f0 ((l3 + (1 : Int32)).toNatClampNeg)), .int (f0 ((l3 + (2 : Int32)).toNatClampNeg))] h1 (some (.int r2)) h2) (q10 : X.1[l2]? = some (.inr 10)) (q11 : r1 = r2) (K : xm_E X P d co_law 2 [some (.ref l0), some (.ref l1), some (.ref l2), some (.int (l3 + (6 : Int32)))] [] h2 ro ho) : xm_E X P d co_law 2 [some (.ref l0), some (.ref l1), some (.ref l2), some (.int l3)] [] h ro ho := by
  refine xm_E_s r_law_2 rfl rfl ?_
  refine xm_E_s r_law_3 rfl rfl ?_
  refine xm_E_s r_law_4 rfl (xm_T_alenx rfl q0 q1) ?_
  refine xm_E_s r_law_5 rfl rfl ?_
  refine xm_E_s r_law_6 rfl rfl ?_
  refine xm_E_s r_law_7 rfl rfl ?_
  refine xm_E_f q2 ?_
  refine xm_E_s r_law_8 rfl rfl ?_
  refine xm_E_s r_law_9 rfl rfl ?_
  refine xm_E_s r_law_10 rfl (xm_T_ialx rfl q0 q1 (by decide) q3) ?_
  refine xm_E_s r_law_11 rfl rfl ?_
  refine xm_E_s r_law_12 rfl rfl ?_
  refine xm_E_s r_law_13 rfl (xm_T_tab (35 : Int32) 550 rfl q4 (by decide) rfl) ?_
  refine xm_E_s r_law_550 rfl rfl ?_
  refine xm_E_s r_law_551 rfl rfl ?_
  refine xm_E_s r_law_552 rfl rfl ?_
  refine xm_E_s r_law_553 rfl rfl ?_
  refine xm_E_s r_law_554 rfl rfl ?_
  refine xm_E_s r_law_555 rfl (xm_T_ialx rfl q0 q1 (by decide) q5) ?_
  refine xm_E_s r_law_556 rfl rfl ?_
  refine xm_E_s r_law_557 rfl rfl ?_
  refine xm_E_s r_law_558 rfl rfl ?_
  refine xm_E_s r_law_559 rfl rfl ?_
  refine xm_E_s r_law_560 rfl (xm_T_ialx rfl q0 q1 (by decide) q6) ?_
  refine xm_E_cv [.ref l1, .int (f0 ((l3 + (1 : Int32)).toNatClampNeg)), .int (f0 ((l3 + (2 : Int32)).toNatClampNeg))] [] r_law_561 rfl rfl (Nat.le_of_ble_eq_true rfl) (xm_rc q8 (by decide)) rfl q7 ?_
  refine xm_E_s r_law_562 rfl rfl ?_
  refine xm_E_s r_law_563 rfl rfl ?_
  refine xm_E_s r_law_564 rfl rfl ?_
  refine xm_E_s r_law_565 rfl rfl ?_
  refine xm_E_s r_law_566 rfl rfl ?_
  refine xm_E_s r_law_567 rfl (xm_T_ialx rfl q0 q1 (by decide) q5) ?_
  refine xm_E_s r_law_568 rfl rfl ?_
  refine xm_E_s r_law_569 rfl rfl ?_
  refine xm_E_s r_law_570 rfl rfl ?_
  refine xm_E_s r_law_571 rfl rfl ?_
  refine xm_E_s r_law_572 rfl (xm_T_ialx rfl q0 q1 (by decide) q6) ?_
  refine xm_E_cv [.ref l2, .int (f0 ((l3 + (1 : Int32)).toNatClampNeg)), .int (f0 ((l3 + (2 : Int32)).toNatClampNeg))] [.int r1] r_law_573 rfl rfl (Nat.le_of_ble_eq_true rfl) (xm_rc q10 (by decide)) rfl q9 ?_
  refine xm_E_s r_law_574 rfl rfl ?_
  refine xm_E_t q11 ?_
  refine xm_E_s (ls1 := [some (.ref l0), some (.ref l1), some (.ref l2), some (.int (l3 + (6 : Int32)))]) r_law_1109 rfl rfl ?_
  refine xm_E_s r_law_1110 rfl rfl ?_
  exact K
theorem p_law_2_72 {X : xm_X} {P : List xm_M} {d : Nat} {h : xm_H} {l0 : Nat} {l1 : Nat} {l2 : Nat} {l3 : Int32} {n0 : Nat} {f0 : Nat → Int32} {h1 : xm_H} {r1 : Int32} {h2 : xm_H} {r2 : Int32} (q0 : X.1[l0]? = none) (q1 : X.2.1 l0 = some (0, n0, f0)) (q2 : ¬ ((Int32.ofNat n0) - (6 : Int32) < l3)) (q3 : ¬ (l3 < 0 ∨ n0 ≤ l3.toNatClampNeg)) (q4 : (f0 l3.toNatClampNeg) &&& (63 : Int32) = (35 : Int32)) (q5 : ¬ (l3 + (1 : Int32) < 0 ∨ n0 ≤ (l3 + (1 : Int32)).toNatClampNeg)) (q6 : ¬ (l3 + (2 : Int32) < 0 ∨ n0 ≤ (l3 + (2 : Int32)).toNatClampNeg)) (q7 : xm_V X P d 138 [.ref l1, .int (f0 ((l3 + (1 : Int32)).toNatClampNeg)), .int (f0 ((l3 + (2 : Int32)).toNatClampNeg))] h (some (.int r1)) h1) (q8 : X.1[l1]? = some (.inr 9)) (q9 : xm_V X P d 299 [.ref l2, .int (f0 ((l3 + (1 : Int32)).toNatClampNeg)), .int (f0 ((l3 + (2 : Int32)).toNatClampNeg))] h1 (some (.int r2)) h2) (q10 : X.1[l2]? = some (.inr 10)) (q11 : ¬ (r1 = r2)) : xm_E X P d co_law 2 [some (.ref l0), some (.ref l1), some (.ref l2), some (.int l3)] [] h (some (.int (0 : Int32))) h2 := by
  refine xm_E_s r_law_2 rfl rfl ?_
  refine xm_E_s r_law_3 rfl rfl ?_
  refine xm_E_s r_law_4 rfl (xm_T_alenx rfl q0 q1) ?_
  refine xm_E_s r_law_5 rfl rfl ?_
  refine xm_E_s r_law_6 rfl rfl ?_
  refine xm_E_s r_law_7 rfl rfl ?_
  refine xm_E_f q2 ?_
  refine xm_E_s r_law_8 rfl rfl ?_
  refine xm_E_s r_law_9 rfl rfl ?_
  refine xm_E_s r_law_10 rfl (xm_T_ialx rfl q0 q1 (by decide) q3) ?_
  refine xm_E_s r_law_11 rfl rfl ?_
  refine xm_E_s r_law_12 rfl rfl ?_
  refine xm_E_s r_law_13 rfl (xm_T_tab (35 : Int32) 550 rfl q4 (by decide) rfl) ?_
  refine xm_E_s r_law_550 rfl rfl ?_
  refine xm_E_s r_law_551 rfl rfl ?_
  refine xm_E_s r_law_552 rfl rfl ?_
  refine xm_E_s r_law_553 rfl rfl ?_
  refine xm_E_s r_law_554 rfl rfl ?_
  refine xm_E_s r_law_555 rfl (xm_T_ialx rfl q0 q1 (by decide) q5) ?_
  refine xm_E_s r_law_556 rfl rfl ?_
  refine xm_E_s r_law_557 rfl rfl ?_
  refine xm_E_s r_law_558 rfl rfl ?_
  refine xm_E_s r_law_559 rfl rfl ?_
  refine xm_E_s r_law_560 rfl (xm_T_ialx rfl q0 q1 (by decide) q6) ?_
  refine xm_E_cv [.ref l1, .int (f0 ((l3 + (1 : Int32)).toNatClampNeg)), .int (f0 ((l3 + (2 : Int32)).toNatClampNeg))] [] r_law_561 rfl rfl (Nat.le_of_ble_eq_true rfl) (xm_rc q8 (by decide)) rfl q7 ?_
  refine xm_E_s r_law_562 rfl rfl ?_
  refine xm_E_s r_law_563 rfl rfl ?_
  refine xm_E_s r_law_564 rfl rfl ?_
  refine xm_E_s r_law_565 rfl rfl ?_
  refine xm_E_s r_law_566 rfl rfl ?_
  refine xm_E_s r_law_567 rfl (xm_T_ialx rfl q0 q1 (by decide) q5) ?_
  refine xm_E_s r_law_568 rfl rfl ?_
  refine xm_E_s r_law_569 rfl rfl ?_
  refine xm_E_s r_law_570 rfl rfl ?_
  refine xm_E_s r_law_571 rfl rfl ?_
  refine xm_E_s r_law_572 rfl (xm_T_ialx rfl q0 q1 (by decide) q6) ?_
  refine xm_E_cv [.ref l2, .int (f0 ((l3 + (1 : Int32)).toNatClampNeg)), .int (f0 ((l3 + (2 : Int32)).toNatClampNeg))] [.int r1] r_law_573 rfl rfl (Nat.le_of_ble_eq_true rfl) (xm_rc q10 (by decide)) rfl q9 ?_
  refine xm_E_s r_law_574 rfl rfl ?_
  refine xm_E_f q11 ?_
  refine xm_E_s r_law_575 rfl rfl ?_
  exact xm_E_iret r_law_576 rfl rfl
theorem p_law_2_73 {X : xm_X} {P : List xm_M} {d : Nat} {h : xm_H} {l0 : Nat} {l1 : Nat} {l2 : Nat} {l3 : Int32} {n0 : Nat} {f0 : Nat → Int32} {h1 : xm_H} {r1 : Int32} {h2 : xm_H} {r2 : Int32} {ro : Option Value} {ho : xm_H} (q0 : X.1[l0]? = none) (q1 : X.2.1 l0 = some (0, n0, f0)) (q2 : ¬ ((Int32.ofNat n0) - (6 : Int32) < l3)) (q3 : ¬ (l3 < 0 ∨ n0 ≤ l3.toNatClampNeg)) (q4 : (f0 l3.toNatClampNeg) &&& (63 : Int32) = (36 : Int32)) (q5 : ¬ (l3 + (1 : Int32) < 0 ∨ n0 ≤ (l3 + (1 : Int32)).toNatClampNeg)) (q6 : ¬ (l3 + (2 : Int32) < 0 ∨ n0 ≤ (l3 + (2 : Int32)).toNatClampNeg)) (q7 : xm_V X P d 140 [.ref l1, .int (f0 ((l3 + (1 : Int32)).toNatClampNeg)), .int (f0 ((l3 + (2 : Int32)).toNatClampNeg))] h (some (.int r1)) h1) (q8 : X.1[l1]? = some (.inr 9)) (q9 : xm_V X P d 301 [.ref l2, .int (f0 ((l3 + (1 : Int32)).toNatClampNeg)), .int (f0 ((l3 + (2 : Int32)).toNatClampNeg))] h1 (some (.int r2)) h2) (q10 : X.1[l2]? = some (.inr 10)) (q11 : r1 = r2) (K : xm_E X P d co_law 2 [some (.ref l0), some (.ref l1), some (.ref l2), some (.int (l3 + (6 : Int32)))] [] h2 ro ho) : xm_E X P d co_law 2 [some (.ref l0), some (.ref l1), some (.ref l2), some (.int l3)] [] h ro ho := by
  refine xm_E_s r_law_2 rfl rfl ?_
  refine xm_E_s r_law_3 rfl rfl ?_
  refine xm_E_s r_law_4 rfl (xm_T_alenx rfl q0 q1) ?_
  refine xm_E_s r_law_5 rfl rfl ?_
  refine xm_E_s r_law_6 rfl rfl ?_
  refine xm_E_s r_law_7 rfl rfl ?_
  refine xm_E_f q2 ?_
  refine xm_E_s r_law_8 rfl rfl ?_
  refine xm_E_s r_law_9 rfl rfl ?_
  refine xm_E_s r_law_10 rfl (xm_T_ialx rfl q0 q1 (by decide) q3) ?_
  refine xm_E_s r_law_11 rfl rfl ?_
  refine xm_E_s r_law_12 rfl rfl ?_
  refine xm_E_s r_law_13 rfl (xm_T_tab (36 : Int32) 577 rfl q4 (by decide) rfl) ?_
  refine xm_E_s r_law_577 rfl rfl ?_
  refine xm_E_s r_law_578 rfl rfl ?_
  refine xm_E_s r_law_579 rfl rfl ?_
  refine xm_E_s r_law_580 rfl rfl ?_
  refine xm_E_s r_law_581 rfl rfl ?_
  refine xm_E_s r_law_582 rfl (xm_T_ialx rfl q0 q1 (by decide) q5) ?_
  refine xm_E_s r_law_583 rfl rfl ?_
  refine xm_E_s r_law_584 rfl rfl ?_
  refine xm_E_s r_law_585 rfl rfl ?_
  refine xm_E_s r_law_586 rfl rfl ?_
  refine xm_E_s r_law_587 rfl (xm_T_ialx rfl q0 q1 (by decide) q6) ?_
  refine xm_E_cv [.ref l1, .int (f0 ((l3 + (1 : Int32)).toNatClampNeg)), .int (f0 ((l3 + (2 : Int32)).toNatClampNeg))] [] r_law_588 rfl rfl (Nat.le_of_ble_eq_true rfl) (xm_rc q8 (by decide)) rfl q7 ?_
  refine xm_E_s r_law_589 rfl rfl ?_
  refine xm_E_s r_law_590 rfl rfl ?_
  refine xm_E_s r_law_591 rfl rfl ?_
  refine xm_E_s r_law_592 rfl rfl ?_
  refine xm_E_s r_law_593 rfl rfl ?_
  refine xm_E_s r_law_594 rfl (xm_T_ialx rfl q0 q1 (by decide) q5) ?_
  refine xm_E_s r_law_595 rfl rfl ?_
  refine xm_E_s r_law_596 rfl rfl ?_
  refine xm_E_s r_law_597 rfl rfl ?_
  refine xm_E_s r_law_598 rfl rfl ?_
  refine xm_E_s r_law_599 rfl (xm_T_ialx rfl q0 q1 (by decide) q6) ?_
  refine xm_E_cv [.ref l2, .int (f0 ((l3 + (1 : Int32)).toNatClampNeg)), .int (f0 ((l3 + (2 : Int32)).toNatClampNeg))] [.int r1] r_law_600 rfl rfl (Nat.le_of_ble_eq_true rfl) (xm_rc q10 (by decide)) rfl q9 ?_
  refine xm_E_s r_law_601 rfl rfl ?_
  refine xm_E_t q11 ?_
  refine xm_E_s (ls1 := [some (.ref l0), some (.ref l1), some (.ref l2), some (.int (l3 + (6 : Int32)))]) r_law_1109 rfl rfl ?_
  refine xm_E_s r_law_1110 rfl rfl ?_
  exact K
theorem p_law_2_74 {X : xm_X} {P : List xm_M} {d : Nat} {h : xm_H} {l0 : Nat} {l1 : Nat} {l2 : Nat} {l3 : Int32} {n0 : Nat} {f0 : Nat → Int32} {h1 : xm_H} {r1 : Int32} {h2 : xm_H} {r2 : Int32} (q0 : X.1[l0]? = none) (q1 : X.2.1 l0 = some (0, n0, f0)) (q2 : ¬ ((Int32.ofNat n0) - (6 : Int32) < l3)) (q3 : ¬ (l3 < 0 ∨ n0 ≤ l3.toNatClampNeg)) (q4 : (f0 l3.toNatClampNeg) &&& (63 : Int32) = (36 : Int32)) (q5 : ¬ (l3 + (1 : Int32) < 0 ∨ n0 ≤ (l3 + (1 : Int32)).toNatClampNeg)) (q6 : ¬ (l3 + (2 : Int32) < 0 ∨ n0 ≤ (l3 + (2 : Int32)).toNatClampNeg)) (q7 : xm_V X P d 140 [.ref l1, .int (f0 ((l3 + (1 : Int32)).toNatClampNeg)), .int (f0 ((l3 + (2 : Int32)).toNatClampNeg))] h (some (.int r1)) h1) (q8 : X.1[l1]? = some (.inr 9)) (q9 : xm_V X P d 301 [.ref l2, .int (f0 ((l3 + (1 : Int32)).toNatClampNeg)), .int (f0 ((l3 + (2 : Int32)).toNatClampNeg))] h1 (some (.int r2)) h2) (q10 : X.1[l2]? = some (.inr 10)) (q11 : ¬ (r1 = r2)) : xm_E X P d co_law 2 [some (.ref l0), some (.ref l1), some (.ref l2), some (.int l3)] [] h (some (.int (0 : Int32))) h2 := by
  refine xm_E_s r_law_2 rfl rfl ?_
  refine xm_E_s r_law_3 rfl rfl ?_
  refine xm_E_s r_law_4 rfl (xm_T_alenx rfl q0 q1) ?_
  refine xm_E_s r_law_5 rfl rfl ?_
  refine xm_E_s r_law_6 rfl rfl ?_
  refine xm_E_s r_law_7 rfl rfl ?_
  refine xm_E_f q2 ?_
  refine xm_E_s r_law_8 rfl rfl ?_
  refine xm_E_s r_law_9 rfl rfl ?_
  refine xm_E_s r_law_10 rfl (xm_T_ialx rfl q0 q1 (by decide) q3) ?_
  refine xm_E_s r_law_11 rfl rfl ?_
  refine xm_E_s r_law_12 rfl rfl ?_
  refine xm_E_s r_law_13 rfl (xm_T_tab (36 : Int32) 577 rfl q4 (by decide) rfl) ?_
  refine xm_E_s r_law_577 rfl rfl ?_
  refine xm_E_s r_law_578 rfl rfl ?_
  refine xm_E_s r_law_579 rfl rfl ?_
  refine xm_E_s r_law_580 rfl rfl ?_
  refine xm_E_s r_law_581 rfl rfl ?_
  refine xm_E_s r_law_582 rfl (xm_T_ialx rfl q0 q1 (by decide) q5) ?_
  refine xm_E_s r_law_583 rfl rfl ?_
  refine xm_E_s r_law_584 rfl rfl ?_
  refine xm_E_s r_law_585 rfl rfl ?_
  refine xm_E_s r_law_586 rfl rfl ?_
  refine xm_E_s r_law_587 rfl (xm_T_ialx rfl q0 q1 (by decide) q6) ?_
  refine xm_E_cv [.ref l1, .int (f0 ((l3 + (1 : Int32)).toNatClampNeg)), .int (f0 ((l3 + (2 : Int32)).toNatClampNeg))] [] r_law_588 rfl rfl (Nat.le_of_ble_eq_true rfl) (xm_rc q8 (by decide)) rfl q7 ?_
  refine xm_E_s r_law_589 rfl rfl ?_
  refine xm_E_s r_law_590 rfl rfl ?_
  refine xm_E_s r_law_591 rfl rfl ?_
  refine xm_E_s r_law_592 rfl rfl ?_
  refine xm_E_s r_law_593 rfl rfl ?_
  refine xm_E_s r_law_594 rfl (xm_T_ialx rfl q0 q1 (by decide) q5) ?_
  refine xm_E_s r_law_595 rfl rfl ?_
  refine xm_E_s r_law_596 rfl rfl ?_
  refine xm_E_s r_law_597 rfl rfl ?_
  refine xm_E_s r_law_598 rfl rfl ?_
  refine xm_E_s r_law_599 rfl (xm_T_ialx rfl q0 q1 (by decide) q6) ?_
  refine xm_E_cv [.ref l2, .int (f0 ((l3 + (1 : Int32)).toNatClampNeg)), .int (f0 ((l3 + (2 : Int32)).toNatClampNeg))] [.int r1] r_law_600 rfl rfl (Nat.le_of_ble_eq_true rfl) (xm_rc q10 (by decide)) rfl q9 ?_
  refine xm_E_s r_law_601 rfl rfl ?_
  refine xm_E_f q11 ?_
  refine xm_E_s r_law_602 rfl rfl ?_
  exact xm_E_iret r_law_603 rfl rfl
theorem p_law_2_75 {X : xm_X} {P : List xm_M} {d : Nat} {h : xm_H} {l0 : Nat} {l1 : Nat} {l2 : Nat} {l3 : Int32} {n0 : Nat} {f0 : Nat → Int32} {h1 : xm_H} {r1 : Int64} {h2 : xm_H} {r2 : Int64} {ro : Option Value} {ho : xm_H} (q0 : X.1[l0]? = none) (q1 : X.2.1 l0 = some (0, n0, f0)) (q2 : ¬ ((Int32.ofNat n0) - (6 : Int32) < l3)) (q3 : ¬ (l3 < 0 ∨ n0 ≤ l3.toNatClampNeg)) (q4 : (f0 l3.toNatClampNeg) &&& (63 : Int32) = (37 : Int32)) (q5 : ¬ (l3 + (1 : Int32) < 0 ∨ n0 ≤ (l3 + (1 : Int32)).toNatClampNeg)) (q6 : ¬ (l3 + (2 : Int32) < 0 ∨ n0 ≤ (l3 + (2 : Int32)).toNatClampNeg)) (q7 : xm_V X P d 141 [.ref l1, .int (f0 ((l3 + (1 : Int32)).toNatClampNeg)), .int (f0 ((l3 + (2 : Int32)).toNatClampNeg))] h (some (.long r1)) h1) (q8 : X.1[l1]? = some (.inr 9)) (q9 : xm_V X P d 302 [.ref l2, .int (f0 ((l3 + (1 : Int32)).toNatClampNeg)), .int (f0 ((l3 + (2 : Int32)).toNatClampNeg))] h1 (some (.long r2)) h2) (q10 : X.1[l2]? = some (.inr 10)) (q11 : lg_cmp r1 r2 = (0 : Int32)) (K : xm_E X P d co_law 2 [some (.ref l0), some (.ref l1), some (.ref l2), some (.int (l3 + (6 : Int32)))] [] h2 ro ho) : xm_E X P d co_law 2 [some (.ref l0), some (.ref l1), some (.ref l2), some (.int l3)] [] h ro ho := by
  refine xm_E_s r_law_2 rfl rfl ?_
  refine xm_E_s r_law_3 rfl rfl ?_
  refine xm_E_s r_law_4 rfl (xm_T_alenx rfl q0 q1) ?_
  refine xm_E_s r_law_5 rfl rfl ?_
  refine xm_E_s r_law_6 rfl rfl ?_
  refine xm_E_s r_law_7 rfl rfl ?_
  refine xm_E_f q2 ?_
  refine xm_E_s r_law_8 rfl rfl ?_
  refine xm_E_s r_law_9 rfl rfl ?_
  refine xm_E_s r_law_10 rfl (xm_T_ialx rfl q0 q1 (by decide) q3) ?_
  refine xm_E_s r_law_11 rfl rfl ?_
  refine xm_E_s r_law_12 rfl rfl ?_
  refine xm_E_s r_law_13 rfl (xm_T_tab (37 : Int32) 604 rfl q4 (by decide) rfl) ?_
  refine xm_E_s r_law_604 rfl rfl ?_
  refine xm_E_s r_law_605 rfl rfl ?_
  refine xm_E_s r_law_606 rfl rfl ?_
  refine xm_E_s r_law_607 rfl rfl ?_
  refine xm_E_s r_law_608 rfl rfl ?_
  refine xm_E_s r_law_609 rfl (xm_T_ialx rfl q0 q1 (by decide) q5) ?_
  refine xm_E_s r_law_610 rfl rfl ?_
  refine xm_E_s r_law_611 rfl rfl ?_
  refine xm_E_s r_law_612 rfl rfl ?_
  refine xm_E_s r_law_613 rfl rfl ?_
  refine xm_E_s r_law_614 rfl (xm_T_ialx rfl q0 q1 (by decide) q6) ?_
  refine xm_E_cv [.ref l1, .int (f0 ((l3 + (1 : Int32)).toNatClampNeg)), .int (f0 ((l3 + (2 : Int32)).toNatClampNeg))] [] r_law_615 rfl rfl (Nat.le_of_ble_eq_true rfl) (xm_rc q8 (by decide)) rfl q7 ?_
  refine xm_E_s r_law_616 rfl rfl ?_
  refine xm_E_s r_law_617 rfl rfl ?_
  refine xm_E_s r_law_618 rfl rfl ?_
  refine xm_E_s r_law_619 rfl rfl ?_
  refine xm_E_s r_law_620 rfl rfl ?_
  refine xm_E_s r_law_621 rfl (xm_T_ialx rfl q0 q1 (by decide) q5) ?_
  refine xm_E_s r_law_622 rfl rfl ?_
  refine xm_E_s r_law_623 rfl rfl ?_
  refine xm_E_s r_law_624 rfl rfl ?_
  refine xm_E_s r_law_625 rfl rfl ?_
  refine xm_E_s r_law_626 rfl (xm_T_ialx rfl q0 q1 (by decide) q6) ?_
  refine xm_E_cv [.ref l2, .int (f0 ((l3 + (1 : Int32)).toNatClampNeg)), .int (f0 ((l3 + (2 : Int32)).toNatClampNeg))] [.long r1] r_law_627 rfl rfl (Nat.le_of_ble_eq_true rfl) (xm_rc q10 (by decide)) rfl q9 ?_
  refine xm_E_s r_law_628 rfl rfl ?_
  refine xm_E_s r_law_629 rfl rfl ?_
  refine xm_E_t q11 ?_
  refine xm_E_s (ls1 := [some (.ref l0), some (.ref l1), some (.ref l2), some (.int (l3 + (6 : Int32)))]) r_law_1109 rfl rfl ?_
  refine xm_E_s r_law_1110 rfl rfl ?_
  exact K
theorem p_law_2_76 {X : xm_X} {P : List xm_M} {d : Nat} {h : xm_H} {l0 : Nat} {l1 : Nat} {l2 : Nat} {l3 : Int32} {n0 : Nat} {f0 : Nat → Int32} {h1 : xm_H} {r1 : Int64} {h2 : xm_H} {r2 : Int64} (q0 : X.1[l0]? = none) (q1 : X.2.1 l0 = some (0, n0, f0)) (q2 : ¬ ((Int32.ofNat n0) - (6 : Int32) < l3)) (q3 : ¬ (l3 < 0 ∨ n0 ≤ l3.toNatClampNeg)) (q4 : (f0 l3.toNatClampNeg) &&& (63 : Int32) = (37 : Int32)) (q5 : ¬ (l3 + (1 : Int32) < 0 ∨ n0 ≤ (l3 + (1 : Int32)).toNatClampNeg)) (q6 : ¬ (l3 + (2 : Int32) < 0 ∨ n0 ≤ (l3 + (2 : Int32)).toNatClampNeg)) (q7 : xm_V X P d 141 [.ref l1, .int (f0 ((l3 + (1 : Int32)).toNatClampNeg)), .int (f0 ((l3 + (2 : Int32)).toNatClampNeg))] h (some (.long r1)) h1) (q8 : X.1[l1]? = some (.inr 9)) (q9 : xm_V X P d 302 [.ref l2, .int (f0 ((l3 + (1 : Int32)).toNatClampNeg)), .int (f0 ((l3 + (2 : Int32)).toNatClampNeg))] h1 (some (.long r2)) h2) (q10 : X.1[l2]? = some (.inr 10)) (q11 : ¬ (lg_cmp r1 r2 = (0 : Int32))) : xm_E X P d co_law 2 [some (.ref l0), some (.ref l1), some (.ref l2), some (.int l3)] [] h (some (.int (0 : Int32))) h2 := by
  refine xm_E_s r_law_2 rfl rfl ?_
  refine xm_E_s r_law_3 rfl rfl ?_
  refine xm_E_s r_law_4 rfl (xm_T_alenx rfl q0 q1) ?_
  refine xm_E_s r_law_5 rfl rfl ?_
  refine xm_E_s r_law_6 rfl rfl ?_
  refine xm_E_s r_law_7 rfl rfl ?_
  refine xm_E_f q2 ?_
  refine xm_E_s r_law_8 rfl rfl ?_
  refine xm_E_s r_law_9 rfl rfl ?_
  refine xm_E_s r_law_10 rfl (xm_T_ialx rfl q0 q1 (by decide) q3) ?_
  refine xm_E_s r_law_11 rfl rfl ?_
  refine xm_E_s r_law_12 rfl rfl ?_
  refine xm_E_s r_law_13 rfl (xm_T_tab (37 : Int32) 604 rfl q4 (by decide) rfl) ?_
  refine xm_E_s r_law_604 rfl rfl ?_
  refine xm_E_s r_law_605 rfl rfl ?_
  refine xm_E_s r_law_606 rfl rfl ?_
  refine xm_E_s r_law_607 rfl rfl ?_
  refine xm_E_s r_law_608 rfl rfl ?_
  refine xm_E_s r_law_609 rfl (xm_T_ialx rfl q0 q1 (by decide) q5) ?_
  refine xm_E_s r_law_610 rfl rfl ?_
  refine xm_E_s r_law_611 rfl rfl ?_
  refine xm_E_s r_law_612 rfl rfl ?_
  refine xm_E_s r_law_613 rfl rfl ?_
  refine xm_E_s r_law_614 rfl (xm_T_ialx rfl q0 q1 (by decide) q6) ?_
  refine xm_E_cv [.ref l1, .int (f0 ((l3 + (1 : Int32)).toNatClampNeg)), .int (f0 ((l3 + (2 : Int32)).toNatClampNeg))] [] r_law_615 rfl rfl (Nat.le_of_ble_eq_true rfl) (xm_rc q8 (by decide)) rfl q7 ?_
  refine xm_E_s r_law_616 rfl rfl ?_
  refine xm_E_s r_law_617 rfl rfl ?_
  refine xm_E_s r_law_618 rfl rfl ?_
  refine xm_E_s r_law_619 rfl rfl ?_
  refine xm_E_s r_law_620 rfl rfl ?_
  refine xm_E_s r_law_621 rfl (xm_T_ialx rfl q0 q1 (by decide) q5) ?_
  refine xm_E_s r_law_622 rfl rfl ?_
  refine xm_E_s r_law_623 rfl rfl ?_
  refine xm_E_s r_law_624 rfl rfl ?_
  refine xm_E_s r_law_625 rfl rfl ?_
  refine xm_E_s r_law_626 rfl (xm_T_ialx rfl q0 q1 (by decide) q6) ?_
  refine xm_E_cv [.ref l2, .int (f0 ((l3 + (1 : Int32)).toNatClampNeg)), .int (f0 ((l3 + (2 : Int32)).toNatClampNeg))] [.long r1] r_law_627 rfl rfl (Nat.le_of_ble_eq_true rfl) (xm_rc q10 (by decide)) rfl q9 ?_
  refine xm_E_s r_law_628 rfl rfl ?_
  refine xm_E_s r_law_629 rfl rfl ?_
  refine xm_E_f q11 ?_
  refine xm_E_s r_law_630 rfl rfl ?_
  exact xm_E_iret r_law_631 rfl rfl
theorem p_law_2_77 {X : xm_X} {P : List xm_M} {d : Nat} {h : xm_H} {l0 : Nat} {l1 : Nat} {l2 : Nat} {l3 : Int32} {n0 : Nat} {f0 : Nat → Int32} {h1 : xm_H} {r1 : Int32} {h2 : xm_H} {r2 : Int32} {ro : Option Value} {ho : xm_H} (q0 : X.1[l0]? = none) (q1 : X.2.1 l0 = some (0, n0, f0)) (q2 : ¬ ((Int32.ofNat n0) - (6 : Int32) < l3)) (q3 : ¬ (l3 < 0 ∨ n0 ≤ l3.toNatClampNeg)) (q4 : (f0 l3.toNatClampNeg) &&& (63 : Int32) = (38 : Int32)) (q5 : ¬ (l3 + (1 : Int32) < 0 ∨ n0 ≤ (l3 + (1 : Int32)).toNatClampNeg)) (q6 : xm_V X P d 144 [.ref l1, .int (f0 ((l3 + (1 : Int32)).toNatClampNeg))] h (some (.int r1)) h1) (q7 : X.1[l1]? = some (.inr 9)) (q8 : xm_V X P d 303 [.ref l2, .int (f0 ((l3 + (1 : Int32)).toNatClampNeg))] h1 (some (.int r2)) h2) (q9 : X.1[l2]? = some (.inr 10)) (q10 : r1 = r2) (K : xm_E X P d co_law 2 [some (.ref l0), some (.ref l1), some (.ref l2), some (.int (l3 + (6 : Int32)))] [] h2 ro ho) : xm_E X P d co_law 2 [some (.ref l0), some (.ref l1), some (.ref l2), some (.int l3)] [] h ro ho := by
  refine xm_E_s r_law_2 rfl rfl ?_
  refine xm_E_s r_law_3 rfl rfl ?_
  refine xm_E_s r_law_4 rfl (xm_T_alenx rfl q0 q1) ?_
  refine xm_E_s r_law_5 rfl rfl ?_
  refine xm_E_s r_law_6 rfl rfl ?_
  refine xm_E_s r_law_7 rfl rfl ?_
  refine xm_E_f q2 ?_
  refine xm_E_s r_law_8 rfl rfl ?_
  refine xm_E_s r_law_9 rfl rfl ?_
  refine xm_E_s r_law_10 rfl (xm_T_ialx rfl q0 q1 (by decide) q3) ?_
  refine xm_E_s r_law_11 rfl rfl ?_
  refine xm_E_s r_law_12 rfl rfl ?_
  refine xm_E_s r_law_13 rfl (xm_T_tab (38 : Int32) 632 rfl q4 (by decide) rfl) ?_
  refine xm_E_s r_law_632 rfl rfl ?_
  refine xm_E_s r_law_633 rfl rfl ?_
  refine xm_E_s r_law_634 rfl rfl ?_
  refine xm_E_s r_law_635 rfl rfl ?_
  refine xm_E_s r_law_636 rfl rfl ?_
  refine xm_E_s r_law_637 rfl (xm_T_ialx rfl q0 q1 (by decide) q5) ?_
  refine xm_E_cv [.ref l1, .int (f0 ((l3 + (1 : Int32)).toNatClampNeg))] [] r_law_638 rfl rfl (Nat.le_of_ble_eq_true rfl) (xm_rc q7 (by decide)) rfl q6 ?_
  refine xm_E_s r_law_639 rfl rfl ?_
  refine xm_E_s r_law_640 rfl rfl ?_
  refine xm_E_s r_law_641 rfl rfl ?_
  refine xm_E_s r_law_642 rfl rfl ?_
  refine xm_E_s r_law_643 rfl rfl ?_
  refine xm_E_s r_law_644 rfl (xm_T_ialx rfl q0 q1 (by decide) q5) ?_
  refine xm_E_cv [.ref l2, .int (f0 ((l3 + (1 : Int32)).toNatClampNeg))] [.int r1] r_law_645 rfl rfl (Nat.le_of_ble_eq_true rfl) (xm_rc q9 (by decide)) rfl q8 ?_
  refine xm_E_s r_law_646 rfl rfl ?_
  refine xm_E_t q10 ?_
  refine xm_E_s (ls1 := [some (.ref l0), some (.ref l1), some (.ref l2), some (.int (l3 + (6 : Int32)))]) r_law_1109 rfl rfl ?_
  refine xm_E_s r_law_1110 rfl rfl ?_
  exact K
theorem p_law_2_78 {X : xm_X} {P : List xm_M} {d : Nat} {h : xm_H} {l0 : Nat} {l1 : Nat} {l2 : Nat} {l3 : Int32} {n0 : Nat} {f0 : Nat → Int32} {h1 : xm_H} {r1 : Int32} {h2 : xm_H} {r2 : Int32} (q0 : X.1[l0]? = none) (q1 : X.2.1 l0 = some (0, n0, f0)) (q2 : ¬ ((Int32.ofNat n0) - (6 : Int32) < l3)) (q3 : ¬ (l3 < 0 ∨ n0 ≤ l3.toNatClampNeg)) (q4 : (f0 l3.toNatClampNeg) &&& (63 : Int32) = (38 : Int32)) (q5 : ¬ (l3 + (1 : Int32) < 0 ∨ n0 ≤ (l3 + (1 : Int32)).toNatClampNeg)) (q6 : xm_V X P d 144 [.ref l1, .int (f0 ((l3 + (1 : Int32)).toNatClampNeg))] h (some (.int r1)) h1) (q7 : X.1[l1]? = some (.inr 9)) (q8 : xm_V X P d 303 [.ref l2, .int (f0 ((l3 + (1 : Int32)).toNatClampNeg))] h1 (some (.int r2)) h2) (q9 : X.1[l2]? = some (.inr 10)) (q10 : ¬ (r1 = r2)) : xm_E X P d co_law 2 [some (.ref l0), some (.ref l1), some (.ref l2), some (.int l3)] [] h (some (.int (0 : Int32))) h2 := by
  refine xm_E_s r_law_2 rfl rfl ?_
  refine xm_E_s r_law_3 rfl rfl ?_
  refine xm_E_s r_law_4 rfl (xm_T_alenx rfl q0 q1) ?_
  refine xm_E_s r_law_5 rfl rfl ?_
  refine xm_E_s r_law_6 rfl rfl ?_
  refine xm_E_s r_law_7 rfl rfl ?_
  refine xm_E_f q2 ?_
  refine xm_E_s r_law_8 rfl rfl ?_
  refine xm_E_s r_law_9 rfl rfl ?_
  refine xm_E_s r_law_10 rfl (xm_T_ialx rfl q0 q1 (by decide) q3) ?_
  refine xm_E_s r_law_11 rfl rfl ?_
  refine xm_E_s r_law_12 rfl rfl ?_
  refine xm_E_s r_law_13 rfl (xm_T_tab (38 : Int32) 632 rfl q4 (by decide) rfl) ?_
  refine xm_E_s r_law_632 rfl rfl ?_
  refine xm_E_s r_law_633 rfl rfl ?_
  refine xm_E_s r_law_634 rfl rfl ?_
  refine xm_E_s r_law_635 rfl rfl ?_
  refine xm_E_s r_law_636 rfl rfl ?_
  refine xm_E_s r_law_637 rfl (xm_T_ialx rfl q0 q1 (by decide) q5) ?_
  refine xm_E_cv [.ref l1, .int (f0 ((l3 + (1 : Int32)).toNatClampNeg))] [] r_law_638 rfl rfl (Nat.le_of_ble_eq_true rfl) (xm_rc q7 (by decide)) rfl q6 ?_
  refine xm_E_s r_law_639 rfl rfl ?_
  refine xm_E_s r_law_640 rfl rfl ?_
  refine xm_E_s r_law_641 rfl rfl ?_
  refine xm_E_s r_law_642 rfl rfl ?_
  refine xm_E_s r_law_643 rfl rfl ?_
  refine xm_E_s r_law_644 rfl (xm_T_ialx rfl q0 q1 (by decide) q5) ?_
  refine xm_E_cv [.ref l2, .int (f0 ((l3 + (1 : Int32)).toNatClampNeg))] [.int r1] r_law_645 rfl rfl (Nat.le_of_ble_eq_true rfl) (xm_rc q9 (by decide)) rfl q8 ?_
  refine xm_E_s r_law_646 rfl rfl ?_
  refine xm_E_f q10 ?_
  refine xm_E_s r_law_647 rfl rfl ?_
  exact xm_E_iret r_law_648 rfl rfl
theorem p_law_2_79 {X : xm_X} {P : List xm_M} {d : Nat} {h : xm_H} {l0 : Nat} {l1 : Nat} {l2 : Nat} {l3 : Int32} {n0 : Nat} {f0 : Nat → Int32} {h1 : xm_H} {r1 : Int32} {h2 : xm_H} {r2 : Int32} {ro : Option Value} {ho : xm_H} (q0 : X.1[l0]? = none) (q1 : X.2.1 l0 = some (0, n0, f0)) (q2 : ¬ ((Int32.ofNat n0) - (6 : Int32) < l3)) (q3 : ¬ (l3 < 0 ∨ n0 ≤ l3.toNatClampNeg)) (q4 : (f0 l3.toNatClampNeg) &&& (63 : Int32) = (39 : Int32)) (q5 : xm_V X P d 145 [.ref l1] h (some (.int r1)) h1) (q6 : X.1[l1]? = some (.inr 9)) (q7 : xm_V X P d 304 [.ref l2] h1 (some (.int r2)) h2) (q8 : X.1[l2]? = some (.inr 10)) (q9 : r1 = r2) (K : xm_E X P d co_law 2 [some (.ref l0), some (.ref l1), some (.ref l2), some (.int (l3 + (6 : Int32)))] [] h2 ro ho) : xm_E X P d co_law 2 [some (.ref l0), some (.ref l1), some (.ref l2), some (.int l3)] [] h ro ho := by
  refine xm_E_s r_law_2 rfl rfl ?_
  refine xm_E_s r_law_3 rfl rfl ?_
  refine xm_E_s r_law_4 rfl (xm_T_alenx rfl q0 q1) ?_
  refine xm_E_s r_law_5 rfl rfl ?_
  refine xm_E_s r_law_6 rfl rfl ?_
  refine xm_E_s r_law_7 rfl rfl ?_
  refine xm_E_f q2 ?_
  refine xm_E_s r_law_8 rfl rfl ?_
  refine xm_E_s r_law_9 rfl rfl ?_
  refine xm_E_s r_law_10 rfl (xm_T_ialx rfl q0 q1 (by decide) q3) ?_
  refine xm_E_s r_law_11 rfl rfl ?_
  refine xm_E_s r_law_12 rfl rfl ?_
  refine xm_E_s r_law_13 rfl (xm_T_tab (39 : Int32) 649 rfl q4 (by decide) rfl) ?_
  refine xm_E_s r_law_649 rfl rfl ?_
  refine xm_E_cv [.ref l1] [] r_law_650 rfl rfl (Nat.le_of_ble_eq_true rfl) (xm_rc q6 (by decide)) rfl q5 ?_
  refine xm_E_s r_law_651 rfl rfl ?_
  refine xm_E_cv [.ref l2] [.int r1] r_law_652 rfl rfl (Nat.le_of_ble_eq_true rfl) (xm_rc q8 (by decide)) rfl q7 ?_
  refine xm_E_s r_law_653 rfl rfl ?_
  refine xm_E_t q9 ?_
  refine xm_E_s (ls1 := [some (.ref l0), some (.ref l1), some (.ref l2), some (.int (l3 + (6 : Int32)))]) r_law_1109 rfl rfl ?_
  refine xm_E_s r_law_1110 rfl rfl ?_
  exact K
theorem p_law_2_80 {X : xm_X} {P : List xm_M} {d : Nat} {h : xm_H} {l0 : Nat} {l1 : Nat} {l2 : Nat} {l3 : Int32} {n0 : Nat} {f0 : Nat → Int32} {h1 : xm_H} {r1 : Int32} {h2 : xm_H} {r2 : Int32} (q0 : X.1[l0]? = none) (q1 : X.2.1 l0 = some (0, n0, f0)) (q2 : ¬ ((Int32.ofNat n0) - (6 : Int32) < l3)) (q3 : ¬ (l3 < 0 ∨ n0 ≤ l3.toNatClampNeg)) (q4 : (f0 l3.toNatClampNeg) &&& (63 : Int32) = (39 : Int32)) (q5 : xm_V X P d 145 [.ref l1] h (some (.int r1)) h1) (q6 : X.1[l1]? = some (.inr 9)) (q7 : xm_V X P d 304 [.ref l2] h1 (some (.int r2)) h2) (q8 : X.1[l2]? = some (.inr 10)) (q9 : ¬ (r1 = r2)) : xm_E X P d co_law 2 [some (.ref l0), some (.ref l1), some (.ref l2), some (.int l3)] [] h (some (.int (0 : Int32))) h2 := by
  refine xm_E_s r_law_2 rfl rfl ?_
  refine xm_E_s r_law_3 rfl rfl ?_
  refine xm_E_s r_law_4 rfl (xm_T_alenx rfl q0 q1) ?_
  refine xm_E_s r_law_5 rfl rfl ?_
  refine xm_E_s r_law_6 rfl rfl ?_
  refine xm_E_s r_law_7 rfl rfl ?_
  refine xm_E_f q2 ?_
  refine xm_E_s r_law_8 rfl rfl ?_
  refine xm_E_s r_law_9 rfl rfl ?_
  refine xm_E_s r_law_10 rfl (xm_T_ialx rfl q0 q1 (by decide) q3) ?_
  refine xm_E_s r_law_11 rfl rfl ?_
  refine xm_E_s r_law_12 rfl rfl ?_
  refine xm_E_s r_law_13 rfl (xm_T_tab (39 : Int32) 649 rfl q4 (by decide) rfl) ?_
  refine xm_E_s r_law_649 rfl rfl ?_
  refine xm_E_cv [.ref l1] [] r_law_650 rfl rfl (Nat.le_of_ble_eq_true rfl) (xm_rc q6 (by decide)) rfl q5 ?_
  refine xm_E_s r_law_651 rfl rfl ?_
  refine xm_E_cv [.ref l2] [.int r1] r_law_652 rfl rfl (Nat.le_of_ble_eq_true rfl) (xm_rc q8 (by decide)) rfl q7 ?_
  refine xm_E_s r_law_653 rfl rfl ?_
  refine xm_E_f q9 ?_
  refine xm_E_s r_law_654 rfl rfl ?_
  exact xm_E_iret r_law_655 rfl rfl
theorem p_law_2_81 {X : xm_X} {P : List xm_M} {d : Nat} {h : xm_H} {l0 : Nat} {l1 : Nat} {l2 : Nat} {l3 : Int32} {n0 : Nat} {f0 : Nat → Int32} {h1 : xm_H} {r1 : Int32} {h2 : xm_H} {r2 : Int32} {ro : Option Value} {ho : xm_H} (q0 : X.1[l0]? = none) (q1 : X.2.1 l0 = some (0, n0, f0)) (q2 : ¬ ((Int32.ofNat n0) - (6 : Int32) < l3)) (q3 : ¬ (l3 < 0 ∨ n0 ≤ l3.toNatClampNeg)) (q4 : (f0 l3.toNatClampNeg) &&& (63 : Int32) = (40 : Int32)) (q5 : ¬ (l3 + (1 : Int32) < 0 ∨ n0 ≤ (l3 + (1 : Int32)).toNatClampNeg)) (q6 : ¬ (l3 + (2 : Int32) < 0 ∨ n0 ≤ (l3 + (2 : Int32)).toNatClampNeg)) (q7 : xm_V X P d 146 [.ref l1, .int (f0 ((l3 + (1 : Int32)).toNatClampNeg)), .int (f0 ((l3 + (2 : Int32)).toNatClampNeg))] h (some (.int r1)) h1) (q8 : X.1[l1]? = some (.inr 9)) (q9 : xm_V X P d 306 [.ref l2, .int (f0 ((l3 + (1 : Int32)).toNatClampNeg)), .int (f0 ((l3 + (2 : Int32)).toNatClampNeg))] h1 (some (.int r2)) h2) (q10 : X.1[l2]? = some (.inr 10)) (q11 : r1 = r2) (K : xm_E X P d co_law 2 [some (.ref l0), some (.ref l1), some (.ref l2), some (.int (l3 + (6 : Int32)))] [] h2 ro ho) : xm_E X P d co_law 2 [some (.ref l0), some (.ref l1), some (.ref l2), some (.int l3)] [] h ro ho := by
  refine xm_E_s r_law_2 rfl rfl ?_
  refine xm_E_s r_law_3 rfl rfl ?_
  refine xm_E_s r_law_4 rfl (xm_T_alenx rfl q0 q1) ?_
  refine xm_E_s r_law_5 rfl rfl ?_
  refine xm_E_s r_law_6 rfl rfl ?_
  refine xm_E_s r_law_7 rfl rfl ?_
  refine xm_E_f q2 ?_
  refine xm_E_s r_law_8 rfl rfl ?_
  refine xm_E_s r_law_9 rfl rfl ?_
  refine xm_E_s r_law_10 rfl (xm_T_ialx rfl q0 q1 (by decide) q3) ?_
  refine xm_E_s r_law_11 rfl rfl ?_
  refine xm_E_s r_law_12 rfl rfl ?_
  refine xm_E_s r_law_13 rfl (xm_T_tab (40 : Int32) 656 rfl q4 (by decide) rfl) ?_
  refine xm_E_s r_law_656 rfl rfl ?_
  refine xm_E_s r_law_657 rfl rfl ?_
  refine xm_E_s r_law_658 rfl rfl ?_
  refine xm_E_s r_law_659 rfl rfl ?_
  refine xm_E_s r_law_660 rfl rfl ?_
  refine xm_E_s r_law_661 rfl (xm_T_ialx rfl q0 q1 (by decide) q5) ?_
  refine xm_E_s r_law_662 rfl rfl ?_
  refine xm_E_s r_law_663 rfl rfl ?_
  refine xm_E_s r_law_664 rfl rfl ?_
  refine xm_E_s r_law_665 rfl rfl ?_
  refine xm_E_s r_law_666 rfl (xm_T_ialx rfl q0 q1 (by decide) q6) ?_
  refine xm_E_cv [.ref l1, .int (f0 ((l3 + (1 : Int32)).toNatClampNeg)), .int (f0 ((l3 + (2 : Int32)).toNatClampNeg))] [] r_law_667 rfl rfl (Nat.le_of_ble_eq_true rfl) (xm_rc q8 (by decide)) rfl q7 ?_
  refine xm_E_s r_law_668 rfl rfl ?_
  refine xm_E_s r_law_669 rfl rfl ?_
  refine xm_E_s r_law_670 rfl rfl ?_
  refine xm_E_s r_law_671 rfl rfl ?_
  refine xm_E_s r_law_672 rfl rfl ?_
  refine xm_E_s r_law_673 rfl (xm_T_ialx rfl q0 q1 (by decide) q5) ?_
  refine xm_E_s r_law_674 rfl rfl ?_
  refine xm_E_s r_law_675 rfl rfl ?_
  refine xm_E_s r_law_676 rfl rfl ?_
  refine xm_E_s r_law_677 rfl rfl ?_
  refine xm_E_s r_law_678 rfl (xm_T_ialx rfl q0 q1 (by decide) q6) ?_
  refine xm_E_cv [.ref l2, .int (f0 ((l3 + (1 : Int32)).toNatClampNeg)), .int (f0 ((l3 + (2 : Int32)).toNatClampNeg))] [.int r1] r_law_679 rfl rfl (Nat.le_of_ble_eq_true rfl) (xm_rc q10 (by decide)) rfl q9 ?_
  refine xm_E_s r_law_680 rfl rfl ?_
  refine xm_E_t q11 ?_
  refine xm_E_s (ls1 := [some (.ref l0), some (.ref l1), some (.ref l2), some (.int (l3 + (6 : Int32)))]) r_law_1109 rfl rfl ?_
  refine xm_E_s r_law_1110 rfl rfl ?_
  exact K
theorem p_law_2_82 {X : xm_X} {P : List xm_M} {d : Nat} {h : xm_H} {l0 : Nat} {l1 : Nat} {l2 : Nat} {l3 : Int32} {n0 : Nat} {f0 : Nat → Int32} {h1 : xm_H} {r1 : Int32} {h2 : xm_H} {r2 : Int32} (q0 : X.1[l0]? = none) (q1 : X.2.1 l0 = some (0, n0, f0)) (q2 : ¬ ((Int32.ofNat n0) - (6 : Int32) < l3)) (q3 : ¬ (l3 < 0 ∨ n0 ≤ l3.toNatClampNeg)) (q4 : (f0 l3.toNatClampNeg) &&& (63 : Int32) = (40 : Int32)) (q5 : ¬ (l3 + (1 : Int32) < 0 ∨ n0 ≤ (l3 + (1 : Int32)).toNatClampNeg)) (q6 : ¬ (l3 + (2 : Int32) < 0 ∨ n0 ≤ (l3 + (2 : Int32)).toNatClampNeg)) (q7 : xm_V X P d 146 [.ref l1, .int (f0 ((l3 + (1 : Int32)).toNatClampNeg)), .int (f0 ((l3 + (2 : Int32)).toNatClampNeg))] h (some (.int r1)) h1) (q8 : X.1[l1]? = some (.inr 9)) (q9 : xm_V X P d 306 [.ref l2, .int (f0 ((l3 + (1 : Int32)).toNatClampNeg)), .int (f0 ((l3 + (2 : Int32)).toNatClampNeg))] h1 (some (.int r2)) h2) (q10 : X.1[l2]? = some (.inr 10)) (q11 : ¬ (r1 = r2)) : xm_E X P d co_law 2 [some (.ref l0), some (.ref l1), some (.ref l2), some (.int l3)] [] h (some (.int (0 : Int32))) h2 := by
  refine xm_E_s r_law_2 rfl rfl ?_
  refine xm_E_s r_law_3 rfl rfl ?_
  refine xm_E_s r_law_4 rfl (xm_T_alenx rfl q0 q1) ?_
  refine xm_E_s r_law_5 rfl rfl ?_
  refine xm_E_s r_law_6 rfl rfl ?_
  refine xm_E_s r_law_7 rfl rfl ?_
  refine xm_E_f q2 ?_
  refine xm_E_s r_law_8 rfl rfl ?_
  refine xm_E_s r_law_9 rfl rfl ?_
  refine xm_E_s r_law_10 rfl (xm_T_ialx rfl q0 q1 (by decide) q3) ?_
  refine xm_E_s r_law_11 rfl rfl ?_
  refine xm_E_s r_law_12 rfl rfl ?_
  refine xm_E_s r_law_13 rfl (xm_T_tab (40 : Int32) 656 rfl q4 (by decide) rfl) ?_
  refine xm_E_s r_law_656 rfl rfl ?_
  refine xm_E_s r_law_657 rfl rfl ?_
  refine xm_E_s r_law_658 rfl rfl ?_
  refine xm_E_s r_law_659 rfl rfl ?_
  refine xm_E_s r_law_660 rfl rfl ?_
  refine xm_E_s r_law_661 rfl (xm_T_ialx rfl q0 q1 (by decide) q5) ?_
  refine xm_E_s r_law_662 rfl rfl ?_
  refine xm_E_s r_law_663 rfl rfl ?_
  refine xm_E_s r_law_664 rfl rfl ?_
  refine xm_E_s r_law_665 rfl rfl ?_
  refine xm_E_s r_law_666 rfl (xm_T_ialx rfl q0 q1 (by decide) q6) ?_
  refine xm_E_cv [.ref l1, .int (f0 ((l3 + (1 : Int32)).toNatClampNeg)), .int (f0 ((l3 + (2 : Int32)).toNatClampNeg))] [] r_law_667 rfl rfl (Nat.le_of_ble_eq_true rfl) (xm_rc q8 (by decide)) rfl q7 ?_
  refine xm_E_s r_law_668 rfl rfl ?_
  refine xm_E_s r_law_669 rfl rfl ?_
  refine xm_E_s r_law_670 rfl rfl ?_
  refine xm_E_s r_law_671 rfl rfl ?_
  refine xm_E_s r_law_672 rfl rfl ?_
  refine xm_E_s r_law_673 rfl (xm_T_ialx rfl q0 q1 (by decide) q5) ?_
  refine xm_E_s r_law_674 rfl rfl ?_
  refine xm_E_s r_law_675 rfl rfl ?_
  refine xm_E_s r_law_676 rfl rfl ?_
  refine xm_E_s r_law_677 rfl rfl ?_
  refine xm_E_s r_law_678 rfl (xm_T_ialx rfl q0 q1 (by decide) q6) ?_
  refine xm_E_cv [.ref l2, .int (f0 ((l3 + (1 : Int32)).toNatClampNeg)), .int (f0 ((l3 + (2 : Int32)).toNatClampNeg))] [.int r1] r_law_679 rfl rfl (Nat.le_of_ble_eq_true rfl) (xm_rc q10 (by decide)) rfl q9 ?_
  refine xm_E_s r_law_680 rfl rfl ?_
  refine xm_E_f q11 ?_
  refine xm_E_s r_law_681 rfl rfl ?_
  exact xm_E_iret r_law_682 rfl rfl
theorem p_law_2_83 {X : xm_X} {P : List xm_M} {d : Nat} {h : xm_H} {l0 : Nat} {l1 : Nat} {l2 : Nat} {l3 : Int32} {n0 : Nat} {f0 : Nat → Int32} {h1 : xm_H} {r1 : Int32} {h2 : xm_H} {r2 : Int32} {ro : Option Value} {ho : xm_H} (q0 : X.1[l0]? = none) (q1 : X.2.1 l0 = some (0, n0, f0)) (q2 : ¬ ((Int32.ofNat n0) - (6 : Int32) < l3)) (q3 : ¬ (l3 < 0 ∨ n0 ≤ l3.toNatClampNeg)) (q4 : (f0 l3.toNatClampNeg) &&& (63 : Int32) = (41 : Int32)) (q5 : xm_V X P d 152 [.ref l1] h (some (.int r1)) h1) (q6 : X.1[l1]? = some (.inr 9)) (q7 : xm_V X P d 309 [.ref l2] h1 (some (.int r2)) h2) (q8 : X.1[l2]? = some (.inr 10)) (q9 : r1 = r2) (K : xm_E X P d co_law 2 [some (.ref l0), some (.ref l1), some (.ref l2), some (.int (l3 + (6 : Int32)))] [] h2 ro ho) : xm_E X P d co_law 2 [some (.ref l0), some (.ref l1), some (.ref l2), some (.int l3)] [] h ro ho := by
  refine xm_E_s r_law_2 rfl rfl ?_
  refine xm_E_s r_law_3 rfl rfl ?_
  refine xm_E_s r_law_4 rfl (xm_T_alenx rfl q0 q1) ?_
  refine xm_E_s r_law_5 rfl rfl ?_
  refine xm_E_s r_law_6 rfl rfl ?_
  refine xm_E_s r_law_7 rfl rfl ?_
  refine xm_E_f q2 ?_
  refine xm_E_s r_law_8 rfl rfl ?_
  refine xm_E_s r_law_9 rfl rfl ?_
  refine xm_E_s r_law_10 rfl (xm_T_ialx rfl q0 q1 (by decide) q3) ?_
  refine xm_E_s r_law_11 rfl rfl ?_
  refine xm_E_s r_law_12 rfl rfl ?_
  refine xm_E_s r_law_13 rfl (xm_T_tab (41 : Int32) 683 rfl q4 (by decide) rfl) ?_
  refine xm_E_s r_law_683 rfl rfl ?_
  refine xm_E_cv [.ref l1] [] r_law_684 rfl rfl (Nat.le_of_ble_eq_true rfl) (xm_rc q6 (by decide)) rfl q5 ?_
  refine xm_E_s r_law_685 rfl rfl ?_
  refine xm_E_cv [.ref l2] [.int r1] r_law_686 rfl rfl (Nat.le_of_ble_eq_true rfl) (xm_rc q8 (by decide)) rfl q7 ?_
  refine xm_E_s r_law_687 rfl rfl ?_
  refine xm_E_t q9 ?_
  refine xm_E_s (ls1 := [some (.ref l0), some (.ref l1), some (.ref l2), some (.int (l3 + (6 : Int32)))]) r_law_1109 rfl rfl ?_
  refine xm_E_s r_law_1110 rfl rfl ?_
  exact K
theorem p_law_2_84 {X : xm_X} {P : List xm_M} {d : Nat} {h : xm_H} {l0 : Nat} {l1 : Nat} {l2 : Nat} {l3 : Int32} {n0 : Nat} {f0 : Nat → Int32} {h1 : xm_H} {r1 : Int32} {h2 : xm_H} {r2 : Int32} (q0 : X.1[l0]? = none) (q1 : X.2.1 l0 = some (0, n0, f0)) (q2 : ¬ ((Int32.ofNat n0) - (6 : Int32) < l3)) (q3 : ¬ (l3 < 0 ∨ n0 ≤ l3.toNatClampNeg)) (q4 : (f0 l3.toNatClampNeg) &&& (63 : Int32) = (41 : Int32)) (q5 : xm_V X P d 152 [.ref l1] h (some (.int r1)) h1) (q6 : X.1[l1]? = some (.inr 9)) (q7 : xm_V X P d 309 [.ref l2] h1 (some (.int r2)) h2) (q8 : X.1[l2]? = some (.inr 10)) (q9 : ¬ (r1 = r2)) : xm_E X P d co_law 2 [some (.ref l0), some (.ref l1), some (.ref l2), some (.int l3)] [] h (some (.int (0 : Int32))) h2 := by
  refine xm_E_s r_law_2 rfl rfl ?_
  refine xm_E_s r_law_3 rfl rfl ?_
  refine xm_E_s r_law_4 rfl (xm_T_alenx rfl q0 q1) ?_
  refine xm_E_s r_law_5 rfl rfl ?_
  refine xm_E_s r_law_6 rfl rfl ?_
  refine xm_E_s r_law_7 rfl rfl ?_
  refine xm_E_f q2 ?_
  refine xm_E_s r_law_8 rfl rfl ?_
  refine xm_E_s r_law_9 rfl rfl ?_
  refine xm_E_s r_law_10 rfl (xm_T_ialx rfl q0 q1 (by decide) q3) ?_
  refine xm_E_s r_law_11 rfl rfl ?_
  refine xm_E_s r_law_12 rfl rfl ?_
  refine xm_E_s r_law_13 rfl (xm_T_tab (41 : Int32) 683 rfl q4 (by decide) rfl) ?_
  refine xm_E_s r_law_683 rfl rfl ?_
  refine xm_E_cv [.ref l1] [] r_law_684 rfl rfl (Nat.le_of_ble_eq_true rfl) (xm_rc q6 (by decide)) rfl q5 ?_
  refine xm_E_s r_law_685 rfl rfl ?_
  refine xm_E_cv [.ref l2] [.int r1] r_law_686 rfl rfl (Nat.le_of_ble_eq_true rfl) (xm_rc q8 (by decide)) rfl q7 ?_
  refine xm_E_s r_law_687 rfl rfl ?_
  refine xm_E_f q9 ?_
  refine xm_E_s r_law_688 rfl rfl ?_
  exact xm_E_iret r_law_689 rfl rfl
theorem p_law_2_85 {X : xm_X} {P : List xm_M} {d : Nat} {h : xm_H} {l0 : Nat} {l1 : Nat} {l2 : Nat} {l3 : Int32} {n0 : Nat} {f0 : Nat → Int32} {h1 : xm_H} {r1 : Int32} {h2 : xm_H} {r2 : Int32} {ro : Option Value} {ho : xm_H} (q0 : X.1[l0]? = none) (q1 : X.2.1 l0 = some (0, n0, f0)) (q2 : ¬ ((Int32.ofNat n0) - (6 : Int32) < l3)) (q3 : ¬ (l3 < 0 ∨ n0 ≤ l3.toNatClampNeg)) (q4 : (f0 l3.toNatClampNeg) &&& (63 : Int32) = (42 : Int32)) (q5 : ¬ (l3 + (1 : Int32) < 0 ∨ n0 ≤ (l3 + (1 : Int32)).toNatClampNeg)) (q6 : ¬ (l3 + (2 : Int32) < 0 ∨ n0 ≤ (l3 + (2 : Int32)).toNatClampNeg)) (q7 : xm_V X P d 153 [.ref l1, .int (f0 ((l3 + (1 : Int32)).toNatClampNeg)), .int (f0 ((l3 + (2 : Int32)).toNatClampNeg))] h (some (.int r1)) h1) (q8 : X.1[l1]? = some (.inr 9)) (q9 : xm_V X P d 310 [.ref l2, .int (f0 ((l3 + (1 : Int32)).toNatClampNeg)), .int (f0 ((l3 + (2 : Int32)).toNatClampNeg))] h1 (some (.int r2)) h2) (q10 : X.1[l2]? = some (.inr 10)) (q11 : r1 = r2) (K : xm_E X P d co_law 2 [some (.ref l0), some (.ref l1), some (.ref l2), some (.int (l3 + (6 : Int32)))] [] h2 ro ho) : xm_E X P d co_law 2 [some (.ref l0), some (.ref l1), some (.ref l2), some (.int l3)] [] h ro ho := by
  refine xm_E_s r_law_2 rfl rfl ?_
  refine xm_E_s r_law_3 rfl rfl ?_
  refine xm_E_s r_law_4 rfl (xm_T_alenx rfl q0 q1) ?_
  refine xm_E_s r_law_5 rfl rfl ?_
  refine xm_E_s r_law_6 rfl rfl ?_
  refine xm_E_s r_law_7 rfl rfl ?_
  refine xm_E_f q2 ?_
  refine xm_E_s r_law_8 rfl rfl ?_
  refine xm_E_s r_law_9 rfl rfl ?_
  refine xm_E_s r_law_10 rfl (xm_T_ialx rfl q0 q1 (by decide) q3) ?_
  refine xm_E_s r_law_11 rfl rfl ?_
  refine xm_E_s r_law_12 rfl rfl ?_
  refine xm_E_s r_law_13 rfl (xm_T_tab (42 : Int32) 690 rfl q4 (by decide) rfl) ?_
  refine xm_E_s r_law_690 rfl rfl ?_
  refine xm_E_s r_law_691 rfl rfl ?_
  refine xm_E_s r_law_692 rfl rfl ?_
  refine xm_E_s r_law_693 rfl rfl ?_
  refine xm_E_s r_law_694 rfl rfl ?_
  refine xm_E_s r_law_695 rfl (xm_T_ialx rfl q0 q1 (by decide) q5) ?_
  refine xm_E_s r_law_696 rfl rfl ?_
  refine xm_E_s r_law_697 rfl rfl ?_
  refine xm_E_s r_law_698 rfl rfl ?_
  refine xm_E_s r_law_699 rfl rfl ?_
  refine xm_E_s r_law_700 rfl (xm_T_ialx rfl q0 q1 (by decide) q6) ?_
  refine xm_E_cv [.ref l1, .int (f0 ((l3 + (1 : Int32)).toNatClampNeg)), .int (f0 ((l3 + (2 : Int32)).toNatClampNeg))] [] r_law_701 rfl rfl (Nat.le_of_ble_eq_true rfl) (xm_rc q8 (by decide)) rfl q7 ?_
  refine xm_E_s r_law_702 rfl rfl ?_
  refine xm_E_s r_law_703 rfl rfl ?_
  refine xm_E_s r_law_704 rfl rfl ?_
  refine xm_E_s r_law_705 rfl rfl ?_
  refine xm_E_s r_law_706 rfl rfl ?_
  refine xm_E_s r_law_707 rfl (xm_T_ialx rfl q0 q1 (by decide) q5) ?_
  refine xm_E_s r_law_708 rfl rfl ?_
  refine xm_E_s r_law_709 rfl rfl ?_
  refine xm_E_s r_law_710 rfl rfl ?_
  refine xm_E_s r_law_711 rfl rfl ?_
  refine xm_E_s r_law_712 rfl (xm_T_ialx rfl q0 q1 (by decide) q6) ?_
  refine xm_E_cv [.ref l2, .int (f0 ((l3 + (1 : Int32)).toNatClampNeg)), .int (f0 ((l3 + (2 : Int32)).toNatClampNeg))] [.int r1] r_law_713 rfl rfl (Nat.le_of_ble_eq_true rfl) (xm_rc q10 (by decide)) rfl q9 ?_
  refine xm_E_s r_law_714 rfl rfl ?_
  refine xm_E_t q11 ?_
  refine xm_E_s (ls1 := [some (.ref l0), some (.ref l1), some (.ref l2), some (.int (l3 + (6 : Int32)))]) r_law_1109 rfl rfl ?_
  refine xm_E_s r_law_1110 rfl rfl ?_
  exact K
theorem p_law_2_86 {X : xm_X} {P : List xm_M} {d : Nat} {h : xm_H} {l0 : Nat} {l1 : Nat} {l2 : Nat} {l3 : Int32} {n0 : Nat} {f0 : Nat → Int32} {h1 : xm_H} {r1 : Int32} {h2 : xm_H} {r2 : Int32} (q0 : X.1[l0]? = none) (q1 : X.2.1 l0 = some (0, n0, f0)) (q2 : ¬ ((Int32.ofNat n0) - (6 : Int32) < l3)) (q3 : ¬ (l3 < 0 ∨ n0 ≤ l3.toNatClampNeg)) (q4 : (f0 l3.toNatClampNeg) &&& (63 : Int32) = (42 : Int32)) (q5 : ¬ (l3 + (1 : Int32) < 0 ∨ n0 ≤ (l3 + (1 : Int32)).toNatClampNeg)) (q6 : ¬ (l3 + (2 : Int32) < 0 ∨ n0 ≤ (l3 + (2 : Int32)).toNatClampNeg)) (q7 : xm_V X P d 153 [.ref l1, .int (f0 ((l3 + (1 : Int32)).toNatClampNeg)), .int (f0 ((l3 + (2 : Int32)).toNatClampNeg))] h (some (.int r1)) h1) (q8 : X.1[l1]? = some (.inr 9)) (q9 : xm_V X P d 310 [.ref l2, .int (f0 ((l3 + (1 : Int32)).toNatClampNeg)), .int (f0 ((l3 + (2 : Int32)).toNatClampNeg))] h1 (some (.int r2)) h2) (q10 : X.1[l2]? = some (.inr 10)) (q11 : ¬ (r1 = r2)) : xm_E X P d co_law 2 [some (.ref l0), some (.ref l1), some (.ref l2), some (.int l3)] [] h (some (.int (0 : Int32))) h2 := by
  refine xm_E_s r_law_2 rfl rfl ?_
  refine xm_E_s r_law_3 rfl rfl ?_
  refine xm_E_s r_law_4 rfl (xm_T_alenx rfl q0 q1) ?_
  refine xm_E_s r_law_5 rfl rfl ?_
  refine xm_E_s r_law_6 rfl rfl ?_
  refine xm_E_s r_law_7 rfl rfl ?_
  refine xm_E_f q2 ?_
  refine xm_E_s r_law_8 rfl rfl ?_
  refine xm_E_s r_law_9 rfl rfl ?_
  refine xm_E_s r_law_10 rfl (xm_T_ialx rfl q0 q1 (by decide) q3) ?_
  refine xm_E_s r_law_11 rfl rfl ?_
  refine xm_E_s r_law_12 rfl rfl ?_
  refine xm_E_s r_law_13 rfl (xm_T_tab (42 : Int32) 690 rfl q4 (by decide) rfl) ?_
  refine xm_E_s r_law_690 rfl rfl ?_
  refine xm_E_s r_law_691 rfl rfl ?_
  refine xm_E_s r_law_692 rfl rfl ?_
  refine xm_E_s r_law_693 rfl rfl ?_
  refine xm_E_s r_law_694 rfl rfl ?_
  refine xm_E_s r_law_695 rfl (xm_T_ialx rfl q0 q1 (by decide) q5) ?_
  refine xm_E_s r_law_696 rfl rfl ?_
  refine xm_E_s r_law_697 rfl rfl ?_
  refine xm_E_s r_law_698 rfl rfl ?_
  refine xm_E_s r_law_699 rfl rfl ?_
  refine xm_E_s r_law_700 rfl (xm_T_ialx rfl q0 q1 (by decide) q6) ?_
  refine xm_E_cv [.ref l1, .int (f0 ((l3 + (1 : Int32)).toNatClampNeg)), .int (f0 ((l3 + (2 : Int32)).toNatClampNeg))] [] r_law_701 rfl rfl (Nat.le_of_ble_eq_true rfl) (xm_rc q8 (by decide)) rfl q7 ?_
  refine xm_E_s r_law_702 rfl rfl ?_
  refine xm_E_s r_law_703 rfl rfl ?_
  refine xm_E_s r_law_704 rfl rfl ?_
  refine xm_E_s r_law_705 rfl rfl ?_
  refine xm_E_s r_law_706 rfl rfl ?_
  refine xm_E_s r_law_707 rfl (xm_T_ialx rfl q0 q1 (by decide) q5) ?_
  refine xm_E_s r_law_708 rfl rfl ?_
  refine xm_E_s r_law_709 rfl rfl ?_
  refine xm_E_s r_law_710 rfl rfl ?_
  refine xm_E_s r_law_711 rfl rfl ?_
  refine xm_E_s r_law_712 rfl (xm_T_ialx rfl q0 q1 (by decide) q6) ?_
  refine xm_E_cv [.ref l2, .int (f0 ((l3 + (1 : Int32)).toNatClampNeg)), .int (f0 ((l3 + (2 : Int32)).toNatClampNeg))] [.int r1] r_law_713 rfl rfl (Nat.le_of_ble_eq_true rfl) (xm_rc q10 (by decide)) rfl q9 ?_
  refine xm_E_s r_law_714 rfl rfl ?_
  refine xm_E_f q11 ?_
  refine xm_E_s r_law_715 rfl rfl ?_
  exact xm_E_iret r_law_716 rfl rfl
theorem p_law_2_87 {X : xm_X} {P : List xm_M} {d : Nat} {h : xm_H} {l0 : Nat} {l1 : Nat} {l2 : Nat} {l3 : Int32} {n0 : Nat} {f0 : Nat → Int32} {h1 : xm_H} {r1 : Int32} {h2 : xm_H} {r2 : Int32} {ro : Option Value} {ho : xm_H} (q0 : X.1[l0]? = none) (q1 : X.2.1 l0 = some (0, n0, f0)) (q2 : ¬ ((Int32.ofNat n0) - (6 : Int32) < l3)) (q3 : ¬ (l3 < 0 ∨ n0 ≤ l3.toNatClampNeg)) (q4 : (f0 l3.toNatClampNeg) &&& (63 : Int32) = (43 : Int32)) (q5 : ¬ (l3 + (1 : Int32) < 0 ∨ n0 ≤ (l3 + (1 : Int32)).toNatClampNeg)) (q6 : ¬ (l3 + (2 : Int32) < 0 ∨ n0 ≤ (l3 + (2 : Int32)).toNatClampNeg)) (q7 : xm_V X P d 157 [.ref l1, .int (f0 ((l3 + (1 : Int32)).toNatClampNeg)), .int (f0 ((l3 + (2 : Int32)).toNatClampNeg))] h (some (.int r1)) h1) (q8 : X.1[l1]? = some (.inr 9)) (q9 : xm_V X P d 314 [.ref l2, .int (f0 ((l3 + (1 : Int32)).toNatClampNeg)), .int (f0 ((l3 + (2 : Int32)).toNatClampNeg))] h1 (some (.int r2)) h2) (q10 : X.1[l2]? = some (.inr 10)) (q11 : r1 = r2) (K : xm_E X P d co_law 2 [some (.ref l0), some (.ref l1), some (.ref l2), some (.int (l3 + (6 : Int32)))] [] h2 ro ho) : xm_E X P d co_law 2 [some (.ref l0), some (.ref l1), some (.ref l2), some (.int l3)] [] h ro ho := by
  refine xm_E_s r_law_2 rfl rfl ?_
  refine xm_E_s r_law_3 rfl rfl ?_
  refine xm_E_s r_law_4 rfl (xm_T_alenx rfl q0 q1) ?_
  refine xm_E_s r_law_5 rfl rfl ?_
  refine xm_E_s r_law_6 rfl rfl ?_
  refine xm_E_s r_law_7 rfl rfl ?_
  refine xm_E_f q2 ?_
  refine xm_E_s r_law_8 rfl rfl ?_
  refine xm_E_s r_law_9 rfl rfl ?_
  refine xm_E_s r_law_10 rfl (xm_T_ialx rfl q0 q1 (by decide) q3) ?_
  refine xm_E_s r_law_11 rfl rfl ?_
  refine xm_E_s r_law_12 rfl rfl ?_
  refine xm_E_s r_law_13 rfl (xm_T_tab (43 : Int32) 717 rfl q4 (by decide) rfl) ?_
  refine xm_E_s r_law_717 rfl rfl ?_
  refine xm_E_s r_law_718 rfl rfl ?_
  refine xm_E_s r_law_719 rfl rfl ?_
  refine xm_E_s r_law_720 rfl rfl ?_
  refine xm_E_s r_law_721 rfl rfl ?_
  refine xm_E_s r_law_722 rfl (xm_T_ialx rfl q0 q1 (by decide) q5) ?_
  refine xm_E_s r_law_723 rfl rfl ?_
  refine xm_E_s r_law_724 rfl rfl ?_
  refine xm_E_s r_law_725 rfl rfl ?_
  refine xm_E_s r_law_726 rfl rfl ?_
  refine xm_E_s r_law_727 rfl (xm_T_ialx rfl q0 q1 (by decide) q6) ?_
  refine xm_E_cv [.ref l1, .int (f0 ((l3 + (1 : Int32)).toNatClampNeg)), .int (f0 ((l3 + (2 : Int32)).toNatClampNeg))] [] r_law_728 rfl rfl (Nat.le_of_ble_eq_true rfl) (xm_rc q8 (by decide)) rfl q7 ?_
  refine xm_E_s r_law_729 rfl rfl ?_
  refine xm_E_s r_law_730 rfl rfl ?_
  refine xm_E_s r_law_731 rfl rfl ?_
  refine xm_E_s r_law_732 rfl rfl ?_
  refine xm_E_s r_law_733 rfl rfl ?_
  refine xm_E_s r_law_734 rfl (xm_T_ialx rfl q0 q1 (by decide) q5) ?_
  refine xm_E_s r_law_735 rfl rfl ?_
  refine xm_E_s r_law_736 rfl rfl ?_
  refine xm_E_s r_law_737 rfl rfl ?_
  refine xm_E_s r_law_738 rfl rfl ?_
  refine xm_E_s r_law_739 rfl (xm_T_ialx rfl q0 q1 (by decide) q6) ?_
  refine xm_E_cv [.ref l2, .int (f0 ((l3 + (1 : Int32)).toNatClampNeg)), .int (f0 ((l3 + (2 : Int32)).toNatClampNeg))] [.int r1] r_law_740 rfl rfl (Nat.le_of_ble_eq_true rfl) (xm_rc q10 (by decide)) rfl q9 ?_
  refine xm_E_s r_law_741 rfl rfl ?_
  refine xm_E_t q11 ?_
  refine xm_E_s (ls1 := [some (.ref l0), some (.ref l1), some (.ref l2), some (.int (l3 + (6 : Int32)))]) r_law_1109 rfl rfl ?_
  refine xm_E_s r_law_1110 rfl rfl ?_
  exact K
theorem p_law_2_88 {X : xm_X} {P : List xm_M} {d : Nat} {h : xm_H} {l0 : Nat} {l1 : Nat} {l2 : Nat} {l3 : Int32} {n0 : Nat} {f0 : Nat → Int32} {h1 : xm_H} {r1 : Int32} {h2 : xm_H} {r2 : Int32} (q0 : X.1[l0]? = none) (q1 : X.2.1 l0 = some (0, n0, f0)) (q2 : ¬ ((Int32.ofNat n0) - (6 : Int32) < l3)) (q3 : ¬ (l3 < 0 ∨ n0 ≤ l3.toNatClampNeg)) (q4 : (f0 l3.toNatClampNeg) &&& (63 : Int32) = (43 : Int32)) (q5 : ¬ (l3 + (1 : Int32) < 0 ∨ n0 ≤ (l3 + (1 : Int32)).toNatClampNeg)) (q6 : ¬ (l3 + (2 : Int32) < 0 ∨ n0 ≤ (l3 + (2 : Int32)).toNatClampNeg)) (q7 : xm_V X P d 157 [.ref l1, .int (f0 ((l3 + (1 : Int32)).toNatClampNeg)), .int (f0 ((l3 + (2 : Int32)).toNatClampNeg))] h (some (.int r1)) h1) (q8 : X.1[l1]? = some (.inr 9)) (q9 : xm_V X P d 314 [.ref l2, .int (f0 ((l3 + (1 : Int32)).toNatClampNeg)), .int (f0 ((l3 + (2 : Int32)).toNatClampNeg))] h1 (some (.int r2)) h2) (q10 : X.1[l2]? = some (.inr 10)) (q11 : ¬ (r1 = r2)) : xm_E X P d co_law 2 [some (.ref l0), some (.ref l1), some (.ref l2), some (.int l3)] [] h (some (.int (0 : Int32))) h2 := by
  refine xm_E_s r_law_2 rfl rfl ?_
  refine xm_E_s r_law_3 rfl rfl ?_
  refine xm_E_s r_law_4 rfl (xm_T_alenx rfl q0 q1) ?_
  refine xm_E_s r_law_5 rfl rfl ?_
  refine xm_E_s r_law_6 rfl rfl ?_
  refine xm_E_s r_law_7 rfl rfl ?_
  refine xm_E_f q2 ?_
  refine xm_E_s r_law_8 rfl rfl ?_
  refine xm_E_s r_law_9 rfl rfl ?_
  refine xm_E_s r_law_10 rfl (xm_T_ialx rfl q0 q1 (by decide) q3) ?_
  refine xm_E_s r_law_11 rfl rfl ?_
  refine xm_E_s r_law_12 rfl rfl ?_
  refine xm_E_s r_law_13 rfl (xm_T_tab (43 : Int32) 717 rfl q4 (by decide) rfl) ?_
  refine xm_E_s r_law_717 rfl rfl ?_
  refine xm_E_s r_law_718 rfl rfl ?_
  refine xm_E_s r_law_719 rfl rfl ?_
  refine xm_E_s r_law_720 rfl rfl ?_
  refine xm_E_s r_law_721 rfl rfl ?_
  refine xm_E_s r_law_722 rfl (xm_T_ialx rfl q0 q1 (by decide) q5) ?_
  refine xm_E_s r_law_723 rfl rfl ?_
  refine xm_E_s r_law_724 rfl rfl ?_
  refine xm_E_s r_law_725 rfl rfl ?_
  refine xm_E_s r_law_726 rfl rfl ?_
  refine xm_E_s r_law_727 rfl (xm_T_ialx rfl q0 q1 (by decide) q6) ?_
  refine xm_E_cv [.ref l1, .int (f0 ((l3 + (1 : Int32)).toNatClampNeg)), .int (f0 ((l3 + (2 : Int32)).toNatClampNeg))] [] r_law_728 rfl rfl (Nat.le_of_ble_eq_true rfl) (xm_rc q8 (by decide)) rfl q7 ?_
  refine xm_E_s r_law_729 rfl rfl ?_
  refine xm_E_s r_law_730 rfl rfl ?_
  refine xm_E_s r_law_731 rfl rfl ?_
  refine xm_E_s r_law_732 rfl rfl ?_
  refine xm_E_s r_law_733 rfl rfl ?_
  refine xm_E_s r_law_734 rfl (xm_T_ialx rfl q0 q1 (by decide) q5) ?_
  refine xm_E_s r_law_735 rfl rfl ?_
  refine xm_E_s r_law_736 rfl rfl ?_
  refine xm_E_s r_law_737 rfl rfl ?_
  refine xm_E_s r_law_738 rfl rfl ?_
  refine xm_E_s r_law_739 rfl (xm_T_ialx rfl q0 q1 (by decide) q6) ?_
  refine xm_E_cv [.ref l2, .int (f0 ((l3 + (1 : Int32)).toNatClampNeg)), .int (f0 ((l3 + (2 : Int32)).toNatClampNeg))] [.int r1] r_law_740 rfl rfl (Nat.le_of_ble_eq_true rfl) (xm_rc q10 (by decide)) rfl q9 ?_
  refine xm_E_s r_law_741 rfl rfl ?_
  refine xm_E_f q11 ?_
  refine xm_E_s r_law_742 rfl rfl ?_
  exact xm_E_iret r_law_743 rfl rfl
theorem p_law_2_89 {X : xm_X} {P : List xm_M} {d : Nat} {h : xm_H} {l0 : Nat} {l1 : Nat} {l2 : Nat} {l3 : Int32} {n0 : Nat} {f0 : Nat → Int32} {h1 : xm_H} {r1 : Int32} {h2 : xm_H} {r2 : Int32} {ro : Option Value} {ho : xm_H} (q0 : X.1[l0]? = none) (q1 : X.2.1 l0 = some (0, n0, f0)) (q2 : ¬ ((Int32.ofNat n0) - (6 : Int32) < l3)) (q3 : ¬ (l3 < 0 ∨ n0 ≤ l3.toNatClampNeg)) (q4 : (f0 l3.toNatClampNeg) &&& (63 : Int32) = (44 : Int32)) (q5 : ¬ (l3 + (1 : Int32) < 0 ∨ n0 ≤ (l3 + (1 : Int32)).toNatClampNeg)) (q6 : xm_V X P d 158 [.ref l1, .int (f0 ((l3 + (1 : Int32)).toNatClampNeg))] h (some (.int r1)) h1) (q7 : X.1[l1]? = some (.inr 9)) (q8 : xm_V X P d 315 [.ref l2, .int (f0 ((l3 + (1 : Int32)).toNatClampNeg))] h1 (some (.int r2)) h2) (q9 : X.1[l2]? = some (.inr 10)) (q10 : r1 = r2) (K : xm_E X P d co_law 2 [some (.ref l0), some (.ref l1), some (.ref l2), some (.int (l3 + (6 : Int32)))] [] h2 ro ho) : xm_E X P d co_law 2 [some (.ref l0), some (.ref l1), some (.ref l2), some (.int l3)] [] h ro ho := by
  refine xm_E_s r_law_2 rfl rfl ?_
  refine xm_E_s r_law_3 rfl rfl ?_
  refine xm_E_s r_law_4 rfl (xm_T_alenx rfl q0 q1) ?_
  refine xm_E_s r_law_5 rfl rfl ?_
  refine xm_E_s r_law_6 rfl rfl ?_
  refine xm_E_s r_law_7 rfl rfl ?_
  refine xm_E_f q2 ?_
  refine xm_E_s r_law_8 rfl rfl ?_
  refine xm_E_s r_law_9 rfl rfl ?_
  refine xm_E_s r_law_10 rfl (xm_T_ialx rfl q0 q1 (by decide) q3) ?_
  refine xm_E_s r_law_11 rfl rfl ?_
  refine xm_E_s r_law_12 rfl rfl ?_
  refine xm_E_s r_law_13 rfl (xm_T_tab (44 : Int32) 744 rfl q4 (by decide) rfl) ?_
  refine xm_E_s r_law_744 rfl rfl ?_
  refine xm_E_s r_law_745 rfl rfl ?_
  refine xm_E_s r_law_746 rfl rfl ?_
  refine xm_E_s r_law_747 rfl rfl ?_
  refine xm_E_s r_law_748 rfl rfl ?_
  refine xm_E_s r_law_749 rfl (xm_T_ialx rfl q0 q1 (by decide) q5) ?_
  refine xm_E_cv [.ref l1, .int (f0 ((l3 + (1 : Int32)).toNatClampNeg))] [] r_law_750 rfl rfl (Nat.le_of_ble_eq_true rfl) (xm_rc q7 (by decide)) rfl q6 ?_
  refine xm_E_s r_law_751 rfl rfl ?_
  refine xm_E_s r_law_752 rfl rfl ?_
  refine xm_E_s r_law_753 rfl rfl ?_
  refine xm_E_s r_law_754 rfl rfl ?_
  refine xm_E_s r_law_755 rfl rfl ?_
  refine xm_E_s r_law_756 rfl (xm_T_ialx rfl q0 q1 (by decide) q5) ?_
  refine xm_E_cv [.ref l2, .int (f0 ((l3 + (1 : Int32)).toNatClampNeg))] [.int r1] r_law_757 rfl rfl (Nat.le_of_ble_eq_true rfl) (xm_rc q9 (by decide)) rfl q8 ?_
  refine xm_E_s r_law_758 rfl rfl ?_
  refine xm_E_t q10 ?_
  refine xm_E_s (ls1 := [some (.ref l0), some (.ref l1), some (.ref l2), some (.int (l3 + (6 : Int32)))]) r_law_1109 rfl rfl ?_
  refine xm_E_s r_law_1110 rfl rfl ?_
  exact K
theorem p_law_2_90 {X : xm_X} {P : List xm_M} {d : Nat} {h : xm_H} {l0 : Nat} {l1 : Nat} {l2 : Nat} {l3 : Int32} {n0 : Nat} {f0 : Nat → Int32} {h1 : xm_H} {r1 : Int32} {h2 : xm_H} {r2 : Int32} (q0 : X.1[l0]? = none) (q1 : X.2.1 l0 = some (0, n0, f0)) (q2 : ¬ ((Int32.ofNat n0) - (6 : Int32) < l3)) (q3 : ¬ (l3 < 0 ∨ n0 ≤ l3.toNatClampNeg)) (q4 : (f0 l3.toNatClampNeg) &&& (63 : Int32) = (44 : Int32)) (q5 : ¬ (l3 + (1 : Int32) < 0 ∨ n0 ≤ (l3 + (1 : Int32)).toNatClampNeg)) (q6 : xm_V X P d 158 [.ref l1, .int (f0 ((l3 + (1 : Int32)).toNatClampNeg))] h (some (.int r1)) h1) (q7 : X.1[l1]? = some (.inr 9)) (q8 : xm_V X P d 315 [.ref l2, .int (f0 ((l3 + (1 : Int32)).toNatClampNeg))] h1 (some (.int r2)) h2) (q9 : X.1[l2]? = some (.inr 10)) (q10 : ¬ (r1 = r2)) : xm_E X P d co_law 2 [some (.ref l0), some (.ref l1), some (.ref l2), some (.int l3)] [] h (some (.int (0 : Int32))) h2 := by
  refine xm_E_s r_law_2 rfl rfl ?_
  refine xm_E_s r_law_3 rfl rfl ?_
  refine xm_E_s r_law_4 rfl (xm_T_alenx rfl q0 q1) ?_
  refine xm_E_s r_law_5 rfl rfl ?_
  refine xm_E_s r_law_6 rfl rfl ?_
  refine xm_E_s r_law_7 rfl rfl ?_
  refine xm_E_f q2 ?_
  refine xm_E_s r_law_8 rfl rfl ?_
  refine xm_E_s r_law_9 rfl rfl ?_
  refine xm_E_s r_law_10 rfl (xm_T_ialx rfl q0 q1 (by decide) q3) ?_
  refine xm_E_s r_law_11 rfl rfl ?_
  refine xm_E_s r_law_12 rfl rfl ?_
  refine xm_E_s r_law_13 rfl (xm_T_tab (44 : Int32) 744 rfl q4 (by decide) rfl) ?_
  refine xm_E_s r_law_744 rfl rfl ?_
  refine xm_E_s r_law_745 rfl rfl ?_
  refine xm_E_s r_law_746 rfl rfl ?_
  refine xm_E_s r_law_747 rfl rfl ?_
  refine xm_E_s r_law_748 rfl rfl ?_
  refine xm_E_s r_law_749 rfl (xm_T_ialx rfl q0 q1 (by decide) q5) ?_
  refine xm_E_cv [.ref l1, .int (f0 ((l3 + (1 : Int32)).toNatClampNeg))] [] r_law_750 rfl rfl (Nat.le_of_ble_eq_true rfl) (xm_rc q7 (by decide)) rfl q6 ?_
  refine xm_E_s r_law_751 rfl rfl ?_
  refine xm_E_s r_law_752 rfl rfl ?_
  refine xm_E_s r_law_753 rfl rfl ?_
  refine xm_E_s r_law_754 rfl rfl ?_
  refine xm_E_s r_law_755 rfl rfl ?_
  refine xm_E_s r_law_756 rfl (xm_T_ialx rfl q0 q1 (by decide) q5) ?_
  refine xm_E_cv [.ref l2, .int (f0 ((l3 + (1 : Int32)).toNatClampNeg))] [.int r1] r_law_757 rfl rfl (Nat.le_of_ble_eq_true rfl) (xm_rc q9 (by decide)) rfl q8 ?_
  refine xm_E_s r_law_758 rfl rfl ?_
  refine xm_E_f q10 ?_
  refine xm_E_s r_law_759 rfl rfl ?_
  exact xm_E_iret r_law_760 rfl rfl
theorem p_law_2_91 {X : xm_X} {P : List xm_M} {d : Nat} {h : xm_H} {l0 : Nat} {l1 : Nat} {l2 : Nat} {l3 : Int32} {n0 : Nat} {f0 : Nat → Int32} {h1 : xm_H} {r1 : Int32} {h2 : xm_H} {r2 : Int32} {ro : Option Value} {ho : xm_H} (q0 : X.1[l0]? = none) (q1 : X.2.1 l0 = some (0, n0, f0)) (q2 : ¬ ((Int32.ofNat n0) - (6 : Int32) < l3)) (q3 : ¬ (l3 < 0 ∨ n0 ≤ l3.toNatClampNeg)) (q4 : (f0 l3.toNatClampNeg) &&& (63 : Int32) = (45 : Int32)) (q5 : xm_V X P d 159 [.ref l1] h (some (.int r1)) h1) (q6 : X.1[l1]? = some (.inr 9)) (q7 : xm_V X P d 316 [.ref l2] h1 (some (.int r2)) h2) (q8 : X.1[l2]? = some (.inr 10)) (q9 : r1 = r2) (K : xm_E X P d co_law 2 [some (.ref l0), some (.ref l1), some (.ref l2), some (.int (l3 + (6 : Int32)))] [] h2 ro ho) : xm_E X P d co_law 2 [some (.ref l0), some (.ref l1), some (.ref l2), some (.int l3)] [] h ro ho := by
  refine xm_E_s r_law_2 rfl rfl ?_
  refine xm_E_s r_law_3 rfl rfl ?_
  refine xm_E_s r_law_4 rfl (xm_T_alenx rfl q0 q1) ?_
  refine xm_E_s r_law_5 rfl rfl ?_
  refine xm_E_s r_law_6 rfl rfl ?_
  refine xm_E_s r_law_7 rfl rfl ?_
  refine xm_E_f q2 ?_
  refine xm_E_s r_law_8 rfl rfl ?_
  refine xm_E_s r_law_9 rfl rfl ?_
  refine xm_E_s r_law_10 rfl (xm_T_ialx rfl q0 q1 (by decide) q3) ?_
  refine xm_E_s r_law_11 rfl rfl ?_
  refine xm_E_s r_law_12 rfl rfl ?_
  refine xm_E_s r_law_13 rfl (xm_T_tab (45 : Int32) 761 rfl q4 (by decide) rfl) ?_
  refine xm_E_s r_law_761 rfl rfl ?_
  refine xm_E_cv [.ref l1] [] r_law_762 rfl rfl (Nat.le_of_ble_eq_true rfl) (xm_rc q6 (by decide)) rfl q5 ?_
  refine xm_E_s r_law_763 rfl rfl ?_
  refine xm_E_cv [.ref l2] [.int r1] r_law_764 rfl rfl (Nat.le_of_ble_eq_true rfl) (xm_rc q8 (by decide)) rfl q7 ?_
  refine xm_E_s r_law_765 rfl rfl ?_
  refine xm_E_t q9 ?_
  refine xm_E_s (ls1 := [some (.ref l0), some (.ref l1), some (.ref l2), some (.int (l3 + (6 : Int32)))]) r_law_1109 rfl rfl ?_
  refine xm_E_s r_law_1110 rfl rfl ?_
  exact K
theorem p_law_2_92 {X : xm_X} {P : List xm_M} {d : Nat} {h : xm_H} {l0 : Nat} {l1 : Nat} {l2 : Nat} {l3 : Int32} {n0 : Nat} {f0 : Nat → Int32} {h1 : xm_H} {r1 : Int32} {h2 : xm_H} {r2 : Int32} (q0 : X.1[l0]? = none) (q1 : X.2.1 l0 = some (0, n0, f0)) (q2 : ¬ ((Int32.ofNat n0) - (6 : Int32) < l3)) (q3 : ¬ (l3 < 0 ∨ n0 ≤ l3.toNatClampNeg)) (q4 : (f0 l3.toNatClampNeg) &&& (63 : Int32) = (45 : Int32)) (q5 : xm_V X P d 159 [.ref l1] h (some (.int r1)) h1) (q6 : X.1[l1]? = some (.inr 9)) (q7 : xm_V X P d 316 [.ref l2] h1 (some (.int r2)) h2) (q8 : X.1[l2]? = some (.inr 10)) (q9 : ¬ (r1 = r2)) : xm_E X P d co_law 2 [some (.ref l0), some (.ref l1), some (.ref l2), some (.int l3)] [] h (some (.int (0 : Int32))) h2 := by
  refine xm_E_s r_law_2 rfl rfl ?_
  refine xm_E_s r_law_3 rfl rfl ?_
  refine xm_E_s r_law_4 rfl (xm_T_alenx rfl q0 q1) ?_
  refine xm_E_s r_law_5 rfl rfl ?_
  refine xm_E_s r_law_6 rfl rfl ?_
  refine xm_E_s r_law_7 rfl rfl ?_
  refine xm_E_f q2 ?_
  refine xm_E_s r_law_8 rfl rfl ?_
  refine xm_E_s r_law_9 rfl rfl ?_
  refine xm_E_s r_law_10 rfl (xm_T_ialx rfl q0 q1 (by decide) q3) ?_
  refine xm_E_s r_law_11 rfl rfl ?_
  refine xm_E_s r_law_12 rfl rfl ?_
  refine xm_E_s r_law_13 rfl (xm_T_tab (45 : Int32) 761 rfl q4 (by decide) rfl) ?_
  refine xm_E_s r_law_761 rfl rfl ?_
  refine xm_E_cv [.ref l1] [] r_law_762 rfl rfl (Nat.le_of_ble_eq_true rfl) (xm_rc q6 (by decide)) rfl q5 ?_
  refine xm_E_s r_law_763 rfl rfl ?_
  refine xm_E_cv [.ref l2] [.int r1] r_law_764 rfl rfl (Nat.le_of_ble_eq_true rfl) (xm_rc q8 (by decide)) rfl q7 ?_
  refine xm_E_s r_law_765 rfl rfl ?_
  refine xm_E_f q9 ?_
  refine xm_E_s r_law_766 rfl rfl ?_
  exact xm_E_iret r_law_767 rfl rfl
theorem p_law_2_93 {X : xm_X} {P : List xm_M} {d : Nat} {h : xm_H} {l0 : Nat} {l1 : Nat} {l2 : Nat} {l3 : Int32} {n0 : Nat} {f0 : Nat → Int32} {h1 : xm_H} {r1 : Int32} {h2 : xm_H} {r2 : Int32} {ro : Option Value} {ho : xm_H} (q0 : X.1[l0]? = none) (q1 : X.2.1 l0 = some (0, n0, f0)) (q2 : ¬ ((Int32.ofNat n0) - (6 : Int32) < l3)) (q3 : ¬ (l3 < 0 ∨ n0 ≤ l3.toNatClampNeg)) (q4 : (f0 l3.toNatClampNeg) &&& (63 : Int32) = (46 : Int32)) (q5 : ¬ (l3 + (1 : Int32) < 0 ∨ n0 ≤ (l3 + (1 : Int32)).toNatClampNeg)) (q6 : xm_V X P d 164 [.ref l1, .int (f0 ((l3 + (1 : Int32)).toNatClampNeg))] h (some (.int r1)) h1) (q7 : X.1[l1]? = some (.inr 9)) (q8 : xm_V X P d 319 [.ref l2, .int (f0 ((l3 + (1 : Int32)).toNatClampNeg))] h1 (some (.int r2)) h2) (q9 : X.1[l2]? = some (.inr 10)) (q10 : r1 = r2) (K : xm_E X P d co_law 2 [some (.ref l0), some (.ref l1), some (.ref l2), some (.int (l3 + (6 : Int32)))] [] h2 ro ho) : xm_E X P d co_law 2 [some (.ref l0), some (.ref l1), some (.ref l2), some (.int l3)] [] h ro ho := by
  refine xm_E_s r_law_2 rfl rfl ?_
  refine xm_E_s r_law_3 rfl rfl ?_
  refine xm_E_s r_law_4 rfl (xm_T_alenx rfl q0 q1) ?_
  refine xm_E_s r_law_5 rfl rfl ?_
  refine xm_E_s r_law_6 rfl rfl ?_
  refine xm_E_s r_law_7 rfl rfl ?_
  refine xm_E_f q2 ?_
  refine xm_E_s r_law_8 rfl rfl ?_
  refine xm_E_s r_law_9 rfl rfl ?_
  refine xm_E_s r_law_10 rfl (xm_T_ialx rfl q0 q1 (by decide) q3) ?_
  refine xm_E_s r_law_11 rfl rfl ?_
  refine xm_E_s r_law_12 rfl rfl ?_
  refine xm_E_s r_law_13 rfl (xm_T_tab (46 : Int32) 768 rfl q4 (by decide) rfl) ?_
  refine xm_E_s r_law_768 rfl rfl ?_
  refine xm_E_s r_law_769 rfl rfl ?_
  refine xm_E_s r_law_770 rfl rfl ?_
  refine xm_E_s r_law_771 rfl rfl ?_
  refine xm_E_s r_law_772 rfl rfl ?_
  refine xm_E_s r_law_773 rfl (xm_T_ialx rfl q0 q1 (by decide) q5) ?_
  refine xm_E_cv [.ref l1, .int (f0 ((l3 + (1 : Int32)).toNatClampNeg))] [] r_law_774 rfl rfl (Nat.le_of_ble_eq_true rfl) (xm_rc q7 (by decide)) rfl q6 ?_
  refine xm_E_s r_law_775 rfl rfl ?_
  refine xm_E_s r_law_776 rfl rfl ?_
  refine xm_E_s r_law_777 rfl rfl ?_
  refine xm_E_s r_law_778 rfl rfl ?_
  refine xm_E_s r_law_779 rfl rfl ?_
  refine xm_E_s r_law_780 rfl (xm_T_ialx rfl q0 q1 (by decide) q5) ?_
  refine xm_E_cv [.ref l2, .int (f0 ((l3 + (1 : Int32)).toNatClampNeg))] [.int r1] r_law_781 rfl rfl (Nat.le_of_ble_eq_true rfl) (xm_rc q9 (by decide)) rfl q8 ?_
  refine xm_E_s r_law_782 rfl rfl ?_
  refine xm_E_t q10 ?_
  refine xm_E_s (ls1 := [some (.ref l0), some (.ref l1), some (.ref l2), some (.int (l3 + (6 : Int32)))]) r_law_1109 rfl rfl ?_
  refine xm_E_s r_law_1110 rfl rfl ?_
  exact K
theorem p_law_2_94 {X : xm_X} {P : List xm_M} {d : Nat} {h : xm_H} {l0 : Nat} {l1 : Nat} {l2 : Nat} {l3 : Int32} {n0 : Nat} {f0 : Nat → Int32} {h1 : xm_H} {r1 : Int32} {h2 : xm_H} {r2 : Int32} (q0 : X.1[l0]? = none) (q1 : X.2.1 l0 = some (0, n0, f0)) (q2 : ¬ ((Int32.ofNat n0) - (6 : Int32) < l3)) (q3 : ¬ (l3 < 0 ∨ n0 ≤ l3.toNatClampNeg)) (q4 : (f0 l3.toNatClampNeg) &&& (63 : Int32) = (46 : Int32)) (q5 : ¬ (l3 + (1 : Int32) < 0 ∨ n0 ≤ (l3 + (1 : Int32)).toNatClampNeg)) (q6 : xm_V X P d 164 [.ref l1, .int (f0 ((l3 + (1 : Int32)).toNatClampNeg))] h (some (.int r1)) h1) (q7 : X.1[l1]? = some (.inr 9)) (q8 : xm_V X P d 319 [.ref l2, .int (f0 ((l3 + (1 : Int32)).toNatClampNeg))] h1 (some (.int r2)) h2) (q9 : X.1[l2]? = some (.inr 10)) (q10 : ¬ (r1 = r2)) : xm_E X P d co_law 2 [some (.ref l0), some (.ref l1), some (.ref l2), some (.int l3)] [] h (some (.int (0 : Int32))) h2 := by
  refine xm_E_s r_law_2 rfl rfl ?_
  refine xm_E_s r_law_3 rfl rfl ?_
  refine xm_E_s r_law_4 rfl (xm_T_alenx rfl q0 q1) ?_
  refine xm_E_s r_law_5 rfl rfl ?_
  refine xm_E_s r_law_6 rfl rfl ?_
  refine xm_E_s r_law_7 rfl rfl ?_
  refine xm_E_f q2 ?_
  refine xm_E_s r_law_8 rfl rfl ?_
  refine xm_E_s r_law_9 rfl rfl ?_
  refine xm_E_s r_law_10 rfl (xm_T_ialx rfl q0 q1 (by decide) q3) ?_
  refine xm_E_s r_law_11 rfl rfl ?_
  refine xm_E_s r_law_12 rfl rfl ?_
  refine xm_E_s r_law_13 rfl (xm_T_tab (46 : Int32) 768 rfl q4 (by decide) rfl) ?_
  refine xm_E_s r_law_768 rfl rfl ?_
  refine xm_E_s r_law_769 rfl rfl ?_
  refine xm_E_s r_law_770 rfl rfl ?_
  refine xm_E_s r_law_771 rfl rfl ?_
  refine xm_E_s r_law_772 rfl rfl ?_
  refine xm_E_s r_law_773 rfl (xm_T_ialx rfl q0 q1 (by decide) q5) ?_
  refine xm_E_cv [.ref l1, .int (f0 ((l3 + (1 : Int32)).toNatClampNeg))] [] r_law_774 rfl rfl (Nat.le_of_ble_eq_true rfl) (xm_rc q7 (by decide)) rfl q6 ?_
  refine xm_E_s r_law_775 rfl rfl ?_
  refine xm_E_s r_law_776 rfl rfl ?_
  refine xm_E_s r_law_777 rfl rfl ?_
  refine xm_E_s r_law_778 rfl rfl ?_
  refine xm_E_s r_law_779 rfl rfl ?_
  refine xm_E_s r_law_780 rfl (xm_T_ialx rfl q0 q1 (by decide) q5) ?_
  refine xm_E_cv [.ref l2, .int (f0 ((l3 + (1 : Int32)).toNatClampNeg))] [.int r1] r_law_781 rfl rfl (Nat.le_of_ble_eq_true rfl) (xm_rc q9 (by decide)) rfl q8 ?_
  refine xm_E_s r_law_782 rfl rfl ?_
  refine xm_E_f q10 ?_
  refine xm_E_s r_law_783 rfl rfl ?_
  exact xm_E_iret r_law_784 rfl rfl
theorem p_law_2_95 {X : xm_X} {P : List xm_M} {d : Nat} {h : xm_H} {l0 : Nat} {l1 : Nat} {l2 : Nat} {l3 : Int32} {n0 : Nat} {f0 : Nat → Int32} {h1 : xm_H} {r1 : Int32} {h2 : xm_H} {r2 : Int32} {ro : Option Value} {ho : xm_H} (q0 : X.1[l0]? = none) (q1 : X.2.1 l0 = some (0, n0, f0)) (q2 : ¬ ((Int32.ofNat n0) - (6 : Int32) < l3)) (q3 : ¬ (l3 < 0 ∨ n0 ≤ l3.toNatClampNeg)) (q4 : (f0 l3.toNatClampNeg) &&& (63 : Int32) = (47 : Int32)) (q5 : ¬ (l3 + (1 : Int32) < 0 ∨ n0 ≤ (l3 + (1 : Int32)).toNatClampNeg)) (q6 : xm_V X P d 166 [.ref l1, .int (f0 ((l3 + (1 : Int32)).toNatClampNeg))] h (some (.int r1)) h1) (q7 : X.1[l1]? = some (.inr 9)) (q8 : xm_V X P d 320 [.ref l2, .int (f0 ((l3 + (1 : Int32)).toNatClampNeg))] h1 (some (.int r2)) h2) (q9 : X.1[l2]? = some (.inr 10)) (q10 : r1 = r2) (K : xm_E X P d co_law 2 [some (.ref l0), some (.ref l1), some (.ref l2), some (.int (l3 + (6 : Int32)))] [] h2 ro ho) : xm_E X P d co_law 2 [some (.ref l0), some (.ref l1), some (.ref l2), some (.int l3)] [] h ro ho := by
  refine xm_E_s r_law_2 rfl rfl ?_
  refine xm_E_s r_law_3 rfl rfl ?_
  refine xm_E_s r_law_4 rfl (xm_T_alenx rfl q0 q1) ?_
  refine xm_E_s r_law_5 rfl rfl ?_
  refine xm_E_s r_law_6 rfl rfl ?_
  refine xm_E_s r_law_7 rfl rfl ?_
  refine xm_E_f q2 ?_
  refine xm_E_s r_law_8 rfl rfl ?_
  refine xm_E_s r_law_9 rfl rfl ?_
  refine xm_E_s r_law_10 rfl (xm_T_ialx rfl q0 q1 (by decide) q3) ?_
  refine xm_E_s r_law_11 rfl rfl ?_
  refine xm_E_s r_law_12 rfl rfl ?_
  refine xm_E_s r_law_13 rfl (xm_T_tab (47 : Int32) 785 rfl q4 (by decide) rfl) ?_
  refine xm_E_s r_law_785 rfl rfl ?_
  refine xm_E_s r_law_786 rfl rfl ?_
  refine xm_E_s r_law_787 rfl rfl ?_
  refine xm_E_s r_law_788 rfl rfl ?_
  refine xm_E_s r_law_789 rfl rfl ?_
  refine xm_E_s r_law_790 rfl (xm_T_ialx rfl q0 q1 (by decide) q5) ?_
  refine xm_E_cv [.ref l1, .int (f0 ((l3 + (1 : Int32)).toNatClampNeg))] [] r_law_791 rfl rfl (Nat.le_of_ble_eq_true rfl) (xm_rc q7 (by decide)) rfl q6 ?_
  refine xm_E_s r_law_792 rfl rfl ?_
  refine xm_E_s r_law_793 rfl rfl ?_
  refine xm_E_s r_law_794 rfl rfl ?_
  refine xm_E_s r_law_795 rfl rfl ?_
  refine xm_E_s r_law_796 rfl rfl ?_
  refine xm_E_s r_law_797 rfl (xm_T_ialx rfl q0 q1 (by decide) q5) ?_
  refine xm_E_cv [.ref l2, .int (f0 ((l3 + (1 : Int32)).toNatClampNeg))] [.int r1] r_law_798 rfl rfl (Nat.le_of_ble_eq_true rfl) (xm_rc q9 (by decide)) rfl q8 ?_
  refine xm_E_s r_law_799 rfl rfl ?_
  refine xm_E_t q10 ?_
  refine xm_E_s (ls1 := [some (.ref l0), some (.ref l1), some (.ref l2), some (.int (l3 + (6 : Int32)))]) r_law_1109 rfl rfl ?_
  refine xm_E_s r_law_1110 rfl rfl ?_
  exact K
theorem p_law_2_96 {X : xm_X} {P : List xm_M} {d : Nat} {h : xm_H} {l0 : Nat} {l1 : Nat} {l2 : Nat} {l3 : Int32} {n0 : Nat} {f0 : Nat → Int32} {h1 : xm_H} {r1 : Int32} {h2 : xm_H} {r2 : Int32} (q0 : X.1[l0]? = none) (q1 : X.2.1 l0 = some (0, n0, f0)) (q2 : ¬ ((Int32.ofNat n0) - (6 : Int32) < l3)) (q3 : ¬ (l3 < 0 ∨ n0 ≤ l3.toNatClampNeg)) (q4 : (f0 l3.toNatClampNeg) &&& (63 : Int32) = (47 : Int32)) (q5 : ¬ (l3 + (1 : Int32) < 0 ∨ n0 ≤ (l3 + (1 : Int32)).toNatClampNeg)) (q6 : xm_V X P d 166 [.ref l1, .int (f0 ((l3 + (1 : Int32)).toNatClampNeg))] h (some (.int r1)) h1) (q7 : X.1[l1]? = some (.inr 9)) (q8 : xm_V X P d 320 [.ref l2, .int (f0 ((l3 + (1 : Int32)).toNatClampNeg))] h1 (some (.int r2)) h2) (q9 : X.1[l2]? = some (.inr 10)) (q10 : ¬ (r1 = r2)) : xm_E X P d co_law 2 [some (.ref l0), some (.ref l1), some (.ref l2), some (.int l3)] [] h (some (.int (0 : Int32))) h2 := by
  refine xm_E_s r_law_2 rfl rfl ?_
  refine xm_E_s r_law_3 rfl rfl ?_
  refine xm_E_s r_law_4 rfl (xm_T_alenx rfl q0 q1) ?_
  refine xm_E_s r_law_5 rfl rfl ?_
  refine xm_E_s r_law_6 rfl rfl ?_
  refine xm_E_s r_law_7 rfl rfl ?_
  refine xm_E_f q2 ?_
  refine xm_E_s r_law_8 rfl rfl ?_
  refine xm_E_s r_law_9 rfl rfl ?_
  refine xm_E_s r_law_10 rfl (xm_T_ialx rfl q0 q1 (by decide) q3) ?_
  refine xm_E_s r_law_11 rfl rfl ?_
  refine xm_E_s r_law_12 rfl rfl ?_
  refine xm_E_s r_law_13 rfl (xm_T_tab (47 : Int32) 785 rfl q4 (by decide) rfl) ?_
  refine xm_E_s r_law_785 rfl rfl ?_
  refine xm_E_s r_law_786 rfl rfl ?_
  refine xm_E_s r_law_787 rfl rfl ?_
  refine xm_E_s r_law_788 rfl rfl ?_
  refine xm_E_s r_law_789 rfl rfl ?_
  refine xm_E_s r_law_790 rfl (xm_T_ialx rfl q0 q1 (by decide) q5) ?_
  refine xm_E_cv [.ref l1, .int (f0 ((l3 + (1 : Int32)).toNatClampNeg))] [] r_law_791 rfl rfl (Nat.le_of_ble_eq_true rfl) (xm_rc q7 (by decide)) rfl q6 ?_
  refine xm_E_s r_law_792 rfl rfl ?_
  refine xm_E_s r_law_793 rfl rfl ?_
  refine xm_E_s r_law_794 rfl rfl ?_
  refine xm_E_s r_law_795 rfl rfl ?_
  refine xm_E_s r_law_796 rfl rfl ?_
  refine xm_E_s r_law_797 rfl (xm_T_ialx rfl q0 q1 (by decide) q5) ?_
  refine xm_E_cv [.ref l2, .int (f0 ((l3 + (1 : Int32)).toNatClampNeg))] [.int r1] r_law_798 rfl rfl (Nat.le_of_ble_eq_true rfl) (xm_rc q9 (by decide)) rfl q8 ?_
  refine xm_E_s r_law_799 rfl rfl ?_
  refine xm_E_f q10 ?_
  refine xm_E_s r_law_800 rfl rfl ?_
  exact xm_E_iret r_law_801 rfl rfl
theorem p_law_2_97 {X : xm_X} {P : List xm_M} {d : Nat} {h : xm_H} {l0 : Nat} {l1 : Nat} {l2 : Nat} {l3 : Int32} {n0 : Nat} {f0 : Nat → Int32} {h1 : xm_H} {r1 : Int32} {h2 : xm_H} {r2 : Int32} {ro : Option Value} {ho : xm_H} (q0 : X.1[l0]? = none) (q1 : X.2.1 l0 = some (0, n0, f0)) (q2 : ¬ ((Int32.ofNat n0) - (6 : Int32) < l3)) (q3 : ¬ (l3 < 0 ∨ n0 ≤ l3.toNatClampNeg)) (q4 : (f0 l3.toNatClampNeg) &&& (63 : Int32) = (48 : Int32)) (q5 : ¬ (l3 + (1 : Int32) < 0 ∨ n0 ≤ (l3 + (1 : Int32)).toNatClampNeg)) (q6 : ¬ (l3 + (2 : Int32) < 0 ∨ n0 ≤ (l3 + (2 : Int32)).toNatClampNeg)) (q7 : ¬ (l3 + (3 : Int32) < 0 ∨ n0 ≤ (l3 + (3 : Int32)).toNatClampNeg)) (q8 : xm_V X P d 167 [.ref l1, .int (f0 ((l3 + (1 : Int32)).toNatClampNeg)), .int (f0 ((l3 + (2 : Int32)).toNatClampNeg)), .int (f0 ((l3 + (3 : Int32)).toNatClampNeg))] h (some (.int r1)) h1) (q9 : X.1[l1]? = some (.inr 9)) (q10 : xm_V X P d 321 [.ref l2, .int (f0 ((l3 + (1 : Int32)).toNatClampNeg)), .int (f0 ((l3 + (2 : Int32)).toNatClampNeg)), .int (f0 ((l3 + (3 : Int32)).toNatClampNeg))] h1 (some (.int r2)) h2) (q11 : X.1[l2]? = some (.inr 10)) (q12 : r1 = r2) (K : xm_E X P d co_law 2 [some (.ref l0), some (.ref l1), some (.ref l2), some (.int (l3 + (6 : Int32)))] [] h2 ro ho) : xm_E X P d co_law 2 [some (.ref l0), some (.ref l1), some (.ref l2), some (.int l3)] [] h ro ho := by
  refine xm_E_s r_law_2 rfl rfl ?_
  refine xm_E_s r_law_3 rfl rfl ?_
  refine xm_E_s r_law_4 rfl (xm_T_alenx rfl q0 q1) ?_
  refine xm_E_s r_law_5 rfl rfl ?_
  refine xm_E_s r_law_6 rfl rfl ?_
  refine xm_E_s r_law_7 rfl rfl ?_
  refine xm_E_f q2 ?_
  refine xm_E_s r_law_8 rfl rfl ?_
  refine xm_E_s r_law_9 rfl rfl ?_
  refine xm_E_s r_law_10 rfl (xm_T_ialx rfl q0 q1 (by decide) q3) ?_
  refine xm_E_s r_law_11 rfl rfl ?_
  refine xm_E_s r_law_12 rfl rfl ?_
  refine xm_E_s r_law_13 rfl (xm_T_tab (48 : Int32) 802 rfl q4 (by decide) rfl) ?_
  refine xm_E_s r_law_802 rfl rfl ?_
  refine xm_E_s r_law_803 rfl rfl ?_
  refine xm_E_s r_law_804 rfl rfl ?_
  refine xm_E_s r_law_805 rfl rfl ?_
  refine xm_E_s r_law_806 rfl rfl ?_
  refine xm_E_s r_law_807 rfl (xm_T_ialx rfl q0 q1 (by decide) q5) ?_
  refine xm_E_s r_law_808 rfl rfl ?_
  refine xm_E_s r_law_809 rfl rfl ?_
  refine xm_E_s r_law_810 rfl rfl ?_
  refine xm_E_s r_law_811 rfl rfl ?_
  refine xm_E_s r_law_812 rfl (xm_T_ialx rfl q0 q1 (by decide) q6) ?_
  refine xm_E_s r_law_813 rfl rfl ?_
  refine xm_E_s r_law_814 rfl rfl ?_
  refine xm_E_s r_law_815 rfl rfl ?_
  refine xm_E_s r_law_816 rfl rfl ?_
  refine xm_E_s r_law_817 rfl (xm_T_ialx rfl q0 q1 (by decide) q7) ?_
  refine xm_E_cv [.ref l1, .int (f0 ((l3 + (1 : Int32)).toNatClampNeg)), .int (f0 ((l3 + (2 : Int32)).toNatClampNeg)), .int (f0 ((l3 + (3 : Int32)).toNatClampNeg))] [] r_law_818 rfl rfl (Nat.le_of_ble_eq_true rfl) (xm_rc q9 (by decide)) rfl q8 ?_
  refine xm_E_s r_law_819 rfl rfl ?_
  refine xm_E_s r_law_820 rfl rfl ?_
  refine xm_E_s r_law_821 rfl rfl ?_
  refine xm_E_s r_law_822 rfl rfl ?_
  refine xm_E_s r_law_823 rfl rfl ?_
  refine xm_E_s r_law_824 rfl (xm_T_ialx rfl q0 q1 (by decide) q5) ?_
  refine xm_E_s r_law_825 rfl rfl ?_
  refine xm_E_s r_law_826 rfl rfl ?_
  refine xm_E_s r_law_827 rfl rfl ?_
  refine xm_E_s r_law_828 rfl rfl ?_
  refine xm_E_s r_law_829 rfl (xm_T_ialx rfl q0 q1 (by decide) q6) ?_
  refine xm_E_s r_law_830 rfl rfl ?_
  refine xm_E_s r_law_831 rfl rfl ?_
  refine xm_E_s r_law_832 rfl rfl ?_
  refine xm_E_s r_law_833 rfl rfl ?_
  refine xm_E_s r_law_834 rfl (xm_T_ialx rfl q0 q1 (by decide) q7) ?_
  refine xm_E_cv [.ref l2, .int (f0 ((l3 + (1 : Int32)).toNatClampNeg)), .int (f0 ((l3 + (2 : Int32)).toNatClampNeg)), .int (f0 ((l3 + (3 : Int32)).toNatClampNeg))] [.int r1] r_law_835 rfl rfl (Nat.le_of_ble_eq_true rfl) (xm_rc q11 (by decide)) rfl q10 ?_
  refine xm_E_s r_law_836 rfl rfl ?_
  refine xm_E_t q12 ?_
  refine xm_E_s (ls1 := [some (.ref l0), some (.ref l1), some (.ref l2), some (.int (l3 + (6 : Int32)))]) r_law_1109 rfl rfl ?_
  refine xm_E_s r_law_1110 rfl rfl ?_
  exact K
theorem p_law_2_98 {X : xm_X} {P : List xm_M} {d : Nat} {h : xm_H} {l0 : Nat} {l1 : Nat} {l2 : Nat} {l3 : Int32} {n0 : Nat} {f0 : Nat → Int32} {h1 : xm_H} {r1 : Int32} {h2 : xm_H} {r2 : Int32} (q0 : X.1[l0]? = none) (q1 : X.2.1 l0 = some (0, n0, f0)) (q2 : ¬ ((Int32.ofNat n0) - (6 : Int32) < l3)) (q3 : ¬ (l3 < 0 ∨ n0 ≤ l3.toNatClampNeg)) (q4 : (f0 l3.toNatClampNeg) &&& (63 : Int32) = (48 : Int32)) (q5 : ¬ (l3 + (1 : Int32) < 0 ∨ n0 ≤ (l3 + (1 : Int32)).toNatClampNeg)) (q6 : ¬ (l3 + (2 : Int32) < 0 ∨ n0 ≤ (l3 + (2 : Int32)).toNatClampNeg)) (q7 : ¬ (l3 + (3 : Int32) < 0 ∨ n0 ≤ (l3 + (3 : Int32)).toNatClampNeg)) (q8 : xm_V X P d 167 [.ref l1, .int (f0 ((l3 + (1 : Int32)).toNatClampNeg)), .int (f0 ((l3 + (2 : Int32)).toNatClampNeg)), .int (f0 ((l3 + (3 : Int32)).toNatClampNeg))] h (some (.int r1)) h1) (q9 : X.1[l1]? = some (.inr 9)) (q10 : xm_V X P d 321 [.ref l2, .int (f0 ((l3 + (1 : Int32)).toNatClampNeg)), .int (f0 ((l3 + (2 : Int32)).toNatClampNeg)), .int (f0 ((l3 + (3 : Int32)).toNatClampNeg))] h1 (some (.int r2)) h2) (q11 : X.1[l2]? = some (.inr 10)) (q12 : ¬ (r1 = r2)) : xm_E X P d co_law 2 [some (.ref l0), some (.ref l1), some (.ref l2), some (.int l3)] [] h (some (.int (0 : Int32))) h2 := by
  refine xm_E_s r_law_2 rfl rfl ?_
  refine xm_E_s r_law_3 rfl rfl ?_
  refine xm_E_s r_law_4 rfl (xm_T_alenx rfl q0 q1) ?_
  refine xm_E_s r_law_5 rfl rfl ?_
  refine xm_E_s r_law_6 rfl rfl ?_
  refine xm_E_s r_law_7 rfl rfl ?_
  refine xm_E_f q2 ?_
  refine xm_E_s r_law_8 rfl rfl ?_
  refine xm_E_s r_law_9 rfl rfl ?_
  refine xm_E_s r_law_10 rfl (xm_T_ialx rfl q0 q1 (by decide) q3) ?_
  refine xm_E_s r_law_11 rfl rfl ?_
  refine xm_E_s r_law_12 rfl rfl ?_
  refine xm_E_s r_law_13 rfl (xm_T_tab (48 : Int32) 802 rfl q4 (by decide) rfl) ?_
  refine xm_E_s r_law_802 rfl rfl ?_
  refine xm_E_s r_law_803 rfl rfl ?_
  refine xm_E_s r_law_804 rfl rfl ?_
  refine xm_E_s r_law_805 rfl rfl ?_
  refine xm_E_s r_law_806 rfl rfl ?_
  refine xm_E_s r_law_807 rfl (xm_T_ialx rfl q0 q1 (by decide) q5) ?_
  refine xm_E_s r_law_808 rfl rfl ?_
  refine xm_E_s r_law_809 rfl rfl ?_
  refine xm_E_s r_law_810 rfl rfl ?_
  refine xm_E_s r_law_811 rfl rfl ?_
  refine xm_E_s r_law_812 rfl (xm_T_ialx rfl q0 q1 (by decide) q6) ?_
  refine xm_E_s r_law_813 rfl rfl ?_
  refine xm_E_s r_law_814 rfl rfl ?_
  refine xm_E_s r_law_815 rfl rfl ?_
  refine xm_E_s r_law_816 rfl rfl ?_
  refine xm_E_s r_law_817 rfl (xm_T_ialx rfl q0 q1 (by decide) q7) ?_
  refine xm_E_cv [.ref l1, .int (f0 ((l3 + (1 : Int32)).toNatClampNeg)), .int (f0 ((l3 + (2 : Int32)).toNatClampNeg)), .int (f0 ((l3 + (3 : Int32)).toNatClampNeg))] [] r_law_818 rfl rfl (Nat.le_of_ble_eq_true rfl) (xm_rc q9 (by decide)) rfl q8 ?_
  refine xm_E_s r_law_819 rfl rfl ?_
  refine xm_E_s r_law_820 rfl rfl ?_
  refine xm_E_s r_law_821 rfl rfl ?_
  refine xm_E_s r_law_822 rfl rfl ?_
  refine xm_E_s r_law_823 rfl rfl ?_
  refine xm_E_s r_law_824 rfl (xm_T_ialx rfl q0 q1 (by decide) q5) ?_
  refine xm_E_s r_law_825 rfl rfl ?_
  refine xm_E_s r_law_826 rfl rfl ?_
  refine xm_E_s r_law_827 rfl rfl ?_
  refine xm_E_s r_law_828 rfl rfl ?_
  refine xm_E_s r_law_829 rfl (xm_T_ialx rfl q0 q1 (by decide) q6) ?_
  refine xm_E_s r_law_830 rfl rfl ?_
  refine xm_E_s r_law_831 rfl rfl ?_
  refine xm_E_s r_law_832 rfl rfl ?_
  refine xm_E_s r_law_833 rfl rfl ?_
  refine xm_E_s r_law_834 rfl (xm_T_ialx rfl q0 q1 (by decide) q7) ?_
  refine xm_E_cv [.ref l2, .int (f0 ((l3 + (1 : Int32)).toNatClampNeg)), .int (f0 ((l3 + (2 : Int32)).toNatClampNeg)), .int (f0 ((l3 + (3 : Int32)).toNatClampNeg))] [.int r1] r_law_835 rfl rfl (Nat.le_of_ble_eq_true rfl) (xm_rc q11 (by decide)) rfl q10 ?_
  refine xm_E_s r_law_836 rfl rfl ?_
  refine xm_E_f q12 ?_
  refine xm_E_s r_law_837 rfl rfl ?_
  exact xm_E_iret r_law_838 rfl rfl
theorem p_law_2_99 {X : xm_X} {P : List xm_M} {d : Nat} {h : xm_H} {l0 : Nat} {l1 : Nat} {l2 : Nat} {l3 : Int32} {n0 : Nat} {f0 : Nat → Int32} {h1 : xm_H} {r1 : Int32} {h2 : xm_H} {r2 : Int32} {ro : Option Value} {ho : xm_H} (q0 : X.1[l0]? = none) (q1 : X.2.1 l0 = some (0, n0, f0)) (q2 : ¬ ((Int32.ofNat n0) - (6 : Int32) < l3)) (q3 : ¬ (l3 < 0 ∨ n0 ≤ l3.toNatClampNeg)) (q4 : (f0 l3.toNatClampNeg) &&& (63 : Int32) = (49 : Int32)) (q5 : ¬ (l3 + (1 : Int32) < 0 ∨ n0 ≤ (l3 + (1 : Int32)).toNatClampNeg)) (q6 : ¬ (l3 + (2 : Int32) < 0 ∨ n0 ≤ (l3 + (2 : Int32)).toNatClampNeg)) (q7 : xm_V X P d 171 [.ref l1, .int (f0 ((l3 + (1 : Int32)).toNatClampNeg)), .int (f0 ((l3 + (2 : Int32)).toNatClampNeg))] h (some (.int r1)) h1) (q8 : X.1[l1]? = some (.inr 9)) (q9 : xm_V X P d 325 [.ref l2, .int (f0 ((l3 + (1 : Int32)).toNatClampNeg)), .int (f0 ((l3 + (2 : Int32)).toNatClampNeg))] h1 (some (.int r2)) h2) (q10 : X.1[l2]? = some (.inr 10)) (q11 : r1 = r2) (K : xm_E X P d co_law 2 [some (.ref l0), some (.ref l1), some (.ref l2), some (.int (l3 + (6 : Int32)))] [] h2 ro ho) : xm_E X P d co_law 2 [some (.ref l0), some (.ref l1), some (.ref l2), some (.int l3)] [] h ro ho := by
  refine xm_E_s r_law_2 rfl rfl ?_
  refine xm_E_s r_law_3 rfl rfl ?_
  refine xm_E_s r_law_4 rfl (xm_T_alenx rfl q0 q1) ?_
  refine xm_E_s r_law_5 rfl rfl ?_
  refine xm_E_s r_law_6 rfl rfl ?_
  refine xm_E_s r_law_7 rfl rfl ?_
  refine xm_E_f q2 ?_
  refine xm_E_s r_law_8 rfl rfl ?_
  refine xm_E_s r_law_9 rfl rfl ?_
  refine xm_E_s r_law_10 rfl (xm_T_ialx rfl q0 q1 (by decide) q3) ?_
  refine xm_E_s r_law_11 rfl rfl ?_
  refine xm_E_s r_law_12 rfl rfl ?_
  refine xm_E_s r_law_13 rfl (xm_T_tab (49 : Int32) 839 rfl q4 (by decide) rfl) ?_
  refine xm_E_s r_law_839 rfl rfl ?_
  refine xm_E_s r_law_840 rfl rfl ?_
  refine xm_E_s r_law_841 rfl rfl ?_
  refine xm_E_s r_law_842 rfl rfl ?_
  refine xm_E_s r_law_843 rfl rfl ?_
  refine xm_E_s r_law_844 rfl (xm_T_ialx rfl q0 q1 (by decide) q5) ?_
  refine xm_E_s r_law_845 rfl rfl ?_
  refine xm_E_s r_law_846 rfl rfl ?_
  refine xm_E_s r_law_847 rfl rfl ?_
  refine xm_E_s r_law_848 rfl rfl ?_
  refine xm_E_s r_law_849 rfl (xm_T_ialx rfl q0 q1 (by decide) q6) ?_
  refine xm_E_cv [.ref l1, .int (f0 ((l3 + (1 : Int32)).toNatClampNeg)), .int (f0 ((l3 + (2 : Int32)).toNatClampNeg))] [] r_law_850 rfl rfl (Nat.le_of_ble_eq_true rfl) (xm_rc q8 (by decide)) rfl q7 ?_
  refine xm_E_s r_law_851 rfl rfl ?_
  refine xm_E_s r_law_852 rfl rfl ?_
  refine xm_E_s r_law_853 rfl rfl ?_
  refine xm_E_s r_law_854 rfl rfl ?_
  refine xm_E_s r_law_855 rfl rfl ?_
  refine xm_E_s r_law_856 rfl (xm_T_ialx rfl q0 q1 (by decide) q5) ?_
  refine xm_E_s r_law_857 rfl rfl ?_
  refine xm_E_s r_law_858 rfl rfl ?_
  refine xm_E_s r_law_859 rfl rfl ?_
  refine xm_E_s r_law_860 rfl rfl ?_
  refine xm_E_s r_law_861 rfl (xm_T_ialx rfl q0 q1 (by decide) q6) ?_
  refine xm_E_cv [.ref l2, .int (f0 ((l3 + (1 : Int32)).toNatClampNeg)), .int (f0 ((l3 + (2 : Int32)).toNatClampNeg))] [.int r1] r_law_862 rfl rfl (Nat.le_of_ble_eq_true rfl) (xm_rc q10 (by decide)) rfl q9 ?_
  refine xm_E_s r_law_863 rfl rfl ?_
  refine xm_E_t q11 ?_
  refine xm_E_s (ls1 := [some (.ref l0), some (.ref l1), some (.ref l2), some (.int (l3 + (6 : Int32)))]) r_law_1109 rfl rfl ?_
  refine xm_E_s r_law_1110 rfl rfl ?_
  exact K
theorem p_law_2_100 {X : xm_X} {P : List xm_M} {d : Nat} {h : xm_H} {l0 : Nat} {l1 : Nat} {l2 : Nat} {l3 : Int32} {n0 : Nat} {f0 : Nat → Int32} {h1 : xm_H} {r1 : Int32} {h2 : xm_H} {r2 : Int32} (q0 : X.1[l0]? = none) (q1 : X.2.1 l0 = some (0, n0, f0)) (q2 : ¬ ((Int32.ofNat n0) - (6 : Int32) < l3)) (q3 : ¬ (l3 < 0 ∨ n0 ≤ l3.toNatClampNeg)) (q4 : (f0 l3.toNatClampNeg) &&& (63 : Int32) = (49 : Int32)) (q5 : ¬ (l3 + (1 : Int32) < 0 ∨ n0 ≤ (l3 + (1 : Int32)).toNatClampNeg)) (q6 : ¬ (l3 + (2 : Int32) < 0 ∨ n0 ≤ (l3 + (2 : Int32)).toNatClampNeg)) (q7 : xm_V X P d 171 [.ref l1, .int (f0 ((l3 + (1 : Int32)).toNatClampNeg)), .int (f0 ((l3 + (2 : Int32)).toNatClampNeg))] h (some (.int r1)) h1) (q8 : X.1[l1]? = some (.inr 9)) (q9 : xm_V X P d 325 [.ref l2, .int (f0 ((l3 + (1 : Int32)).toNatClampNeg)), .int (f0 ((l3 + (2 : Int32)).toNatClampNeg))] h1 (some (.int r2)) h2) (q10 : X.1[l2]? = some (.inr 10)) (q11 : ¬ (r1 = r2)) : xm_E X P d co_law 2 [some (.ref l0), some (.ref l1), some (.ref l2), some (.int l3)] [] h (some (.int (0 : Int32))) h2 := by
  refine xm_E_s r_law_2 rfl rfl ?_
  refine xm_E_s r_law_3 rfl rfl ?_
  refine xm_E_s r_law_4 rfl (xm_T_alenx rfl q0 q1) ?_
  refine xm_E_s r_law_5 rfl rfl ?_
  refine xm_E_s r_law_6 rfl rfl ?_
  refine xm_E_s r_law_7 rfl rfl ?_
  refine xm_E_f q2 ?_
  refine xm_E_s r_law_8 rfl rfl ?_
  refine xm_E_s r_law_9 rfl rfl ?_
  refine xm_E_s r_law_10 rfl (xm_T_ialx rfl q0 q1 (by decide) q3) ?_
  refine xm_E_s r_law_11 rfl rfl ?_
  refine xm_E_s r_law_12 rfl rfl ?_
  refine xm_E_s r_law_13 rfl (xm_T_tab (49 : Int32) 839 rfl q4 (by decide) rfl) ?_
  refine xm_E_s r_law_839 rfl rfl ?_
  refine xm_E_s r_law_840 rfl rfl ?_
  refine xm_E_s r_law_841 rfl rfl ?_
  refine xm_E_s r_law_842 rfl rfl ?_
  refine xm_E_s r_law_843 rfl rfl ?_
  refine xm_E_s r_law_844 rfl (xm_T_ialx rfl q0 q1 (by decide) q5) ?_
  refine xm_E_s r_law_845 rfl rfl ?_
  refine xm_E_s r_law_846 rfl rfl ?_
  refine xm_E_s r_law_847 rfl rfl ?_
  refine xm_E_s r_law_848 rfl rfl ?_
  refine xm_E_s r_law_849 rfl (xm_T_ialx rfl q0 q1 (by decide) q6) ?_
  refine xm_E_cv [.ref l1, .int (f0 ((l3 + (1 : Int32)).toNatClampNeg)), .int (f0 ((l3 + (2 : Int32)).toNatClampNeg))] [] r_law_850 rfl rfl (Nat.le_of_ble_eq_true rfl) (xm_rc q8 (by decide)) rfl q7 ?_
  refine xm_E_s r_law_851 rfl rfl ?_
  refine xm_E_s r_law_852 rfl rfl ?_
  refine xm_E_s r_law_853 rfl rfl ?_
  refine xm_E_s r_law_854 rfl rfl ?_
  refine xm_E_s r_law_855 rfl rfl ?_
  refine xm_E_s r_law_856 rfl (xm_T_ialx rfl q0 q1 (by decide) q5) ?_
  refine xm_E_s r_law_857 rfl rfl ?_
  refine xm_E_s r_law_858 rfl rfl ?_
  refine xm_E_s r_law_859 rfl rfl ?_
  refine xm_E_s r_law_860 rfl rfl ?_
  refine xm_E_s r_law_861 rfl (xm_T_ialx rfl q0 q1 (by decide) q6) ?_
  refine xm_E_cv [.ref l2, .int (f0 ((l3 + (1 : Int32)).toNatClampNeg)), .int (f0 ((l3 + (2 : Int32)).toNatClampNeg))] [.int r1] r_law_862 rfl rfl (Nat.le_of_ble_eq_true rfl) (xm_rc q10 (by decide)) rfl q9 ?_
  refine xm_E_s r_law_863 rfl rfl ?_
  refine xm_E_f q11 ?_
  refine xm_E_s r_law_864 rfl rfl ?_
  exact xm_E_iret r_law_865 rfl rfl
theorem p_law_2_101 {X : xm_X} {P : List xm_M} {d : Nat} {h : xm_H} {l0 : Nat} {l1 : Nat} {l2 : Nat} {l3 : Int32} {n0 : Nat} {f0 : Nat → Int32} {h1 : xm_H} {r1 : Int32} {h2 : xm_H} {r2 : Int32} {ro : Option Value} {ho : xm_H} (q0 : X.1[l0]? = none) (q1 : X.2.1 l0 = some (0, n0, f0)) (q2 : ¬ ((Int32.ofNat n0) - (6 : Int32) < l3)) (q3 : ¬ (l3 < 0 ∨ n0 ≤ l3.toNatClampNeg)) (q4 : (f0 l3.toNatClampNeg) &&& (63 : Int32) = (50 : Int32)) (q5 : ¬ (l3 + (1 : Int32) < 0 ∨ n0 ≤ (l3 + (1 : Int32)).toNatClampNeg)) (q6 : ¬ (l3 + (2 : Int32) < 0 ∨ n0 ≤ (l3 + (2 : Int32)).toNatClampNeg)) (q7 : ¬ (l3 + (3 : Int32) < 0 ∨ n0 ≤ (l3 + (3 : Int32)).toNatClampNeg)) (q8 : xm_V X P d 172 [.ref l1, .int (f0 ((l3 + (1 : Int32)).toNatClampNeg)), .int (f0 ((l3 + (2 : Int32)).toNatClampNeg)), .int (f0 ((l3 + (3 : Int32)).toNatClampNeg))] h (some (.int r1)) h1) (q9 : X.1[l1]? = some (.inr 9)) (q10 : xm_V X P d 326 [.ref l2, .int (f0 ((l3 + (1 : Int32)).toNatClampNeg)), .int (f0 ((l3 + (2 : Int32)).toNatClampNeg)), .int (f0 ((l3 + (3 : Int32)).toNatClampNeg))] h1 (some (.int r2)) h2) (q11 : X.1[l2]? = some (.inr 10)) (q12 : r1 = r2) (K : xm_E X P d co_law 2 [some (.ref l0), some (.ref l1), some (.ref l2), some (.int (l3 + (6 : Int32)))] [] h2 ro ho) : xm_E X P d co_law 2 [some (.ref l0), some (.ref l1), some (.ref l2), some (.int l3)] [] h ro ho := by
  refine xm_E_s r_law_2 rfl rfl ?_
  refine xm_E_s r_law_3 rfl rfl ?_
  refine xm_E_s r_law_4 rfl (xm_T_alenx rfl q0 q1) ?_
  refine xm_E_s r_law_5 rfl rfl ?_
  refine xm_E_s r_law_6 rfl rfl ?_
  refine xm_E_s r_law_7 rfl rfl ?_
  refine xm_E_f q2 ?_
  refine xm_E_s r_law_8 rfl rfl ?_
  refine xm_E_s r_law_9 rfl rfl ?_
  refine xm_E_s r_law_10 rfl (xm_T_ialx rfl q0 q1 (by decide) q3) ?_
  refine xm_E_s r_law_11 rfl rfl ?_
  refine xm_E_s r_law_12 rfl rfl ?_
  refine xm_E_s r_law_13 rfl (xm_T_tab (50 : Int32) 866 rfl q4 (by decide) rfl) ?_
  refine xm_E_s r_law_866 rfl rfl ?_
  refine xm_E_s r_law_867 rfl rfl ?_
  refine xm_E_s r_law_868 rfl rfl ?_
  refine xm_E_s r_law_869 rfl rfl ?_
  refine xm_E_s r_law_870 rfl rfl ?_
  refine xm_E_s r_law_871 rfl (xm_T_ialx rfl q0 q1 (by decide) q5) ?_
  refine xm_E_s r_law_872 rfl rfl ?_
  refine xm_E_s r_law_873 rfl rfl ?_
  refine xm_E_s r_law_874 rfl rfl ?_
  refine xm_E_s r_law_875 rfl rfl ?_
  refine xm_E_s r_law_876 rfl (xm_T_ialx rfl q0 q1 (by decide) q6) ?_
  refine xm_E_s r_law_877 rfl rfl ?_
  refine xm_E_s r_law_878 rfl rfl ?_
  refine xm_E_s r_law_879 rfl rfl ?_
  refine xm_E_s r_law_880 rfl rfl ?_
  refine xm_E_s r_law_881 rfl (xm_T_ialx rfl q0 q1 (by decide) q7) ?_
  refine xm_E_cv [.ref l1, .int (f0 ((l3 + (1 : Int32)).toNatClampNeg)), .int (f0 ((l3 + (2 : Int32)).toNatClampNeg)), .int (f0 ((l3 + (3 : Int32)).toNatClampNeg))] [] r_law_882 rfl rfl (Nat.le_of_ble_eq_true rfl) (xm_rc q9 (by decide)) rfl q8 ?_
  refine xm_E_s r_law_883 rfl rfl ?_
  refine xm_E_s r_law_884 rfl rfl ?_
  refine xm_E_s r_law_885 rfl rfl ?_
  refine xm_E_s r_law_886 rfl rfl ?_
  refine xm_E_s r_law_887 rfl rfl ?_
  refine xm_E_s r_law_888 rfl (xm_T_ialx rfl q0 q1 (by decide) q5) ?_
  refine xm_E_s r_law_889 rfl rfl ?_
  refine xm_E_s r_law_890 rfl rfl ?_
  refine xm_E_s r_law_891 rfl rfl ?_
  refine xm_E_s r_law_892 rfl rfl ?_
  refine xm_E_s r_law_893 rfl (xm_T_ialx rfl q0 q1 (by decide) q6) ?_
  refine xm_E_s r_law_894 rfl rfl ?_
  refine xm_E_s r_law_895 rfl rfl ?_
  refine xm_E_s r_law_896 rfl rfl ?_
  refine xm_E_s r_law_897 rfl rfl ?_
  refine xm_E_s r_law_898 rfl (xm_T_ialx rfl q0 q1 (by decide) q7) ?_
  refine xm_E_cv [.ref l2, .int (f0 ((l3 + (1 : Int32)).toNatClampNeg)), .int (f0 ((l3 + (2 : Int32)).toNatClampNeg)), .int (f0 ((l3 + (3 : Int32)).toNatClampNeg))] [.int r1] r_law_899 rfl rfl (Nat.le_of_ble_eq_true rfl) (xm_rc q11 (by decide)) rfl q10 ?_
  refine xm_E_s r_law_900 rfl rfl ?_
  refine xm_E_t q12 ?_
  refine xm_E_s (ls1 := [some (.ref l0), some (.ref l1), some (.ref l2), some (.int (l3 + (6 : Int32)))]) r_law_1109 rfl rfl ?_
  refine xm_E_s r_law_1110 rfl rfl ?_
  exact K
theorem p_law_2_102 {X : xm_X} {P : List xm_M} {d : Nat} {h : xm_H} {l0 : Nat} {l1 : Nat} {l2 : Nat} {l3 : Int32} {n0 : Nat} {f0 : Nat → Int32} {h1 : xm_H} {r1 : Int32} {h2 : xm_H} {r2 : Int32} (q0 : X.1[l0]? = none) (q1 : X.2.1 l0 = some (0, n0, f0)) (q2 : ¬ ((Int32.ofNat n0) - (6 : Int32) < l3)) (q3 : ¬ (l3 < 0 ∨ n0 ≤ l3.toNatClampNeg)) (q4 : (f0 l3.toNatClampNeg) &&& (63 : Int32) = (50 : Int32)) (q5 : ¬ (l3 + (1 : Int32) < 0 ∨ n0 ≤ (l3 + (1 : Int32)).toNatClampNeg)) (q6 : ¬ (l3 + (2 : Int32) < 0 ∨ n0 ≤ (l3 + (2 : Int32)).toNatClampNeg)) (q7 : ¬ (l3 + (3 : Int32) < 0 ∨ n0 ≤ (l3 + (3 : Int32)).toNatClampNeg)) (q8 : xm_V X P d 172 [.ref l1, .int (f0 ((l3 + (1 : Int32)).toNatClampNeg)), .int (f0 ((l3 + (2 : Int32)).toNatClampNeg)), .int (f0 ((l3 + (3 : Int32)).toNatClampNeg))] h (some (.int r1)) h1) (q9 : X.1[l1]? = some (.inr 9)) (q10 : xm_V X P d 326 [.ref l2, .int (f0 ((l3 + (1 : Int32)).toNatClampNeg)), .int (f0 ((l3 + (2 : Int32)).toNatClampNeg)), .int (f0 ((l3 + (3 : Int32)).toNatClampNeg))] h1 (some (.int r2)) h2) (q11 : X.1[l2]? = some (.inr 10)) (q12 : ¬ (r1 = r2)) : xm_E X P d co_law 2 [some (.ref l0), some (.ref l1), some (.ref l2), some (.int l3)] [] h (some (.int (0 : Int32))) h2 := by
  refine xm_E_s r_law_2 rfl rfl ?_
  refine xm_E_s r_law_3 rfl rfl ?_
  refine xm_E_s r_law_4 rfl (xm_T_alenx rfl q0 q1) ?_
  refine xm_E_s r_law_5 rfl rfl ?_
  refine xm_E_s r_law_6 rfl rfl ?_
  refine xm_E_s r_law_7 rfl rfl ?_
  refine xm_E_f q2 ?_
  refine xm_E_s r_law_8 rfl rfl ?_
  refine xm_E_s r_law_9 rfl rfl ?_
  refine xm_E_s r_law_10 rfl (xm_T_ialx rfl q0 q1 (by decide) q3) ?_
  refine xm_E_s r_law_11 rfl rfl ?_
  refine xm_E_s r_law_12 rfl rfl ?_
  refine xm_E_s r_law_13 rfl (xm_T_tab (50 : Int32) 866 rfl q4 (by decide) rfl) ?_
  refine xm_E_s r_law_866 rfl rfl ?_
  refine xm_E_s r_law_867 rfl rfl ?_
  refine xm_E_s r_law_868 rfl rfl ?_
  refine xm_E_s r_law_869 rfl rfl ?_
  refine xm_E_s r_law_870 rfl rfl ?_
  refine xm_E_s r_law_871 rfl (xm_T_ialx rfl q0 q1 (by decide) q5) ?_
  refine xm_E_s r_law_872 rfl rfl ?_
  refine xm_E_s r_law_873 rfl rfl ?_
  refine xm_E_s r_law_874 rfl rfl ?_
  refine xm_E_s r_law_875 rfl rfl ?_
  refine xm_E_s r_law_876 rfl (xm_T_ialx rfl q0 q1 (by decide) q6) ?_
  refine xm_E_s r_law_877 rfl rfl ?_
  refine xm_E_s r_law_878 rfl rfl ?_
  refine xm_E_s r_law_879 rfl rfl ?_
  refine xm_E_s r_law_880 rfl rfl ?_
  refine xm_E_s r_law_881 rfl (xm_T_ialx rfl q0 q1 (by decide) q7) ?_
  refine xm_E_cv [.ref l1, .int (f0 ((l3 + (1 : Int32)).toNatClampNeg)), .int (f0 ((l3 + (2 : Int32)).toNatClampNeg)), .int (f0 ((l3 + (3 : Int32)).toNatClampNeg))] [] r_law_882 rfl rfl (Nat.le_of_ble_eq_true rfl) (xm_rc q9 (by decide)) rfl q8 ?_
  refine xm_E_s r_law_883 rfl rfl ?_
  refine xm_E_s r_law_884 rfl rfl ?_
  refine xm_E_s r_law_885 rfl rfl ?_
  refine xm_E_s r_law_886 rfl rfl ?_
  refine xm_E_s r_law_887 rfl rfl ?_
  refine xm_E_s r_law_888 rfl (xm_T_ialx rfl q0 q1 (by decide) q5) ?_
  refine xm_E_s r_law_889 rfl rfl ?_
  refine xm_E_s r_law_890 rfl rfl ?_
  refine xm_E_s r_law_891 rfl rfl ?_
  refine xm_E_s r_law_892 rfl rfl ?_
  refine xm_E_s r_law_893 rfl (xm_T_ialx rfl q0 q1 (by decide) q6) ?_
  refine xm_E_s r_law_894 rfl rfl ?_
  refine xm_E_s r_law_895 rfl rfl ?_
  refine xm_E_s r_law_896 rfl rfl ?_
  refine xm_E_s r_law_897 rfl rfl ?_
  refine xm_E_s r_law_898 rfl (xm_T_ialx rfl q0 q1 (by decide) q7) ?_
  refine xm_E_cv [.ref l2, .int (f0 ((l3 + (1 : Int32)).toNatClampNeg)), .int (f0 ((l3 + (2 : Int32)).toNatClampNeg)), .int (f0 ((l3 + (3 : Int32)).toNatClampNeg))] [.int r1] r_law_899 rfl rfl (Nat.le_of_ble_eq_true rfl) (xm_rc q11 (by decide)) rfl q10 ?_
  refine xm_E_s r_law_900 rfl rfl ?_
  refine xm_E_f q12 ?_
  refine xm_E_s r_law_901 rfl rfl ?_
  exact xm_E_iret r_law_902 rfl rfl
theorem p_law_2_103 {X : xm_X} {P : List xm_M} {d : Nat} {h : xm_H} {l0 : Nat} {l1 : Nat} {l2 : Nat} {l3 : Int32} {n0 : Nat} {f0 : Nat → Int32} {h1 : xm_H} {r1 : Int32} {h2 : xm_H} {r2 : Int32} {ro : Option Value} {ho : xm_H} (q0 : X.1[l0]? = none) (q1 : X.2.1 l0 = some (0, n0, f0)) (q2 : ¬ ((Int32.ofNat n0) - (6 : Int32) < l3)) (q3 : ¬ (l3 < 0 ∨ n0 ≤ l3.toNatClampNeg)) (q4 : (f0 l3.toNatClampNeg) &&& (63 : Int32) = (51 : Int32)) (q5 : ¬ (l3 + (1 : Int32) < 0 ∨ n0 ≤ (l3 + (1 : Int32)).toNatClampNeg)) (q6 : xm_V X P d 173 [.ref l1, .int (f0 ((l3 + (1 : Int32)).toNatClampNeg))] h (some (.int r1)) h1) (q7 : X.1[l1]? = some (.inr 9)) (q8 : xm_V X P d 327 [.ref l2, .int (f0 ((l3 + (1 : Int32)).toNatClampNeg))] h1 (some (.int r2)) h2) (q9 : X.1[l2]? = some (.inr 10)) (q10 : r1 = r2) (K : xm_E X P d co_law 2 [some (.ref l0), some (.ref l1), some (.ref l2), some (.int (l3 + (6 : Int32)))] [] h2 ro ho) : xm_E X P d co_law 2 [some (.ref l0), some (.ref l1), some (.ref l2), some (.int l3)] [] h ro ho := by
  refine xm_E_s r_law_2 rfl rfl ?_
  refine xm_E_s r_law_3 rfl rfl ?_
  refine xm_E_s r_law_4 rfl (xm_T_alenx rfl q0 q1) ?_
  refine xm_E_s r_law_5 rfl rfl ?_
  refine xm_E_s r_law_6 rfl rfl ?_
  refine xm_E_s r_law_7 rfl rfl ?_
  refine xm_E_f q2 ?_
  refine xm_E_s r_law_8 rfl rfl ?_
  refine xm_E_s r_law_9 rfl rfl ?_
  refine xm_E_s r_law_10 rfl (xm_T_ialx rfl q0 q1 (by decide) q3) ?_
  refine xm_E_s r_law_11 rfl rfl ?_
  refine xm_E_s r_law_12 rfl rfl ?_
  refine xm_E_s r_law_13 rfl (xm_T_tab (51 : Int32) 903 rfl q4 (by decide) rfl) ?_
  refine xm_E_s r_law_903 rfl rfl ?_
  refine xm_E_s r_law_904 rfl rfl ?_
  refine xm_E_s r_law_905 rfl rfl ?_
  refine xm_E_s r_law_906 rfl rfl ?_
  refine xm_E_s r_law_907 rfl rfl ?_
  refine xm_E_s r_law_908 rfl (xm_T_ialx rfl q0 q1 (by decide) q5) ?_
  refine xm_E_cv [.ref l1, .int (f0 ((l3 + (1 : Int32)).toNatClampNeg))] [] r_law_909 rfl rfl (Nat.le_of_ble_eq_true rfl) (xm_rc q7 (by decide)) rfl q6 ?_
  refine xm_E_s r_law_910 rfl rfl ?_
  refine xm_E_s r_law_911 rfl rfl ?_
  refine xm_E_s r_law_912 rfl rfl ?_
  refine xm_E_s r_law_913 rfl rfl ?_
  refine xm_E_s r_law_914 rfl rfl ?_
  refine xm_E_s r_law_915 rfl (xm_T_ialx rfl q0 q1 (by decide) q5) ?_
  refine xm_E_cv [.ref l2, .int (f0 ((l3 + (1 : Int32)).toNatClampNeg))] [.int r1] r_law_916 rfl rfl (Nat.le_of_ble_eq_true rfl) (xm_rc q9 (by decide)) rfl q8 ?_
  refine xm_E_s r_law_917 rfl rfl ?_
  refine xm_E_t q10 ?_
  refine xm_E_s (ls1 := [some (.ref l0), some (.ref l1), some (.ref l2), some (.int (l3 + (6 : Int32)))]) r_law_1109 rfl rfl ?_
  refine xm_E_s r_law_1110 rfl rfl ?_
  exact K
theorem p_law_2_104 {X : xm_X} {P : List xm_M} {d : Nat} {h : xm_H} {l0 : Nat} {l1 : Nat} {l2 : Nat} {l3 : Int32} {n0 : Nat} {f0 : Nat → Int32} {h1 : xm_H} {r1 : Int32} {h2 : xm_H} {r2 : Int32} (q0 : X.1[l0]? = none) (q1 : X.2.1 l0 = some (0, n0, f0)) (q2 : ¬ ((Int32.ofNat n0) - (6 : Int32) < l3)) (q3 : ¬ (l3 < 0 ∨ n0 ≤ l3.toNatClampNeg)) (q4 : (f0 l3.toNatClampNeg) &&& (63 : Int32) = (51 : Int32)) (q5 : ¬ (l3 + (1 : Int32) < 0 ∨ n0 ≤ (l3 + (1 : Int32)).toNatClampNeg)) (q6 : xm_V X P d 173 [.ref l1, .int (f0 ((l3 + (1 : Int32)).toNatClampNeg))] h (some (.int r1)) h1) (q7 : X.1[l1]? = some (.inr 9)) (q8 : xm_V X P d 327 [.ref l2, .int (f0 ((l3 + (1 : Int32)).toNatClampNeg))] h1 (some (.int r2)) h2) (q9 : X.1[l2]? = some (.inr 10)) (q10 : ¬ (r1 = r2)) : xm_E X P d co_law 2 [some (.ref l0), some (.ref l1), some (.ref l2), some (.int l3)] [] h (some (.int (0 : Int32))) h2 := by
  refine xm_E_s r_law_2 rfl rfl ?_
  refine xm_E_s r_law_3 rfl rfl ?_
  refine xm_E_s r_law_4 rfl (xm_T_alenx rfl q0 q1) ?_
  refine xm_E_s r_law_5 rfl rfl ?_
  refine xm_E_s r_law_6 rfl rfl ?_
  refine xm_E_s r_law_7 rfl rfl ?_
  refine xm_E_f q2 ?_
  refine xm_E_s r_law_8 rfl rfl ?_
  refine xm_E_s r_law_9 rfl rfl ?_
  refine xm_E_s r_law_10 rfl (xm_T_ialx rfl q0 q1 (by decide) q3) ?_
  refine xm_E_s r_law_11 rfl rfl ?_
  refine xm_E_s r_law_12 rfl rfl ?_
  refine xm_E_s r_law_13 rfl (xm_T_tab (51 : Int32) 903 rfl q4 (by decide) rfl) ?_
  refine xm_E_s r_law_903 rfl rfl ?_
  refine xm_E_s r_law_904 rfl rfl ?_
  refine xm_E_s r_law_905 rfl rfl ?_
  refine xm_E_s r_law_906 rfl rfl ?_
  refine xm_E_s r_law_907 rfl rfl ?_
  refine xm_E_s r_law_908 rfl (xm_T_ialx rfl q0 q1 (by decide) q5) ?_
  refine xm_E_cv [.ref l1, .int (f0 ((l3 + (1 : Int32)).toNatClampNeg))] [] r_law_909 rfl rfl (Nat.le_of_ble_eq_true rfl) (xm_rc q7 (by decide)) rfl q6 ?_
  refine xm_E_s r_law_910 rfl rfl ?_
  refine xm_E_s r_law_911 rfl rfl ?_
  refine xm_E_s r_law_912 rfl rfl ?_
  refine xm_E_s r_law_913 rfl rfl ?_
  refine xm_E_s r_law_914 rfl rfl ?_
  refine xm_E_s r_law_915 rfl (xm_T_ialx rfl q0 q1 (by decide) q5) ?_
  refine xm_E_cv [.ref l2, .int (f0 ((l3 + (1 : Int32)).toNatClampNeg))] [.int r1] r_law_916 rfl rfl (Nat.le_of_ble_eq_true rfl) (xm_rc q9 (by decide)) rfl q8 ?_
  refine xm_E_s r_law_917 rfl rfl ?_
  refine xm_E_f q10 ?_
  refine xm_E_s r_law_918 rfl rfl ?_
  exact xm_E_iret r_law_919 rfl rfl
theorem p_law_2_105 {X : xm_X} {P : List xm_M} {d : Nat} {h : xm_H} {l0 : Nat} {l1 : Nat} {l2 : Nat} {l3 : Int32} {n0 : Nat} {f0 : Nat → Int32} {h1 : xm_H} {r1 : Int32} {h2 : xm_H} {r2 : Int32} {ro : Option Value} {ho : xm_H} (q0 : X.1[l0]? = none) (q1 : X.2.1 l0 = some (0, n0, f0)) (q2 : ¬ ((Int32.ofNat n0) - (6 : Int32) < l3)) (q3 : ¬ (l3 < 0 ∨ n0 ≤ l3.toNatClampNeg)) (q4 : (f0 l3.toNatClampNeg) &&& (63 : Int32) = (52 : Int32)) (q5 : ¬ (l3 + (1 : Int32) < 0 ∨ n0 ≤ (l3 + (1 : Int32)).toNatClampNeg)) (q6 : xm_V X P d 175 [.ref l1, .int (f0 ((l3 + (1 : Int32)).toNatClampNeg))] h (some (.int r1)) h1) (q7 : X.1[l1]? = some (.inr 9)) (q8 : xm_V X P d 190 [.ref l2, .int (f0 ((l3 + (1 : Int32)).toNatClampNeg))] h1 (some (.int r2)) h2) (q9 : X.1[l2]? = some (.inr 10)) (q10 : r1 = r2) (K : xm_E X P d co_law 2 [some (.ref l0), some (.ref l1), some (.ref l2), some (.int (l3 + (6 : Int32)))] [] h2 ro ho) : xm_E X P d co_law 2 [some (.ref l0), some (.ref l1), some (.ref l2), some (.int l3)] [] h ro ho := by
  refine xm_E_s r_law_2 rfl rfl ?_
  refine xm_E_s r_law_3 rfl rfl ?_
  refine xm_E_s r_law_4 rfl (xm_T_alenx rfl q0 q1) ?_
  refine xm_E_s r_law_5 rfl rfl ?_
  refine xm_E_s r_law_6 rfl rfl ?_
  refine xm_E_s r_law_7 rfl rfl ?_
  refine xm_E_f q2 ?_
  refine xm_E_s r_law_8 rfl rfl ?_
  refine xm_E_s r_law_9 rfl rfl ?_
  refine xm_E_s r_law_10 rfl (xm_T_ialx rfl q0 q1 (by decide) q3) ?_
  refine xm_E_s r_law_11 rfl rfl ?_
  refine xm_E_s r_law_12 rfl rfl ?_
  refine xm_E_s r_law_13 rfl (xm_T_tab (52 : Int32) 920 rfl q4 (by decide) rfl) ?_
  refine xm_E_s r_law_920 rfl rfl ?_
  refine xm_E_s r_law_921 rfl rfl ?_
  refine xm_E_s r_law_922 rfl rfl ?_
  refine xm_E_s r_law_923 rfl rfl ?_
  refine xm_E_s r_law_924 rfl rfl ?_
  refine xm_E_s r_law_925 rfl (xm_T_ialx rfl q0 q1 (by decide) q5) ?_
  refine xm_E_cv [.ref l1, .int (f0 ((l3 + (1 : Int32)).toNatClampNeg))] [] r_law_926 rfl rfl (Nat.le_of_ble_eq_true rfl) (xm_rc q7 (by decide)) rfl q6 ?_
  refine xm_E_s r_law_927 rfl rfl ?_
  refine xm_E_s r_law_928 rfl rfl ?_
  refine xm_E_s r_law_929 rfl rfl ?_
  refine xm_E_s r_law_930 rfl rfl ?_
  refine xm_E_s r_law_931 rfl rfl ?_
  refine xm_E_s r_law_932 rfl (xm_T_ialx rfl q0 q1 (by decide) q5) ?_
  refine xm_E_cv [.ref l2, .int (f0 ((l3 + (1 : Int32)).toNatClampNeg))] [.int r1] r_law_933 rfl rfl (Nat.le_of_ble_eq_true rfl) (xm_rc q9 (by decide)) rfl q8 ?_
  refine xm_E_s r_law_934 rfl rfl ?_
  refine xm_E_t q10 ?_
  refine xm_E_s (ls1 := [some (.ref l0), some (.ref l1), some (.ref l2), some (.int (l3 + (6 : Int32)))]) r_law_1109 rfl rfl ?_
  refine xm_E_s r_law_1110 rfl rfl ?_
  exact K
theorem p_law_2_106 {X : xm_X} {P : List xm_M} {d : Nat} {h : xm_H} {l0 : Nat} {l1 : Nat} {l2 : Nat} {l3 : Int32} {n0 : Nat} {f0 : Nat → Int32} {h1 : xm_H} {r1 : Int32} {h2 : xm_H} {r2 : Int32} (q0 : X.1[l0]? = none) (q1 : X.2.1 l0 = some (0, n0, f0)) (q2 : ¬ ((Int32.ofNat n0) - (6 : Int32) < l3)) (q3 : ¬ (l3 < 0 ∨ n0 ≤ l3.toNatClampNeg)) (q4 : (f0 l3.toNatClampNeg) &&& (63 : Int32) = (52 : Int32)) (q5 : ¬ (l3 + (1 : Int32) < 0 ∨ n0 ≤ (l3 + (1 : Int32)).toNatClampNeg)) (q6 : xm_V X P d 175 [.ref l1, .int (f0 ((l3 + (1 : Int32)).toNatClampNeg))] h (some (.int r1)) h1) (q7 : X.1[l1]? = some (.inr 9)) (q8 : xm_V X P d 190 [.ref l2, .int (f0 ((l3 + (1 : Int32)).toNatClampNeg))] h1 (some (.int r2)) h2) (q9 : X.1[l2]? = some (.inr 10)) (q10 : ¬ (r1 = r2)) : xm_E X P d co_law 2 [some (.ref l0), some (.ref l1), some (.ref l2), some (.int l3)] [] h (some (.int (0 : Int32))) h2 := by
  refine xm_E_s r_law_2 rfl rfl ?_
  refine xm_E_s r_law_3 rfl rfl ?_
  refine xm_E_s r_law_4 rfl (xm_T_alenx rfl q0 q1) ?_
  refine xm_E_s r_law_5 rfl rfl ?_
  refine xm_E_s r_law_6 rfl rfl ?_
  refine xm_E_s r_law_7 rfl rfl ?_
  refine xm_E_f q2 ?_
  refine xm_E_s r_law_8 rfl rfl ?_
  refine xm_E_s r_law_9 rfl rfl ?_
  refine xm_E_s r_law_10 rfl (xm_T_ialx rfl q0 q1 (by decide) q3) ?_
  refine xm_E_s r_law_11 rfl rfl ?_
  refine xm_E_s r_law_12 rfl rfl ?_
  refine xm_E_s r_law_13 rfl (xm_T_tab (52 : Int32) 920 rfl q4 (by decide) rfl) ?_
  refine xm_E_s r_law_920 rfl rfl ?_
  refine xm_E_s r_law_921 rfl rfl ?_
  refine xm_E_s r_law_922 rfl rfl ?_
  refine xm_E_s r_law_923 rfl rfl ?_
  refine xm_E_s r_law_924 rfl rfl ?_
  refine xm_E_s r_law_925 rfl (xm_T_ialx rfl q0 q1 (by decide) q5) ?_
  refine xm_E_cv [.ref l1, .int (f0 ((l3 + (1 : Int32)).toNatClampNeg))] [] r_law_926 rfl rfl (Nat.le_of_ble_eq_true rfl) (xm_rc q7 (by decide)) rfl q6 ?_
  refine xm_E_s r_law_927 rfl rfl ?_
  refine xm_E_s r_law_928 rfl rfl ?_
  refine xm_E_s r_law_929 rfl rfl ?_
  refine xm_E_s r_law_930 rfl rfl ?_
  refine xm_E_s r_law_931 rfl rfl ?_
  refine xm_E_s r_law_932 rfl (xm_T_ialx rfl q0 q1 (by decide) q5) ?_
  refine xm_E_cv [.ref l2, .int (f0 ((l3 + (1 : Int32)).toNatClampNeg))] [.int r1] r_law_933 rfl rfl (Nat.le_of_ble_eq_true rfl) (xm_rc q9 (by decide)) rfl q8 ?_
  refine xm_E_s r_law_934 rfl rfl ?_
  refine xm_E_f q10 ?_
  refine xm_E_s r_law_935 rfl rfl ?_
  exact xm_E_iret r_law_936 rfl rfl
theorem p_law_2_107 {X : xm_X} {P : List xm_M} {d : Nat} {h : xm_H} {l0 : Nat} {l1 : Nat} {l2 : Nat} {l3 : Int32} {n0 : Nat} {f0 : Nat → Int32} {h1 : xm_H} {r1 : Int32} {h2 : xm_H} {r2 : Int32} {ro : Option Value} {ho : xm_H} (q0 : X.1[l0]? = none) (q1 : X.2.1 l0 = some (0, n0, f0)) (q2 : ¬ ((Int32.ofNat n0) - (6 : Int32) < l3)) (q3 : ¬ (l3 < 0 ∨ n0 ≤ l3.toNatClampNeg)) (q4 : (f0 l3.toNatClampNeg) &&& (63 : Int32) = (53 : Int32)) (q5 : ¬ (l3 + (1 : Int32) < 0 ∨ n0 ≤ (l3 + (1 : Int32)).toNatClampNeg)) (q6 : xm_V X P d 181 [.ref l1, .int (f0 ((l3 + (1 : Int32)).toNatClampNeg))] h (some (.int r1)) h1) (q7 : X.1[l1]? = some (.inr 9)) (q8 : xm_V X P d 192 [.ref l2, .int (f0 ((l3 + (1 : Int32)).toNatClampNeg))] h1 (some (.int r2)) h2) (q9 : X.1[l2]? = some (.inr 10)) (q10 : r1 = r2) (K : xm_E X P d co_law 2 [some (.ref l0), some (.ref l1), some (.ref l2), some (.int (l3 + (6 : Int32)))] [] h2 ro ho) : xm_E X P d co_law 2 [some (.ref l0), some (.ref l1), some (.ref l2), some (.int l3)] [] h ro ho := by
  refine xm_E_s r_law_2 rfl rfl ?_
  refine xm_E_s r_law_3 rfl rfl ?_
  refine xm_E_s r_law_4 rfl (xm_T_alenx rfl q0 q1) ?_
  refine xm_E_s r_law_5 rfl rfl ?_
  refine xm_E_s r_law_6 rfl rfl ?_
  refine xm_E_s r_law_7 rfl rfl ?_
  refine xm_E_f q2 ?_
  refine xm_E_s r_law_8 rfl rfl ?_
  refine xm_E_s r_law_9 rfl rfl ?_
  refine xm_E_s r_law_10 rfl (xm_T_ialx rfl q0 q1 (by decide) q3) ?_
  refine xm_E_s r_law_11 rfl rfl ?_
  refine xm_E_s r_law_12 rfl rfl ?_
  refine xm_E_s r_law_13 rfl (xm_T_tab (53 : Int32) 937 rfl q4 (by decide) rfl) ?_
  refine xm_E_s r_law_937 rfl rfl ?_
  refine xm_E_s r_law_938 rfl rfl ?_
  refine xm_E_s r_law_939 rfl rfl ?_
  refine xm_E_s r_law_940 rfl rfl ?_
  refine xm_E_s r_law_941 rfl rfl ?_
  refine xm_E_s r_law_942 rfl (xm_T_ialx rfl q0 q1 (by decide) q5) ?_
  refine xm_E_cv [.ref l1, .int (f0 ((l3 + (1 : Int32)).toNatClampNeg))] [] r_law_943 rfl rfl (Nat.le_of_ble_eq_true rfl) (xm_rc q7 (by decide)) rfl q6 ?_
  refine xm_E_s r_law_944 rfl rfl ?_
  refine xm_E_s r_law_945 rfl rfl ?_
  refine xm_E_s r_law_946 rfl rfl ?_
  refine xm_E_s r_law_947 rfl rfl ?_
  refine xm_E_s r_law_948 rfl rfl ?_
  refine xm_E_s r_law_949 rfl (xm_T_ialx rfl q0 q1 (by decide) q5) ?_
  refine xm_E_cv [.ref l2, .int (f0 ((l3 + (1 : Int32)).toNatClampNeg))] [.int r1] r_law_950 rfl rfl (Nat.le_of_ble_eq_true rfl) (xm_rc q9 (by decide)) rfl q8 ?_
  refine xm_E_s r_law_951 rfl rfl ?_
  refine xm_E_t q10 ?_
  refine xm_E_s (ls1 := [some (.ref l0), some (.ref l1), some (.ref l2), some (.int (l3 + (6 : Int32)))]) r_law_1109 rfl rfl ?_
  refine xm_E_s r_law_1110 rfl rfl ?_
  exact K
theorem p_law_2_108 {X : xm_X} {P : List xm_M} {d : Nat} {h : xm_H} {l0 : Nat} {l1 : Nat} {l2 : Nat} {l3 : Int32} {n0 : Nat} {f0 : Nat → Int32} {h1 : xm_H} {r1 : Int32} {h2 : xm_H} {r2 : Int32} (q0 : X.1[l0]? = none) (q1 : X.2.1 l0 = some (0, n0, f0)) (q2 : ¬ ((Int32.ofNat n0) - (6 : Int32) < l3)) (q3 : ¬ (l3 < 0 ∨ n0 ≤ l3.toNatClampNeg)) (q4 : (f0 l3.toNatClampNeg) &&& (63 : Int32) = (53 : Int32)) (q5 : ¬ (l3 + (1 : Int32) < 0 ∨ n0 ≤ (l3 + (1 : Int32)).toNatClampNeg)) (q6 : xm_V X P d 181 [.ref l1, .int (f0 ((l3 + (1 : Int32)).toNatClampNeg))] h (some (.int r1)) h1) (q7 : X.1[l1]? = some (.inr 9)) (q8 : xm_V X P d 192 [.ref l2, .int (f0 ((l3 + (1 : Int32)).toNatClampNeg))] h1 (some (.int r2)) h2) (q9 : X.1[l2]? = some (.inr 10)) (q10 : ¬ (r1 = r2)) : xm_E X P d co_law 2 [some (.ref l0), some (.ref l1), some (.ref l2), some (.int l3)] [] h (some (.int (0 : Int32))) h2 := by
  refine xm_E_s r_law_2 rfl rfl ?_
  refine xm_E_s r_law_3 rfl rfl ?_
  refine xm_E_s r_law_4 rfl (xm_T_alenx rfl q0 q1) ?_
  refine xm_E_s r_law_5 rfl rfl ?_
  refine xm_E_s r_law_6 rfl rfl ?_
  refine xm_E_s r_law_7 rfl rfl ?_
  refine xm_E_f q2 ?_
  refine xm_E_s r_law_8 rfl rfl ?_
  refine xm_E_s r_law_9 rfl rfl ?_
  refine xm_E_s r_law_10 rfl (xm_T_ialx rfl q0 q1 (by decide) q3) ?_
  refine xm_E_s r_law_11 rfl rfl ?_
  refine xm_E_s r_law_12 rfl rfl ?_
  refine xm_E_s r_law_13 rfl (xm_T_tab (53 : Int32) 937 rfl q4 (by decide) rfl) ?_
  refine xm_E_s r_law_937 rfl rfl ?_
  refine xm_E_s r_law_938 rfl rfl ?_
  refine xm_E_s r_law_939 rfl rfl ?_
  refine xm_E_s r_law_940 rfl rfl ?_
  refine xm_E_s r_law_941 rfl rfl ?_
  refine xm_E_s r_law_942 rfl (xm_T_ialx rfl q0 q1 (by decide) q5) ?_
  refine xm_E_cv [.ref l1, .int (f0 ((l3 + (1 : Int32)).toNatClampNeg))] [] r_law_943 rfl rfl (Nat.le_of_ble_eq_true rfl) (xm_rc q7 (by decide)) rfl q6 ?_
  refine xm_E_s r_law_944 rfl rfl ?_
  refine xm_E_s r_law_945 rfl rfl ?_
  refine xm_E_s r_law_946 rfl rfl ?_
  refine xm_E_s r_law_947 rfl rfl ?_
  refine xm_E_s r_law_948 rfl rfl ?_
  refine xm_E_s r_law_949 rfl (xm_T_ialx rfl q0 q1 (by decide) q5) ?_
  refine xm_E_cv [.ref l2, .int (f0 ((l3 + (1 : Int32)).toNatClampNeg))] [.int r1] r_law_950 rfl rfl (Nat.le_of_ble_eq_true rfl) (xm_rc q9 (by decide)) rfl q8 ?_
  refine xm_E_s r_law_951 rfl rfl ?_
  refine xm_E_f q10 ?_
  refine xm_E_s r_law_952 rfl rfl ?_
  exact xm_E_iret r_law_953 rfl rfl
theorem p_law_2_109 {X : xm_X} {P : List xm_M} {d : Nat} {h : xm_H} {l0 : Nat} {l1 : Nat} {l2 : Nat} {l3 : Int32} {n0 : Nat} {f0 : Nat → Int32} {h1 : xm_H} {r1 : Int32} {h2 : xm_H} {r2 : Int32} {ro : Option Value} {ho : xm_H} (q0 : X.1[l0]? = none) (q1 : X.2.1 l0 = some (0, n0, f0)) (q2 : ¬ ((Int32.ofNat n0) - (6 : Int32) < l3)) (q3 : ¬ (l3 < 0 ∨ n0 ≤ l3.toNatClampNeg)) (q4 : (f0 l3.toNatClampNeg) &&& (63 : Int32) = (54 : Int32)) (q5 : ¬ (l3 + (1 : Int32) < 0 ∨ n0 ≤ (l3 + (1 : Int32)).toNatClampNeg)) (q6 : ¬ (l3 + (2 : Int32) < 0 ∨ n0 ≤ (l3 + (2 : Int32)).toNatClampNeg)) (q7 : ¬ (l3 + (3 : Int32) < 0 ∨ n0 ≤ (l3 + (3 : Int32)).toNatClampNeg)) (q8 : xm_V X P d 182 [.ref l1, .int (f0 ((l3 + (1 : Int32)).toNatClampNeg)), .int (f0 ((l3 + (2 : Int32)).toNatClampNeg)), .int (f0 ((l3 + (3 : Int32)).toNatClampNeg))] h (some (.int r1)) h1) (q9 : X.1[l1]? = some (.inr 9)) (q10 : xm_V X P d 328 [.ref l2, .int (f0 ((l3 + (1 : Int32)).toNatClampNeg)), .int (f0 ((l3 + (2 : Int32)).toNatClampNeg)), .int (f0 ((l3 + (3 : Int32)).toNatClampNeg))] h1 (some (.int r2)) h2) (q11 : X.1[l2]? = some (.inr 10)) (q12 : r1 = r2) (K : xm_E X P d co_law 2 [some (.ref l0), some (.ref l1), some (.ref l2), some (.int (l3 + (6 : Int32)))] [] h2 ro ho) : xm_E X P d co_law 2 [some (.ref l0), some (.ref l1), some (.ref l2), some (.int l3)] [] h ro ho := by
  refine xm_E_s r_law_2 rfl rfl ?_
  refine xm_E_s r_law_3 rfl rfl ?_
  refine xm_E_s r_law_4 rfl (xm_T_alenx rfl q0 q1) ?_
  refine xm_E_s r_law_5 rfl rfl ?_
  refine xm_E_s r_law_6 rfl rfl ?_
  refine xm_E_s r_law_7 rfl rfl ?_
  refine xm_E_f q2 ?_
  refine xm_E_s r_law_8 rfl rfl ?_
  refine xm_E_s r_law_9 rfl rfl ?_
  refine xm_E_s r_law_10 rfl (xm_T_ialx rfl q0 q1 (by decide) q3) ?_
  refine xm_E_s r_law_11 rfl rfl ?_
  refine xm_E_s r_law_12 rfl rfl ?_
  refine xm_E_s r_law_13 rfl (xm_T_tab (54 : Int32) 954 rfl q4 (by decide) rfl) ?_
  refine xm_E_s r_law_954 rfl rfl ?_
  refine xm_E_s r_law_955 rfl rfl ?_
  refine xm_E_s r_law_956 rfl rfl ?_
  refine xm_E_s r_law_957 rfl rfl ?_
  refine xm_E_s r_law_958 rfl rfl ?_
  refine xm_E_s r_law_959 rfl (xm_T_ialx rfl q0 q1 (by decide) q5) ?_
  refine xm_E_s r_law_960 rfl rfl ?_
  refine xm_E_s r_law_961 rfl rfl ?_
  refine xm_E_s r_law_962 rfl rfl ?_
  refine xm_E_s r_law_963 rfl rfl ?_
  refine xm_E_s r_law_964 rfl (xm_T_ialx rfl q0 q1 (by decide) q6) ?_
  refine xm_E_s r_law_965 rfl rfl ?_
  refine xm_E_s r_law_966 rfl rfl ?_
  refine xm_E_s r_law_967 rfl rfl ?_
  refine xm_E_s r_law_968 rfl rfl ?_
  refine xm_E_s r_law_969 rfl (xm_T_ialx rfl q0 q1 (by decide) q7) ?_
  refine xm_E_cv [.ref l1, .int (f0 ((l3 + (1 : Int32)).toNatClampNeg)), .int (f0 ((l3 + (2 : Int32)).toNatClampNeg)), .int (f0 ((l3 + (3 : Int32)).toNatClampNeg))] [] r_law_970 rfl rfl (Nat.le_of_ble_eq_true rfl) (xm_rc q9 (by decide)) rfl q8 ?_
  refine xm_E_s r_law_971 rfl rfl ?_
  refine xm_E_s r_law_972 rfl rfl ?_
  refine xm_E_s r_law_973 rfl rfl ?_
  refine xm_E_s r_law_974 rfl rfl ?_
  refine xm_E_s r_law_975 rfl rfl ?_
  refine xm_E_s r_law_976 rfl (xm_T_ialx rfl q0 q1 (by decide) q5) ?_
  refine xm_E_s r_law_977 rfl rfl ?_
  refine xm_E_s r_law_978 rfl rfl ?_
  refine xm_E_s r_law_979 rfl rfl ?_
  refine xm_E_s r_law_980 rfl rfl ?_
  refine xm_E_s r_law_981 rfl (xm_T_ialx rfl q0 q1 (by decide) q6) ?_
  refine xm_E_s r_law_982 rfl rfl ?_
  refine xm_E_s r_law_983 rfl rfl ?_
  refine xm_E_s r_law_984 rfl rfl ?_
  refine xm_E_s r_law_985 rfl rfl ?_
  refine xm_E_s r_law_986 rfl (xm_T_ialx rfl q0 q1 (by decide) q7) ?_
  refine xm_E_cv [.ref l2, .int (f0 ((l3 + (1 : Int32)).toNatClampNeg)), .int (f0 ((l3 + (2 : Int32)).toNatClampNeg)), .int (f0 ((l3 + (3 : Int32)).toNatClampNeg))] [.int r1] r_law_987 rfl rfl (Nat.le_of_ble_eq_true rfl) (xm_rc q11 (by decide)) rfl q10 ?_
  refine xm_E_s r_law_988 rfl rfl ?_
  refine xm_E_t q12 ?_
  refine xm_E_s (ls1 := [some (.ref l0), some (.ref l1), some (.ref l2), some (.int (l3 + (6 : Int32)))]) r_law_1109 rfl rfl ?_
  refine xm_E_s r_law_1110 rfl rfl ?_
  exact K
theorem p_law_2_110 {X : xm_X} {P : List xm_M} {d : Nat} {h : xm_H} {l0 : Nat} {l1 : Nat} {l2 : Nat} {l3 : Int32} {n0 : Nat} {f0 : Nat → Int32} {h1 : xm_H} {r1 : Int32} {h2 : xm_H} {r2 : Int32} (q0 : X.1[l0]? = none) (q1 : X.2.1 l0 = some (0, n0, f0)) (q2 : ¬ ((Int32.ofNat n0) - (6 : Int32) < l3)) (q3 : ¬ (l3 < 0 ∨ n0 ≤ l3.toNatClampNeg)) (q4 : (f0 l3.toNatClampNeg) &&& (63 : Int32) = (54 : Int32)) (q5 : ¬ (l3 + (1 : Int32) < 0 ∨ n0 ≤ (l3 + (1 : Int32)).toNatClampNeg)) (q6 : ¬ (l3 + (2 : Int32) < 0 ∨ n0 ≤ (l3 + (2 : Int32)).toNatClampNeg)) (q7 : ¬ (l3 + (3 : Int32) < 0 ∨ n0 ≤ (l3 + (3 : Int32)).toNatClampNeg)) (q8 : xm_V X P d 182 [.ref l1, .int (f0 ((l3 + (1 : Int32)).toNatClampNeg)), .int (f0 ((l3 + (2 : Int32)).toNatClampNeg)), .int (f0 ((l3 + (3 : Int32)).toNatClampNeg))] h (some (.int r1)) h1) (q9 : X.1[l1]? = some (.inr 9)) (q10 : xm_V X P d 328 [.ref l2, .int (f0 ((l3 + (1 : Int32)).toNatClampNeg)), .int (f0 ((l3 + (2 : Int32)).toNatClampNeg)), .int (f0 ((l3 + (3 : Int32)).toNatClampNeg))] h1 (some (.int r2)) h2) (q11 : X.1[l2]? = some (.inr 10)) (q12 : ¬ (r1 = r2)) : xm_E X P d co_law 2 [some (.ref l0), some (.ref l1), some (.ref l2), some (.int l3)] [] h (some (.int (0 : Int32))) h2 := by
  refine xm_E_s r_law_2 rfl rfl ?_
  refine xm_E_s r_law_3 rfl rfl ?_
  refine xm_E_s r_law_4 rfl (xm_T_alenx rfl q0 q1) ?_
  refine xm_E_s r_law_5 rfl rfl ?_
  refine xm_E_s r_law_6 rfl rfl ?_
  refine xm_E_s r_law_7 rfl rfl ?_
  refine xm_E_f q2 ?_
  refine xm_E_s r_law_8 rfl rfl ?_
  refine xm_E_s r_law_9 rfl rfl ?_
  refine xm_E_s r_law_10 rfl (xm_T_ialx rfl q0 q1 (by decide) q3) ?_
  refine xm_E_s r_law_11 rfl rfl ?_
  refine xm_E_s r_law_12 rfl rfl ?_
  refine xm_E_s r_law_13 rfl (xm_T_tab (54 : Int32) 954 rfl q4 (by decide) rfl) ?_
  refine xm_E_s r_law_954 rfl rfl ?_
  refine xm_E_s r_law_955 rfl rfl ?_
  refine xm_E_s r_law_956 rfl rfl ?_
  refine xm_E_s r_law_957 rfl rfl ?_
  refine xm_E_s r_law_958 rfl rfl ?_
  refine xm_E_s r_law_959 rfl (xm_T_ialx rfl q0 q1 (by decide) q5) ?_
  refine xm_E_s r_law_960 rfl rfl ?_
  refine xm_E_s r_law_961 rfl rfl ?_
  refine xm_E_s r_law_962 rfl rfl ?_
  refine xm_E_s r_law_963 rfl rfl ?_
  refine xm_E_s r_law_964 rfl (xm_T_ialx rfl q0 q1 (by decide) q6) ?_
  refine xm_E_s r_law_965 rfl rfl ?_
  refine xm_E_s r_law_966 rfl rfl ?_
  refine xm_E_s r_law_967 rfl rfl ?_
  refine xm_E_s r_law_968 rfl rfl ?_
  refine xm_E_s r_law_969 rfl (xm_T_ialx rfl q0 q1 (by decide) q7) ?_
  refine xm_E_cv [.ref l1, .int (f0 ((l3 + (1 : Int32)).toNatClampNeg)), .int (f0 ((l3 + (2 : Int32)).toNatClampNeg)), .int (f0 ((l3 + (3 : Int32)).toNatClampNeg))] [] r_law_970 rfl rfl (Nat.le_of_ble_eq_true rfl) (xm_rc q9 (by decide)) rfl q8 ?_
  refine xm_E_s r_law_971 rfl rfl ?_
  refine xm_E_s r_law_972 rfl rfl ?_
  refine xm_E_s r_law_973 rfl rfl ?_
  refine xm_E_s r_law_974 rfl rfl ?_
  refine xm_E_s r_law_975 rfl rfl ?_
  refine xm_E_s r_law_976 rfl (xm_T_ialx rfl q0 q1 (by decide) q5) ?_
  refine xm_E_s r_law_977 rfl rfl ?_
  refine xm_E_s r_law_978 rfl rfl ?_
  refine xm_E_s r_law_979 rfl rfl ?_
  refine xm_E_s r_law_980 rfl rfl ?_
  refine xm_E_s r_law_981 rfl (xm_T_ialx rfl q0 q1 (by decide) q6) ?_
  refine xm_E_s r_law_982 rfl rfl ?_
  refine xm_E_s r_law_983 rfl rfl ?_
  refine xm_E_s r_law_984 rfl rfl ?_
  refine xm_E_s r_law_985 rfl rfl ?_
  refine xm_E_s r_law_986 rfl (xm_T_ialx rfl q0 q1 (by decide) q7) ?_
  refine xm_E_cv [.ref l2, .int (f0 ((l3 + (1 : Int32)).toNatClampNeg)), .int (f0 ((l3 + (2 : Int32)).toNatClampNeg)), .int (f0 ((l3 + (3 : Int32)).toNatClampNeg))] [.int r1] r_law_987 rfl rfl (Nat.le_of_ble_eq_true rfl) (xm_rc q11 (by decide)) rfl q10 ?_
  refine xm_E_s r_law_988 rfl rfl ?_
  refine xm_E_f q12 ?_
  refine xm_E_s r_law_989 rfl rfl ?_
  exact xm_E_iret r_law_990 rfl rfl
theorem p_law_2_111 {X : xm_X} {P : List xm_M} {d : Nat} {h : xm_H} {l0 : Nat} {l1 : Nat} {l2 : Nat} {l3 : Int32} {n0 : Nat} {f0 : Nat → Int32} {h1 : xm_H} {r1 : Int32} {h2 : xm_H} {r2 : Int32} {ro : Option Value} {ho : xm_H} (q0 : X.1[l0]? = none) (q1 : X.2.1 l0 = some (0, n0, f0)) (q2 : ¬ ((Int32.ofNat n0) - (6 : Int32) < l3)) (q3 : ¬ (l3 < 0 ∨ n0 ≤ l3.toNatClampNeg)) (q4 : (f0 l3.toNatClampNeg) &&& (63 : Int32) = (55 : Int32)) (q5 : ¬ (l3 + (1 : Int32) < 0 ∨ n0 ≤ (l3 + (1 : Int32)).toNatClampNeg)) (q6 : ¬ (l3 + (2 : Int32) < 0 ∨ n0 ≤ (l3 + (2 : Int32)).toNatClampNeg)) (q7 : ¬ (l3 + (3 : Int32) < 0 ∨ n0 ≤ (l3 + (3 : Int32)).toNatClampNeg)) (q8 : ¬ (l3 + (4 : Int32) < 0 ∨ n0 ≤ (l3 + (4 : Int32)).toNatClampNeg)) (q9 : xm_V X P d 185 [.ref l1, .int (f0 ((l3 + (1 : Int32)).toNatClampNeg)), .int (f0 ((l3 + (2 : Int32)).toNatClampNeg)), .long ((((f0 ((l3 + (3 : Int32)).toNatClampNeg)).toInt64) <<< ((32 : Int32).toInt64 &&& 63)) ||| (((f0 ((l3 + (4 : Int32)).toNatClampNeg)).toInt64) &&& (4294967295 : Int64)))] h (some (.int r1)) h1) (q10 : X.1[l1]? = some (.inr 9)) (q11 : xm_V X P d 329 [.ref l2, .int (f0 ((l3 + (1 : Int32)).toNatClampNeg)), .int (f0 ((l3 + (2 : Int32)).toNatClampNeg)), .long ((((f0 ((l3 + (3 : Int32)).toNatClampNeg)).toInt64) <<< ((32 : Int32).toInt64 &&& 63)) ||| (((f0 ((l3 + (4 : Int32)).toNatClampNeg)).toInt64) &&& (4294967295 : Int64)))] h1 (some (.int r2)) h2) (q12 : X.1[l2]? = some (.inr 10)) (q13 : r1 = r2) (K : xm_E X P d co_law 2 [some (.ref l0), some (.ref l1), some (.ref l2), some (.int (l3 + (6 : Int32)))] [] h2 ro ho) : xm_E X P d co_law 2 [some (.ref l0), some (.ref l1), some (.ref l2), some (.int l3)] [] h ro ho := by
  refine xm_E_s r_law_2 rfl rfl ?_
  refine xm_E_s r_law_3 rfl rfl ?_
  refine xm_E_s r_law_4 rfl (xm_T_alenx rfl q0 q1) ?_
  refine xm_E_s r_law_5 rfl rfl ?_
  refine xm_E_s r_law_6 rfl rfl ?_
  refine xm_E_s r_law_7 rfl rfl ?_
  refine xm_E_f q2 ?_
  refine xm_E_s r_law_8 rfl rfl ?_
  refine xm_E_s r_law_9 rfl rfl ?_
  refine xm_E_s r_law_10 rfl (xm_T_ialx rfl q0 q1 (by decide) q3) ?_
  refine xm_E_s r_law_11 rfl rfl ?_
  refine xm_E_s r_law_12 rfl rfl ?_
  refine xm_E_s r_law_13 rfl (xm_T_tab (55 : Int32) 991 rfl q4 (by decide) rfl) ?_
  refine xm_E_s r_law_991 rfl rfl ?_
  refine xm_E_s r_law_992 rfl rfl ?_
  refine xm_E_s r_law_993 rfl rfl ?_
  refine xm_E_s r_law_994 rfl rfl ?_
  refine xm_E_s r_law_995 rfl rfl ?_
  refine xm_E_s r_law_996 rfl (xm_T_ialx rfl q0 q1 (by decide) q5) ?_
  refine xm_E_s r_law_997 rfl rfl ?_
  refine xm_E_s r_law_998 rfl rfl ?_
  refine xm_E_s r_law_999 rfl rfl ?_
  refine xm_E_s r_law_1000 rfl rfl ?_
  refine xm_E_s r_law_1001 rfl (xm_T_ialx rfl q0 q1 (by decide) q6) ?_
  refine xm_E_s r_law_1002 rfl rfl ?_
  refine xm_E_s r_law_1003 rfl rfl ?_
  refine xm_E_s r_law_1004 rfl rfl ?_
  refine xm_E_s r_law_1005 rfl rfl ?_
  refine xm_E_s r_law_1006 rfl (xm_T_ialx rfl q0 q1 (by decide) q7) ?_
  refine xm_E_s r_law_1007 rfl rfl ?_
  refine xm_E_s r_law_1008 rfl rfl ?_
  refine xm_E_s r_law_1009 rfl rfl ?_
  refine xm_E_s r_law_1010 rfl rfl ?_
  refine xm_E_s r_law_1011 rfl rfl ?_
  refine xm_E_s r_law_1012 rfl rfl ?_
  refine xm_E_s r_law_1013 rfl rfl ?_
  refine xm_E_s r_law_1014 rfl (xm_T_ialx rfl q0 q1 (by decide) q8) ?_
  refine xm_E_s r_law_1015 rfl rfl ?_
  refine xm_E_s r_law_1016 rfl rfl ?_
  refine xm_E_s r_law_1017 rfl rfl ?_
  refine xm_E_s r_law_1018 rfl rfl ?_
  refine xm_E_cv [.ref l1, .int (f0 ((l3 + (1 : Int32)).toNatClampNeg)), .int (f0 ((l3 + (2 : Int32)).toNatClampNeg)), .long ((((f0 ((l3 + (3 : Int32)).toNatClampNeg)).toInt64) <<< ((32 : Int32).toInt64 &&& 63)) ||| (((f0 ((l3 + (4 : Int32)).toNatClampNeg)).toInt64) &&& (4294967295 : Int64)))] [] r_law_1019 rfl rfl (Nat.le_of_ble_eq_true rfl) (xm_rc q10 (by decide)) rfl q9 ?_
  refine xm_E_s r_law_1020 rfl rfl ?_
  refine xm_E_s r_law_1021 rfl rfl ?_
  refine xm_E_s r_law_1022 rfl rfl ?_
  refine xm_E_s r_law_1023 rfl rfl ?_
  refine xm_E_s r_law_1024 rfl rfl ?_
  refine xm_E_s r_law_1025 rfl (xm_T_ialx rfl q0 q1 (by decide) q5) ?_
  refine xm_E_s r_law_1026 rfl rfl ?_
  refine xm_E_s r_law_1027 rfl rfl ?_
  refine xm_E_s r_law_1028 rfl rfl ?_
  refine xm_E_s r_law_1029 rfl rfl ?_
  refine xm_E_s r_law_1030 rfl (xm_T_ialx rfl q0 q1 (by decide) q6) ?_
  refine xm_E_s r_law_1031 rfl rfl ?_
  refine xm_E_s r_law_1032 rfl rfl ?_
  refine xm_E_s r_law_1033 rfl rfl ?_
  refine xm_E_s r_law_1034 rfl rfl ?_
  refine xm_E_s r_law_1035 rfl (xm_T_ialx rfl q0 q1 (by decide) q7) ?_
  refine xm_E_s r_law_1036 rfl rfl ?_
  refine xm_E_s r_law_1037 rfl rfl ?_
  refine xm_E_s r_law_1038 rfl rfl ?_
  refine xm_E_s r_law_1039 rfl rfl ?_
  refine xm_E_s r_law_1040 rfl rfl ?_
  refine xm_E_s r_law_1041 rfl rfl ?_
  refine xm_E_s r_law_1042 rfl rfl ?_
  refine xm_E_s r_law_1043 rfl (xm_T_ialx rfl q0 q1 (by decide) q8) ?_
  refine xm_E_s r_law_1044 rfl rfl ?_
  refine xm_E_s r_law_1045 rfl rfl ?_
  refine xm_E_s r_law_1046 rfl rfl ?_
  refine xm_E_s r_law_1047 rfl rfl ?_
  refine xm_E_cv [.ref l2, .int (f0 ((l3 + (1 : Int32)).toNatClampNeg)), .int (f0 ((l3 + (2 : Int32)).toNatClampNeg)), .long ((((f0 ((l3 + (3 : Int32)).toNatClampNeg)).toInt64) <<< ((32 : Int32).toInt64 &&& 63)) ||| (((f0 ((l3 + (4 : Int32)).toNatClampNeg)).toInt64) &&& (4294967295 : Int64)))] [.int r1] r_law_1048 rfl rfl (Nat.le_of_ble_eq_true rfl) (xm_rc q12 (by decide)) rfl q11 ?_
  refine xm_E_s r_law_1049 rfl rfl ?_
  refine xm_E_t q13 ?_
  refine xm_E_s (ls1 := [some (.ref l0), some (.ref l1), some (.ref l2), some (.int (l3 + (6 : Int32)))]) r_law_1109 rfl rfl ?_
  refine xm_E_s r_law_1110 rfl rfl ?_
  exact K
theorem p_law_2_112 {X : xm_X} {P : List xm_M} {d : Nat} {h : xm_H} {l0 : Nat} {l1 : Nat} {l2 : Nat} {l3 : Int32} {n0 : Nat} {f0 : Nat → Int32} {h1 : xm_H} {r1 : Int32} {h2 : xm_H} {r2 : Int32} (q0 : X.1[l0]? = none) (q1 : X.2.1 l0 = some (0, n0, f0)) (q2 : ¬ ((Int32.ofNat n0) - (6 : Int32) < l3)) (q3 : ¬ (l3 < 0 ∨ n0 ≤ l3.toNatClampNeg)) (q4 : (f0 l3.toNatClampNeg) &&& (63 : Int32) = (55 : Int32)) (q5 : ¬ (l3 + (1 : Int32) < 0 ∨ n0 ≤ (l3 + (1 : Int32)).toNatClampNeg)) (q6 : ¬ (l3 + (2 : Int32) < 0 ∨ n0 ≤ (l3 + (2 : Int32)).toNatClampNeg)) (q7 : ¬ (l3 + (3 : Int32) < 0 ∨ n0 ≤ (l3 + (3 : Int32)).toNatClampNeg)) (q8 : ¬ (l3 + (4 : Int32) < 0 ∨ n0 ≤ (l3 + (4 : Int32)).toNatClampNeg)) (q9 : xm_V X P d 185 [.ref l1, .int (f0 ((l3 + (1 : Int32)).toNatClampNeg)), .int (f0 ((l3 + (2 : Int32)).toNatClampNeg)), .long ((((f0 ((l3 + (3 : Int32)).toNatClampNeg)).toInt64) <<< ((32 : Int32).toInt64 &&& 63)) ||| (((f0 ((l3 + (4 : Int32)).toNatClampNeg)).toInt64) &&& (4294967295 : Int64)))] h (some (.int r1)) h1) (q10 : X.1[l1]? = some (.inr 9)) (q11 : xm_V X P d 329 [.ref l2, .int (f0 ((l3 + (1 : Int32)).toNatClampNeg)), .int (f0 ((l3 + (2 : Int32)).toNatClampNeg)), .long ((((f0 ((l3 + (3 : Int32)).toNatClampNeg)).toInt64) <<< ((32 : Int32).toInt64 &&& 63)) ||| (((f0 ((l3 + (4 : Int32)).toNatClampNeg)).toInt64) &&& (4294967295 : Int64)))] h1 (some (.int r2)) h2) (q12 : X.1[l2]? = some (.inr 10)) (q13 : ¬ (r1 = r2)) : xm_E X P d co_law 2 [some (.ref l0), some (.ref l1), some (.ref l2), some (.int l3)] [] h (some (.int (0 : Int32))) h2 := by
  refine xm_E_s r_law_2 rfl rfl ?_
  refine xm_E_s r_law_3 rfl rfl ?_
  refine xm_E_s r_law_4 rfl (xm_T_alenx rfl q0 q1) ?_
  refine xm_E_s r_law_5 rfl rfl ?_
  refine xm_E_s r_law_6 rfl rfl ?_
  refine xm_E_s r_law_7 rfl rfl ?_
  refine xm_E_f q2 ?_
  refine xm_E_s r_law_8 rfl rfl ?_
  refine xm_E_s r_law_9 rfl rfl ?_
  refine xm_E_s r_law_10 rfl (xm_T_ialx rfl q0 q1 (by decide) q3) ?_
  refine xm_E_s r_law_11 rfl rfl ?_
  refine xm_E_s r_law_12 rfl rfl ?_
  refine xm_E_s r_law_13 rfl (xm_T_tab (55 : Int32) 991 rfl q4 (by decide) rfl) ?_
  refine xm_E_s r_law_991 rfl rfl ?_
  refine xm_E_s r_law_992 rfl rfl ?_
  refine xm_E_s r_law_993 rfl rfl ?_
  refine xm_E_s r_law_994 rfl rfl ?_
  refine xm_E_s r_law_995 rfl rfl ?_
  refine xm_E_s r_law_996 rfl (xm_T_ialx rfl q0 q1 (by decide) q5) ?_
  refine xm_E_s r_law_997 rfl rfl ?_
  refine xm_E_s r_law_998 rfl rfl ?_
  refine xm_E_s r_law_999 rfl rfl ?_
  refine xm_E_s r_law_1000 rfl rfl ?_
  refine xm_E_s r_law_1001 rfl (xm_T_ialx rfl q0 q1 (by decide) q6) ?_
  refine xm_E_s r_law_1002 rfl rfl ?_
  refine xm_E_s r_law_1003 rfl rfl ?_
  refine xm_E_s r_law_1004 rfl rfl ?_
  refine xm_E_s r_law_1005 rfl rfl ?_
  refine xm_E_s r_law_1006 rfl (xm_T_ialx rfl q0 q1 (by decide) q7) ?_
  refine xm_E_s r_law_1007 rfl rfl ?_
  refine xm_E_s r_law_1008 rfl rfl ?_
  refine xm_E_s r_law_1009 rfl rfl ?_
  refine xm_E_s r_law_1010 rfl rfl ?_
  refine xm_E_s r_law_1011 rfl rfl ?_
  refine xm_E_s r_law_1012 rfl rfl ?_
  refine xm_E_s r_law_1013 rfl rfl ?_
  refine xm_E_s r_law_1014 rfl (xm_T_ialx rfl q0 q1 (by decide) q8) ?_
  refine xm_E_s r_law_1015 rfl rfl ?_
  refine xm_E_s r_law_1016 rfl rfl ?_
  refine xm_E_s r_law_1017 rfl rfl ?_
  refine xm_E_s r_law_1018 rfl rfl ?_
  refine xm_E_cv [.ref l1, .int (f0 ((l3 + (1 : Int32)).toNatClampNeg)), .int (f0 ((l3 + (2 : Int32)).toNatClampNeg)), .long ((((f0 ((l3 + (3 : Int32)).toNatClampNeg)).toInt64) <<< ((32 : Int32).toInt64 &&& 63)) ||| (((f0 ((l3 + (4 : Int32)).toNatClampNeg)).toInt64) &&& (4294967295 : Int64)))] [] r_law_1019 rfl rfl (Nat.le_of_ble_eq_true rfl) (xm_rc q10 (by decide)) rfl q9 ?_
  refine xm_E_s r_law_1020 rfl rfl ?_
  refine xm_E_s r_law_1021 rfl rfl ?_
  refine xm_E_s r_law_1022 rfl rfl ?_
  refine xm_E_s r_law_1023 rfl rfl ?_
  refine xm_E_s r_law_1024 rfl rfl ?_
  refine xm_E_s r_law_1025 rfl (xm_T_ialx rfl q0 q1 (by decide) q5) ?_
  refine xm_E_s r_law_1026 rfl rfl ?_
  refine xm_E_s r_law_1027 rfl rfl ?_
  refine xm_E_s r_law_1028 rfl rfl ?_
  refine xm_E_s r_law_1029 rfl rfl ?_
  refine xm_E_s r_law_1030 rfl (xm_T_ialx rfl q0 q1 (by decide) q6) ?_
  refine xm_E_s r_law_1031 rfl rfl ?_
  refine xm_E_s r_law_1032 rfl rfl ?_
  refine xm_E_s r_law_1033 rfl rfl ?_
  refine xm_E_s r_law_1034 rfl rfl ?_
  refine xm_E_s r_law_1035 rfl (xm_T_ialx rfl q0 q1 (by decide) q7) ?_
  refine xm_E_s r_law_1036 rfl rfl ?_
  refine xm_E_s r_law_1037 rfl rfl ?_
  refine xm_E_s r_law_1038 rfl rfl ?_
  refine xm_E_s r_law_1039 rfl rfl ?_
  refine xm_E_s r_law_1040 rfl rfl ?_
  refine xm_E_s r_law_1041 rfl rfl ?_
  refine xm_E_s r_law_1042 rfl rfl ?_
  refine xm_E_s r_law_1043 rfl (xm_T_ialx rfl q0 q1 (by decide) q8) ?_
  refine xm_E_s r_law_1044 rfl rfl ?_
  refine xm_E_s r_law_1045 rfl rfl ?_
  refine xm_E_s r_law_1046 rfl rfl ?_
  refine xm_E_s r_law_1047 rfl rfl ?_
  refine xm_E_cv [.ref l2, .int (f0 ((l3 + (1 : Int32)).toNatClampNeg)), .int (f0 ((l3 + (2 : Int32)).toNatClampNeg)), .long ((((f0 ((l3 + (3 : Int32)).toNatClampNeg)).toInt64) <<< ((32 : Int32).toInt64 &&& 63)) ||| (((f0 ((l3 + (4 : Int32)).toNatClampNeg)).toInt64) &&& (4294967295 : Int64)))] [.int r1] r_law_1048 rfl rfl (Nat.le_of_ble_eq_true rfl) (xm_rc q12 (by decide)) rfl q11 ?_
  refine xm_E_s r_law_1049 rfl rfl ?_
  refine xm_E_f q13 ?_
  refine xm_E_s r_law_1050 rfl rfl ?_
  exact xm_E_iret r_law_1051 rfl rfl
theorem p_law_2_113 {X : xm_X} {P : List xm_M} {d : Nat} {h : xm_H} {l0 : Nat} {l1 : Nat} {l2 : Nat} {l3 : Int32} {n0 : Nat} {f0 : Nat → Int32} {h1 : xm_H} {r1 : Int32} {h2 : xm_H} {r2 : Int32} {ro : Option Value} {ho : xm_H} (q0 : X.1[l0]? = none) (q1 : X.2.1 l0 = some (0, n0, f0)) (q2 : ¬ ((Int32.ofNat n0) - (6 : Int32) < l3)) (q3 : ¬ (l3 < 0 ∨ n0 ≤ l3.toNatClampNeg)) (q4 : (f0 l3.toNatClampNeg) &&& (63 : Int32) = (56 : Int32)) (q5 : ¬ (l3 + (1 : Int32) < 0 ∨ n0 ≤ (l3 + (1 : Int32)).toNatClampNeg)) (q6 : ¬ (l3 + (2 : Int32) < 0 ∨ n0 ≤ (l3 + (2 : Int32)).toNatClampNeg)) (q7 : ¬ (l3 + (3 : Int32) < 0 ∨ n0 ≤ (l3 + (3 : Int32)).toNatClampNeg)) (q8 : ¬ (l3 + (4 : Int32) < 0 ∨ n0 ≤ (l3 + (4 : Int32)).toNatClampNeg)) (q9 : ¬ (l3 + (5 : Int32) < 0 ∨ n0 ≤ (l3 + (5 : Int32)).toNatClampNeg)) (q10 : xm_V X P d 188 [.ref l1, .int (f0 ((l3 + (1 : Int32)).toNatClampNeg)), .int (f0 ((l3 + (2 : Int32)).toNatClampNeg)), .int (f0 ((l3 + (3 : Int32)).toNatClampNeg)), .int (f0 ((l3 + (4 : Int32)).toNatClampNeg)), .int (f0 ((l3 + (5 : Int32)).toNatClampNeg))] h (some (.int r1)) h1) (q11 : X.1[l1]? = some (.inr 9)) (q12 : xm_V X P d 331 [.ref l2, .int (f0 ((l3 + (1 : Int32)).toNatClampNeg)), .int (f0 ((l3 + (2 : Int32)).toNatClampNeg)), .int (f0 ((l3 + (3 : Int32)).toNatClampNeg)), .int (f0 ((l3 + (4 : Int32)).toNatClampNeg)), .int (f0 ((l3 + (5 : Int32)).toNatClampNeg))] h1 (some (.int r2)) h2) (q13 : X.1[l2]? = some (.inr 10)) (q14 : r1 = r2) (K : xm_E X P d co_law 2 [some (.ref l0), some (.ref l1), some (.ref l2), some (.int (l3 + (6 : Int32)))] [] h2 ro ho) : xm_E X P d co_law 2 [some (.ref l0), some (.ref l1), some (.ref l2), some (.int l3)] [] h ro ho := by
  refine xm_E_s r_law_2 rfl rfl ?_
  refine xm_E_s r_law_3 rfl rfl ?_
  refine xm_E_s r_law_4 rfl (xm_T_alenx rfl q0 q1) ?_
  refine xm_E_s r_law_5 rfl rfl ?_
  refine xm_E_s r_law_6 rfl rfl ?_
  refine xm_E_s r_law_7 rfl rfl ?_
  refine xm_E_f q2 ?_
  refine xm_E_s r_law_8 rfl rfl ?_
  refine xm_E_s r_law_9 rfl rfl ?_
  refine xm_E_s r_law_10 rfl (xm_T_ialx rfl q0 q1 (by decide) q3) ?_
  refine xm_E_s r_law_11 rfl rfl ?_
  refine xm_E_s r_law_12 rfl rfl ?_
  refine xm_E_s r_law_13 rfl (xm_T_tab (56 : Int32) 1052 rfl q4 (by decide) rfl) ?_
  refine xm_E_s r_law_1052 rfl rfl ?_
  refine xm_E_s r_law_1053 rfl rfl ?_
  refine xm_E_s r_law_1054 rfl rfl ?_
  refine xm_E_s r_law_1055 rfl rfl ?_
  refine xm_E_s r_law_1056 rfl rfl ?_
  refine xm_E_s r_law_1057 rfl (xm_T_ialx rfl q0 q1 (by decide) q5) ?_
  refine xm_E_s r_law_1058 rfl rfl ?_
  refine xm_E_s r_law_1059 rfl rfl ?_
  refine xm_E_s r_law_1060 rfl rfl ?_
  refine xm_E_s r_law_1061 rfl rfl ?_
  refine xm_E_s r_law_1062 rfl (xm_T_ialx rfl q0 q1 (by decide) q6) ?_
  refine xm_E_s r_law_1063 rfl rfl ?_
  refine xm_E_s r_law_1064 rfl rfl ?_
  refine xm_E_s r_law_1065 rfl rfl ?_
  refine xm_E_s r_law_1066 rfl rfl ?_
  refine xm_E_s r_law_1067 rfl (xm_T_ialx rfl q0 q1 (by decide) q7) ?_
  refine xm_E_s r_law_1068 rfl rfl ?_
  refine xm_E_s r_law_1069 rfl rfl ?_
  refine xm_E_s r_law_1070 rfl rfl ?_
  refine xm_E_s r_law_1071 rfl rfl ?_
  refine xm_E_s r_law_1072 rfl (xm_T_ialx rfl q0 q1 (by decide) q8) ?_
  refine xm_E_s r_law_1073 rfl rfl ?_
  refine xm_E_s r_law_1074 rfl rfl ?_
  refine xm_E_s r_law_1075 rfl rfl ?_
  refine xm_E_s r_law_1076 rfl rfl ?_
  refine xm_E_s r_law_1077 rfl (xm_T_ialx rfl q0 q1 (by decide) q9) ?_
  refine xm_E_cv [.ref l1, .int (f0 ((l3 + (1 : Int32)).toNatClampNeg)), .int (f0 ((l3 + (2 : Int32)).toNatClampNeg)), .int (f0 ((l3 + (3 : Int32)).toNatClampNeg)), .int (f0 ((l3 + (4 : Int32)).toNatClampNeg)), .int (f0 ((l3 + (5 : Int32)).toNatClampNeg))] [] r_law_1078 rfl rfl (Nat.le_of_ble_eq_true rfl) (xm_rc q11 (by decide)) rfl q10 ?_
  refine xm_E_s r_law_1079 rfl rfl ?_
  refine xm_E_s r_law_1080 rfl rfl ?_
  refine xm_E_s r_law_1081 rfl rfl ?_
  refine xm_E_s r_law_1082 rfl rfl ?_
  refine xm_E_s r_law_1083 rfl rfl ?_
  refine xm_E_s r_law_1084 rfl (xm_T_ialx rfl q0 q1 (by decide) q5) ?_
  refine xm_E_s r_law_1085 rfl rfl ?_
  refine xm_E_s r_law_1086 rfl rfl ?_
  refine xm_E_s r_law_1087 rfl rfl ?_
  refine xm_E_s r_law_1088 rfl rfl ?_
  refine xm_E_s r_law_1089 rfl (xm_T_ialx rfl q0 q1 (by decide) q6) ?_
  refine xm_E_s r_law_1090 rfl rfl ?_
  refine xm_E_s r_law_1091 rfl rfl ?_
  refine xm_E_s r_law_1092 rfl rfl ?_
  refine xm_E_s r_law_1093 rfl rfl ?_
  refine xm_E_s r_law_1094 rfl (xm_T_ialx rfl q0 q1 (by decide) q7) ?_
  refine xm_E_s r_law_1095 rfl rfl ?_
  refine xm_E_s r_law_1096 rfl rfl ?_
  refine xm_E_s r_law_1097 rfl rfl ?_
  refine xm_E_s r_law_1098 rfl rfl ?_
  refine xm_E_s r_law_1099 rfl (xm_T_ialx rfl q0 q1 (by decide) q8) ?_
  refine xm_E_s r_law_1100 rfl rfl ?_
  refine xm_E_s r_law_1101 rfl rfl ?_
  refine xm_E_s r_law_1102 rfl rfl ?_
  refine xm_E_s r_law_1103 rfl rfl ?_
  refine xm_E_s r_law_1104 rfl (xm_T_ialx rfl q0 q1 (by decide) q9) ?_
  refine xm_E_cv [.ref l2, .int (f0 ((l3 + (1 : Int32)).toNatClampNeg)), .int (f0 ((l3 + (2 : Int32)).toNatClampNeg)), .int (f0 ((l3 + (3 : Int32)).toNatClampNeg)), .int (f0 ((l3 + (4 : Int32)).toNatClampNeg)), .int (f0 ((l3 + (5 : Int32)).toNatClampNeg))] [.int r1] r_law_1105 rfl rfl (Nat.le_of_ble_eq_true rfl) (xm_rc q13 (by decide)) rfl q12 ?_
  refine xm_E_s r_law_1106 rfl rfl ?_
  refine xm_E_t q14 ?_
  refine xm_E_s (ls1 := [some (.ref l0), some (.ref l1), some (.ref l2), some (.int (l3 + (6 : Int32)))]) r_law_1109 rfl rfl ?_
  refine xm_E_s r_law_1110 rfl rfl ?_
  exact K
theorem p_law_2_114 {X : xm_X} {P : List xm_M} {d : Nat} {h : xm_H} {l0 : Nat} {l1 : Nat} {l2 : Nat} {l3 : Int32} {n0 : Nat} {f0 : Nat → Int32} {h1 : xm_H} {r1 : Int32} {h2 : xm_H} {r2 : Int32} (q0 : X.1[l0]? = none) (q1 : X.2.1 l0 = some (0, n0, f0)) (q2 : ¬ ((Int32.ofNat n0) - (6 : Int32) < l3)) (q3 : ¬ (l3 < 0 ∨ n0 ≤ l3.toNatClampNeg)) (q4 : (f0 l3.toNatClampNeg) &&& (63 : Int32) = (56 : Int32)) (q5 : ¬ (l3 + (1 : Int32) < 0 ∨ n0 ≤ (l3 + (1 : Int32)).toNatClampNeg)) (q6 : ¬ (l3 + (2 : Int32) < 0 ∨ n0 ≤ (l3 + (2 : Int32)).toNatClampNeg)) (q7 : ¬ (l3 + (3 : Int32) < 0 ∨ n0 ≤ (l3 + (3 : Int32)).toNatClampNeg)) (q8 : ¬ (l3 + (4 : Int32) < 0 ∨ n0 ≤ (l3 + (4 : Int32)).toNatClampNeg)) (q9 : ¬ (l3 + (5 : Int32) < 0 ∨ n0 ≤ (l3 + (5 : Int32)).toNatClampNeg)) (q10 : xm_V X P d 188 [.ref l1, .int (f0 ((l3 + (1 : Int32)).toNatClampNeg)), .int (f0 ((l3 + (2 : Int32)).toNatClampNeg)), .int (f0 ((l3 + (3 : Int32)).toNatClampNeg)), .int (f0 ((l3 + (4 : Int32)).toNatClampNeg)), .int (f0 ((l3 + (5 : Int32)).toNatClampNeg))] h (some (.int r1)) h1) (q11 : X.1[l1]? = some (.inr 9)) (q12 : xm_V X P d 331 [.ref l2, .int (f0 ((l3 + (1 : Int32)).toNatClampNeg)), .int (f0 ((l3 + (2 : Int32)).toNatClampNeg)), .int (f0 ((l3 + (3 : Int32)).toNatClampNeg)), .int (f0 ((l3 + (4 : Int32)).toNatClampNeg)), .int (f0 ((l3 + (5 : Int32)).toNatClampNeg))] h1 (some (.int r2)) h2) (q13 : X.1[l2]? = some (.inr 10)) (q14 : ¬ (r1 = r2)) : xm_E X P d co_law 2 [some (.ref l0), some (.ref l1), some (.ref l2), some (.int l3)] [] h (some (.int (0 : Int32))) h2 := by
  refine xm_E_s r_law_2 rfl rfl ?_
  refine xm_E_s r_law_3 rfl rfl ?_
  refine xm_E_s r_law_4 rfl (xm_T_alenx rfl q0 q1) ?_
  refine xm_E_s r_law_5 rfl rfl ?_
  refine xm_E_s r_law_6 rfl rfl ?_
  refine xm_E_s r_law_7 rfl rfl ?_
  refine xm_E_f q2 ?_
  refine xm_E_s r_law_8 rfl rfl ?_
  refine xm_E_s r_law_9 rfl rfl ?_
  refine xm_E_s r_law_10 rfl (xm_T_ialx rfl q0 q1 (by decide) q3) ?_
  refine xm_E_s r_law_11 rfl rfl ?_
  refine xm_E_s r_law_12 rfl rfl ?_
  refine xm_E_s r_law_13 rfl (xm_T_tab (56 : Int32) 1052 rfl q4 (by decide) rfl) ?_
  refine xm_E_s r_law_1052 rfl rfl ?_
  refine xm_E_s r_law_1053 rfl rfl ?_
  refine xm_E_s r_law_1054 rfl rfl ?_
  refine xm_E_s r_law_1055 rfl rfl ?_
  refine xm_E_s r_law_1056 rfl rfl ?_
  refine xm_E_s r_law_1057 rfl (xm_T_ialx rfl q0 q1 (by decide) q5) ?_
  refine xm_E_s r_law_1058 rfl rfl ?_
  refine xm_E_s r_law_1059 rfl rfl ?_
  refine xm_E_s r_law_1060 rfl rfl ?_
  refine xm_E_s r_law_1061 rfl rfl ?_
  refine xm_E_s r_law_1062 rfl (xm_T_ialx rfl q0 q1 (by decide) q6) ?_
  refine xm_E_s r_law_1063 rfl rfl ?_
  refine xm_E_s r_law_1064 rfl rfl ?_
  refine xm_E_s r_law_1065 rfl rfl ?_
  refine xm_E_s r_law_1066 rfl rfl ?_
  refine xm_E_s r_law_1067 rfl (xm_T_ialx rfl q0 q1 (by decide) q7) ?_
  refine xm_E_s r_law_1068 rfl rfl ?_
  refine xm_E_s r_law_1069 rfl rfl ?_
  refine xm_E_s r_law_1070 rfl rfl ?_
  refine xm_E_s r_law_1071 rfl rfl ?_
  refine xm_E_s r_law_1072 rfl (xm_T_ialx rfl q0 q1 (by decide) q8) ?_
  refine xm_E_s r_law_1073 rfl rfl ?_
  refine xm_E_s r_law_1074 rfl rfl ?_
  refine xm_E_s r_law_1075 rfl rfl ?_
  refine xm_E_s r_law_1076 rfl rfl ?_
  refine xm_E_s r_law_1077 rfl (xm_T_ialx rfl q0 q1 (by decide) q9) ?_
  refine xm_E_cv [.ref l1, .int (f0 ((l3 + (1 : Int32)).toNatClampNeg)), .int (f0 ((l3 + (2 : Int32)).toNatClampNeg)), .int (f0 ((l3 + (3 : Int32)).toNatClampNeg)), .int (f0 ((l3 + (4 : Int32)).toNatClampNeg)), .int (f0 ((l3 + (5 : Int32)).toNatClampNeg))] [] r_law_1078 rfl rfl (Nat.le_of_ble_eq_true rfl) (xm_rc q11 (by decide)) rfl q10 ?_
  refine xm_E_s r_law_1079 rfl rfl ?_
  refine xm_E_s r_law_1080 rfl rfl ?_
  refine xm_E_s r_law_1081 rfl rfl ?_
  refine xm_E_s r_law_1082 rfl rfl ?_
  refine xm_E_s r_law_1083 rfl rfl ?_
  refine xm_E_s r_law_1084 rfl (xm_T_ialx rfl q0 q1 (by decide) q5) ?_
  refine xm_E_s r_law_1085 rfl rfl ?_
  refine xm_E_s r_law_1086 rfl rfl ?_
  refine xm_E_s r_law_1087 rfl rfl ?_
  refine xm_E_s r_law_1088 rfl rfl ?_
  refine xm_E_s r_law_1089 rfl (xm_T_ialx rfl q0 q1 (by decide) q6) ?_
  refine xm_E_s r_law_1090 rfl rfl ?_
  refine xm_E_s r_law_1091 rfl rfl ?_
  refine xm_E_s r_law_1092 rfl rfl ?_
  refine xm_E_s r_law_1093 rfl rfl ?_
  refine xm_E_s r_law_1094 rfl (xm_T_ialx rfl q0 q1 (by decide) q7) ?_
  refine xm_E_s r_law_1095 rfl rfl ?_
  refine xm_E_s r_law_1096 rfl rfl ?_
  refine xm_E_s r_law_1097 rfl rfl ?_
  refine xm_E_s r_law_1098 rfl rfl ?_
  refine xm_E_s r_law_1099 rfl (xm_T_ialx rfl q0 q1 (by decide) q8) ?_
  refine xm_E_s r_law_1100 rfl rfl ?_
  refine xm_E_s r_law_1101 rfl rfl ?_
  refine xm_E_s r_law_1102 rfl rfl ?_
  refine xm_E_s r_law_1103 rfl rfl ?_
  refine xm_E_s r_law_1104 rfl (xm_T_ialx rfl q0 q1 (by decide) q9) ?_
  refine xm_E_cv [.ref l2, .int (f0 ((l3 + (1 : Int32)).toNatClampNeg)), .int (f0 ((l3 + (2 : Int32)).toNatClampNeg)), .int (f0 ((l3 + (3 : Int32)).toNatClampNeg)), .int (f0 ((l3 + (4 : Int32)).toNatClampNeg)), .int (f0 ((l3 + (5 : Int32)).toNatClampNeg))] [.int r1] r_law_1105 rfl rfl (Nat.le_of_ble_eq_true rfl) (xm_rc q13 (by decide)) rfl q12 ?_
  refine xm_E_s r_law_1106 rfl rfl ?_
  refine xm_E_f q14 ?_
  refine xm_E_s r_law_1107 rfl rfl ?_
  exact xm_E_iret r_law_1108 rfl rfl
theorem p_law_2_115 {X : xm_X} {P : List xm_M} {d : Nat} {h : xm_H} {l0 : Nat} {l1 : Nat} {l2 : Nat} {l3 : Int32} {n0 : Nat} {f0 : Nat → Int32} {ro : Option Value} {ho : xm_H} (q0 : X.1[l0]? = none) (q1 : X.2.1 l0 = some (0, n0, f0)) (q2 : ¬ ((Int32.ofNat n0) - (6 : Int32) < l3)) (q3 : ¬ (l3 < 0 ∨ n0 ≤ l3.toNatClampNeg)) (q4 : ((f0 l3.toNatClampNeg) &&& (63 : Int32)).toInt < 0 ∨ 56 < ((f0 l3.toNatClampNeg) &&& (63 : Int32)).toInt) (K : xm_E X P d co_law 2 [some (.ref l0), some (.ref l1), some (.ref l2), some (.int (l3 + (6 : Int32)))] [] h ro ho) : xm_E X P d co_law 2 [some (.ref l0), some (.ref l1), some (.ref l2), some (.int l3)] [] h ro ho := by
  refine xm_E_s r_law_2 rfl rfl ?_
  refine xm_E_s r_law_3 rfl rfl ?_
  refine xm_E_s r_law_4 rfl (xm_T_alenx rfl q0 q1) ?_
  refine xm_E_s r_law_5 rfl rfl ?_
  refine xm_E_s r_law_6 rfl rfl ?_
  refine xm_E_s r_law_7 rfl rfl ?_
  refine xm_E_f q2 ?_
  refine xm_E_s r_law_8 rfl rfl ?_
  refine xm_E_s r_law_9 rfl rfl ?_
  refine xm_E_s r_law_10 rfl (xm_T_ialx rfl q0 q1 (by decide) q3) ?_
  refine xm_E_s r_law_11 rfl rfl ?_
  refine xm_E_s r_law_12 rfl rfl ?_
  refine xm_E_s r_law_13 rfl (xm_T_tabd rfl q4) ?_
  refine xm_E_s (ls1 := [some (.ref l0), some (.ref l1), some (.ref l2), some (.int (l3 + (6 : Int32)))]) r_law_1109 rfl rfl ?_
  refine xm_E_s r_law_1110 rfl rfl ?_
  exact K
