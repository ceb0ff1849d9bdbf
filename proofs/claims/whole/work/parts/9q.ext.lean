/-! What stands outside at the law's entry: the script, three tables, the texts. Printed in part by wip/gen/ext.py. -/
def yF : List Jvm.Cond := flatC (Jvm.Cond.and given_1 narrow_1)
def yb : List Nat := [113, 122, 130, 138, 147, 155, 163, 204, 213, 248, 255, 279, 286, 307, 339, 349, 359, 368, 377, 387, 396, 405, 414, 423, 431, 439, 450, 461, 469, 478, 486, 495, 503, 511, 521, 529, 536, 546, 554, 562, 570, 579, 587, 597, 605, 614, 620, 627]
def yt (i : Nat) : Term := .string (xm_TX.getD i ("", 0, "", 0)).1 (xm_TX.getD i ("", 0, "", 0)).2.1
def yl (i : Nat) : Nat := (xm_t_tx.getD i []).length
set_option maxRecDepth 100000 in
theorem y_str : ∀ i, i < 48 → yF[yb.getD i 0]? = some (.exactly (yt i) "java/lang/String") ∧ yF[yb.getD i 0 + 1]? = some (.eq (.field (yt i) "java/lang/String" "coder" "B") (.int 0)) ∧ yF[yb.getD i 0 + 2]? = some (.arrayOf (.field (yt i) "java/lang/String" "value" "[B") .byte) ∧ yF[yb.getD i 0 + 3]? = some (.eq (.length (.field (yt i) "java/lang/String" "value" "[B")) (.int (Int32.ofNat (yl i)))) ∧ yl i < 100 ∧ ∀ j, j < yl i → yF[yb.getD i 0 + 4 + j]? = some (.eq (.elem (.field (yt i) "java/lang/String" "value" "[B") (.int (Int32.ofNat j))) (.int ((xm_t_tx.getD i []).getD j 0))) := by decide +kernel
set_option maxRecDepth 100000 in
theorem y_tab : (yF[10]? = some (.arrayOf (.static "SheetByTwo$Sheet" "HEM_BEHIND" "[I") .int) ∧ yF[11]? = some (.eq (.length (.static "SheetByTwo$Sheet" "HEM_BEHIND" "[I")) (.int (Int32.ofNat 45))) ∧ ∀ j, j < 45 → yF[12 + j]? = some (.eq (.elem (.static "SheetByTwo$Sheet" "HEM_BEHIND" "[I") (.int (Int32.ofNat j))) (.int (xm_t_hem.getD j 0)))) ∧
  (yF[58]? = some (.arrayOf (.static "SheetByTwo$Linen" "MOVING_OF" "[I") .int) ∧ yF[59]? = some (.eq (.length (.static "SheetByTwo$Linen" "MOVING_OF" "[I")) (.int (Int32.ofNat 12))) ∧ ∀ j, j < 12 → yF[60 + j]? = some (.eq (.elem (.static "SheetByTwo$Linen" "MOVING_OF" "[I") (.int (Int32.ofNat j))) (.int (xm_t_mov.getD j 0)))) ∧
  (yF[73]? = some (.arrayOf (.static "SheetByTwo$Linen" "ACT_OF" "[I") .int) ∧ yF[74]? = some (.eq (.length (.static "SheetByTwo$Linen" "ACT_OF" "[I")) (.int (Int32.ofNat 16))) ∧ ∀ j, j < 16 → yF[75 + j]? = some (.eq (.elem (.static "SheetByTwo$Linen" "ACT_OF" "[I") (.int (Int32.ofNat j))) (.int (xm_t_act.getD j 0)))) ∧
  yF[4]? = some (.eq (.static "java/lang/String" "COMPACT_STRINGS" "Z") (.int 1)) ∧ yF[5]? = some (.isRef (.static "jdk/internal/util/Preconditions" "SIOOBE_FORMATTER" "Ljava/util/function/BiFunction;")) := by decide +kernel
set_option maxRecDepth 100000 in
theorem yz_0 : Cond.laysStatic "java/lang/String" "COMPACT_STRINGS" "Z" ∈ lw_tbl ∧ Cond.initialized "java/lang/String" ∈ lw_tbl := ⟨List.mem_of_getElem? (i := 576) rfl, List.mem_of_getElem? (i := 122) rfl⟩
set_option maxRecDepth 100000 in
theorem yz_1 : Cond.laysStatic "SheetByTwo$Linen" "ACT_OF" "[I" ∈ lw_tbl ∧ Cond.initialized "SheetByTwo$Linen" ∈ lw_tbl := ⟨List.mem_of_getElem? (i := 801) rfl, List.mem_of_getElem? (i := 113) rfl⟩
set_option maxRecDepth 100000 in
theorem yz_2 : Cond.laysStatic "SheetByTwo$Linen" "MOVING_OF" "[I" ∈ lw_tbl ∧ Cond.initialized "SheetByTwo$Linen" ∈ lw_tbl := ⟨List.mem_of_getElem? (i := 775) rfl, List.mem_of_getElem? (i := 113) rfl⟩
set_option maxRecDepth 100000 in
theorem yz_3 : Cond.laysStatic "SheetByTwo$Sheet" "HEM_BEHIND" "[I" ∈ lw_tbl ∧ Cond.initialized "SheetByTwo$Sheet" ∈ lw_tbl := ⟨List.mem_of_getElem? (i := 768) rfl, List.mem_of_getElem? (i := 127) rfl⟩
set_option maxRecDepth 100000 in
theorem yz_4 : Cond.laysStatic "jdk/internal/util/Preconditions" "SIOOBE_FORMATTER" "Ljava/util/function/BiFunction;" ∈ lw_tbl ∧ Cond.initialized "jdk/internal/util/Preconditions" ∈ lw_tbl := ⟨List.mem_of_getElem? (i := 592) rfl, List.mem_of_getElem? (i := 124) rfl⟩
set_option maxRecDepth 100000 in
theorem yr_0 : Cond.stringRef "SheetByTwo$Tape" 46 "linen" ∈ lw_tbl := List.mem_of_getElem? (i := 558) rfl
set_option maxRecDepth 100000 in
theorem yr_1 : Cond.stringRef "SheetByTwo$Tape" 52 "long" ∈ lw_tbl := List.mem_of_getElem? (i := 623) rfl
set_option maxRecDepth 100000 in
theorem yr_2 : Cond.stringRef "SheetByTwo$Tape" 61 "wide" ∈ lw_tbl := List.mem_of_getElem? (i := 632) rfl
set_option maxRecDepth 100000 in
theorem yr_3 : Cond.stringRef "SheetByTwo$Tape" 66 "thick" ∈ lw_tbl := List.mem_of_getElem? (i := 633) rfl
set_option maxRecDepth 100000 in
theorem yr_4 : Cond.stringRef "SheetByTwo$Tape" 70 "room" ∈ lw_tbl := List.mem_of_getElem? (i := 634) rfl
set_option maxRecDepth 100000 in
theorem yr_5 : Cond.stringRef "SheetByTwo$Tape" 75 "arms" ∈ lw_tbl := List.mem_of_getElem? (i := 635) rfl
set_option maxRecDepth 100000 in
theorem yr_6 : Cond.stringRef "SheetByTwo$Tape" 79 "halve third meet turn quarter untwist" ∈ lw_tbl := List.mem_of_getElem? (i := 640) rfl
set_option maxRecDepth 100000 in
theorem yr_7 : Cond.stringRef "SheetByTwo$Tape" 89 "takes" ∈ lw_tbl := List.mem_of_getElem? (i := 641) rfl
set_option maxRecDepth 100000 in
theorem yr_8 : Cond.stringRef "SheetByTwo$Tape" 90 "call slips wish press pair pile" ∈ lw_tbl := List.mem_of_getElem? (i := 642) rfl
set_option maxRecDepth 100000 in
theorem yr_9 : Cond.stringRef "SheetByTwo$Tape" 115 "her" ∈ lw_tbl := List.mem_of_getElem? (i := 647) rfl
set_option maxRecDepth 100000 in
theorem yr_10 : Cond.stringRef "SheetByTwo$Tape" 119 "top bottom walk stay" ∈ lw_tbl := List.mem_of_getElem? (i := 648) rfl
set_option maxRecDepth 100000 in
theorem yr_11 : Cond.stringRef "SheetByTwo$Tape" 124 "his" ∈ lw_tbl := List.mem_of_getElem? (i := 653) rfl
set_option maxRecDepth 100000 in
theorem yr_12 : Cond.stringRef "SheetByTwo$Tape" 146 "front back either" ∈ lw_tbl := List.mem_of_getElem? (i := 662) rfl
set_option maxRecDepth 100000 in
theorem yr_13 : Cond.stringRef "SheetByTwo$Tape" 151 "top bottom left right in any" ∈ lw_tbl := List.mem_of_getElem? (i := 663) rfl
set_option maxRecDepth 100000 in
theorem yr_14 : Cond.stringRef "SheetByTwo$Tape" 162 "learns" ∈ lw_tbl := List.mem_of_getElem? (i := 668) rfl
set_option maxRecDepth 100000 in
theorem yr_15 : Cond.stringRef "SheetByTwoModel" 163 "linen" ∈ lw_tbl := List.mem_of_getElem? (i := 1552) rfl
set_option maxRecDepth 100000 in
theorem yr_16 : Cond.stringRef "SheetByTwoModel" 165 "long" ∈ lw_tbl := List.mem_of_getElem? (i := 1571) rfl
set_option maxRecDepth 100000 in
theorem yr_17 : Cond.stringRef "SheetByTwoModel" 171 "wide" ∈ lw_tbl := List.mem_of_getElem? (i := 1580) rfl
set_option maxRecDepth 100000 in
theorem yr_18 : Cond.stringRef "SheetByTwoModel" 173 "thick" ∈ lw_tbl := List.mem_of_getElem? (i := 1581) rfl
set_option maxRecDepth 100000 in
theorem yr_19 : Cond.stringRef "SheetByTwoModel" 175 "room" ∈ lw_tbl := List.mem_of_getElem? (i := 1582) rfl
set_option maxRecDepth 100000 in
theorem yr_20 : Cond.stringRef "SheetByTwoModel" 177 "arms" ∈ lw_tbl := List.mem_of_getElem? (i := 1583) rfl
set_option maxRecDepth 100000 in
theorem yr_21 : Cond.stringRef "SheetByTwoModel" 179 "halve" ∈ lw_tbl := List.mem_of_getElem? (i := 1592) rfl
set_option maxRecDepth 100000 in
theorem yr_22 : Cond.stringRef "SheetByTwoModel" 181 "third" ∈ lw_tbl := List.mem_of_getElem? (i := 1593) rfl
set_option maxRecDepth 100000 in
theorem yr_23 : Cond.stringRef "SheetByTwoModel" 183 "meet" ∈ lw_tbl := List.mem_of_getElem? (i := 1594) rfl
set_option maxRecDepth 100000 in
theorem yr_24 : Cond.stringRef "SheetByTwoModel" 185 "turn" ∈ lw_tbl := List.mem_of_getElem? (i := 1595) rfl
set_option maxRecDepth 100000 in
theorem yr_25 : Cond.stringRef "SheetByTwoModel" 187 "quarter" ∈ lw_tbl := List.mem_of_getElem? (i := 1596) rfl
set_option maxRecDepth 100000 in
theorem yr_26 : Cond.stringRef "SheetByTwoModel" 189 "untwist" ∈ lw_tbl := List.mem_of_getElem? (i := 1597) rfl
set_option maxRecDepth 100000 in
theorem yr_27 : Cond.stringRef "SheetByTwoModel" 227 "call" ∈ lw_tbl := List.mem_of_getElem? (i := 1598) rfl
set_option maxRecDepth 100000 in
theorem yr_28 : Cond.stringRef "SheetByTwoModel" 229 "slips" ∈ lw_tbl := List.mem_of_getElem? (i := 1599) rfl
set_option maxRecDepth 100000 in
theorem yr_29 : Cond.stringRef "SheetByTwoModel" 231 "wish" ∈ lw_tbl := List.mem_of_getElem? (i := 1600) rfl
set_option maxRecDepth 100000 in
theorem yr_30 : Cond.stringRef "SheetByTwoModel" 233 "press" ∈ lw_tbl := List.mem_of_getElem? (i := 1601) rfl
set_option maxRecDepth 100000 in
theorem yr_31 : Cond.stringRef "SheetByTwoModel" 235 "pair" ∈ lw_tbl := List.mem_of_getElem? (i := 1602) rfl
set_option maxRecDepth 100000 in
theorem yr_32 : Cond.stringRef "SheetByTwoModel" 237 "pile" ∈ lw_tbl := List.mem_of_getElem? (i := 1603) rfl
set_option maxRecDepth 100000 in
theorem yr_33 : Cond.stringRef "SheetByTwoModel" 239 "takes" ∈ lw_tbl := List.mem_of_getElem? (i := 1604) rfl
set_option maxRecDepth 100000 in
theorem yr_34 : Cond.stringRef "SheetByTwoModel" 199 "her" ∈ lw_tbl := List.mem_of_getElem? (i := 1609) rfl
set_option maxRecDepth 100000 in
theorem yr_35 : Cond.stringRef "SheetByTwoModel" 191 "top" ∈ lw_tbl := List.mem_of_getElem? (i := 1614) rfl
set_option maxRecDepth 100000 in
theorem yr_36 : Cond.stringRef "SheetByTwoModel" 193 "bottom" ∈ lw_tbl := List.mem_of_getElem? (i := 1615) rfl
set_option maxRecDepth 100000 in
theorem yr_37 : Cond.stringRef "SheetByTwoModel" 195 "walk" ∈ lw_tbl := List.mem_of_getElem? (i := 1616) rfl
set_option maxRecDepth 100000 in
theorem yr_38 : Cond.stringRef "SheetByTwoModel" 197 "stay" ∈ lw_tbl := List.mem_of_getElem? (i := 1617) rfl
set_option maxRecDepth 100000 in
theorem yr_39 : Cond.stringRef "SheetByTwoModel" 204 "his" ∈ lw_tbl := List.mem_of_getElem? (i := 1618) rfl
set_option maxRecDepth 100000 in
theorem yr_40 : Cond.stringRef "SheetByTwoModel" 206 "front" ∈ lw_tbl := List.mem_of_getElem? (i := 1627) rfl
set_option maxRecDepth 100000 in
theorem yr_41 : Cond.stringRef "SheetByTwoModel" 208 "back" ∈ lw_tbl := List.mem_of_getElem? (i := 1628) rfl
set_option maxRecDepth 100000 in
theorem yr_42 : Cond.stringRef "SheetByTwoModel" 210 "either" ∈ lw_tbl := List.mem_of_getElem? (i := 1629) rfl
set_option maxRecDepth 100000 in
theorem yr_43 : Cond.stringRef "SheetByTwoModel" 212 "left" ∈ lw_tbl := List.mem_of_getElem? (i := 1634) rfl
set_option maxRecDepth 100000 in
theorem yr_44 : Cond.stringRef "SheetByTwoModel" 214 "right" ∈ lw_tbl := List.mem_of_getElem? (i := 1635) rfl
set_option maxRecDepth 100000 in
theorem yr_45 : Cond.stringRef "SheetByTwoModel" 216 "in" ∈ lw_tbl := List.mem_of_getElem? (i := 1636) rfl
set_option maxRecDepth 100000 in
theorem yr_46 : Cond.stringRef "SheetByTwoModel" 217 "any" ∈ lw_tbl := List.mem_of_getElem? (i := 1637) rfl
set_option maxRecDepth 100000 in
theorem yr_47 : Cond.stringRef "SheetByTwoModel" 246 "learns" ∈ lw_tbl := List.mem_of_getElem? (i := 1638) rfl
theorem ym_TX_in : ∀ q ∈ xm_TX, Cond.stringRef q.1 q.2.1 q.2.2.1 ∈ lw_tbl := List.forall_mem_cons.mpr ⟨yr_0, List.forall_mem_cons.mpr ⟨yr_1, List.forall_mem_cons.mpr ⟨yr_2, List.forall_mem_cons.mpr ⟨yr_3, List.forall_mem_cons.mpr ⟨yr_4, List.forall_mem_cons.mpr ⟨yr_5, List.forall_mem_cons.mpr ⟨yr_6, List.forall_mem_cons.mpr ⟨yr_7, List.forall_mem_cons.mpr ⟨yr_8, List.forall_mem_cons.mpr ⟨yr_9, List.forall_mem_cons.mpr ⟨yr_10, List.forall_mem_cons.mpr ⟨yr_11, List.forall_mem_cons.mpr ⟨yr_12, List.forall_mem_cons.mpr ⟨yr_13, List.forall_mem_cons.mpr ⟨yr_14, List.forall_mem_cons.mpr ⟨yr_15, List.forall_mem_cons.mpr ⟨yr_16, List.forall_mem_cons.mpr ⟨yr_17, List.forall_mem_cons.mpr ⟨yr_18, List.forall_mem_cons.mpr ⟨yr_19, List.forall_mem_cons.mpr ⟨yr_20, List.forall_mem_cons.mpr ⟨yr_21, List.forall_mem_cons.mpr ⟨yr_22, List.forall_mem_cons.mpr ⟨yr_23, List.forall_mem_cons.mpr ⟨yr_24, List.forall_mem_cons.mpr ⟨yr_25, List.forall_mem_cons.mpr ⟨yr_26, List.forall_mem_cons.mpr ⟨yr_27, List.forall_mem_cons.mpr ⟨yr_28, List.forall_mem_cons.mpr ⟨yr_29, List.forall_mem_cons.mpr ⟨yr_30, List.forall_mem_cons.mpr ⟨yr_31, List.forall_mem_cons.mpr ⟨yr_32, List.forall_mem_cons.mpr ⟨yr_33, List.forall_mem_cons.mpr ⟨yr_34, List.forall_mem_cons.mpr ⟨yr_35, List.forall_mem_cons.mpr ⟨yr_36, List.forall_mem_cons.mpr ⟨yr_37, List.forall_mem_cons.mpr ⟨yr_38, List.forall_mem_cons.mpr ⟨yr_39, List.forall_mem_cons.mpr ⟨yr_40, List.forall_mem_cons.mpr ⟨yr_41, List.forall_mem_cons.mpr ⟨yr_42, List.forall_mem_cons.mpr ⟨yr_43, List.forall_mem_cons.mpr ⟨yr_44, List.forall_mem_cons.mpr ⟨yr_45, List.forall_mem_cons.mpr ⟨yr_46, List.forall_mem_cons.mpr ⟨yr_47, fun _ h => by cases h⟩⟩⟩⟩⟩⟩⟩⟩⟩⟩⟩⟩⟩⟩⟩⟩⟩⟩⟩⟩⟩⟩⟩⟩⟩⟩⟩⟩⟩⟩⟩⟩⟩⟩⟩⟩⟩⟩⟩⟩⟩⟩⟩⟩⟩⟩⟩⟩
