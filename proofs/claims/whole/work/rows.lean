section
-- ===== PART A: goes FIRST, ahead of the names: the tables' words, and 'selects' of the private methods out of them =====
/-- a private method of a class that the tables say can be made, by its rows of tables_1 -/
def lw_okq (q : MethodName × Nat) : Prop := (q.1.cls ≠ "java/lang/invoke/MethodHandle" ∧ q.1.cls ≠ "java/lang/invoke/VarHandle") ∧ Cond.instantiable q.1.cls q.2 ∈ tables_1 ∧ Cond.privateMethod q.1 ∈ tables_1 ∧ Cond.instanceMethod q.1 ∈ tables_1
theorem lw_p0 : lw_okq (⟨"TeaBook", "findFreeFor", "(II)LTeaBook$Thing;"⟩, 11) := ⟨⟨by decide +kernel, by decide +kernel⟩, List.mem_of_getElem? (i := 22) (by decide +kernel), List.mem_of_getElem? (i := 393) (by decide +kernel), List.mem_of_getElem? (i := 394) (by decide +kernel)⟩
theorem lw_p1 : lw_okq (⟨"TeaBook", "spendAct", "()Z"⟩, 11) := ⟨⟨by decide +kernel, by decide +kernel⟩, List.mem_of_getElem? (i := 22) (by decide +kernel), List.mem_of_getElem? (i := 405) (by decide +kernel), List.mem_of_getElem? (i := 406) (by decide +kernel)⟩
theorem lw_p2 : lw_okq (⟨"TeaBook$Meetings", "showPairs", "(LTeaBook$TeaSet;I)V"⟩, 3) := ⟨⟨by decide +kernel, by decide +kernel⟩, List.mem_of_getElem? (i := 45) (by decide +kernel), List.mem_of_getElem? (i := 539) (by decide +kernel), List.mem_of_getElem? (i := 540) (by decide +kernel)⟩
theorem lw_p3 : lw_okq (⟨"TeaBook$Meetings", "sumPairs", "(ILTeaBook$TeaSet;)I"⟩, 3) := ⟨⟨by decide +kernel, by decide +kernel⟩, List.mem_of_getElem? (i := 45) (by decide +kernel), List.mem_of_getElem? (i := 571) (by decide +kernel), List.mem_of_getElem? (i := 572) (by decide +kernel)⟩
theorem lw_p4 : lw_okq (⟨"TeaBook$Meetings", "countSame", "(II)I"⟩, 3) := ⟨⟨by decide +kernel, by decide +kernel⟩, List.mem_of_getElem? (i := 45) (by decide +kernel), List.mem_of_getElem? (i := 581) (by decide +kernel), List.mem_of_getElem? (i := 582) (by decide +kernel)⟩
theorem lw_p5 : lw_okq (⟨"TeaBook$Tokens", "takeWord", "(I)I"⟩, 5) := ⟨⟨by decide +kernel, by decide +kernel⟩, List.mem_of_getElem? (i := 109) (by decide +kernel), List.mem_of_getElem? (i := 637) (by decide +kernel), List.mem_of_getElem? (i := 638) (by decide +kernel)⟩
theorem lw_p6 : lw_okq (⟨"TeaBook$Tokens", "isWord", "(III)Z"⟩, 5) := ⟨⟨by decide +kernel, by decide +kernel⟩, List.mem_of_getElem? (i := 109) (by decide +kernel), List.mem_of_getElem? (i := 641) (by decide +kernel), List.mem_of_getElem? (i := 642) (by decide +kernel)⟩
theorem lw_p7 : lw_okq (⟨"TeaBook$Tokens", "put", "(III)V"⟩, 5) := ⟨⟨by decide +kernel, by decide +kernel⟩, List.mem_of_getElem? (i := 109) (by decide +kernel), List.mem_of_getElem? (i := 686) (by decide +kernel), List.mem_of_getElem? (i := 687) (by decide +kernel)⟩
theorem lw_p8 : lw_okq (⟨"TeaBook$Tokens", "takeNumber", "(I)I"⟩, 5) := ⟨⟨by decide +kernel, by decide +kernel⟩, List.mem_of_getElem? (i := 109) (by decide +kernel), List.mem_of_getElem? (i := 693) (by decide +kernel), List.mem_of_getElem? (i := 694) (by decide +kernel)⟩
theorem lw_p9 : lw_okq (⟨"TeaBook$RuleReader", "advance", "()V"⟩, 6) := ⟨⟨by decide +kernel, by decide +kernel⟩, List.mem_of_getElem? (i := 103) (by decide +kernel), List.mem_of_getElem? (i := 768) (by decide +kernel), List.mem_of_getElem? (i := 769) (by decide +kernel)⟩
theorem lw_p10 : lw_okq (⟨"TeaBook$RuleReader", "readChoice", "(I)V"⟩, 6) := ⟨⟨by decide +kernel, by decide +kernel⟩, List.mem_of_getElem? (i := 103) (by decide +kernel), List.mem_of_getElem? (i := 772) (by decide +kernel), List.mem_of_getElem? (i := 773) (by decide +kernel)⟩
theorem lw_p11 : lw_okq (⟨"TeaBook$RuleReader", "readJoin", "(I)V"⟩, 6) := ⟨⟨by decide +kernel, by decide +kernel⟩, List.mem_of_getElem? (i := 103) (by decide +kernel), List.mem_of_getElem? (i := 776) (by decide +kernel), List.mem_of_getElem? (i := 777) (by decide +kernel)⟩
theorem lw_p12 : lw_okq (⟨"TeaBook$RuleReader", "readClause", "(I)V"⟩, 6) := ⟨⟨by decide +kernel, by decide +kernel⟩, List.mem_of_getElem? (i := 103) (by decide +kernel), List.mem_of_getElem? (i := 780) (by decide +kernel), List.mem_of_getElem? (i := 781) (by decide +kernel)⟩
theorem lw_p13 : lw_okq (⟨"TeaBook$RuleReader", "readComparison", "()V"⟩, 6) := ⟨⟨by decide +kernel, by decide +kernel⟩, List.mem_of_getElem? (i := 103) (by decide +kernel), List.mem_of_getElem? (i := 784) (by decide +kernel), List.mem_of_getElem? (i := 785) (by decide +kernel)⟩
theorem lw_p14 : lw_okq (⟨"TeaBook$RuleReader", "readTerm", "()I"⟩, 6) := ⟨⟨by decide +kernel, by decide +kernel⟩, List.mem_of_getElem? (i := 103) (by decide +kernel), List.mem_of_getElem? (i := 788) (by decide +kernel), List.mem_of_getElem? (i := 789) (by decide +kernel)⟩
theorem lw_p15 : lw_okq (⟨"TeaBook$RuleReader", "refuse", "(I)V"⟩, 6) := ⟨⟨by decide +kernel, by decide +kernel⟩, List.mem_of_getElem? (i := 103) (by decide +kernel), List.mem_of_getElem? (i := 796) (by decide +kernel), List.mem_of_getElem? (i := 797) (by decide +kernel)⟩
def lw_privs_1 : List (MethodName × Nat) := [(⟨"TeaBook", "findFreeFor", "(II)LTeaBook$Thing;"⟩, 11), (⟨"TeaBook", "spendAct", "()Z"⟩, 11), (⟨"TeaBook$Meetings", "showPairs", "(LTeaBook$TeaSet;I)V"⟩, 3), (⟨"TeaBook$Meetings", "sumPairs", "(ILTeaBook$TeaSet;)I"⟩, 3), (⟨"TeaBook$Meetings", "countSame", "(II)I"⟩, 3), (⟨"TeaBook$Tokens", "takeWord", "(I)I"⟩, 5), (⟨"TeaBook$Tokens", "isWord", "(III)Z"⟩, 5), (⟨"TeaBook$Tokens", "put", "(III)V"⟩, 5), (⟨"TeaBook$Tokens", "takeNumber", "(I)I"⟩, 5), (⟨"TeaBook$RuleReader", "advance", "()V"⟩, 6), (⟨"TeaBook$RuleReader", "readChoice", "(I)V"⟩, 6), (⟨"TeaBook$RuleReader", "readJoin", "(I)V"⟩, 6), (⟨"TeaBook$RuleReader", "readClause", "(I)V"⟩, 6), (⟨"TeaBook$RuleReader", "readComparison", "()V"⟩, 6), (⟨"TeaBook$RuleReader", "readTerm", "()I"⟩, 6), (⟨"TeaBook$RuleReader", "refuse", "(I)V"⟩, 6)]
theorem lw_r1 : ∀ q ∈ lw_privs_1, lw_okq q := List.forall_mem_cons.mpr ⟨lw_p0, List.forall_mem_cons.mpr ⟨lw_p1, List.forall_mem_cons.mpr ⟨lw_p2, List.forall_mem_cons.mpr ⟨lw_p3, List.forall_mem_cons.mpr ⟨lw_p4, List.forall_mem_cons.mpr ⟨lw_p5, List.forall_mem_cons.mpr ⟨lw_p6, List.forall_mem_cons.mpr ⟨lw_p7, List.forall_mem_cons.mpr ⟨lw_p8, List.forall_mem_cons.mpr ⟨lw_p9, List.forall_mem_cons.mpr ⟨lw_p10, List.forall_mem_cons.mpr ⟨lw_p11, List.forall_mem_cons.mpr ⟨lw_p12, List.forall_mem_cons.mpr ⟨lw_p13, List.forall_mem_cons.mpr ⟨lw_p14, List.forall_mem_cons.mpr ⟨lw_p15, fun _ h => absurd h List.not_mem_nil⟩⟩⟩⟩⟩⟩⟩⟩⟩⟩⟩⟩⟩⟩⟩⟩
theorem lw_p16 : lw_okq (⟨"TeaBook$RuleReader", "take", "(I)V"⟩, 6) := ⟨⟨by decide +kernel, by decide +kernel⟩, List.mem_of_getElem? (i := 103) (by decide +kernel), List.mem_of_getElem? (i := 808) (by decide +kernel), List.mem_of_getElem? (i := 809) (by decide +kernel)⟩
theorem lw_p17 : lw_okq (⟨"TeaBook$RuleList", "holds", "(IILTeaBook$Facts;)Z"⟩, 6) := ⟨⟨by decide +kernel, by decide +kernel⟩, List.mem_of_getElem? (i := 78) (by decide +kernel), List.mem_of_getElem? (i := 838) (by decide +kernel), List.mem_of_getElem? (i := 839) (by decide +kernel)⟩
theorem lw_p18 : lw_okq (⟨"TeaBook$RuleList", "compares", "(ILTeaBook$Facts;)Z"⟩, 6) := ⟨⟨by decide +kernel, by decide +kernel⟩, List.mem_of_getElem? (i := 78) (by decide +kernel), List.mem_of_getElem? (i := 842) (by decide +kernel), List.mem_of_getElem? (i := 843) (by decide +kernel)⟩
theorem lw_p19 : lw_okq (⟨"TeaBook$Chooser", "layFrom", "(I)V"⟩, 14) := ⟨⟨by decide +kernel, by decide +kernel⟩, List.mem_of_getElem? (i := 173) (by decide +kernel), List.mem_of_getElem? (i := 864) (by decide +kernel), List.mem_of_getElem? (i := 865) (by decide +kernel)⟩
theorem lw_p20 : lw_okq (⟨"TeaBook$Chooser", "judge", "()V"⟩, 14) := ⟨⟨by decide +kernel, by decide +kernel⟩, List.mem_of_getElem? (i := 173) (by decide +kernel), List.mem_of_getElem? (i := 868) (by decide +kernel), List.mem_of_getElem? (i := 869) (by decide +kernel)⟩
theorem lw_p21 : lw_okq (⟨"TeaBookModel", "comes", "(IIIIII)I"⟩, 45) := ⟨⟨by decide +kernel, by decide +kernel⟩, List.mem_of_getElem? (i := 892) (by decide +kernel), List.mem_of_getElem? (i := 1044) (by decide +kernel), List.mem_of_getElem? (i := 1045) (by decide +kernel)⟩
theorem lw_p22 : lw_okq (⟨"TeaBookModel", "isThere", "(I)Z"⟩, 45) := ⟨⟨by decide +kernel, by decide +kernel⟩, List.mem_of_getElem? (i := 892) (by decide +kernel), List.mem_of_getElem? (i := 1052) (by decide +kernel), List.mem_of_getElem? (i := 1053) (by decide +kernel)⟩
theorem lw_p23 : lw_okq (⟨"TeaBookModel", "isThing", "(I)Z"⟩, 45) := ⟨⟨by decide +kernel, by decide +kernel⟩, List.mem_of_getElem? (i := 892) (by decide +kernel), List.mem_of_getElem? (i := 1056) (by decide +kernel), List.mem_of_getElem? (i := 1057) (by decide +kernel)⟩
theorem lw_p24 : lw_okq (⟨"TeaBookModel", "lentOn", "(II)I"⟩, 45) := ⟨⟨by decide +kernel, by decide +kernel⟩, List.mem_of_getElem? (i := 892) (by decide +kernel), List.mem_of_getElem? (i := 1064) (by decide +kernel), List.mem_of_getElem? (i := 1065) (by decide +kernel)⟩
theorem lw_p25 : lw_okq (⟨"TeaBookModel", "ownerOn", "(II)I"⟩, 45) := ⟨⟨by decide +kernel, by decide +kernel⟩, List.mem_of_getElem? (i := 892) (by decide +kernel), List.mem_of_getElem? (i := 1068) (by decide +kernel), List.mem_of_getElem? (i := 1069) (by decide +kernel)⟩
theorem lw_p26 : lw_okq (⟨"TeaBookModel", "happens", "(III)Z"⟩, 45) := ⟨⟨by decide +kernel, by decide +kernel⟩, List.mem_of_getElem? (i := 892) (by decide +kernel), List.mem_of_getElem? (i := 1072) (by decide +kernel), List.mem_of_getElem? (i := 1073) (by decide +kernel)⟩
theorem lw_p27 : lw_okq (⟨"TeaBookModel", "rootOf", "(I)I"⟩, 45) := ⟨⟨by decide +kernel, by decide +kernel⟩, List.mem_of_getElem? (i := 892) (by decide +kernel), List.mem_of_getElem? (i := 1100) (by decide +kernel), List.mem_of_getElem? (i := 1101) (by decide +kernel)⟩
theorem lw_p28 : lw_okq (⟨"TeaBookModel", "isDoubtful", "(I)Z"⟩, 45) := ⟨⟨by decide +kernel, by decide +kernel⟩, List.mem_of_getElem? (i := 892) (by decide +kernel), List.mem_of_getElem? (i := 1104) (by decide +kernel), List.mem_of_getElem? (i := 1105) (by decide +kernel)⟩
theorem lw_p29 : lw_okq (⟨"TeaBookModel", "keptOn", "(II)I"⟩, 45) := ⟨⟨by decide +kernel, by decide +kernel⟩, List.mem_of_getElem? (i := 892) (by decide +kernel), List.mem_of_getElem? (i := 1108) (by decide +kernel), List.mem_of_getElem? (i := 1109) (by decide +kernel)⟩
theorem lw_p30 : lw_okq (⟨"TeaBookModel", "isSet", "(I)Z"⟩, 45) := ⟨⟨by decide +kernel, by decide +kernel⟩, List.mem_of_getElem? (i := 892) (by decide +kernel), List.mem_of_getElem? (i := 1130) (by decide +kernel), List.mem_of_getElem? (i := 1131) (by decide +kernel)⟩
theorem lw_p31 : lw_okq (⟨"TeaBookModel", "seenOf", "(III)I"⟩, 45) := ⟨⟨by decide +kernel, by decide +kernel⟩, List.mem_of_getElem? (i := 892) (by decide +kernel), List.mem_of_getElem? (i := 1142) (by decide +kernel), List.mem_of_getElem? (i := 1143) (by decide +kernel)⟩
def lw_privs_2 : List (MethodName × Nat) := [(⟨"TeaBook$RuleReader", "take", "(I)V"⟩, 6), (⟨"TeaBook$RuleList", "holds", "(IILTeaBook$Facts;)Z"⟩, 6), (⟨"TeaBook$RuleList", "compares", "(ILTeaBook$Facts;)Z"⟩, 6), (⟨"TeaBook$Chooser", "layFrom", "(I)V"⟩, 14), (⟨"TeaBook$Chooser", "judge", "()V"⟩, 14), (⟨"TeaBookModel", "comes", "(IIIIII)I"⟩, 45), (⟨"TeaBookModel", "isThere", "(I)Z"⟩, 45), (⟨"TeaBookModel", "isThing", "(I)Z"⟩, 45), (⟨"TeaBookModel", "lentOn", "(II)I"⟩, 45), (⟨"TeaBookModel", "ownerOn", "(II)I"⟩, 45), (⟨"TeaBookModel", "happens", "(III)Z"⟩, 45), (⟨"TeaBookModel", "rootOf", "(I)I"⟩, 45), (⟨"TeaBookModel", "isDoubtful", "(I)Z"⟩, 45), (⟨"TeaBookModel", "keptOn", "(II)I"⟩, 45), (⟨"TeaBookModel", "isSet", "(I)Z"⟩, 45), (⟨"TeaBookModel", "seenOf", "(III)I"⟩, 45)]
theorem lw_r2 : ∀ q ∈ lw_privs_2, lw_okq q := List.forall_mem_cons.mpr ⟨lw_p16, List.forall_mem_cons.mpr ⟨lw_p17, List.forall_mem_cons.mpr ⟨lw_p18, List.forall_mem_cons.mpr ⟨lw_p19, List.forall_mem_cons.mpr ⟨lw_p20, List.forall_mem_cons.mpr ⟨lw_p21, List.forall_mem_cons.mpr ⟨lw_p22, List.forall_mem_cons.mpr ⟨lw_p23, List.forall_mem_cons.mpr ⟨lw_p24, List.forall_mem_cons.mpr ⟨lw_p25, List.forall_mem_cons.mpr ⟨lw_p26, List.forall_mem_cons.mpr ⟨lw_p27, List.forall_mem_cons.mpr ⟨lw_p28, List.forall_mem_cons.mpr ⟨lw_p29, List.forall_mem_cons.mpr ⟨lw_p30, List.forall_mem_cons.mpr ⟨lw_p31, fun _ h => absurd h List.not_mem_nil⟩⟩⟩⟩⟩⟩⟩⟩⟩⟩⟩⟩⟩⟩⟩⟩
theorem lw_p32 : lw_okq (⟨"TeaBookModel", "againOf", "(II)I"⟩, 45) := ⟨⟨by decide +kernel, by decide +kernel⟩, List.mem_of_getElem? (i := 892) (by decide +kernel), List.mem_of_getElem? (i := 1150) (by decide +kernel), List.mem_of_getElem? (i := 1151) (by decide +kernel)⟩
theorem lw_p33 : lw_okq (⟨"TeaBookModel", "next0", "()V"⟩, 45) := ⟨⟨by decide +kernel, by decide +kernel⟩, List.mem_of_getElem? (i := 892) (by decide +kernel), List.mem_of_getElem? (i := 1166) (by decide +kernel), List.mem_of_getElem? (i := 1167) (by decide +kernel)⟩
theorem lw_p34 : lw_okq (⟨"TeaBookModel", "see", "(I)I"⟩, 45) := ⟨⟨by decide +kernel, by decide +kernel⟩, List.mem_of_getElem? (i := 892) (by decide +kernel), List.mem_of_getElem? (i := 1170) (by decide +kernel), List.mem_of_getElem? (i := 1171) (by decide +kernel)⟩
theorem lw_p35 : lw_okq (⟨"TeaBookModel", "aRule", "()Z"⟩, 45) := ⟨⟨by decide +kernel, by decide +kernel⟩, List.mem_of_getElem? (i := 892) (by decide +kernel), List.mem_of_getElem? (i := 1198) (by decide +kernel), List.mem_of_getElem? (i := 1199) (by decide +kernel)⟩
theorem lw_p36 : lw_okq (⟨"TeaBookModel", "bad", "(I)Z"⟩, 45) := ⟨⟨by decide +kernel, by decide +kernel⟩, List.mem_of_getElem? (i := 892) (by decide +kernel), List.mem_of_getElem? (i := 1202) (by decide +kernel), List.mem_of_getElem? (i := 1203) (by decide +kernel)⟩
theorem lw_p37 : lw_okq (⟨"TeaBookModel", "any", "()Z"⟩, 45) := ⟨⟨by decide +kernel, by decide +kernel⟩, List.mem_of_getElem? (i := 892) (by decide +kernel), List.mem_of_getElem? (i := 1206) (by decide +kernel), List.mem_of_getElem? (i := 1207) (by decide +kernel)⟩
theorem lw_p38 : lw_okq (⟨"TeaBookModel", "all", "()Z"⟩, 45) := ⟨⟨by decide +kernel, by decide +kernel⟩, List.mem_of_getElem? (i := 892) (by decide +kernel), List.mem_of_getElem? (i := 1210) (by decide +kernel), List.mem_of_getElem? (i := 1211) (by decide +kernel)⟩
theorem lw_p39 : lw_okq (⟨"TeaBookModel", "one", "()Z"⟩, 45) := ⟨⟨by decide +kernel, by decide +kernel⟩, List.mem_of_getElem? (i := 892) (by decide +kernel), List.mem_of_getElem? (i := 1214) (by decide +kernel), List.mem_of_getElem? (i := 1215) (by decide +kernel)⟩
theorem lw_p40 : lw_okq (⟨"TeaBookModel", "opens", "()Z"⟩, 45) := ⟨⟨by decide +kernel, by decide +kernel⟩, List.mem_of_getElem? (i := 892) (by decide +kernel), List.mem_of_getElem? (i := 1218) (by decide +kernel), List.mem_of_getElem? (i := 1219) (by decide +kernel)⟩
theorem lw_p41 : lw_okq (⟨"TeaBookModel", "lay", "(I)V"⟩, 45) := ⟨⟨by decide +kernel, by decide +kernel⟩, List.mem_of_getElem? (i := 892) (by decide +kernel), List.mem_of_getElem? (i := 1222) (by decide +kernel), List.mem_of_getElem? (i := 1223) (by decide +kernel)⟩
theorem lw_p42 : lw_okq (⟨"TeaBookModel", "need", "(I)Z"⟩, 45) := ⟨⟨by decide +kernel, by decide +kernel⟩, List.mem_of_getElem? (i := 892) (by decide +kernel), List.mem_of_getElem? (i := 1226) (by decide +kernel), List.mem_of_getElem? (i := 1227) (by decide +kernel)⟩
theorem lw_p43 : lw_okq (⟨"TeaBookModel", "term", "()Z"⟩, 45) := ⟨⟨by decide +kernel, by decide +kernel⟩, List.mem_of_getElem? (i := 892) (by decide +kernel), List.mem_of_getElem? (i := 1230) (by decide +kernel), List.mem_of_getElem? (i := 1231) (by decide +kernel)⟩
theorem lw_p44 : lw_okq (⟨"TeaBookModel", "barredBy", "(III)I"⟩, 45) := ⟨⟨by decide +kernel, by decide +kernel⟩, List.mem_of_getElem? (i := 892) (by decide +kernel), List.mem_of_getElem? (i := 1242) (by decide +kernel), List.mem_of_getElem? (i := 1243) (by decide +kernel)⟩
theorem lw_p45 : lw_okq (⟨"TeaBookModel", "isSo", "(IIII)Z"⟩, 45) := ⟨⟨by decide +kernel, by decide +kernel⟩, List.mem_of_getElem? (i := 892) (by decide +kernel), List.mem_of_getElem? (i := 1246) (by decide +kernel), List.mem_of_getElem? (i := 1247) (by decide +kernel)⟩
theorem lw_p46 : lw_okq (⟨"TeaBookModel", "known", "(IIII)I"⟩, 45) := ⟨⟨by decide +kernel, by decide +kernel⟩, List.mem_of_getElem? (i := 892) (by decide +kernel), List.mem_of_getElem? (i := 1250) (by decide +kernel), List.mem_of_getElem? (i := 1251) (by decide +kernel)⟩
theorem lw_p47 : lw_okq (⟨"TeaBookModel", "finds", "(IIII)V"⟩, 45) := ⟨⟨by decide +kernel, by decide +kernel⟩, List.mem_of_getElem? (i := 892) (by decide +kernel), List.mem_of_getElem? (i := 1264) (by decide +kernel), List.mem_of_getElem? (i := 1265) (by decide +kernel)⟩
def lw_privs_3 : List (MethodName × Nat) := [(⟨"TeaBookModel", "againOf", "(II)I"⟩, 45), (⟨"TeaBookModel", "next0", "()V"⟩, 45), (⟨"TeaBookModel", "see", "(I)I"⟩, 45), (⟨"TeaBookModel", "aRule", "()Z"⟩, 45), (⟨"TeaBookModel", "bad", "(I)Z"⟩, 45), (⟨"TeaBookModel", "any", "()Z"⟩, 45), (⟨"TeaBookModel", "all", "()Z"⟩, 45), (⟨"TeaBookModel", "one", "()Z"⟩, 45), (⟨"TeaBookModel", "opens", "()Z"⟩, 45), (⟨"TeaBookModel", "lay", "(I)V"⟩, 45), (⟨"TeaBookModel", "need", "(I)Z"⟩, 45), (⟨"TeaBookModel", "term", "()Z"⟩, 45), (⟨"TeaBookModel", "barredBy", "(III)I"⟩, 45), (⟨"TeaBookModel", "isSo", "(IIII)Z"⟩, 45), (⟨"TeaBookModel", "known", "(IIII)I"⟩, 45), (⟨"TeaBookModel", "finds", "(IIII)V"⟩, 45)]
theorem lw_r3 : ∀ q ∈ lw_privs_3, lw_okq q := List.forall_mem_cons.mpr ⟨lw_p32, List.forall_mem_cons.mpr ⟨lw_p33, List.forall_mem_cons.mpr ⟨lw_p34, List.forall_mem_cons.mpr ⟨lw_p35, List.forall_mem_cons.mpr ⟨lw_p36, List.forall_mem_cons.mpr ⟨lw_p37, List.forall_mem_cons.mpr ⟨lw_p38, List.forall_mem_cons.mpr ⟨lw_p39, List.forall_mem_cons.mpr ⟨lw_p40, List.forall_mem_cons.mpr ⟨lw_p41, List.forall_mem_cons.mpr ⟨lw_p42, List.forall_mem_cons.mpr ⟨lw_p43, List.forall_mem_cons.mpr ⟨lw_p44, List.forall_mem_cons.mpr ⟨lw_p45, List.forall_mem_cons.mpr ⟨lw_p46, List.forall_mem_cons.mpr ⟨lw_p47, fun _ h => absurd h List.not_mem_nil⟩⟩⟩⟩⟩⟩⟩⟩⟩⟩⟩⟩⟩⟩⟩⟩
theorem lw_p48 : lw_okq (⟨"TeaBookModel", "next", "(IIII)I"⟩, 45) := ⟨⟨by decide +kernel, by decide +kernel⟩, List.mem_of_getElem? (i := 892) (by decide +kernel), List.mem_of_getElem? (i := 1268) (by decide +kernel), List.mem_of_getElem? (i := 1269) (by decide +kernel)⟩
theorem lw_p49 : lw_okq (⟨"TeaBookModel", "isFit", "(IIII)Z"⟩, 45) := ⟨⟨by decide +kernel, by decide +kernel⟩, List.mem_of_getElem? (i := 892) (by decide +kernel), List.mem_of_getElem? (i := 1272) (by decide +kernel), List.mem_of_getElem? (i := 1273) (by decide +kernel)⟩
theorem lw_p50 : lw_okq (⟨"TeaBookModel", "tries", "(II)V"⟩, 45) := ⟨⟨by decide +kernel, by decide +kernel⟩, List.mem_of_getElem? (i := 892) (by decide +kernel), List.mem_of_getElem? (i := 1276) (by decide +kernel), List.mem_of_getElem? (i := 1277) (by decide +kernel)⟩
def lw_privs_4 : List (MethodName × Nat) := [(⟨"TeaBookModel", "next", "(IIII)I"⟩, 45), (⟨"TeaBookModel", "isFit", "(IIII)Z"⟩, 45), (⟨"TeaBookModel", "tries", "(II)V"⟩, 45)]
theorem lw_r4 : ∀ q ∈ lw_privs_4, lw_okq q := List.forall_mem_cons.mpr ⟨lw_p48, List.forall_mem_cons.mpr ⟨lw_p49, List.forall_mem_cons.mpr ⟨lw_p50, fun _ h => absurd h List.not_mem_nil⟩⟩⟩
def lw_privs : List (MethodName × Nat) := lw_privs_1 ++ (lw_privs_2 ++ (lw_privs_3 ++ (lw_privs_4)))
def lw_tbl : List Cond := k2_sels lw_privs ++ tables_1
theorem lw_privs_ok : ∀ q ∈ lw_privs, lw_okq q := by
  show ∀ q ∈ lw_privs_1 ++ (lw_privs_2 ++ (lw_privs_3 ++ (lw_privs_4))), lw_okq q
  exact List.forall_mem_append.mpr ⟨lw_r1, List.forall_mem_append.mpr ⟨lw_r2, List.forall_mem_append.mpr ⟨lw_r3, lw_r4⟩⟩⟩
end
section
def RX0 : String := "TeaBook$Act"
def TX0 : u_T := fun k => match k with
  | 0 => ("TeaBook$Act", "before", "LTeaBook$Act;", true)
  | 1 => ("TeaBook$Act", "day", "I", true)
  | 2 => ("TeaBook$Act", "owner", "I", true)
  | 3 => ("TeaBook$Act", "keeper", "I", true)
  | 4 => ("TeaBook$Act", "turn", "I", true)
  | _ => ("TeaBook$Act", "there", "Z", true)
def tyX0 : Nat → FieldType := fun k => match k with
  | 0 => .object "TeaBook$Act"
  | 1 => .int
  | 2 => .int
  | 3 => .int
  | 4 => .int
  | _ => .boolean
theorem nmX0 : ∀ a, a < 6 → ∀ b, b < 6 → a ≠ b → (TX0 a).2.1 ≠ (TX0 b).2.1 := by decide +kernel
theorem tyX0_ok : ∀ k, k < 6 → parseFieldDescriptor (TX0 k).2.2.1 = some (tyX0 k) := by decide +kernel
abbrev cX0_init : ByteArray := prog_2_method_1_code
def yX0_init : MethodName := ⟨RX0, "<init>", "(II)V"⟩
abbrev cX0_init_ : ByteArray := prog_2_method_2_code
def yX0_init_ : MethodName := ⟨RX0, "<init>", "(LTeaBook$Act;IIIIZ)V"⟩
def RX1 : String := "TeaBook$Chooser"
def TX1 : u_T := fun k => match k with
  | 0 => ("TeaBook$Chooser", "shelf", "LTeaBook$Shelf;", true)
  | 1 => ("TeaBook$Chooser", "meetings", "LTeaBook$Meetings;", true)
  | 2 => ("TeaBook$Chooser", "set", "LTeaBook$TeaSet;", true)
  | 3 => ("TeaBook$Chooser", "facts", "LTeaBook$Facts;", true)
  | 4 => ("TeaBook$Chooser", "list", "LTeaBook$RuleList;", false)
  | 5 => ("TeaBook$Chooser", "house", "I", false)
  | 6 => ("TeaBook$Chooser", "season", "I", false)
  | 7 => ("TeaBook$Chooser", "guests", "I", false)
  | 8 => ("TeaBook$Chooser", "kinds", "I", false)
  | 9 => ("TeaBook$Chooser", "day", "I", false)
  | 10 => ("TeaBook$Chooser", "fits", "I", false)
  | 11 => ("TeaBook$Chooser", "bestSet", "I", false)
  | 12 => ("TeaBook$Chooser", "bestAgain", "I", false)
  | _ => ("TeaBook$Chooser", "bestRanks", "I", false)
def tyX1 : Nat → FieldType := fun k => match k with
  | 0 => .object "TeaBook$Shelf"
  | 1 => .object "TeaBook$Meetings"
  | 2 => .object "TeaBook$TeaSet"
  | 3 => .object "TeaBook$Facts"
  | 4 => .object "TeaBook$RuleList"
  | 5 => .int
  | 6 => .int
  | 7 => .int
  | 8 => .int
  | 9 => .int
  | 10 => .int
  | 11 => .int
  | 12 => .int
  | _ => .int
theorem nmX1 : ∀ a, a < 14 → ∀ b, b < 14 → a ≠ b → (TX1 a).2.1 ≠ (TX1 b).2.1 := by decide +kernel
theorem tyX1_ok : ∀ k, k < 14 → parseFieldDescriptor (TX1 k).2.2.1 = some (tyX1 k) := by decide +kernel
abbrev cX1_init : ByteArray := prog_3_method_1_code
def yX1_init : MethodName := ⟨RX1, "<init>", "(LTeaBook$Shelf;LTeaBook$Meetings;LTeaBook$RuleList;)V"⟩
abbrev cX1_invite : ByteArray := prog_3_method_2_code
def yX1_invite : MethodName := ⟨RX1, "invite", "(III)V"⟩
abbrev cX1_choose : ByteArray := prog_3_method_3_code
def yX1_choose : MethodName := ⟨RX1, "choose", "(ILTeaBook$RuleList;I)V"⟩
abbrev cX1_tell : ByteArray := prog_3_method_4_code
def yX1_tell : MethodName := ⟨RX1, "tell", "(I)I"⟩
abbrev cX1_layFrom : ByteArray := prog_3_method_5_code
def yX1_layFrom : MethodName := ⟨RX1, "layFrom", "(I)V"⟩
abbrev cX1_judge : ByteArray := prog_3_method_6_code
def yX1_judge : MethodName := ⟨RX1, "judge", "()V"⟩
def RX2 : String := "TeaBook$Facts"
def TX2 : u_T := fun k => match k with
  | _ => ("TeaBook$Facts", "row", "[I", true)
def tyX2 : Nat → FieldType := fun k => match k with
  | _ => .array .int
theorem nmX2 : ∀ a, a < 1 → ∀ b, b < 1 → a ≠ b → (TX2 a).2.1 ≠ (TX2 b).2.1 := by decide +kernel
theorem tyX2_ok : ∀ k, k < 1 → parseFieldDescriptor (TX2 k).2.2.1 = some (tyX2 k) := by decide +kernel
abbrev cX2_init : ByteArray := prog_4_method_1_code
def yX2_init : MethodName := ⟨RX2, "<init>", "()V"⟩
abbrev cX2_tellParty : ByteArray := prog_4_method_2_code
def yX2_tellParty : MethodName := ⟨RX2, "tellParty", "(II)V"⟩
abbrev cX2_tellSet : ByteArray := prog_4_method_3_code
def yX2_tellSet : MethodName := ⟨RX2, "tellSet", "(LTeaBook$TeaSet;I)V"⟩
abbrev cX2_value : ByteArray := prog_4_method_4_code
def yX2_value : MethodName := ⟨RX2, "value", "(I)I"⟩
def RX3 : String := "TeaBook$Meetings"
def TX3 : u_T := fun k => match k with
  | 0 => ("TeaBook$Meetings", "rows", "[[I", true)
  | 1 => ("TeaBook$Meetings", "pairGuests", "[I", true)
  | _ => ("TeaBook$Meetings", "count", "I", false)
def tyX3 : Nat → FieldType := fun k => match k with
  | 0 => .array (.array .int)
  | 1 => .array .int
  | _ => .int
theorem nmX3 : ∀ a, a < 3 → ∀ b, b < 3 → a ≠ b → (TX3 a).2.1 ≠ (TX3 b).2.1 := by decide +kernel
theorem tyX3_ok : ∀ k, k < 3 → parseFieldDescriptor (TX3 k).2.2.1 = some (tyX3 k) := by decide +kernel
abbrev cX3_init : ByteArray := prog_5_method_1_code
def yX3_init : MethodName := ⟨RX3, "<init>", "()V"⟩
abbrev cX3_count : ByteArray := prog_5_method_2_code
def yX3_count : MethodName := ⟨RX3, "count", "()I"⟩
abbrev cX3_isFull : ByteArray := prog_5_method_3_code
def yX3_isFull : MethodName := ⟨RX3, "isFull", "()Z"⟩
abbrev cX3_put : ByteArray := prog_5_method_4_code
def yX3_put : MethodName := ⟨RX3, "put", "(IIIILTeaBook$TeaSet;)I"⟩
abbrev cX3_tell : ByteArray := prog_5_method_5_code
def yX3_tell : MethodName := ⟨RX3, "tell", "(II)I"⟩
abbrev cX3_showPairs : ByteArray := prog_5_method_6_code
def yX3_showPairs : MethodName := ⟨RX3, "showPairs", "(LTeaBook$TeaSet;I)V"⟩
abbrev cX3_countWith : ByteArray := prog_5_method_7_code
def yX3_countWith : MethodName := ⟨RX3, "countWith", "(II)I"⟩
abbrev cX3_sumAgain : ByteArray := prog_5_method_8_code
def yX3_sumAgain : MethodName := ⟨RX3, "sumAgain", "(ILTeaBook$TeaSet;)I"⟩
abbrev cX3_sumPairs : ByteArray := prog_5_method_9_code
def yX3_sumPairs : MethodName := ⟨RX3, "sumPairs", "(ILTeaBook$TeaSet;)I"⟩
abbrev cX3_countSame : ByteArray := prog_5_method_10_code
def yX3_countSame : MethodName := ⟨RX3, "countSame", "(II)I"⟩
abbrev cX3_pairOf : ByteArray := prog_5_method_11_code
def yX3_pairOf : MethodName := ⟨RX3, "pairOf", "(LTeaBook$Thing;LTeaBook$Thing;)I"⟩
def RX4 : String := "TeaBook$RuleList"
def TX4 : u_T := fun k => match k with
  | 0 => ("TeaBook$RuleList", "operators", "[I", true)
  | 1 => ("TeaBook$RuleList", "lefts", "[I", true)
  | 2 => ("TeaBook$RuleList", "rights", "[I", true)
  | 3 => ("TeaBook$RuleList", "ends", "[I", true)
  | 4 => ("TeaBook$RuleList", "steps", "I", false)
  | _ => ("TeaBook$RuleList", "count", "I", false)
def tyX4 : Nat → FieldType := fun k => match k with
  | 0 => .array .int
  | 1 => .array .int
  | 2 => .array .int
  | 3 => .array .int
  | 4 => .int
  | _ => .int
theorem nmX4 : ∀ a, a < 6 → ∀ b, b < 6 → a ≠ b → (TX4 a).2.1 ≠ (TX4 b).2.1 := by decide +kernel
theorem tyX4_ok : ∀ k, k < 6 → parseFieldDescriptor (TX4 k).2.2.1 = some (tyX4 k) := by decide +kernel
abbrev cX4_init : ByteArray := prog_6_method_1_code
def yX4_init : MethodName := ⟨RX4, "<init>", "()V"⟩
abbrev cX4_count : ByteArray := prog_6_method_2_code
def yX4_count : MethodName := ⟨RX4, "count", "()I"⟩
abbrev cX4_clear : ByteArray := prog_6_method_3_code
def yX4_clear : MethodName := ⟨RX4, "clear", "()V"⟩
abbrev cX4_addStep : ByteArray := prog_6_method_4_code
def yX4_addStep : MethodName := ⟨RX4, "addStep", "(III)V"⟩
abbrev cX4_closeRule : ByteArray := prog_6_method_5_code
def yX4_closeRule : MethodName := ⟨RX4, "closeRule", "()V"⟩
abbrev cX4_firstThatBars : ByteArray := prog_6_method_6_code
def yX4_firstThatBars : MethodName := ⟨RX4, "firstThatBars", "(LTeaBook$Facts;)I"⟩
abbrev cX4_holds : ByteArray := prog_6_method_7_code
def yX4_holds : MethodName := ⟨RX4, "holds", "(IILTeaBook$Facts;)Z"⟩
abbrev cX4_compares : ByteArray := prog_6_method_8_code
def yX4_compares : MethodName := ⟨RX4, "compares", "(ILTeaBook$Facts;)Z"⟩
def RX5 : String := "TeaBook$RuleReader"
def TX5 : u_T := fun k => match k with
  | 0 => ("TeaBook$RuleReader", "tokens", "LTeaBook$Tokens;", true)
  | 1 => ("TeaBook$RuleReader", "list", "LTeaBook$RuleList;", false)
  | 2 => ("TeaBook$RuleReader", "next", "I", false)
  | 3 => ("TeaBook$RuleReader", "token", "I", false)
  | 4 => ("TeaBook$RuleReader", "fault", "I", false)
  | _ => ("TeaBook$RuleReader", "faultPlace", "I", false)
def tyX5 : Nat → FieldType := fun k => match k with
  | 0 => .object "TeaBook$Tokens"
  | 1 => .object "TeaBook$RuleList"
  | 2 => .int
  | 3 => .int
  | 4 => .int
  | _ => .int
theorem nmX5 : ∀ a, a < 6 → ∀ b, b < 6 → a ≠ b → (TX5 a).2.1 ≠ (TX5 b).2.1 := by decide +kernel
theorem tyX5_ok : ∀ k, k < 6 → parseFieldDescriptor (TX5 k).2.2.1 = some (tyX5 k) := by decide +kernel
abbrev cX5_init : ByteArray := prog_7_method_1_code
def yX5_init : MethodName := ⟨RX5, "<init>", "(LTeaBook$Tape;LTeaBook$RuleList;)V"⟩
abbrev cX5_readInto : ByteArray := prog_7_method_2_code
def yX5_readInto : MethodName := ⟨RX5, "readInto", "(LTeaBook$RuleList;)Z"⟩
abbrev cX5_readChoice : ByteArray := prog_7_method_3_code
def yX5_readChoice : MethodName := ⟨RX5, "readChoice", "(I)V"⟩
abbrev cX5_readJoin : ByteArray := prog_7_method_4_code
def yX5_readJoin : MethodName := ⟨RX5, "readJoin", "(I)V"⟩
abbrev cX5_readClause : ByteArray := prog_7_method_5_code
def yX5_readClause : MethodName := ⟨RX5, "readClause", "(I)V"⟩
abbrev cX5_readComparison : ByteArray := prog_7_method_6_code
def yX5_readComparison : MethodName := ⟨RX5, "readComparison", "()V"⟩
abbrev cX5_readTerm : ByteArray := prog_7_method_7_code
def yX5_readTerm : MethodName := ⟨RX5, "readTerm", "()I"⟩
abbrev cX5_take : ByteArray := prog_7_method_8_code
def yX5_take : MethodName := ⟨RX5, "take", "(I)V"⟩
abbrev cX5_advance : ByteArray := prog_7_method_9_code
def yX5_advance : MethodName := ⟨RX5, "advance", "()V"⟩
abbrev cX5_refuse : ByteArray := prog_7_method_10_code
def yX5_refuse : MethodName := ⟨RX5, "refuse", "(I)V"⟩
def RX6 : String := "TeaBook$Shelf"
def TX6 : u_T := fun k => match k with
  | 0 => ("TeaBook$Shelf", "things", "[LTeaBook$Thing;", true)
  | _ => ("TeaBook$Shelf", "count", "I", false)
def tyX6 : Nat → FieldType := fun k => match k with
  | 0 => .array (.object "TeaBook$Thing")
  | _ => .int
theorem nmX6 : ∀ a, a < 2 → ∀ b, b < 2 → a ≠ b → (TX6 a).2.1 ≠ (TX6 b).2.1 := by decide +kernel
theorem tyX6_ok : ∀ k, k < 2 → parseFieldDescriptor (TX6 k).2.2.1 = some (tyX6 k) := by decide +kernel
abbrev cX6_init : ByteArray := prog_8_method_1_code
def yX6_init : MethodName := ⟨RX6, "<init>", "()V"⟩
abbrev cX6_count : ByteArray := prog_8_method_2_code
def yX6_count : MethodName := ⟨RX6, "count", "()I"⟩
abbrev cX6_isFull : ByteArray := prog_8_method_3_code
def yX6_isFull : MethodName := ⟨RX6, "isFull", "()Z"⟩
abbrev cX6_put : ByteArray := prog_8_method_4_code
def yX6_put : MethodName := ⟨RX6, "put", "(LTeaBook$Thing;)I"⟩
abbrev cX6_find : ByteArray := prog_8_method_5_code
def yX6_find : MethodName := ⟨RX6, "find", "(I)LTeaBook$Thing;"⟩
abbrev cX6_findThere : ByteArray := prog_8_method_6_code
def yX6_findThere : MethodName := ⟨RX6, "findThere", "(I)LTeaBook$Thing;"⟩
abbrev cX6_countThere : ByteArray := prog_8_method_7_code
def yX6_countThere : MethodName := ⟨RX6, "countThere", "()I"⟩
abbrev cX6_isInDoubt : ByteArray := prog_8_method_8_code
def yX6_isInDoubt : MethodName := ⟨RX6, "isInDoubt", "(LTeaBook$Thing;)Z"⟩
def RX7 : String := "TeaBook$Tape"
def TX7 : u_T := fun k => match k with
  | 0 => ("TeaBook$Tape", "bytes", "[B", true)
  | _ => ("TeaBook$Tape", "length", "I", false)
def tyX7 : Nat → FieldType := fun k => match k with
  | 0 => .array .byte
  | _ => .int
theorem nmX7 : ∀ a, a < 2 → ∀ b, b < 2 → a ≠ b → (TX7 a).2.1 ≠ (TX7 b).2.1 := by decide +kernel
theorem tyX7_ok : ∀ k, k < 2 → parseFieldDescriptor (TX7 k).2.2.1 = some (tyX7 k) := by decide +kernel
abbrev cX7_init : ByteArray := prog_9_method_1_code
def yX7_init : MethodName := ⟨RX7, "<init>", "()V"⟩
abbrev cX7_length : ByteArray := prog_9_method_2_code
def yX7_length : MethodName := ⟨RX7, "length", "()I"⟩
abbrev cX7_hasRoomFor : ByteArray := prog_9_method_3_code
def yX7_hasRoomFor : MethodName := ⟨RX7, "hasRoomFor", "(I)Z"⟩
abbrev cX7_append : ByteArray := prog_9_method_4_code
def yX7_append : MethodName := ⟨RX7, "append", "(I)V"⟩
abbrev cX7_cut : ByteArray := prog_9_method_5_code
def yX7_cut : MethodName := ⟨RX7, "cut", "(I)V"⟩
abbrev cX7_at : ByteArray := prog_9_method_6_code
def yX7_at : MethodName := ⟨RX7, "at", "(I)I"⟩
def RX8 : String := "TeaBook$TeaSet"
def TX8 : u_T := fun k => match k with
  | _ => ("TeaBook$TeaSet", "byKind", "[LTeaBook$Thing;", true)
def tyX8 : Nat → FieldType := fun k => match k with
  | _ => .array (.object "TeaBook$Thing")
theorem nmX8 : ∀ a, a < 1 → ∀ b, b < 1 → a ≠ b → (TX8 a).2.1 ≠ (TX8 b).2.1 := by decide +kernel
theorem tyX8_ok : ∀ k, k < 1 → parseFieldDescriptor (TX8 k).2.2.1 = some (tyX8 k) := by decide +kernel
abbrev cX8_init : ByteArray := prog_10_method_1_code
def yX8_init : MethodName := ⟨RX8, "<init>", "()V"⟩
abbrev cX8_at : ByteArray := prog_10_method_2_code
def yX8_at : MethodName := ⟨RX8, "at", "(I)LTeaBook$Thing;"⟩
abbrev cX8_lay : ByteArray := prog_10_method_3_code
def yX8_lay : MethodName := ⟨RX8, "lay", "(ILTeaBook$Thing;)V"⟩
abbrev cX8_clear : ByteArray := prog_10_method_4_code
def yX8_clear : MethodName := ⟨RX8, "clear", "()V"⟩
abbrev cX8_read : ByteArray := prog_10_method_5_code
def yX8_read : MethodName := ⟨RX8, "read", "(ILTeaBook$Shelf;)Z"⟩
abbrev cX8_bits : ByteArray := prog_10_method_6_code
def yX8_bits : MethodName := ⟨RX8, "bits", "()I"⟩
abbrev cX8_sumRanks : ByteArray := prog_10_method_7_code
def yX8_sumRanks : MethodName := ⟨RX8, "sumRanks", "()I"⟩
abbrev cX8_isAllKeptBy : ByteArray := prog_10_method_8_code
def yX8_isAllKeptBy : MethodName := ⟨RX8, "isAllKeptBy", "(I)Z"⟩
def RX9 : String := "TeaBook$Thing"
def TX9 : u_T := fun k => match k with
  | 0 => ("TeaBook$Thing", "number", "I", true)
  | 1 => ("TeaBook$Thing", "kind", "I", true)
  | 2 => ("TeaBook$Thing", "rank", "I", true)
  | 3 => ("TeaBook$Thing", "tone", "I", true)
  | 4 => ("TeaBook$Thing", "seasons", "I", true)
  | 5 => ("TeaBook$Thing", "came", "I", true)
  | 6 => ("TeaBook$Thing", "copyOf", "I", true)
  | 7 => ("TeaBook$Thing", "root", "I", true)
  | _ => ("TeaBook$Thing", "latest", "LTeaBook$Act;", false)
def tyX9 : Nat → FieldType := fun k => match k with
  | 0 => .int
  | 1 => .int
  | 2 => .int
  | 3 => .int
  | 4 => .int
  | 5 => .int
  | 6 => .int
  | 7 => .int
  | _ => .object "TeaBook$Act"
theorem nmX9 : ∀ a, a < 9 → ∀ b, b < 9 → a ≠ b → (TX9 a).2.1 ≠ (TX9 b).2.1 := by decide +kernel
theorem tyX9_ok : ∀ k, k < 9 → parseFieldDescriptor (TX9 k).2.2.1 = some (tyX9 k) := by decide +kernel
abbrev cX9_init : ByteArray := prog_11_method_1_code
def yX9_init : MethodName := ⟨RX9, "<init>", "(IIIIILTeaBook$Act;)V"⟩
abbrev cX9_init_ : ByteArray := prog_11_method_2_code
def yX9_init_ : MethodName := ⟨RX9, "<init>", "(ILTeaBook$Thing;ILTeaBook$Act;)V"⟩
abbrev cX9_owner : ByteArray := prog_11_method_3_code
def yX9_owner : MethodName := ⟨RX9, "owner", "()I"⟩
abbrev cX9_keeper : ByteArray := prog_11_method_4_code
def yX9_keeper : MethodName := ⟨RX9, "keeper", "()I"⟩
abbrev cX9_isThere : ByteArray := prog_11_method_5_code
def yX9_isThere : MethodName := ⟨RX9, "isThere", "()Z"⟩
abbrev cX9_isLent : ByteArray := prog_11_method_6_code
def yX9_isLent : MethodName := ⟨RX9, "isLent", "()Z"⟩
abbrev cX9_suits : ByteArray := prog_11_method_7_code
def yX9_suits : MethodName := ⟨RX9, "suits", "(I)Z"⟩
abbrev cX9_goTo : ByteArray := prog_11_method_8_code
def yX9_goTo : MethodName := ⟨RX9, "goTo", "(II)V"⟩
abbrev cX9_stayWith : ByteArray := prog_11_method_9_code
def yX9_stayWith : MethodName := ⟨RX9, "stayWith", "(II)V"⟩
abbrev cX9_vanish : ByteArray := prog_11_method_10_code
def yX9_vanish : MethodName := ⟨RX9, "vanish", "(I)V"⟩
abbrev cX9_latestUpTo : ByteArray := prog_11_method_11_code
def yX9_latestUpTo : MethodName := ⟨RX9, "latestUpTo", "(I)LTeaBook$Act;"⟩
abbrev cX9_countOwners : ByteArray := prog_11_method_12_code
def yX9_countOwners : MethodName := ⟨RX9, "countOwners", "()I"⟩
abbrev cX9_ownerAt : ByteArray := prog_11_method_13_code
def yX9_ownerAt : MethodName := ⟨RX9, "ownerAt", "(I)I"⟩
def RX10 : String := "TeaBook$Tokens"
def TX10 : u_T := fun k => match k with
  | 0 => ("TeaBook$Tokens", "tape", "LTeaBook$Tape;", true)
  | 1 => ("TeaBook$Tokens", "tokens", "[I", true)
  | 2 => ("TeaBook$Tokens", "places", "[I", true)
  | 3 => ("TeaBook$Tokens", "values", "[I", true)
  | _ => ("TeaBook$Tokens", "count", "I", false)
def tyX10 : Nat → FieldType := fun k => match k with
  | 0 => .object "TeaBook$Tape"
  | 1 => .array .int
  | 2 => .array .int
  | 3 => .array .int
  | _ => .int
theorem nmX10 : ∀ a, a < 5 → ∀ b, b < 5 → a ≠ b → (TX10 a).2.1 ≠ (TX10 b).2.1 := by decide +kernel
theorem tyX10_ok : ∀ k, k < 5 → parseFieldDescriptor (TX10 k).2.2.1 = some (tyX10 k) := by decide +kernel
abbrev cX10_init : ByteArray := prog_12_method_1_code
def yX10_init : MethodName := ⟨RX10, "<init>", "(LTeaBook$Tape;)V"⟩
abbrev cX10_at : ByteArray := prog_12_method_2_code
def yX10_at : MethodName := ⟨RX10, "at", "(I)I"⟩
abbrev cX10_placeOf : ByteArray := prog_12_method_3_code
def yX10_placeOf : MethodName := ⟨RX10, "placeOf", "(I)I"⟩
abbrev cX10_valueOf : ByteArray := prog_12_method_4_code
def yX10_valueOf : MethodName := ⟨RX10, "valueOf", "(I)I"⟩
abbrev cX10_cutTape : ByteArray := prog_12_method_5_code
def yX10_cutTape : MethodName := ⟨RX10, "cutTape", "()V"⟩
abbrev cX10_put : ByteArray := prog_12_method_6_code
def yX10_put : MethodName := ⟨RX10, "put", "(III)V"⟩
abbrev cX10_takeWord : ByteArray := prog_12_method_7_code
def yX10_takeWord : MethodName := ⟨RX10, "takeWord", "(I)I"⟩
abbrev cX10_isWord : ByteArray := prog_12_method_8_code
def yX10_isWord : MethodName := ⟨RX10, "isWord", "(III)Z"⟩
abbrev cX10_takeNumber : ByteArray := prog_12_method_9_code
def yX10_takeNumber : MethodName := ⟨RX10, "takeNumber", "(I)I"⟩
abbrev cX10_isBlank : ByteArray := prog_12_method_10_code
def yX10_isBlank : MethodName := ⟨RX10, "isBlank", "(I)Z"⟩
abbrev cX10_isLetter : ByteArray := prog_12_method_11_code
def yX10_isLetter : MethodName := ⟨RX10, "isLetter", "(I)Z"⟩
abbrev cX10_isDigit : ByteArray := prog_12_method_12_code
def yX10_isDigit : MethodName := ⟨RX10, "isDigit", "(I)Z"⟩
def RX11 : String := "TeaBook"
def TX11 : u_T := fun k => match k with
  | 0 => ("TeaBook", "day", "I", false)
  | 1 => ("TeaBook", "acts", "I", false)
  | 2 => ("TeaBook", "shelf", "LTeaBook$Shelf;", true)
  | 3 => ("TeaBook", "meetings", "LTeaBook$Meetings;", true)
  | 4 => ("TeaBook", "tape", "LTeaBook$Tape;", true)
  | 5 => ("TeaBook", "reader", "LTeaBook$RuleReader;", true)
  | 6 => ("TeaBook", "inForce", "LTeaBook$RuleList;", false)
  | 7 => ("TeaBook", "draft", "LTeaBook$RuleList;", false)
  | 8 => ("TeaBook", "asked", "LTeaBook$TeaSet;", true)
  | 9 => ("TeaBook", "facts", "LTeaBook$Facts;", true)
  | _ => ("TeaBook", "chooser", "LTeaBook$Chooser;", true)
def tyX11 : Nat → FieldType := fun k => match k with
  | 0 => .int
  | 1 => .int
  | 2 => .object "TeaBook$Shelf"
  | 3 => .object "TeaBook$Meetings"
  | 4 => .object "TeaBook$Tape"
  | 5 => .object "TeaBook$RuleReader"
  | 6 => .object "TeaBook$RuleList"
  | 7 => .object "TeaBook$RuleList"
  | 8 => .object "TeaBook$TeaSet"
  | 9 => .object "TeaBook$Facts"
  | _ => .object "TeaBook$Chooser"
theorem nmX11 : ∀ a, a < 11 → ∀ b, b < 11 → a ≠ b → (TX11 a).2.1 ≠ (TX11 b).2.1 := by decide +kernel
theorem tyX11_ok : ∀ k, k < 11 → parseFieldDescriptor (TX11 k).2.2.1 = some (tyX11 k) := by decide +kernel
abbrev cX11_init : ByteArray := prog_1_method_1_code
def yX11_init : MethodName := ⟨RX11, "<init>", "()V"⟩
abbrev cX11_thing : ByteArray := prog_1_method_2_code
def yX11_thing : MethodName := ⟨RX11, "thing", "(IIIII)I"⟩
abbrev cX11_copy : ByteArray := prog_1_method_3_code
def yX11_copy : MethodName := ⟨RX11, "copy", "(III)I"⟩
abbrev cX11_pass : ByteArray := prog_1_method_4_code
def yX11_pass : MethodName := ⟨RX11, "pass", "(II)Z"⟩
abbrev cX11_lend : ByteArray := prog_1_method_5_code
def yX11_lend : MethodName := ⟨RX11, "lend", "(II)Z"⟩
abbrev cX11_back : ByteArray := prog_1_method_6_code
def yX11_back : MethodName := ⟨RX11, "back", "(I)Z"⟩
abbrev cX11_burn : ByteArray := prog_1_method_7_code
def yX11_burn : MethodName := ⟨RX11, "burn", "(I)Z"⟩
abbrev cX11_days : ByteArray := prog_1_method_8_code
def yX11_days : MethodName := ⟨RX11, "days", "(I)I"⟩
abbrev cX11_look : ByteArray := prog_1_method_9_code
def yX11_look : MethodName := ⟨RX11, "look", "(I)I"⟩
abbrev cX11_of : ByteArray := prog_1_method_10_code
def yX11_of : MethodName := ⟨RX11, "of", "(II)I"⟩
abbrev cX11_held : ByteArray := prog_1_method_11_code
def yX11_held : MethodName := ⟨RX11, "held", "(III)I"⟩
abbrev cX11_owners : ByteArray := prog_1_method_12_code
def yX11_owners : MethodName := ⟨RX11, "owners", "(II)I"⟩
abbrev cX11_gather : ByteArray := prog_1_method_13_code
def yX11_gather : MethodName := ⟨RX11, "gather", "(IIII)I"⟩
abbrev cX11_gathering : ByteArray := prog_1_method_14_code
def yX11_gathering : MethodName := ⟨RX11, "gathering", "(II)I"⟩
abbrev cX11_seen : ByteArray := prog_1_method_15_code
def yX11_seen : MethodName := ⟨RX11, "seen", "(III)I"⟩
abbrev cX11_again : ByteArray := prog_1_method_16_code
def yX11_again : MethodName := ⟨RX11, "again", "(II)I"⟩
abbrev cX11_feed : ByteArray := prog_1_method_17_code
def yX11_feed : MethodName := ⟨RX11, "feed", "(IIIII)I"⟩
abbrev cX11_end : ByteArray := prog_1_method_18_code
def yX11_end : MethodName := ⟨RX11, "end", "(I)Z"⟩
abbrev cX11_rules : ByteArray := prog_1_method_19_code
def yX11_rules : MethodName := ⟨RX11, "rules", "()I"⟩
abbrev cX11_fault : ByteArray := prog_1_method_20_code
def yX11_fault : MethodName := ⟨RX11, "fault", "(I)I"⟩
abbrev cX11_barred : ByteArray := prog_1_method_21_code
def yX11_barred : MethodName := ⟨RX11, "barred", "(III)I"⟩
abbrev cX11_best : ByteArray := prog_1_method_22_code
def yX11_best : MethodName := ⟨RX11, "best", "(IIIII)I"⟩
abbrev cX11_findFreeFor : ByteArray := prog_1_method_23_code
def yX11_findFreeFor : MethodName := ⟨RX11, "findFreeFor", "(II)LTeaBook$Thing;"⟩
abbrev cX11_spendAct : ByteArray := prog_1_method_24_code
def yX11_spendAct : MethodName := ⟨RX11, "spendAct", "()Z"⟩
abbrev cX11_isWithin : ByteArray := prog_1_method_25_code
def yX11_isWithin : MethodName := ⟨RX11, "isWithin", "(III)Z"⟩
abbrev cX11_isMark : ByteArray := prog_1_method_26_code
def yX11_isMark : MethodName := ⟨RX11, "isMark", "(I)Z"⟩
abbrev cX11_isHouse : ByteArray := prog_1_method_27_code
def yX11_isHouse : MethodName := ⟨RX11, "isHouse", "(I)Z"⟩
abbrev cX11_isSeason : ByteArray := prog_1_method_28_code
def yX11_isSeason : MethodName := ⟨RX11, "isSeason", "(I)Z"⟩
abbrev cX11_isGuests : ByteArray := prog_1_method_29_code
def yX11_isGuests : MethodName := ⟨RX11, "isGuests", "(I)Z"⟩
def RX12 : String := "TeaBookModel"
def TX12 : u_T := fun k => match k with
  | 0 => ("TeaBookModel", "now", "I", false)
  | 1 => ("TeaBookModel", "things", "I", false)
  | 2 => ("TeaBookModel", "events", "I", false)
  | 3 => ("TeaBookModel", "gatherings", "I", false)
  | 4 => ("TeaBookModel", "kind", "[I", true)
  | 5 => ("TeaBookModel", "rank", "[I", true)
  | 6 => ("TeaBookModel", "tone", "[I", true)
  | 7 => ("TeaBookModel", "seasons", "[I", true)
  | 8 => ("TeaBookModel", "came", "[I", true)
  | 9 => ("TeaBookModel", "copyOf", "[I", true)
  | 10 => ("TeaBookModel", "firstOwner", "[I", true)
  | 11 => ("TeaBookModel", "burnt", "[I", true)
  | 12 => ("TeaBookModel", "eventThing", "[I", true)
  | 13 => ("TeaBookModel", "eventKind", "[I", true)
  | 14 => ("TeaBookModel", "eventHouse", "[I", true)
  | 15 => ("TeaBookModel", "eventDay", "[I", true)
  | 16 => ("TeaBookModel", "where", "[I", true)
  | 17 => ("TeaBookModel", "when", "[I", true)
  | 18 => ("TeaBookModel", "seasonOf", "[I", true)
  | 19 => ("TeaBookModel", "guestsOf", "[I", true)
  | 20 => ("TeaBookModel", "setOf", "[I", true)
  | 21 => ("TeaBookModel", "rules", "I", false)
  | 22 => ("TeaBookModel", "freshRules", "I", false)
  | 23 => ("TeaBookModel", "freshSteps", "I", false)
  | 24 => ("TeaBookModel", "from", "[I", true)
  | 25 => ("TeaBookModel", "step", "[I", true)
  | 26 => ("TeaBookModel", "freshFrom", "[I", true)
  | 27 => ("TeaBookModel", "fresh", "[I", true)
  | 28 => ("TeaBookModel", "pile", "[I", true)
  | 29 => ("TeaBookModel", "tape", "[I", true)
  | 30 => ("TeaBookModel", "taped", "I", false)
  | 31 => ("TeaBookModel", "at", "I", false)
  | 32 => ("TeaBookModel", "token", "I", false)
  | 33 => ("TeaBookModel", "tokenAt", "I", false)
  | 34 => ("TeaBookModel", "value", "I", false)
  | 35 => ("TeaBookModel", "wrong", "I", false)
  | 36 => ("TeaBookModel", "wrongAt", "I", false)
  | 37 => ("TeaBookModel", "faultKind", "I", false)
  | 38 => ("TeaBookModel", "depth", "I", false)
  | 39 => ("TeaBookModel", "faultPlace", "I", false)
  | 40 => ("TeaBookModel", "tried", "[I", true)
  | 41 => ("TeaBookModel", "best", "I", false)
  | 42 => ("TeaBookModel", "bestAgain", "I", false)
  | 43 => ("TeaBookModel", "bestRank", "I", false)
  | _ => ("TeaBookModel", "fits", "I", false)
def tyX12 : Nat → FieldType := fun k => match k with
  | 0 => .int
  | 1 => .int
  | 2 => .int
  | 3 => .int
  | 4 => .array .int
  | 5 => .array .int
  | 6 => .array .int
  | 7 => .array .int
  | 8 => .array .int
  | 9 => .array .int
  | 10 => .array .int
  | 11 => .array .int
  | 12 => .array .int
  | 13 => .array .int
  | 14 => .array .int
  | 15 => .array .int
  | 16 => .array .int
  | 17 => .array .int
  | 18 => .array .int
  | 19 => .array .int
  | 20 => .array .int
  | 21 => .int
  | 22 => .int
  | 23 => .int
  | 24 => .array .int
  | 25 => .array .int
  | 26 => .array .int
  | 27 => .array .int
  | 28 => .array .int
  | 29 => .array .int
  | 30 => .int
  | 31 => .int
  | 32 => .int
  | 33 => .int
  | 34 => .int
  | 35 => .int
  | 36 => .int
  | 37 => .int
  | 38 => .int
  | 39 => .int
  | 40 => .array .int
  | 41 => .int
  | 42 => .int
  | 43 => .int
  | _ => .int
theorem nmX12 : ∀ a, a < 45 → ∀ b, b < 45 → a ≠ b → (TX12 a).2.1 ≠ (TX12 b).2.1 := by decide +kernel
theorem tyX12_ok : ∀ k, k < 45 → parseFieldDescriptor (TX12 k).2.2.1 = some (tyX12 k) := by decide +kernel
abbrev cX12_init : ByteArray := prog_14_method_1_code
def yX12_init : MethodName := ⟨RX12, "<init>", "()V"⟩
abbrev cX12_isIn : ByteArray := prog_14_method_2_code
def yX12_isIn : MethodName := ⟨RX12, "isIn", "(III)Z"⟩
abbrev cX12_isHouse : ByteArray := prog_14_method_3_code
def yX12_isHouse : MethodName := ⟨RX12, "isHouse", "(I)Z"⟩
abbrev cX12_isThing : ByteArray := prog_14_method_4_code
def yX12_isThing : MethodName := ⟨RX12, "isThing", "(I)Z"⟩
abbrev cX12_isThere : ByteArray := prog_14_method_5_code
def yX12_isThere : MethodName := ⟨RX12, "isThere", "(I)Z"⟩
abbrev cX12_comes : ByteArray := prog_14_method_6_code
def yX12_comes : MethodName := ⟨RX12, "comes", "(IIIIII)I"⟩
abbrev cX12_thing : ByteArray := prog_14_method_7_code
def yX12_thing : MethodName := ⟨RX12, "thing", "(IIIII)I"⟩
abbrev cX12_copy : ByteArray := prog_14_method_8_code
def yX12_copy : MethodName := ⟨RX12, "copy", "(III)I"⟩
abbrev cX12_happens : ByteArray := prog_14_method_9_code
def yX12_happens : MethodName := ⟨RX12, "happens", "(III)Z"⟩
abbrev cX12_ownerOn : ByteArray := prog_14_method_10_code
def yX12_ownerOn : MethodName := ⟨RX12, "ownerOn", "(II)I"⟩
abbrev cX12_lentOn : ByteArray := prog_14_method_11_code
def yX12_lentOn : MethodName := ⟨RX12, "lentOn", "(II)I"⟩
abbrev cX12_keptOn : ByteArray := prog_14_method_12_code
def yX12_keptOn : MethodName := ⟨RX12, "keptOn", "(II)I"⟩
abbrev cX12_pass : ByteArray := prog_14_method_13_code
def yX12_pass : MethodName := ⟨RX12, "pass", "(II)Z"⟩
abbrev cX12_lend : ByteArray := prog_14_method_14_code
def yX12_lend : MethodName := ⟨RX12, "lend", "(II)Z"⟩
abbrev cX12_back : ByteArray := prog_14_method_15_code
def yX12_back : MethodName := ⟨RX12, "back", "(I)Z"⟩
abbrev cX12_burn : ByteArray := prog_14_method_16_code
def yX12_burn : MethodName := ⟨RX12, "burn", "(I)Z"⟩
abbrev cX12_days : ByteArray := prog_14_method_17_code
def yX12_days : MethodName := ⟨RX12, "days", "(I)I"⟩
abbrev cX12_rootOf : ByteArray := prog_14_method_18_code
def yX12_rootOf : MethodName := ⟨RX12, "rootOf", "(I)I"⟩
abbrev cX12_isDoubtful : ByteArray := prog_14_method_19_code
def yX12_isDoubtful : MethodName := ⟨RX12, "isDoubtful", "(I)Z"⟩
abbrev cX12_look : ByteArray := prog_14_method_20_code
def yX12_look : MethodName := ⟨RX12, "look", "(I)I"⟩
abbrev cX12_of : ByteArray := prog_14_method_21_code
def yX12_of : MethodName := ⟨RX12, "of", "(II)I"⟩
abbrev cX12_held : ByteArray := prog_14_method_22_code
def yX12_held : MethodName := ⟨RX12, "held", "(III)I"⟩
abbrev cX12_owners : ByteArray := prog_14_method_23_code
def yX12_owners : MethodName := ⟨RX12, "owners", "(II)I"⟩
abbrev cX12_isSet : ByteArray := prog_14_method_24_code
def yX12_isSet : MethodName := ⟨RX12, "isSet", "(I)Z"⟩
abbrev cX12_areGuests : ByteArray := prog_14_method_25_code
def yX12_areGuests : MethodName := ⟨RX12, "areGuests", "(I)Z"⟩
abbrev cX12_isSeason : ByteArray := prog_14_method_26_code
def yX12_isSeason : MethodName := ⟨RX12, "isSeason", "(I)Z"⟩
abbrev cX12_gather : ByteArray := prog_14_method_27_code
def yX12_gather : MethodName := ⟨RX12, "gather", "(IIII)I"⟩
abbrev cX12_gathering : ByteArray := prog_14_method_28_code
def yX12_gathering : MethodName := ⟨RX12, "gathering", "(II)I"⟩
abbrev cX12_seenOf : ByteArray := prog_14_method_29_code
def yX12_seenOf : MethodName := ⟨RX12, "seenOf", "(III)I"⟩
abbrev cX12_seen : ByteArray := prog_14_method_30_code
def yX12_seen : MethodName := ⟨RX12, "seen", "(III)I"⟩
abbrev cX12_againOf : ByteArray := prog_14_method_31_code
def yX12_againOf : MethodName := ⟨RX12, "againOf", "(II)I"⟩
abbrev cX12_again : ByteArray := prog_14_method_32_code
def yX12_again : MethodName := ⟨RX12, "again", "(II)I"⟩
abbrev cX12_feed : ByteArray := prog_14_method_33_code
def yX12_feed : MethodName := ⟨RX12, "feed", "(IIIII)I"⟩
abbrev cX12_end : ByteArray := prog_14_method_34_code
def yX12_end : MethodName := ⟨RX12, "end", "(I)Z"⟩
abbrev cX12_see : ByteArray := prog_14_method_35_code
def yX12_see : MethodName := ⟨RX12, "see", "(I)I"⟩
abbrev cX12_isLetter : ByteArray := prog_14_method_36_code
def yX12_isLetter : MethodName := ⟨RX12, "isLetter", "(I)Z"⟩
abbrev cX12_isDigit : ByteArray := prog_14_method_37_code
def yX12_isDigit : MethodName := ⟨RX12, "isDigit", "(I)Z"⟩
abbrev cX12_word : ByteArray := prog_14_method_38_code
def yX12_word : MethodName := ⟨RX12, "word", "(J)I"⟩
abbrev cX12_next0 : ByteArray := prog_14_method_39_code
def yX12_next0 : MethodName := ⟨RX12, "next0", "()V"⟩
abbrev cX12_bad : ByteArray := prog_14_method_40_code
def yX12_bad : MethodName := ⟨RX12, "bad", "(I)Z"⟩
abbrev cX12_need : ByteArray := prog_14_method_41_code
def yX12_need : MethodName := ⟨RX12, "need", "(I)Z"⟩
abbrev cX12_lay : ByteArray := prog_14_method_42_code
def yX12_lay : MethodName := ⟨RX12, "lay", "(I)V"⟩
abbrev cX12_opens : ByteArray := prog_14_method_43_code
def yX12_opens : MethodName := ⟨RX12, "opens", "()Z"⟩
abbrev cX12_any : ByteArray := prog_14_method_44_code
def yX12_any : MethodName := ⟨RX12, "any", "()Z"⟩
abbrev cX12_all : ByteArray := prog_14_method_45_code
def yX12_all : MethodName := ⟨RX12, "all", "()Z"⟩
abbrev cX12_one : ByteArray := prog_14_method_46_code
def yX12_one : MethodName := ⟨RX12, "one", "()Z"⟩
abbrev cX12_term : ByteArray := prog_14_method_47_code
def yX12_term : MethodName := ⟨RX12, "term", "()Z"⟩
abbrev cX12_aRule : ByteArray := prog_14_method_48_code
def yX12_aRule : MethodName := ⟨RX12, "aRule", "()Z"⟩
abbrev cX12_rules : ByteArray := prog_14_method_49_code
def yX12_rules : MethodName := ⟨RX12, "rules", "()I"⟩
abbrev cX12_fault : ByteArray := prog_14_method_50_code
def yX12_fault : MethodName := ⟨RX12, "fault", "(I)I"⟩
abbrev cX12_bits : ByteArray := prog_14_method_51_code
def yX12_bits : MethodName := ⟨RX12, "bits", "(I)I"⟩
abbrev cX12_known : ByteArray := prog_14_method_52_code
def yX12_known : MethodName := ⟨RX12, "known", "(IIII)I"⟩
abbrev cX12_both : ByteArray := prog_14_method_53_code
def yX12_both : MethodName := ⟨RX12, "both", "(III)I"⟩
abbrev cX12_isSo : ByteArray := prog_14_method_54_code
def yX12_isSo : MethodName := ⟨RX12, "isSo", "(IIII)Z"⟩
abbrev cX12_barredBy : ByteArray := prog_14_method_55_code
def yX12_barredBy : MethodName := ⟨RX12, "barredBy", "(III)I"⟩
abbrev cX12_barred : ByteArray := prog_14_method_56_code
def yX12_barred : MethodName := ⟨RX12, "barred", "(III)I"⟩
abbrev cX12_isFit : ByteArray := prog_14_method_57_code
def yX12_isFit : MethodName := ⟨RX12, "isFit", "(IIII)Z"⟩
abbrev cX12_next : ByteArray := prog_14_method_58_code
def yX12_next : MethodName := ⟨RX12, "next", "(IIII)I"⟩
abbrev cX12_tries : ByteArray := prog_14_method_59_code
def yX12_tries : MethodName := ⟨RX12, "tries", "(II)V"⟩
abbrev cX12_finds : ByteArray := prog_14_method_60_code
def yX12_finds : MethodName := ⟨RX12, "finds", "(IIII)V"⟩
abbrev cX12_best : ByteArray := prog_14_method_61_code
def yX12_best : MethodName := ⟨RX12, "best", "(IIIII)I"⟩
def RJ11 : String := "java/lang/Character"
def TJ11 : u_T := fun k => match k with
  | _ => ("", "", "", false)
def tyJ11 : Nat → FieldType := fun k => match k with
  | _ => .int
theorem nmJ11 : ∀ a, a < 0 → ∀ b, b < 0 → a ≠ b → (TJ11 a).2.1 ≠ (TJ11 b).2.1 := by decide +kernel
theorem tyJ11_ok : ∀ k, k < 0 → parseFieldDescriptor (TJ11 k).2.2.1 = some (tyJ11 k) := by decide +kernel
abbrev cJ11_isValidCodePoint_9a6ad : ByteArray := prog_15_method_11_code
def yJ11_isValidCodePoint_9a6ad : MethodName := ⟨RJ11, "isValidCodePoint", "(I)Z"⟩
abbrev cJ11_highSurrogate_5068e : ByteArray := prog_15_method_28_code
def yJ11_highSurrogate_5068e : MethodName := ⟨RJ11, "highSurrogate", "(I)C"⟩
abbrev cJ11_lowSurrogate_5068e : ByteArray := prog_15_method_29_code
def yJ11_lowSurrogate_5068e : MethodName := ⟨RJ11, "lowSurrogate", "(I)C"⟩
def RJ6 : String := "java/lang/Integer"
def TJ6 : u_T := fun k => match k with
  | _ => ("", "", "", false)
def tyJ6 : Nat → FieldType := fun k => match k with
  | _ => .int
theorem nmJ6 : ∀ a, a < 0 → ∀ b, b < 0 → a ≠ b → (TJ6 a).2.1 ≠ (TJ6 b).2.1 := by decide +kernel
theorem tyJ6_ok : ∀ k, k < 0 → parseFieldDescriptor (TJ6 k).2.2.1 = some (tyJ6 k) := by decide +kernel
abbrev cJ6_bitCount_0f7a4 : ByteArray := prog_16_method_49_code
def yJ6_bitCount_0f7a4 : MethodName := ⟨RJ6, "bitCount", "(I)I"⟩
def RJ9 : String := "java/lang/Math"
def TJ9 : u_T := fun k => match k with
  | _ => ("", "", "", false)
def tyJ9 : Nat → FieldType := fun k => match k with
  | _ => .int
theorem nmJ9 : ∀ a, a < 0 → ∀ b, b < 0 → a ≠ b → (TJ9 a).2.1 ≠ (TJ9 b).2.1 := by decide +kernel
theorem tyJ9_ok : ∀ k, k < 0 → parseFieldDescriptor (TJ9 k).2.2.1 = some (tyJ9 k) := by decide +kernel
abbrev cJ9_max_7cf53 : ByteArray := prog_17_method_65_code
def yJ9_max_7cf53 : MethodName := ⟨RJ9, "max", "(II)I"⟩
abbrev cJ9_min_7cf53 : ByteArray := prog_17_method_69_code
def yJ9_min_7cf53 : MethodName := ⟨RJ9, "min", "(II)I"⟩
def RJ0 : String := "java/lang/String"
def TJ0 : u_T := fun k => match k with
  | _ => ("", "", "", false)
def tyJ0 : Nat → FieldType := fun k => match k with
  | _ => .int
theorem nmJ0 : ∀ a, a < 0 → ∀ b, b < 0 → a ≠ b → (TJ0 a).2.1 ≠ (TJ0 b).2.1 := by decide +kernel
theorem tyJ0_ok : ∀ k, k < 0 → parseFieldDescriptor (TJ0 k).2.2.1 = some (tyJ0 k) := by decide +kernel
abbrev cJ0_length_8abf5 : ByteArray := prog_18_method_54_code
def yJ0_length_8abf5 : MethodName := ⟨RJ0, "length", "()I"⟩
abbrev cJ0_charAt_5068e : ByteArray := prog_18_method_56_code
def yJ0_charAt_5068e : MethodName := ⟨RJ0, "charAt", "(I)C"⟩
abbrev cJ0_indexOf_0f7a4 : ByteArray := prog_18_method_79_code
def yJ0_indexOf_0f7a4 : MethodName := ⟨RJ0, "indexOf", "(I)I"⟩
abbrev cJ0_indexOf_7cf53 : ByteArray := prog_18_method_80_code
def yJ0_indexOf_7cf53 : MethodName := ⟨RJ0, "indexOf", "(II)I"⟩
abbrev cJ0_coder_7d493 : ByteArray := prog_18_method_152_code
def yJ0_coder_7d493 : MethodName := ⟨RJ0, "coder", "()B"⟩
abbrev cJ0_isLatin1_aae02 : ByteArray := prog_18_method_154_code
def yJ0_isLatin1_aae02 : MethodName := ⟨RJ0, "isLatin1", "()Z"⟩
abbrev cJ0_checkIndex_df160 : ByteArray := prog_18_method_155_code
def yJ0_checkIndex_df160 : MethodName := ⟨RJ0, "checkIndex", "(II)V"⟩
abbrev cJ0_checkBoundsBeginEnd_23922 : ByteArray := prog_18_method_158_code
def yJ0_checkBoundsBeginEnd_23922 : MethodName := ⟨RJ0, "checkBoundsBeginEnd", "(III)V"⟩
def RJ1 : String := "java/lang/StringLatin1"
def TJ1 : u_T := fun k => match k with
  | _ => ("", "", "", false)
def tyJ1 : Nat → FieldType := fun k => match k with
  | _ => .int
theorem nmJ1 : ∀ a, a < 0 → ∀ b, b < 0 → a ≠ b → (TJ1 a).2.1 ≠ (TJ1 b).2.1 := by decide +kernel
theorem tyJ1_ok : ∀ k, k < 0 → parseFieldDescriptor (TJ1 k).2.2.1 = some (tyJ1 k) := by decide +kernel
abbrev cJ1_charAt_3b067 : ByteArray := prog_19_method_2_code
def yJ1_charAt_3b067 : MethodName := ⟨RJ1, "charAt", "([BI)C"⟩
abbrev cJ1_canEncode_9a6ad : ByteArray := prog_19_method_4_code
def yJ1_canEncode_9a6ad : MethodName := ⟨RJ1, "canEncode", "(I)Z"⟩
abbrev cJ1_indexOf_4cfef : ByteArray := prog_19_method_22_code
def yJ1_indexOf_4cfef : MethodName := ⟨RJ1, "indexOf", "([BIII)I"⟩
abbrev cJ1_indexOfChar_4cfef : ByteArray := prog_19_method_23_code
def yJ1_indexOfChar_4cfef : MethodName := ⟨RJ1, "indexOfChar", "([BIII)I"⟩
def RJ2 : String := "java/lang/StringUTF16"
def TJ2 : u_T := fun k => match k with
  | _ => ("", "", "", false)
def tyJ2 : Nat → FieldType := fun k => match k with
  | _ => .int
theorem nmJ2 : ∀ a, a < 0 → ∀ b, b < 0 → a ≠ b → (TJ2 a).2.1 ≠ (TJ2 b).2.1 := by decide +kernel
theorem tyJ2_ok : ∀ k, k < 0 → parseFieldDescriptor (TJ2 k).2.2.1 = some (tyJ2 k) := by decide +kernel
abbrev cJ2_getChar_3b067 : ByteArray := prog_20_method_5_code
def yJ2_getChar_3b067 : MethodName := ⟨RJ2, "getChar", "([BI)C"⟩
abbrev cJ2_length_9d52b : ByteArray := prog_20_method_6_code
def yJ2_length_9d52b : MethodName := ⟨RJ2, "length", "([B)I"⟩
abbrev cJ2_indexOf_4cfef : ByteArray := prog_20_method_40_code
def yJ2_indexOf_4cfef : MethodName := ⟨RJ2, "indexOf", "([BIII)I"⟩
abbrev cJ2_indexOfChar_4cfef : ByteArray := prog_20_method_47_code
def yJ2_indexOfChar_4cfef : MethodName := ⟨RJ2, "indexOfChar", "([BIII)I"⟩
abbrev cJ2_indexOfCharUnsafe_4cfef : ByteArray := prog_20_method_48_code
def yJ2_indexOfCharUnsafe_4cfef : MethodName := ⟨RJ2, "indexOfCharUnsafe", "([BIII)I"⟩
abbrev cJ2_indexOfSupplementary_4cfef : ByteArray := prog_20_method_49_code
def yJ2_indexOfSupplementary_4cfef : MethodName := ⟨RJ2, "indexOfSupplementary", "([BIII)I"⟩
abbrev cJ2_charAt_3b067 : ByteArray := prog_20_method_83_code
def yJ2_charAt_3b067 : MethodName := ⟨RJ2, "charAt", "([BI)C"⟩
abbrev cJ2_checkIndex_2214a : ByteArray := prog_20_method_91_code
def yJ2_checkIndex_2214a : MethodName := ⟨RJ2, "checkIndex", "(I[B)V"⟩
abbrev cJ2_checkBoundsBeginEnd_d044e : ByteArray := prog_20_method_93_code
def yJ2_checkBoundsBeginEnd_d044e : MethodName := ⟨RJ2, "checkBoundsBeginEnd", "(II[B)V"⟩
def RJ3 : String := "jdk/internal/util/Preconditions"
def TJ3 : u_T := fun k => match k with
  | _ => ("", "", "", false)
def tyJ3 : Nat → FieldType := fun k => match k with
  | _ => .int
theorem nmJ3 : ∀ a, a < 0 → ∀ b, b < 0 → a ≠ b → (TJ3 a).2.1 ≠ (TJ3 b).2.1 := by decide +kernel
theorem tyJ3_ok : ∀ k, k < 0 → parseFieldDescriptor (TJ3 k).2.2.1 = some (tyJ3 k) := by decide +kernel
abbrev cJ3_checkIndex_8e157 : ByteArray := prog_21_method_11_code
def yJ3_checkIndex_8e157 : MethodName := ⟨RJ3, "checkIndex", "(IILjava/util/function/BiFunction;)I"⟩
abbrev cJ3_checkFromToIndex_8c36e : ByteArray := prog_21_method_12_code
def yJ3_checkFromToIndex_8c36e : MethodName := ⟨RJ3, "checkFromToIndex", "(IIILjava/util/function/BiFunction;)I"⟩
def RL : String := "TeaBookLaw"
abbrev cL_law : ByteArray := code
def yL_law : MethodName := ⟨RL, "law", "([I)Z"⟩
end
section
theorem dX0_init_0 : decode cX0_init 0 = .ok (.aload_n 0, 1) := by decide +kernel
theorem dX0_init_1 : decode cX0_init 1 = .ok (.invokespecial 1, 3) := by decide +kernel
theorem dX0_init_4 : decode cX0_init 4 = .ok (.aload_n 0, 1) := by decide +kernel
theorem dX0_init_5 : decode cX0_init 5 = .ok (.aconst_null, 1) := by decide +kernel
theorem dX0_init_6 : decode cX0_init 6 = .ok (.putfield 7, 3) := by decide +kernel
theorem dX0_init_9 : decode cX0_init 9 = .ok (.aload_n 0, 1) := by decide +kernel
theorem dX0_init_10 : decode cX0_init 10 = .ok (.iload_n 1, 1) := by decide +kernel
theorem dX0_init_11 : decode cX0_init 11 = .ok (.putfield 13, 3) := by decide +kernel
theorem dX0_init_14 : decode cX0_init 14 = .ok (.aload_n 0, 1) := by decide +kernel
theorem dX0_init_15 : decode cX0_init 15 = .ok (.iload_n 2, 1) := by decide +kernel
theorem dX0_init_16 : decode cX0_init 16 = .ok (.putfield 17, 3) := by decide +kernel
theorem dX0_init_19 : decode cX0_init 19 = .ok (.aload_n 0, 1) := by decide +kernel
theorem dX0_init_20 : decode cX0_init 20 = .ok (.iload_n 2, 1) := by decide +kernel
theorem dX0_init_21 : decode cX0_init 21 = .ok (.putfield 20, 3) := by decide +kernel
theorem dX0_init_24 : decode cX0_init 24 = .ok (.aload_n 0, 1) := by decide +kernel
theorem dX0_init_25 : decode cX0_init 25 = .ok (.iconst 0, 1) := by decide +kernel
theorem dX0_init_26 : decode cX0_init 26 = .ok (.putfield 23, 3) := by decide +kernel
theorem dX0_init_29 : decode cX0_init 29 = .ok (.aload_n 0, 1) := by decide +kernel
theorem dX0_init_30 : decode cX0_init 30 = .ok (.iconst 1, 1) := by decide +kernel
theorem dX0_init_31 : decode cX0_init 31 = .ok (.putfield 26, 3) := by decide +kernel
theorem dX0_init_34 : decode cX0_init 34 = .ok (.return_, 1) := by decide +kernel
theorem dX0_init__0 : decode cX0_init_ 0 = .ok (.aload_n 0, 1) := by decide +kernel
theorem dX0_init__1 : decode cX0_init_ 1 = .ok (.invokespecial 1, 3) := by decide +kernel
theorem dX0_init__4 : decode cX0_init_ 4 = .ok (.aload_n 0, 1) := by decide +kernel
theorem dX0_init__5 : decode cX0_init_ 5 = .ok (.aload_n 1, 1) := by decide +kernel
theorem dX0_init__6 : decode cX0_init_ 6 = .ok (.putfield 7, 3) := by decide +kernel
theorem dX0_init__9 : decode cX0_init_ 9 = .ok (.aload_n 0, 1) := by decide +kernel
theorem dX0_init__10 : decode cX0_init_ 10 = .ok (.iload_n 2, 1) := by decide +kernel
theorem dX0_init__11 : decode cX0_init_ 11 = .ok (.putfield 13, 3) := by decide +kernel
theorem dX0_init__14 : decode cX0_init_ 14 = .ok (.aload_n 0, 1) := by decide +kernel
theorem dX0_init__15 : decode cX0_init_ 15 = .ok (.iload_n 3, 1) := by decide +kernel
theorem dX0_init__16 : decode cX0_init_ 16 = .ok (.putfield 17, 3) := by decide +kernel
theorem dX0_init__19 : decode cX0_init_ 19 = .ok (.aload_n 0, 1) := by decide +kernel
theorem dX0_init__20 : decode cX0_init_ 20 = .ok (.iload 4, 2) := by decide +kernel
theorem dX0_init__22 : decode cX0_init_ 22 = .ok (.putfield 20, 3) := by decide +kernel
theorem dX0_init__25 : decode cX0_init_ 25 = .ok (.aload_n 0, 1) := by decide +kernel
theorem dX0_init__26 : decode cX0_init_ 26 = .ok (.iload 5, 2) := by decide +kernel
theorem dX0_init__28 : decode cX0_init_ 28 = .ok (.putfield 23, 3) := by decide +kernel
theorem dX0_init__31 : decode cX0_init_ 31 = .ok (.aload_n 0, 1) := by decide +kernel
theorem dX0_init__32 : decode cX0_init_ 32 = .ok (.iload 6, 2) := by decide +kernel
theorem dX0_init__34 : decode cX0_init_ 34 = .ok (.putfield 26, 3) := by decide +kernel
theorem dX0_init__37 : decode cX0_init_ 37 = .ok (.return_, 1) := by decide +kernel
theorem dX1_init_0 : decode cX1_init 0 = .ok (.aload_n 0, 1) := by decide +kernel
theorem dX1_init_1 : decode cX1_init 1 = .ok (.invokespecial 3, 3) := by decide +kernel
theorem dX1_init_4 : decode cX1_init 4 = .ok (.aload_n 0, 1) := by decide +kernel
theorem dX1_init_5 : decode cX1_init 5 = .ok (.aload_n 1, 1) := by decide +kernel
theorem dX1_init_6 : decode cX1_init 6 = .ok (.putfield 9, 3) := by decide +kernel
theorem dX1_init_9 : decode cX1_init 9 = .ok (.aload_n 0, 1) := by decide +kernel
theorem dX1_init_10 : decode cX1_init 10 = .ok (.aload_n 2, 1) := by decide +kernel
theorem dX1_init_11 : decode cX1_init 11 = .ok (.putfield 15, 3) := by decide +kernel
theorem dX1_init_14 : decode cX1_init 14 = .ok (.aload_n 0, 1) := by decide +kernel
theorem dX1_init_15 : decode cX1_init 15 = .ok (.aload_n 3, 1) := by decide +kernel
theorem dX1_init_16 : decode cX1_init 16 = .ok (.putfield 19, 3) := by decide +kernel
theorem dX1_init_19 : decode cX1_init 19 = .ok (.aload_n 0, 1) := by decide +kernel
theorem dX1_init_20 : decode cX1_init 20 = .ok (.new 23, 3) := by decide +kernel
theorem dX1_init_23 : decode cX1_init 23 = .ok (.dup, 1) := by decide +kernel
theorem dX1_init_24 : decode cX1_init 24 = .ok (.invokespecial 25, 3) := by decide +kernel
theorem dX1_init_27 : decode cX1_init 27 = .ok (.putfield 26, 3) := by decide +kernel
theorem dX1_init_30 : decode cX1_init 30 = .ok (.aload_n 0, 1) := by decide +kernel
theorem dX1_init_31 : decode cX1_init 31 = .ok (.new 30, 3) := by decide +kernel
theorem dX1_init_34 : decode cX1_init 34 = .ok (.dup, 1) := by decide +kernel
theorem dX1_init_35 : decode cX1_init 35 = .ok (.invokespecial 32, 3) := by decide +kernel
theorem dX1_init_38 : decode cX1_init 38 = .ok (.putfield 33, 3) := by decide +kernel
theorem dX1_init_41 : decode cX1_init 41 = .ok (.return_, 1) := by decide +kernel
theorem dX1_invite_0 : decode cX1_invite 0 = .ok (.aload_n 0, 1) := by decide +kernel
theorem dX1_invite_1 : decode cX1_invite 1 = .ok (.iload_n 1, 1) := by decide +kernel
theorem dX1_invite_2 : decode cX1_invite 2 = .ok (.putfield 37, 3) := by decide +kernel
theorem dX1_invite_5 : decode cX1_invite 5 = .ok (.aload_n 0, 1) := by decide +kernel
theorem dX1_invite_6 : decode cX1_invite 6 = .ok (.iload_n 2, 1) := by decide +kernel
theorem dX1_invite_7 : decode cX1_invite 7 = .ok (.putfield 41, 3) := by decide +kernel
theorem dX1_invite_10 : decode cX1_invite 10 = .ok (.aload_n 0, 1) := by decide +kernel
theorem dX1_invite_11 : decode cX1_invite 11 = .ok (.iload_n 3, 1) := by decide +kernel
theorem dX1_invite_12 : decode cX1_invite 12 = .ok (.putfield 44, 3) := by decide +kernel
theorem dX1_invite_15 : decode cX1_invite 15 = .ok (.aload_n 0, 1) := by decide +kernel
theorem dX1_invite_16 : decode cX1_invite 16 = .ok (.getfield 33, 3) := by decide +kernel
theorem dX1_invite_19 : decode cX1_invite 19 = .ok (.iload_n 2, 1) := by decide +kernel
theorem dX1_invite_20 : decode cX1_invite 20 = .ok (.iload_n 3, 1) := by decide +kernel
theorem dX1_invite_21 : decode cX1_invite 21 = .ok (.invokevirtual 47, 3) := by decide +kernel
theorem dX1_invite_24 : decode cX1_invite 24 = .ok (.return_, 1) := by decide +kernel
theorem dX1_choose_0 : decode cX1_choose 0 = .ok (.aload_n 0, 1) := by decide +kernel
theorem dX1_choose_1 : decode cX1_choose 1 = .ok (.iload_n 1, 1) := by decide +kernel
theorem dX1_choose_2 : decode cX1_choose 2 = .ok (.putfield 51, 3) := by decide +kernel
theorem dX1_choose_5 : decode cX1_choose 5 = .ok (.aload_n 0, 1) := by decide +kernel
theorem dX1_choose_6 : decode cX1_choose 6 = .ok (.aload_n 2, 1) := by decide +kernel
theorem dX1_choose_7 : decode cX1_choose 7 = .ok (.putfield 19, 3) := by decide +kernel
theorem dX1_choose_10 : decode cX1_choose 10 = .ok (.aload_n 0, 1) := by decide +kernel
theorem dX1_choose_11 : decode cX1_choose 11 = .ok (.iload_n 3, 1) := by decide +kernel
theorem dX1_choose_12 : decode cX1_choose 12 = .ok (.putfield 54, 3) := by decide +kernel
theorem dX1_choose_15 : decode cX1_choose 15 = .ok (.aload_n 0, 1) := by decide +kernel
theorem dX1_choose_16 : decode cX1_choose 16 = .ok (.iconst 0, 1) := by decide +kernel
theorem dX1_choose_17 : decode cX1_choose 17 = .ok (.putfield 57, 3) := by decide +kernel
theorem dX1_choose_20 : decode cX1_choose 20 = .ok (.aload_n 0, 1) := by decide +kernel
theorem dX1_choose_21 : decode cX1_choose 21 = .ok (.getfield 26, 3) := by decide +kernel
theorem dX1_choose_24 : decode cX1_choose 24 = .ok (.invokevirtual 60, 3) := by decide +kernel
theorem dX1_choose_27 : decode cX1_choose 27 = .ok (.aload_n 0, 1) := by decide +kernel
theorem dX1_choose_28 : decode cX1_choose 28 = .ok (.iconst 0, 1) := by decide +kernel
theorem dX1_choose_29 : decode cX1_choose 29 = .ok (.invokevirtual 63, 3) := by decide +kernel
theorem dX1_choose_32 : decode cX1_choose 32 = .ok (.return_, 1) := by decide +kernel
theorem dX1_tell_0 : decode cX1_tell 0 = .ok (.aload_n 0, 1) := by decide +kernel
theorem dX1_tell_1 : decode cX1_tell 1 = .ok (.getfield 57, 3) := by decide +kernel
theorem dX1_tell_4 : decode cX1_tell 4 = .ok (.ifCond .ne 5, 3) := by decide +kernel
theorem dX1_tell_7 : decode cX1_tell 7 = .ok (.iconst (-1), 1) := by decide +kernel
theorem dX1_tell_8 : decode cX1_tell 8 = .ok (.ireturn, 1) := by decide +kernel
theorem dX1_tell_9 : decode cX1_tell 9 = .ok (.iload_n 1, 1) := by decide +kernel
theorem dX1_tell_10 : decode cX1_tell 10 = .ok (.tableswitch 50 0 3 #[30, 35, 40, 45], 30) := by decide +kernel
theorem dX1_tell_40 : decode cX1_tell 40 = .ok (.aload_n 0, 1) := by decide +kernel
theorem dX1_tell_41 : decode cX1_tell 41 = .ok (.getfield 67, 3) := by decide +kernel
theorem dX1_tell_44 : decode cX1_tell 44 = .ok (.ireturn, 1) := by decide +kernel
theorem dX1_tell_45 : decode cX1_tell 45 = .ok (.aload_n 0, 1) := by decide +kernel
theorem dX1_tell_46 : decode cX1_tell 46 = .ok (.getfield 70, 3) := by decide +kernel
theorem dX1_tell_49 : decode cX1_tell 49 = .ok (.ireturn, 1) := by decide +kernel
theorem dX1_tell_50 : decode cX1_tell 50 = .ok (.aload_n 0, 1) := by decide +kernel
theorem dX1_tell_51 : decode cX1_tell 51 = .ok (.getfield 73, 3) := by decide +kernel
theorem dX1_tell_54 : decode cX1_tell 54 = .ok (.ireturn, 1) := by decide +kernel
theorem dX1_tell_55 : decode cX1_tell 55 = .ok (.aload_n 0, 1) := by decide +kernel
theorem dX1_tell_56 : decode cX1_tell 56 = .ok (.getfield 57, 3) := by decide +kernel
theorem dX1_tell_59 : decode cX1_tell 59 = .ok (.ireturn, 1) := by decide +kernel
theorem dX1_tell_60 : decode cX1_tell 60 = .ok (.iconst (-1), 1) := by decide +kernel
theorem dX1_tell_61 : decode cX1_tell 61 = .ok (.ireturn, 1) := by decide +kernel
theorem dX1_layFrom_0 : decode cX1_layFrom 0 = .ok (.iload_n 1, 1) := by decide +kernel
theorem dX1_layFrom_1 : decode cX1_layFrom 1 = .ok (.iconst 5, 1) := by decide +kernel
theorem dX1_layFrom_2 : decode cX1_layFrom 2 = .ok (.if_icmp .lt 10, 3) := by decide +kernel
theorem dX1_layFrom_5 : decode cX1_layFrom 5 = .ok (.aload_n 0, 1) := by decide +kernel
theorem dX1_layFrom_6 : decode cX1_layFrom 6 = .ok (.invokevirtual 76, 3) := by decide +kernel
theorem dX1_layFrom_9 : decode cX1_layFrom 9 = .ok (.goto 102, 3) := by decide +kernel
theorem dX1_layFrom_12 : decode cX1_layFrom 12 = .ok (.aload_n 0, 1) := by decide +kernel
theorem dX1_layFrom_13 : decode cX1_layFrom 13 = .ok (.getfield 51, 3) := by decide +kernel
theorem dX1_layFrom_16 : decode cX1_layFrom 16 = .ok (.iload_n 1, 1) := by decide +kernel
theorem dX1_layFrom_17 : decode cX1_layFrom 17 = .ok (.ishr, 1) := by decide +kernel
theorem dX1_layFrom_18 : decode cX1_layFrom 18 = .ok (.iconst 1, 1) := by decide +kernel
theorem dX1_layFrom_19 : decode cX1_layFrom 19 = .ok (.iand, 1) := by decide +kernel
theorem dX1_layFrom_20 : decode cX1_layFrom 20 = .ok (.ifCond .ne 13, 3) := by decide +kernel
theorem dX1_layFrom_23 : decode cX1_layFrom 23 = .ok (.aload_n 0, 1) := by decide +kernel
theorem dX1_layFrom_24 : decode cX1_layFrom 24 = .ok (.iload_n 1, 1) := by decide +kernel
theorem dX1_layFrom_25 : decode cX1_layFrom 25 = .ok (.iconst 1, 1) := by decide +kernel
theorem dX1_layFrom_26 : decode cX1_layFrom 26 = .ok (.iadd, 1) := by decide +kernel
theorem dX1_layFrom_27 : decode cX1_layFrom 27 = .ok (.invokevirtual 63, 3) := by decide +kernel
theorem dX1_layFrom_30 : decode cX1_layFrom 30 = .ok (.goto 81, 3) := by decide +kernel
theorem dX1_layFrom_33 : decode cX1_layFrom 33 = .ok (.iconst 0, 1) := by decide +kernel
theorem dX1_layFrom_34 : decode cX1_layFrom 34 = .ok (.istore_n 2, 1) := by decide +kernel
theorem dX1_layFrom_35 : decode cX1_layFrom 35 = .ok (.iload_n 2, 1) := by decide +kernel
theorem dX1_layFrom_36 : decode cX1_layFrom 36 = .ok (.aload_n 0, 1) := by decide +kernel
theorem dX1_layFrom_37 : decode cX1_layFrom 37 = .ok (.getfield 9, 3) := by decide +kernel
theorem dX1_layFrom_40 : decode cX1_layFrom 40 = .ok (.invokevirtual 79, 3) := by decide +kernel
theorem dX1_layFrom_43 : decode cX1_layFrom 43 = .ok (.if_icmp .ge 68, 3) := by decide +kernel
theorem dX1_layFrom_46 : decode cX1_layFrom 46 = .ok (.aload_n 0, 1) := by decide +kernel
theorem dX1_layFrom_47 : decode cX1_layFrom 47 = .ok (.getfield 9, 3) := by decide +kernel
theorem dX1_layFrom_50 : decode cX1_layFrom 50 = .ok (.iload_n 2, 1) := by decide +kernel
theorem dX1_layFrom_51 : decode cX1_layFrom 51 = .ok (.invokevirtual 85, 3) := by decide +kernel
theorem dX1_layFrom_54 : decode cX1_layFrom 54 = .ok (.astore_n 3, 1) := by decide +kernel
theorem dX1_layFrom_55 : decode cX1_layFrom 55 = .ok (.aload_n 3, 1) := by decide +kernel
theorem dX1_layFrom_56 : decode cX1_layFrom 56 = .ok (.ifnull 49, 3) := by decide +kernel
theorem dX1_layFrom_59 : decode cX1_layFrom 59 = .ok (.aload_n 3, 1) := by decide +kernel
theorem dX1_layFrom_60 : decode cX1_layFrom 60 = .ok (.getfield 89, 3) := by decide +kernel
theorem dX1_layFrom_63 : decode cX1_layFrom 63 = .ok (.iload_n 1, 1) := by decide +kernel
theorem dX1_layFrom_64 : decode cX1_layFrom 64 = .ok (.if_icmp .ne 41, 3) := by decide +kernel
theorem dX1_layFrom_67 : decode cX1_layFrom 67 = .ok (.aload_n 3, 1) := by decide +kernel
theorem dX1_layFrom_68 : decode cX1_layFrom 68 = .ok (.invokevirtual 94, 3) := by decide +kernel
theorem dX1_layFrom_71 : decode cX1_layFrom 71 = .ok (.aload_n 0, 1) := by decide +kernel
theorem dX1_layFrom_72 : decode cX1_layFrom 72 = .ok (.getfield 37, 3) := by decide +kernel
theorem dX1_layFrom_75 : decode cX1_layFrom 75 = .ok (.if_icmp .ne 30, 3) := by decide +kernel
theorem dX1_layFrom_78 : decode cX1_layFrom 78 = .ok (.aload_n 3, 1) := by decide +kernel
theorem dX1_layFrom_79 : decode cX1_layFrom 79 = .ok (.aload_n 0, 1) := by decide +kernel
theorem dX1_layFrom_80 : decode cX1_layFrom 80 = .ok (.getfield 41, 3) := by decide +kernel
theorem dX1_layFrom_83 : decode cX1_layFrom 83 = .ok (.invokevirtual 97, 3) := by decide +kernel
theorem dX1_layFrom_86 : decode cX1_layFrom 86 = .ok (.ifCond .eq 19, 3) := by decide +kernel
theorem dX1_layFrom_89 : decode cX1_layFrom 89 = .ok (.aload_n 0, 1) := by decide +kernel
theorem dX1_layFrom_90 : decode cX1_layFrom 90 = .ok (.getfield 26, 3) := by decide +kernel
theorem dX1_layFrom_93 : decode cX1_layFrom 93 = .ok (.iload_n 1, 1) := by decide +kernel
theorem dX1_layFrom_94 : decode cX1_layFrom 94 = .ok (.aload_n 3, 1) := by decide +kernel
theorem dX1_layFrom_95 : decode cX1_layFrom 95 = .ok (.invokevirtual 101, 3) := by decide +kernel
theorem dX1_layFrom_98 : decode cX1_layFrom 98 = .ok (.aload_n 0, 1) := by decide +kernel
theorem dX1_layFrom_99 : decode cX1_layFrom 99 = .ok (.iload_n 1, 1) := by decide +kernel
theorem dX1_layFrom_100 : decode cX1_layFrom 100 = .ok (.iconst 1, 1) := by decide +kernel
theorem dX1_layFrom_101 : decode cX1_layFrom 101 = .ok (.iadd, 1) := by decide +kernel
theorem dX1_layFrom_102 : decode cX1_layFrom 102 = .ok (.invokevirtual 63, 3) := by decide +kernel
theorem dX1_layFrom_105 : decode cX1_layFrom 105 = .ok (.iinc 2 1, 3) := by decide +kernel
theorem dX1_layFrom_108 : decode cX1_layFrom 108 = .ok (.goto (-73), 3) := by decide +kernel
theorem dX1_layFrom_111 : decode cX1_layFrom 111 = .ok (.return_, 1) := by decide +kernel
theorem dX1_judge_0 : decode cX1_judge 0 = .ok (.aload_n 0, 1) := by decide +kernel
theorem dX1_judge_1 : decode cX1_judge 1 = .ok (.getfield 33, 3) := by decide +kernel
theorem dX1_judge_4 : decode cX1_judge 4 = .ok (.aload_n 0, 1) := by decide +kernel
theorem dX1_judge_5 : decode cX1_judge 5 = .ok (.getfield 26, 3) := by decide +kernel
theorem dX1_judge_8 : decode cX1_judge 8 = .ok (.aload_n 0, 1) := by decide +kernel
theorem dX1_judge_9 : decode cX1_judge 9 = .ok (.getfield 54, 3) := by decide +kernel
theorem dX1_judge_12 : decode cX1_judge 12 = .ok (.invokevirtual 105, 3) := by decide +kernel
theorem dX1_judge_15 : decode cX1_judge 15 = .ok (.aload_n 0, 1) := by decide +kernel
theorem dX1_judge_16 : decode cX1_judge 16 = .ok (.getfield 19, 3) := by decide +kernel
theorem dX1_judge_19 : decode cX1_judge 19 = .ok (.aload_n 0, 1) := by decide +kernel
theorem dX1_judge_20 : decode cX1_judge 20 = .ok (.getfield 33, 3) := by decide +kernel
theorem dX1_judge_23 : decode cX1_judge 23 = .ok (.invokevirtual 109, 3) := by decide +kernel
theorem dX1_judge_26 : decode cX1_judge 26 = .ok (.iconst (-1), 1) := by decide +kernel
theorem dX1_judge_27 : decode cX1_judge 27 = .ok (.if_icmp .eq 4, 3) := by decide +kernel
theorem dX1_judge_30 : decode cX1_judge 30 = .ok (.return_, 1) := by decide +kernel
theorem dX1_judge_31 : decode cX1_judge 31 = .ok (.aload_n 0, 1) := by decide +kernel
theorem dX1_judge_32 : decode cX1_judge 32 = .ok (.dup, 1) := by decide +kernel
theorem dX1_judge_33 : decode cX1_judge 33 = .ok (.getfield 57, 3) := by decide +kernel
theorem dX1_judge_36 : decode cX1_judge 36 = .ok (.iconst 1, 1) := by decide +kernel
theorem dX1_judge_37 : decode cX1_judge 37 = .ok (.iadd, 1) := by decide +kernel
theorem dX1_judge_38 : decode cX1_judge 38 = .ok (.putfield 57, 3) := by decide +kernel
theorem dX1_judge_41 : decode cX1_judge 41 = .ok (.aload_n 0, 1) := by decide +kernel
theorem dX1_judge_42 : decode cX1_judge 42 = .ok (.getfield 15, 3) := by decide +kernel
theorem dX1_judge_45 : decode cX1_judge 45 = .ok (.aload_n 0, 1) := by decide +kernel
theorem dX1_judge_46 : decode cX1_judge 46 = .ok (.getfield 44, 3) := by decide +kernel
theorem dX1_judge_49 : decode cX1_judge 49 = .ok (.aload_n 0, 1) := by decide +kernel
theorem dX1_judge_50 : decode cX1_judge 50 = .ok (.getfield 26, 3) := by decide +kernel
theorem dX1_judge_53 : decode cX1_judge 53 = .ok (.invokevirtual 115, 3) := by decide +kernel
theorem dX1_judge_56 : decode cX1_judge 56 = .ok (.istore_n 1, 1) := by decide +kernel
theorem dX1_judge_57 : decode cX1_judge 57 = .ok (.aload_n 0, 1) := by decide +kernel
theorem dX1_judge_58 : decode cX1_judge 58 = .ok (.getfield 26, 3) := by decide +kernel
theorem dX1_judge_61 : decode cX1_judge 61 = .ok (.invokevirtual 121, 3) := by decide +kernel
theorem dX1_judge_64 : decode cX1_judge 64 = .ok (.istore_n 2, 1) := by decide +kernel
theorem dX1_judge_65 : decode cX1_judge 65 = .ok (.aload_n 0, 1) := by decide +kernel
theorem dX1_judge_66 : decode cX1_judge 66 = .ok (.getfield 57, 3) := by decide +kernel
theorem dX1_judge_69 : decode cX1_judge 69 = .ok (.iconst 1, 1) := by decide +kernel
theorem dX1_judge_70 : decode cX1_judge 70 = .ok (.if_icmp .eq 27, 3) := by decide +kernel
theorem dX1_judge_73 : decode cX1_judge 73 = .ok (.iload_n 1, 1) := by decide +kernel
theorem dX1_judge_74 : decode cX1_judge 74 = .ok (.aload_n 0, 1) := by decide +kernel
theorem dX1_judge_75 : decode cX1_judge 75 = .ok (.getfield 70, 3) := by decide +kernel
theorem dX1_judge_78 : decode cX1_judge 78 = .ok (.if_icmp .lt 19, 3) := by decide +kernel
theorem dX1_judge_81 : decode cX1_judge 81 = .ok (.iload_n 1, 1) := by decide +kernel
theorem dX1_judge_82 : decode cX1_judge 82 = .ok (.aload_n 0, 1) := by decide +kernel
theorem dX1_judge_83 : decode cX1_judge 83 = .ok (.getfield 70, 3) := by decide +kernel
theorem dX1_judge_86 : decode cX1_judge 86 = .ok (.if_icmp .ne 32, 3) := by decide +kernel
theorem dX1_judge_89 : decode cX1_judge 89 = .ok (.iload_n 2, 1) := by decide +kernel
theorem dX1_judge_90 : decode cX1_judge 90 = .ok (.aload_n 0, 1) := by decide +kernel
theorem dX1_judge_91 : decode cX1_judge 91 = .ok (.getfield 73, 3) := by decide +kernel
theorem dX1_judge_94 : decode cX1_judge 94 = .ok (.if_icmp .le 24, 3) := by decide +kernel
theorem dX1_judge_97 : decode cX1_judge 97 = .ok (.aload_n 0, 1) := by decide +kernel
theorem dX1_judge_98 : decode cX1_judge 98 = .ok (.aload_n 0, 1) := by decide +kernel
theorem dX1_judge_99 : decode cX1_judge 99 = .ok (.getfield 26, 3) := by decide +kernel
theorem dX1_judge_102 : decode cX1_judge 102 = .ok (.invokevirtual 124, 3) := by decide +kernel
theorem dX1_judge_105 : decode cX1_judge 105 = .ok (.putfield 67, 3) := by decide +kernel
theorem dX1_judge_108 : decode cX1_judge 108 = .ok (.aload_n 0, 1) := by decide +kernel
theorem dX1_judge_109 : decode cX1_judge 109 = .ok (.iload_n 1, 1) := by decide +kernel
theorem dX1_judge_110 : decode cX1_judge 110 = .ok (.putfield 70, 3) := by decide +kernel
theorem dX1_judge_113 : decode cX1_judge 113 = .ok (.aload_n 0, 1) := by decide +kernel
theorem dX1_judge_114 : decode cX1_judge 114 = .ok (.iload_n 2, 1) := by decide +kernel
theorem dX1_judge_115 : decode cX1_judge 115 = .ok (.putfield 73, 3) := by decide +kernel
theorem dX1_judge_118 : decode cX1_judge 118 = .ok (.return_, 1) := by decide +kernel
theorem dX2_init_0 : decode cX2_init 0 = .ok (.aload_n 0, 1) := by decide +kernel
theorem dX2_init_1 : decode cX2_init 1 = .ok (.invokespecial 5, 3) := by decide +kernel
theorem dX2_init_4 : decode cX2_init 4 = .ok (.aload_n 0, 1) := by decide +kernel
theorem dX2_init_5 : decode cX2_init 5 = .ok (.bipush 22, 2) := by decide +kernel
theorem dX2_init_7 : decode cX2_init 7 = .ok (.newarray .int, 2) := by decide +kernel
theorem dX2_init_9 : decode cX2_init 9 = .ok (.putfield 11, 3) := by decide +kernel
theorem dX2_init_12 : decode cX2_init 12 = .ok (.return_, 1) := by decide +kernel
theorem dX2_tellParty_0 : decode cX2_tellParty 0 = .ok (.aload_n 0, 1) := by decide +kernel
theorem dX2_tellParty_1 : decode cX2_tellParty 1 = .ok (.getfield 11, 3) := by decide +kernel
theorem dX2_tellParty_4 : decode cX2_tellParty 4 = .ok (.iconst 0, 1) := by decide +kernel
theorem dX2_tellParty_5 : decode cX2_tellParty 5 = .ok (.iload_n 1, 1) := by decide +kernel
theorem dX2_tellParty_6 : decode cX2_tellParty 6 = .ok (.iastore, 1) := by decide +kernel
theorem dX2_tellParty_7 : decode cX2_tellParty 7 = .ok (.aload_n 0, 1) := by decide +kernel
theorem dX2_tellParty_8 : decode cX2_tellParty 8 = .ok (.getfield 11, 3) := by decide +kernel
theorem dX2_tellParty_11 : decode cX2_tellParty 11 = .ok (.iconst 1, 1) := by decide +kernel
theorem dX2_tellParty_12 : decode cX2_tellParty 12 = .ok (.iload_n 2, 1) := by decide +kernel
theorem dX2_tellParty_13 : decode cX2_tellParty 13 = .ok (.invokestatic 15, 3) := by decide +kernel
theorem dX2_tellParty_16 : decode cX2_tellParty 16 = .ok (.iastore, 1) := by decide +kernel
theorem dX2_tellParty_17 : decode cX2_tellParty 17 = .ok (.return_, 1) := by decide +kernel
theorem dX2_tellSet_0 : decode cX2_tellSet 0 = .ok (.iconst 0, 1) := by decide +kernel
theorem dX2_tellSet_1 : decode cX2_tellSet 1 = .ok (.istore_n 3, 1) := by decide +kernel
theorem dX2_tellSet_2 : decode cX2_tellSet 2 = .ok (.iload_n 3, 1) := by decide +kernel
theorem dX2_tellSet_3 : decode cX2_tellSet 3 = .ok (.iconst 5, 1) := by decide +kernel
theorem dX2_tellSet_4 : decode cX2_tellSet 4 = .ok (.if_icmp .ge 105, 3) := by decide +kernel
theorem dX2_tellSet_7 : decode cX2_tellSet 7 = .ok (.aload_n 1, 1) := by decide +kernel
theorem dX2_tellSet_8 : decode cX2_tellSet 8 = .ok (.iload_n 3, 1) := by decide +kernel
theorem dX2_tellSet_9 : decode cX2_tellSet 9 = .ok (.invokevirtual 21, 3) := by decide +kernel
theorem dX2_tellSet_12 : decode cX2_tellSet 12 = .ok (.astore 4, 2) := by decide +kernel
theorem dX2_tellSet_14 : decode cX2_tellSet 14 = .ok (.aload_n 0, 1) := by decide +kernel
theorem dX2_tellSet_15 : decode cX2_tellSet 15 = .ok (.getfield 11, 3) := by decide +kernel
theorem dX2_tellSet_18 : decode cX2_tellSet 18 = .ok (.iconst 2, 1) := by decide +kernel
theorem dX2_tellSet_19 : decode cX2_tellSet 19 = .ok (.iload_n 3, 1) := by decide +kernel
theorem dX2_tellSet_20 : decode cX2_tellSet 20 = .ok (.iadd, 1) := by decide +kernel
theorem dX2_tellSet_21 : decode cX2_tellSet 21 = .ok (.aload 4, 2) := by decide +kernel
theorem dX2_tellSet_23 : decode cX2_tellSet 23 = .ok (.ifnonnull 7, 3) := by decide +kernel
theorem dX2_tellSet_26 : decode cX2_tellSet 26 = .ok (.iconst 0, 1) := by decide +kernel
theorem dX2_tellSet_27 : decode cX2_tellSet 27 = .ok (.goto 8, 3) := by decide +kernel
theorem dX2_tellSet_30 : decode cX2_tellSet 30 = .ok (.aload 4, 2) := by decide +kernel
theorem dX2_tellSet_32 : decode cX2_tellSet 32 = .ok (.getfield 27, 3) := by decide +kernel
theorem dX2_tellSet_35 : decode cX2_tellSet 35 = .ok (.iastore, 1) := by decide +kernel
theorem dX2_tellSet_36 : decode cX2_tellSet 36 = .ok (.aload_n 0, 1) := by decide +kernel
theorem dX2_tellSet_37 : decode cX2_tellSet 37 = .ok (.getfield 11, 3) := by decide +kernel
theorem dX2_tellSet_40 : decode cX2_tellSet 40 = .ok (.bipush 7, 2) := by decide +kernel
theorem dX2_tellSet_42 : decode cX2_tellSet 42 = .ok (.iload_n 3, 1) := by decide +kernel
theorem dX2_tellSet_43 : decode cX2_tellSet 43 = .ok (.iadd, 1) := by decide +kernel
theorem dX2_tellSet_44 : decode cX2_tellSet 44 = .ok (.aload 4, 2) := by decide +kernel
theorem dX2_tellSet_46 : decode cX2_tellSet 46 = .ok (.ifnonnull 7, 3) := by decide +kernel
theorem dX2_tellSet_49 : decode cX2_tellSet 49 = .ok (.iconst 0, 1) := by decide +kernel
theorem dX2_tellSet_50 : decode cX2_tellSet 50 = .ok (.goto 8, 3) := by decide +kernel
theorem dX2_tellSet_53 : decode cX2_tellSet 53 = .ok (.aload 4, 2) := by decide +kernel
theorem dX2_tellSet_55 : decode cX2_tellSet 55 = .ok (.getfield 33, 3) := by decide +kernel
theorem dX2_tellSet_58 : decode cX2_tellSet 58 = .ok (.iastore, 1) := by decide +kernel
theorem dX2_tellSet_59 : decode cX2_tellSet 59 = .ok (.aload_n 0, 1) := by decide +kernel
theorem dX2_tellSet_60 : decode cX2_tellSet 60 = .ok (.getfield 11, 3) := by decide +kernel
theorem dX2_tellSet_63 : decode cX2_tellSet 63 = .ok (.bipush 12, 2) := by decide +kernel
theorem dX2_tellSet_65 : decode cX2_tellSet 65 = .ok (.iload_n 3, 1) := by decide +kernel
theorem dX2_tellSet_66 : decode cX2_tellSet 66 = .ok (.iadd, 1) := by decide +kernel
theorem dX2_tellSet_67 : decode cX2_tellSet 67 = .ok (.aload 4, 2) := by decide +kernel
theorem dX2_tellSet_69 : decode cX2_tellSet 69 = .ok (.ifnonnull 7, 3) := by decide +kernel
theorem dX2_tellSet_72 : decode cX2_tellSet 72 = .ok (.iconst 0, 1) := by decide +kernel
theorem dX2_tellSet_73 : decode cX2_tellSet 73 = .ok (.goto 10, 3) := by decide +kernel
theorem dX2_tellSet_76 : decode cX2_tellSet 76 = .ok (.iload_n 2, 1) := by decide +kernel
theorem dX2_tellSet_77 : decode cX2_tellSet 77 = .ok (.aload 4, 2) := by decide +kernel
theorem dX2_tellSet_79 : decode cX2_tellSet 79 = .ok (.getfield 36, 3) := by decide +kernel
theorem dX2_tellSet_82 : decode cX2_tellSet 82 = .ok (.isub, 1) := by decide +kernel
theorem dX2_tellSet_83 : decode cX2_tellSet 83 = .ok (.iastore, 1) := by decide +kernel
theorem dX2_tellSet_84 : decode cX2_tellSet 84 = .ok (.aload_n 0, 1) := by decide +kernel
theorem dX2_tellSet_85 : decode cX2_tellSet 85 = .ok (.getfield 11, 3) := by decide +kernel
theorem dX2_tellSet_88 : decode cX2_tellSet 88 = .ok (.bipush 17, 2) := by decide +kernel
theorem dX2_tellSet_90 : decode cX2_tellSet 90 = .ok (.iload_n 3, 1) := by decide +kernel
theorem dX2_tellSet_91 : decode cX2_tellSet 91 = .ok (.iadd, 1) := by decide +kernel
theorem dX2_tellSet_92 : decode cX2_tellSet 92 = .ok (.aload 4, 2) := by decide +kernel
theorem dX2_tellSet_94 : decode cX2_tellSet 94 = .ok (.ifnonnull 7, 3) := by decide +kernel
theorem dX2_tellSet_97 : decode cX2_tellSet 97 = .ok (.iconst 0, 1) := by decide +kernel
theorem dX2_tellSet_98 : decode cX2_tellSet 98 = .ok (.goto 4, 3) := by decide +kernel
theorem dX2_tellSet_101 : decode cX2_tellSet 101 = .ok (.iconst 1, 1) := by decide +kernel
theorem dX2_tellSet_102 : decode cX2_tellSet 102 = .ok (.iastore, 1) := by decide +kernel
theorem dX2_tellSet_103 : decode cX2_tellSet 103 = .ok (.iinc 3 1, 3) := by decide +kernel
theorem dX2_tellSet_106 : decode cX2_tellSet 106 = .ok (.goto (-104), 3) := by decide +kernel
theorem dX2_tellSet_109 : decode cX2_tellSet 109 = .ok (.return_, 1) := by decide +kernel
theorem dX2_value_0 : decode cX2_value 0 = .ok (.iload_n 1, 1) := by decide +kernel
theorem dX2_value_1 : decode cX2_value 1 = .ok (.sipush 10000, 3) := by decide +kernel
theorem dX2_value_4 : decode cX2_value 4 = .ok (.isub, 1) := by decide +kernel
theorem dX2_value_5 : decode cX2_value 5 = .ok (.istore_n 2, 1) := by decide +kernel
theorem dX2_value_6 : decode cX2_value 6 = .ok (.iload_n 2, 1) := by decide +kernel
theorem dX2_value_7 : decode cX2_value 7 = .ok (.ifCond .lt 21, 3) := by decide +kernel
theorem dX2_value_10 : decode cX2_value 10 = .ok (.iload_n 2, 1) := by decide +kernel
theorem dX2_value_11 : decode cX2_value 11 = .ok (.aload_n 0, 1) := by decide +kernel
theorem dX2_value_12 : decode cX2_value 12 = .ok (.getfield 11, 3) := by decide +kernel
theorem dX2_value_15 : decode cX2_value 15 = .ok (.arraylength, 1) := by decide +kernel
theorem dX2_value_16 : decode cX2_value 16 = .ok (.if_icmp .ge 12, 3) := by decide +kernel
theorem dX2_value_19 : decode cX2_value 19 = .ok (.aload_n 0, 1) := by decide +kernel
theorem dX2_value_20 : decode cX2_value 20 = .ok (.getfield 11, 3) := by decide +kernel
theorem dX2_value_23 : decode cX2_value 23 = .ok (.iload_n 2, 1) := by decide +kernel
theorem dX2_value_24 : decode cX2_value 24 = .ok (.iaload, 1) := by decide +kernel
theorem dX2_value_25 : decode cX2_value 25 = .ok (.goto 4, 3) := by decide +kernel
theorem dX2_value_28 : decode cX2_value 28 = .ok (.iload_n 1, 1) := by decide +kernel
theorem dX2_value_29 : decode cX2_value 29 = .ok (.ireturn, 1) := by decide +kernel
theorem dX3_init_0 : decode cX3_init 0 = .ok (.aload_n 0, 1) := by decide +kernel
theorem dX3_init_1 : decode cX3_init 1 = .ok (.invokespecial 3, 3) := by decide +kernel
theorem dX3_init_4 : decode cX3_init 4 = .ok (.aload_n 0, 1) := by decide +kernel
theorem dX3_init_5 : decode cX3_init 5 = .ok (.iconst 5, 1) := by decide +kernel
theorem dX3_init_6 : decode cX3_init 6 = .ok (.bipush 60, 2) := by decide +kernel
theorem dX3_init_8 : decode cX3_init 8 = .ok (.multianewarray 11 2, 4) := by decide +kernel
theorem dX3_init_12 : decode cX3_init 12 = .ok (.putfield 13, 3) := by decide +kernel
theorem dX3_init_15 : decode cX3_init 15 = .ok (.aload_n 0, 1) := by decide +kernel
theorem dX3_init_16 : decode cX3_init 16 = .ok (.sipush 400, 3) := by decide +kernel
theorem dX3_init_19 : decode cX3_init 19 = .ok (.newarray .int, 2) := by decide +kernel
theorem dX3_init_21 : decode cX3_init 21 = .ok (.putfield 16, 3) := by decide +kernel
theorem dX3_init_24 : decode cX3_init 24 = .ok (.return_, 1) := by decide +kernel
theorem dX3_count_0 : decode cX3_count 0 = .ok (.aload_n 0, 1) := by decide +kernel
theorem dX3_count_1 : decode cX3_count 1 = .ok (.getfield 20, 3) := by decide +kernel
theorem dX3_count_4 : decode cX3_count 4 = .ok (.ireturn, 1) := by decide +kernel
theorem dX3_isFull_0 : decode cX3_isFull 0 = .ok (.aload_n 0, 1) := by decide +kernel
theorem dX3_isFull_1 : decode cX3_isFull 1 = .ok (.getfield 20, 3) := by decide +kernel
theorem dX3_isFull_4 : decode cX3_isFull 4 = .ok (.bipush 60, 2) := by decide +kernel
theorem dX3_isFull_6 : decode cX3_isFull 6 = .ok (.if_icmp .lt 7, 3) := by decide +kernel
theorem dX3_isFull_9 : decode cX3_isFull 9 = .ok (.iconst 1, 1) := by decide +kernel
theorem dX3_isFull_10 : decode cX3_isFull 10 = .ok (.goto 4, 3) := by decide +kernel
theorem dX3_isFull_13 : decode cX3_isFull 13 = .ok (.iconst 0, 1) := by decide +kernel
theorem dX3_isFull_14 : decode cX3_isFull 14 = .ok (.ireturn, 1) := by decide +kernel
theorem dX3_put_0 : decode cX3_put 0 = .ok (.aload_n 0, 1) := by decide +kernel
theorem dX3_put_1 : decode cX3_put 1 = .ok (.invokevirtual 24, 3) := by decide +kernel
theorem dX3_put_4 : decode cX3_put 4 = .ok (.ifCond .eq 5, 3) := by decide +kernel
theorem dX3_put_7 : decode cX3_put 7 = .ok (.iconst (-1), 1) := by decide +kernel
theorem dX3_put_8 : decode cX3_put 8 = .ok (.ireturn, 1) := by decide +kernel
theorem dX3_put_9 : decode cX3_put 9 = .ok (.aload_n 0, 1) := by decide +kernel
theorem dX3_put_10 : decode cX3_put 10 = .ok (.getfield 13, 3) := by decide +kernel
theorem dX3_put_13 : decode cX3_put 13 = .ok (.iconst 0, 1) := by decide +kernel
theorem dX3_put_14 : decode cX3_put 14 = .ok (.aaload, 1) := by decide +kernel
theorem dX3_put_15 : decode cX3_put 15 = .ok (.aload_n 0, 1) := by decide +kernel
theorem dX3_put_16 : decode cX3_put 16 = .ok (.getfield 20, 3) := by decide +kernel
theorem dX3_put_19 : decode cX3_put 19 = .ok (.iload_n 1, 1) := by decide +kernel
theorem dX3_put_20 : decode cX3_put 20 = .ok (.iastore, 1) := by decide +kernel
theorem dX3_put_21 : decode cX3_put 21 = .ok (.aload_n 0, 1) := by decide +kernel
theorem dX3_put_22 : decode cX3_put 22 = .ok (.getfield 13, 3) := by decide +kernel
theorem dX3_put_25 : decode cX3_put 25 = .ok (.iconst 1, 1) := by decide +kernel
theorem dX3_put_26 : decode cX3_put 26 = .ok (.aaload, 1) := by decide +kernel
theorem dX3_put_27 : decode cX3_put 27 = .ok (.aload_n 0, 1) := by decide +kernel
theorem dX3_put_28 : decode cX3_put 28 = .ok (.getfield 20, 3) := by decide +kernel
theorem dX3_put_31 : decode cX3_put 31 = .ok (.iload_n 2, 1) := by decide +kernel
theorem dX3_put_32 : decode cX3_put 32 = .ok (.iastore, 1) := by decide +kernel
theorem dX3_put_33 : decode cX3_put 33 = .ok (.aload_n 0, 1) := by decide +kernel
theorem dX3_put_34 : decode cX3_put 34 = .ok (.getfield 13, 3) := by decide +kernel
theorem dX3_put_37 : decode cX3_put 37 = .ok (.iconst 2, 1) := by decide +kernel
theorem dX3_put_38 : decode cX3_put 38 = .ok (.aaload, 1) := by decide +kernel
theorem dX3_put_39 : decode cX3_put 39 = .ok (.aload_n 0, 1) := by decide +kernel
theorem dX3_put_40 : decode cX3_put 40 = .ok (.getfield 20, 3) := by decide +kernel
theorem dX3_put_43 : decode cX3_put 43 = .ok (.iload_n 3, 1) := by decide +kernel
theorem dX3_put_44 : decode cX3_put 44 = .ok (.iastore, 1) := by decide +kernel
theorem dX3_put_45 : decode cX3_put 45 = .ok (.aload_n 0, 1) := by decide +kernel
theorem dX3_put_46 : decode cX3_put 46 = .ok (.getfield 13, 3) := by decide +kernel
theorem dX3_put_49 : decode cX3_put 49 = .ok (.iconst 3, 1) := by decide +kernel
theorem dX3_put_50 : decode cX3_put 50 = .ok (.aaload, 1) := by decide +kernel
theorem dX3_put_51 : decode cX3_put 51 = .ok (.aload_n 0, 1) := by decide +kernel
theorem dX3_put_52 : decode cX3_put 52 = .ok (.getfield 20, 3) := by decide +kernel
theorem dX3_put_55 : decode cX3_put 55 = .ok (.iload 4, 2) := by decide +kernel
theorem dX3_put_57 : decode cX3_put 57 = .ok (.iastore, 1) := by decide +kernel
theorem dX3_put_58 : decode cX3_put 58 = .ok (.aload_n 0, 1) := by decide +kernel
theorem dX3_put_59 : decode cX3_put 59 = .ok (.getfield 13, 3) := by decide +kernel
theorem dX3_put_62 : decode cX3_put 62 = .ok (.iconst 4, 1) := by decide +kernel
theorem dX3_put_63 : decode cX3_put 63 = .ok (.aaload, 1) := by decide +kernel
theorem dX3_put_64 : decode cX3_put 64 = .ok (.aload_n 0, 1) := by decide +kernel
theorem dX3_put_65 : decode cX3_put 65 = .ok (.getfield 20, 3) := by decide +kernel
theorem dX3_put_68 : decode cX3_put 68 = .ok (.aload 5, 2) := by decide +kernel
theorem dX3_put_70 : decode cX3_put 70 = .ok (.invokevirtual 28, 3) := by decide +kernel
theorem dX3_put_73 : decode cX3_put 73 = .ok (.iastore, 1) := by decide +kernel
theorem dX3_put_74 : decode cX3_put 74 = .ok (.aload_n 0, 1) := by decide +kernel
theorem dX3_put_75 : decode cX3_put 75 = .ok (.aload 5, 2) := by decide +kernel
theorem dX3_put_77 : decode cX3_put 77 = .ok (.iload 4, 2) := by decide +kernel
theorem dX3_put_79 : decode cX3_put 79 = .ok (.invokevirtual 34, 3) := by decide +kernel
theorem dX3_put_82 : decode cX3_put 82 = .ok (.aload_n 0, 1) := by decide +kernel
theorem dX3_put_83 : decode cX3_put 83 = .ok (.dup, 1) := by decide +kernel
theorem dX3_put_84 : decode cX3_put 84 = .ok (.getfield 20, 3) := by decide +kernel
theorem dX3_put_87 : decode cX3_put 87 = .ok (.iconst 1, 1) := by decide +kernel
theorem dX3_put_88 : decode cX3_put 88 = .ok (.iadd, 1) := by decide +kernel
theorem dX3_put_89 : decode cX3_put 89 = .ok (.putfield 20, 3) := by decide +kernel
theorem dX3_put_92 : decode cX3_put 92 = .ok (.aload_n 0, 1) := by decide +kernel
theorem dX3_put_93 : decode cX3_put 93 = .ok (.getfield 20, 3) := by decide +kernel
theorem dX3_put_96 : decode cX3_put 96 = .ok (.iconst 1, 1) := by decide +kernel
theorem dX3_put_97 : decode cX3_put 97 = .ok (.isub, 1) := by decide +kernel
theorem dX3_put_98 : decode cX3_put 98 = .ok (.ireturn, 1) := by decide +kernel
theorem dX3_tell_0 : decode cX3_tell 0 = .ok (.iload_n 1, 1) := by decide +kernel
theorem dX3_tell_1 : decode cX3_tell 1 = .ok (.ifCond .lt 31, 3) := by decide +kernel
theorem dX3_tell_4 : decode cX3_tell 4 = .ok (.iload_n 1, 1) := by decide +kernel
theorem dX3_tell_5 : decode cX3_tell 5 = .ok (.aload_n 0, 1) := by decide +kernel
theorem dX3_tell_6 : decode cX3_tell 6 = .ok (.getfield 20, 3) := by decide +kernel
theorem dX3_tell_9 : decode cX3_tell 9 = .ok (.if_icmp .ge 23, 3) := by decide +kernel
theorem dX3_tell_12 : decode cX3_tell 12 = .ok (.iload_n 2, 1) := by decide +kernel
theorem dX3_tell_13 : decode cX3_tell 13 = .ok (.ifCond .lt 19, 3) := by decide +kernel
theorem dX3_tell_16 : decode cX3_tell 16 = .ok (.iload_n 2, 1) := by decide +kernel
theorem dX3_tell_17 : decode cX3_tell 17 = .ok (.iconst 5, 1) := by decide +kernel
theorem dX3_tell_18 : decode cX3_tell 18 = .ok (.if_icmp .ge 14, 3) := by decide +kernel
theorem dX3_tell_21 : decode cX3_tell 21 = .ok (.aload_n 0, 1) := by decide +kernel
theorem dX3_tell_22 : decode cX3_tell 22 = .ok (.getfield 13, 3) := by decide +kernel
theorem dX3_tell_25 : decode cX3_tell 25 = .ok (.iload_n 2, 1) := by decide +kernel
theorem dX3_tell_26 : decode cX3_tell 26 = .ok (.aaload, 1) := by decide +kernel
theorem dX3_tell_27 : decode cX3_tell 27 = .ok (.iload_n 1, 1) := by decide +kernel
theorem dX3_tell_28 : decode cX3_tell 28 = .ok (.iaload, 1) := by decide +kernel
theorem dX3_tell_29 : decode cX3_tell 29 = .ok (.goto 4, 3) := by decide +kernel
theorem dX3_tell_32 : decode cX3_tell 32 = .ok (.iconst (-1), 1) := by decide +kernel
theorem dX3_tell_33 : decode cX3_tell 33 = .ok (.ireturn, 1) := by decide +kernel
theorem dX3_showPairs_0 : decode cX3_showPairs 0 = .ok (.iconst 0, 1) := by decide +kernel
theorem dX3_showPairs_1 : decode cX3_showPairs 1 = .ok (.istore_n 3, 1) := by decide +kernel
theorem dX3_showPairs_2 : decode cX3_showPairs 2 = .ok (.iload_n 3, 1) := by decide +kernel
theorem dX3_showPairs_3 : decode cX3_showPairs 3 = .ok (.iconst 5, 1) := by decide +kernel
theorem dX3_showPairs_4 : decode cX3_showPairs 4 = .ok (.if_icmp .ge 59, 3) := by decide +kernel
theorem dX3_showPairs_7 : decode cX3_showPairs 7 = .ok (.iload_n 3, 1) := by decide +kernel
theorem dX3_showPairs_8 : decode cX3_showPairs 8 = .ok (.iconst 1, 1) := by decide +kernel
theorem dX3_showPairs_9 : decode cX3_showPairs 9 = .ok (.iadd, 1) := by decide +kernel
theorem dX3_showPairs_10 : decode cX3_showPairs 10 = .ok (.istore 4, 2) := by decide +kernel
theorem dX3_showPairs_12 : decode cX3_showPairs 12 = .ok (.iload 4, 2) := by decide +kernel
theorem dX3_showPairs_14 : decode cX3_showPairs 14 = .ok (.iconst 5, 1) := by decide +kernel
theorem dX3_showPairs_15 : decode cX3_showPairs 15 = .ok (.if_icmp .ge 42, 3) := by decide +kernel
theorem dX3_showPairs_18 : decode cX3_showPairs 18 = .ok (.aload_n 1, 1) := by decide +kernel
theorem dX3_showPairs_19 : decode cX3_showPairs 19 = .ok (.iload_n 3, 1) := by decide +kernel
theorem dX3_showPairs_20 : decode cX3_showPairs 20 = .ok (.invokevirtual 38, 3) := by decide +kernel
theorem dX3_showPairs_23 : decode cX3_showPairs 23 = .ok (.aload_n 1, 1) := by decide +kernel
theorem dX3_showPairs_24 : decode cX3_showPairs 24 = .ok (.iload 4, 2) := by decide +kernel
theorem dX3_showPairs_26 : decode cX3_showPairs 26 = .ok (.invokevirtual 38, 3) := by decide +kernel
theorem dX3_showPairs_29 : decode cX3_showPairs 29 = .ok (.invokestatic 42, 3) := by decide +kernel
theorem dX3_showPairs_32 : decode cX3_showPairs 32 = .ok (.istore 5, 2) := by decide +kernel
theorem dX3_showPairs_34 : decode cX3_showPairs 34 = .ok (.iload 5, 2) := by decide +kernel
theorem dX3_showPairs_36 : decode cX3_showPairs 36 = .ok (.iconst (-1), 1) := by decide +kernel
theorem dX3_showPairs_37 : decode cX3_showPairs 37 = .ok (.if_icmp .eq 14, 3) := by decide +kernel
theorem dX3_showPairs_40 : decode cX3_showPairs 40 = .ok (.aload_n 0, 1) := by decide +kernel
theorem dX3_showPairs_41 : decode cX3_showPairs 41 = .ok (.getfield 16, 3) := by decide +kernel
theorem dX3_showPairs_44 : decode cX3_showPairs 44 = .ok (.iload 5, 2) := by decide +kernel
theorem dX3_showPairs_46 : decode cX3_showPairs 46 = .ok (.dup2, 1) := by decide +kernel
theorem dX3_showPairs_47 : decode cX3_showPairs 47 = .ok (.iaload, 1) := by decide +kernel
theorem dX3_showPairs_48 : decode cX3_showPairs 48 = .ok (.iload_n 2, 1) := by decide +kernel
theorem dX3_showPairs_49 : decode cX3_showPairs 49 = .ok (.ior, 1) := by decide +kernel
theorem dX3_showPairs_50 : decode cX3_showPairs 50 = .ok (.iastore, 1) := by decide +kernel
theorem dX3_showPairs_51 : decode cX3_showPairs 51 = .ok (.iinc 4 1, 3) := by decide +kernel
theorem dX3_showPairs_54 : decode cX3_showPairs 54 = .ok (.goto (-42), 3) := by decide +kernel
theorem dX3_showPairs_57 : decode cX3_showPairs 57 = .ok (.iinc 3 1, 3) := by decide +kernel
theorem dX3_showPairs_60 : decode cX3_showPairs 60 = .ok (.goto (-58), 3) := by decide +kernel
theorem dX3_showPairs_63 : decode cX3_showPairs 63 = .ok (.return_, 1) := by decide +kernel
theorem dX3_countWith_0 : decode cX3_countWith 0 = .ok (.iconst 0, 1) := by decide +kernel
theorem dX3_countWith_1 : decode cX3_countWith 1 = .ok (.istore_n 3, 1) := by decide +kernel
theorem dX3_countWith_2 : decode cX3_countWith 2 = .ok (.iconst 0, 1) := by decide +kernel
theorem dX3_countWith_3 : decode cX3_countWith 3 = .ok (.istore 4, 2) := by decide +kernel
theorem dX3_countWith_5 : decode cX3_countWith 5 = .ok (.iload 4, 2) := by decide +kernel
theorem dX3_countWith_7 : decode cX3_countWith 7 = .ok (.aload_n 0, 1) := by decide +kernel
theorem dX3_countWith_8 : decode cX3_countWith 8 = .ok (.getfield 20, 3) := by decide +kernel
theorem dX3_countWith_11 : decode cX3_countWith 11 = .ok (.if_icmp .ge 42, 3) := by decide +kernel
theorem dX3_countWith_14 : decode cX3_countWith 14 = .ok (.aload_n 0, 1) := by decide +kernel
theorem dX3_countWith_15 : decode cX3_countWith 15 = .ok (.getfield 13, 3) := by decide +kernel
theorem dX3_countWith_18 : decode cX3_countWith 18 = .ok (.iconst 3, 1) := by decide +kernel
theorem dX3_countWith_19 : decode cX3_countWith 19 = .ok (.aaload, 1) := by decide +kernel
theorem dX3_countWith_20 : decode cX3_countWith 20 = .ok (.iload 4, 2) := by decide +kernel
theorem dX3_countWith_22 : decode cX3_countWith 22 = .ok (.iaload, 1) := by decide +kernel
theorem dX3_countWith_23 : decode cX3_countWith 23 = .ok (.iload_n 1, 1) := by decide +kernel
theorem dX3_countWith_24 : decode cX3_countWith 24 = .ok (.iand, 1) := by decide +kernel
theorem dX3_countWith_25 : decode cX3_countWith 25 = .ok (.iload_n 1, 1) := by decide +kernel
theorem dX3_countWith_26 : decode cX3_countWith 26 = .ok (.if_icmp .ne 21, 3) := by decide +kernel
theorem dX3_countWith_29 : decode cX3_countWith 29 = .ok (.aload_n 0, 1) := by decide +kernel
theorem dX3_countWith_30 : decode cX3_countWith 30 = .ok (.getfield 13, 3) := by decide +kernel
theorem dX3_countWith_33 : decode cX3_countWith 33 = .ok (.iconst 4, 1) := by decide +kernel
theorem dX3_countWith_34 : decode cX3_countWith 34 = .ok (.aaload, 1) := by decide +kernel
theorem dX3_countWith_35 : decode cX3_countWith 35 = .ok (.iload 4, 2) := by decide +kernel
theorem dX3_countWith_37 : decode cX3_countWith 37 = .ok (.iaload, 1) := by decide +kernel
theorem dX3_countWith_38 : decode cX3_countWith 38 = .ok (.iload_n 2, 1) := by decide +kernel
theorem dX3_countWith_39 : decode cX3_countWith 39 = .ok (.iand, 1) := by decide +kernel
theorem dX3_countWith_40 : decode cX3_countWith 40 = .ok (.iload_n 2, 1) := by decide +kernel
theorem dX3_countWith_41 : decode cX3_countWith 41 = .ok (.if_icmp .ne 6, 3) := by decide +kernel
theorem dX3_countWith_44 : decode cX3_countWith 44 = .ok (.iinc 3 1, 3) := by decide +kernel
theorem dX3_countWith_47 : decode cX3_countWith 47 = .ok (.iinc 4 1, 3) := by decide +kernel
theorem dX3_countWith_50 : decode cX3_countWith 50 = .ok (.goto (-45), 3) := by decide +kernel
theorem dX3_countWith_53 : decode cX3_countWith 53 = .ok (.iload_n 3, 1) := by decide +kernel
theorem dX3_countWith_54 : decode cX3_countWith 54 = .ok (.ireturn, 1) := by decide +kernel
theorem dX3_sumAgain_0 : decode cX3_sumAgain 0 = .ok (.aload_n 0, 1) := by decide +kernel
theorem dX3_sumAgain_1 : decode cX3_sumAgain 1 = .ok (.iload_n 1, 1) := by decide +kernel
theorem dX3_sumAgain_2 : decode cX3_sumAgain 2 = .ok (.aload_n 2, 1) := by decide +kernel
theorem dX3_sumAgain_3 : decode cX3_sumAgain 3 = .ok (.invokevirtual 46, 3) := by decide +kernel
theorem dX3_sumAgain_6 : decode cX3_sumAgain 6 = .ok (.bipush 10, 2) := by decide +kernel
theorem dX3_sumAgain_8 : decode cX3_sumAgain 8 = .ok (.aload_n 0, 1) := by decide +kernel
theorem dX3_sumAgain_9 : decode cX3_sumAgain 9 = .ok (.iload_n 1, 1) := by decide +kernel
theorem dX3_sumAgain_10 : decode cX3_sumAgain 10 = .ok (.aload_n 2, 1) := by decide +kernel
theorem dX3_sumAgain_11 : decode cX3_sumAgain 11 = .ok (.invokevirtual 28, 3) := by decide +kernel
theorem dX3_sumAgain_14 : decode cX3_sumAgain 14 = .ok (.invokevirtual 50, 3) := by decide +kernel
theorem dX3_sumAgain_17 : decode cX3_sumAgain 17 = .ok (.imul, 1) := by decide +kernel
theorem dX3_sumAgain_18 : decode cX3_sumAgain 18 = .ok (.iadd, 1) := by decide +kernel
theorem dX3_sumAgain_19 : decode cX3_sumAgain 19 = .ok (.ireturn, 1) := by decide +kernel
theorem dX3_sumPairs_0 : decode cX3_sumPairs 0 = .ok (.iconst 0, 1) := by decide +kernel
theorem dX3_sumPairs_1 : decode cX3_sumPairs 1 = .ok (.istore_n 3, 1) := by decide +kernel
theorem dX3_sumPairs_2 : decode cX3_sumPairs 2 = .ok (.iconst 0, 1) := by decide +kernel
theorem dX3_sumPairs_3 : decode cX3_sumPairs 3 = .ok (.istore 4, 2) := by decide +kernel
theorem dX3_sumPairs_5 : decode cX3_sumPairs 5 = .ok (.iload 4, 2) := by decide +kernel
theorem dX3_sumPairs_7 : decode cX3_sumPairs 7 = .ok (.iconst 5, 1) := by decide +kernel
theorem dX3_sumPairs_8 : decode cX3_sumPairs 8 = .ok (.if_icmp .ge 65, 3) := by decide +kernel
theorem dX3_sumPairs_11 : decode cX3_sumPairs 11 = .ok (.iload 4, 2) := by decide +kernel
theorem dX3_sumPairs_13 : decode cX3_sumPairs 13 = .ok (.iconst 1, 1) := by decide +kernel
theorem dX3_sumPairs_14 : decode cX3_sumPairs 14 = .ok (.iadd, 1) := by decide +kernel
theorem dX3_sumPairs_15 : decode cX3_sumPairs 15 = .ok (.istore 5, 2) := by decide +kernel
theorem dX3_sumPairs_17 : decode cX3_sumPairs 17 = .ok (.iload 5, 2) := by decide +kernel
theorem dX3_sumPairs_19 : decode cX3_sumPairs 19 = .ok (.iconst 5, 1) := by decide +kernel
theorem dX3_sumPairs_20 : decode cX3_sumPairs 20 = .ok (.if_icmp .ge 47, 3) := by decide +kernel
theorem dX3_sumPairs_23 : decode cX3_sumPairs 23 = .ok (.aload_n 2, 1) := by decide +kernel
theorem dX3_sumPairs_24 : decode cX3_sumPairs 24 = .ok (.iload 4, 2) := by decide +kernel
theorem dX3_sumPairs_26 : decode cX3_sumPairs 26 = .ok (.invokevirtual 38, 3) := by decide +kernel
theorem dX3_sumPairs_29 : decode cX3_sumPairs 29 = .ok (.aload_n 2, 1) := by decide +kernel
theorem dX3_sumPairs_30 : decode cX3_sumPairs 30 = .ok (.iload 5, 2) := by decide +kernel
theorem dX3_sumPairs_32 : decode cX3_sumPairs 32 = .ok (.invokevirtual 38, 3) := by decide +kernel
theorem dX3_sumPairs_35 : decode cX3_sumPairs 35 = .ok (.invokestatic 42, 3) := by decide +kernel
theorem dX3_sumPairs_38 : decode cX3_sumPairs 38 = .ok (.istore 6, 2) := by decide +kernel
theorem dX3_sumPairs_40 : decode cX3_sumPairs 40 = .ok (.iload 6, 2) := by decide +kernel
theorem dX3_sumPairs_42 : decode cX3_sumPairs 42 = .ok (.iconst (-1), 1) := by decide +kernel
theorem dX3_sumPairs_43 : decode cX3_sumPairs 43 = .ok (.if_icmp .eq 18, 3) := by decide +kernel
theorem dX3_sumPairs_46 : decode cX3_sumPairs 46 = .ok (.iload_n 3, 1) := by decide +kernel
theorem dX3_sumPairs_47 : decode cX3_sumPairs 47 = .ok (.aload_n 0, 1) := by decide +kernel
theorem dX3_sumPairs_48 : decode cX3_sumPairs 48 = .ok (.getfield 16, 3) := by decide +kernel
theorem dX3_sumPairs_51 : decode cX3_sumPairs 51 = .ok (.iload 6, 2) := by decide +kernel
theorem dX3_sumPairs_53 : decode cX3_sumPairs 53 = .ok (.iaload, 1) := by decide +kernel
theorem dX3_sumPairs_54 : decode cX3_sumPairs 54 = .ok (.iload_n 1, 1) := by decide +kernel
theorem dX3_sumPairs_55 : decode cX3_sumPairs 55 = .ok (.iand, 1) := by decide +kernel
theorem dX3_sumPairs_56 : decode cX3_sumPairs 56 = .ok (.invokestatic 54, 3) := by decide +kernel
theorem dX3_sumPairs_59 : decode cX3_sumPairs 59 = .ok (.iadd, 1) := by decide +kernel
theorem dX3_sumPairs_60 : decode cX3_sumPairs 60 = .ok (.istore_n 3, 1) := by decide +kernel
theorem dX3_sumPairs_61 : decode cX3_sumPairs 61 = .ok (.iinc 5 1, 3) := by decide +kernel
theorem dX3_sumPairs_64 : decode cX3_sumPairs 64 = .ok (.goto (-47), 3) := by decide +kernel
theorem dX3_sumPairs_67 : decode cX3_sumPairs 67 = .ok (.iinc 4 1, 3) := by decide +kernel
theorem dX3_sumPairs_70 : decode cX3_sumPairs 70 = .ok (.goto (-65), 3) := by decide +kernel
theorem dX3_sumPairs_73 : decode cX3_sumPairs 73 = .ok (.iload_n 3, 1) := by decide +kernel
theorem dX3_sumPairs_74 : decode cX3_sumPairs 74 = .ok (.ireturn, 1) := by decide +kernel
theorem dX3_countSame_0 : decode cX3_countSame 0 = .ok (.iconst 0, 1) := by decide +kernel
theorem dX3_countSame_1 : decode cX3_countSame 1 = .ok (.istore_n 3, 1) := by decide +kernel
theorem dX3_countSame_2 : decode cX3_countSame 2 = .ok (.iconst 0, 1) := by decide +kernel
theorem dX3_countSame_3 : decode cX3_countSame 3 = .ok (.istore 4, 2) := by decide +kernel
theorem dX3_countSame_5 : decode cX3_countSame 5 = .ok (.iload 4, 2) := by decide +kernel
theorem dX3_countSame_7 : decode cX3_countSame 7 = .ok (.aload_n 0, 1) := by decide +kernel
theorem dX3_countSame_8 : decode cX3_countSame 8 = .ok (.getfield 20, 3) := by decide +kernel
theorem dX3_countSame_11 : decode cX3_countSame 11 = .ok (.if_icmp .ge 39, 3) := by decide +kernel
theorem dX3_countSame_14 : decode cX3_countSame 14 = .ok (.aload_n 0, 1) := by decide +kernel
theorem dX3_countSame_15 : decode cX3_countSame 15 = .ok (.getfield 13, 3) := by decide +kernel
theorem dX3_countSame_18 : decode cX3_countSame 18 = .ok (.iconst 4, 1) := by decide +kernel
theorem dX3_countSame_19 : decode cX3_countSame 19 = .ok (.aaload, 1) := by decide +kernel
theorem dX3_countSame_20 : decode cX3_countSame 20 = .ok (.iload 4, 2) := by decide +kernel
theorem dX3_countSame_22 : decode cX3_countSame 22 = .ok (.iaload, 1) := by decide +kernel
theorem dX3_countSame_23 : decode cX3_countSame 23 = .ok (.iload_n 2, 1) := by decide +kernel
theorem dX3_countSame_24 : decode cX3_countSame 24 = .ok (.if_icmp .ne 20, 3) := by decide +kernel
theorem dX3_countSame_27 : decode cX3_countSame 27 = .ok (.iload_n 3, 1) := by decide +kernel
theorem dX3_countSame_28 : decode cX3_countSame 28 = .ok (.aload_n 0, 1) := by decide +kernel
theorem dX3_countSame_29 : decode cX3_countSame 29 = .ok (.getfield 13, 3) := by decide +kernel
theorem dX3_countSame_32 : decode cX3_countSame 32 = .ok (.iconst 3, 1) := by decide +kernel
theorem dX3_countSame_33 : decode cX3_countSame 33 = .ok (.aaload, 1) := by decide +kernel
theorem dX3_countSame_34 : decode cX3_countSame 34 = .ok (.iload 4, 2) := by decide +kernel
theorem dX3_countSame_36 : decode cX3_countSame 36 = .ok (.iaload, 1) := by decide +kernel
theorem dX3_countSame_37 : decode cX3_countSame 37 = .ok (.iload_n 1, 1) := by decide +kernel
theorem dX3_countSame_38 : decode cX3_countSame 38 = .ok (.iand, 1) := by decide +kernel
theorem dX3_countSame_39 : decode cX3_countSame 39 = .ok (.invokestatic 54, 3) := by decide +kernel
theorem dX3_countSame_42 : decode cX3_countSame 42 = .ok (.iadd, 1) := by decide +kernel
theorem dX3_countSame_43 : decode cX3_countSame 43 = .ok (.istore_n 3, 1) := by decide +kernel
theorem dX3_countSame_44 : decode cX3_countSame 44 = .ok (.iinc 4 1, 3) := by decide +kernel
theorem dX3_countSame_47 : decode cX3_countSame 47 = .ok (.goto (-42), 3) := by decide +kernel
theorem dX3_countSame_50 : decode cX3_countSame 50 = .ok (.iload_n 3, 1) := by decide +kernel
theorem dX3_countSame_51 : decode cX3_countSame 51 = .ok (.ireturn, 1) := by decide +kernel
theorem dX3_pairOf_0 : decode cX3_pairOf 0 = .ok (.aload_n 0, 1) := by decide +kernel
theorem dX3_pairOf_1 : decode cX3_pairOf 1 = .ok (.ifnull 7, 3) := by decide +kernel
theorem dX3_pairOf_4 : decode cX3_pairOf 4 = .ok (.aload_n 1, 1) := by decide +kernel
theorem dX3_pairOf_5 : decode cX3_pairOf 5 = .ok (.ifnonnull 7, 3) := by decide +kernel
theorem dX3_pairOf_8 : decode cX3_pairOf 8 = .ok (.iconst (-1), 1) := by decide +kernel
theorem dX3_pairOf_9 : decode cX3_pairOf 9 = .ok (.goto 15, 3) := by decide +kernel
theorem dX3_pairOf_12 : decode cX3_pairOf 12 = .ok (.aload_n 0, 1) := by decide +kernel
theorem dX3_pairOf_13 : decode cX3_pairOf 13 = .ok (.getfield 60, 3) := by decide +kernel
theorem dX3_pairOf_16 : decode cX3_pairOf 16 = .ok (.bipush 20, 2) := by decide +kernel
theorem dX3_pairOf_18 : decode cX3_pairOf 18 = .ok (.imul, 1) := by decide +kernel
theorem dX3_pairOf_19 : decode cX3_pairOf 19 = .ok (.aload_n 1, 1) := by decide +kernel
theorem dX3_pairOf_20 : decode cX3_pairOf 20 = .ok (.getfield 60, 3) := by decide +kernel
theorem dX3_pairOf_23 : decode cX3_pairOf 23 = .ok (.iadd, 1) := by decide +kernel
theorem dX3_pairOf_24 : decode cX3_pairOf 24 = .ok (.ireturn, 1) := by decide +kernel
theorem dX4_init_0 : decode cX4_init 0 = .ok (.aload_n 0, 1) := by decide +kernel
theorem dX4_init_1 : decode cX4_init 1 = .ok (.invokespecial 3, 3) := by decide +kernel
theorem dX4_init_4 : decode cX4_init 4 = .ok (.aload_n 0, 1) := by decide +kernel
theorem dX4_init_5 : decode cX4_init 5 = .ok (.sipush 300, 3) := by decide +kernel
theorem dX4_init_8 : decode cX4_init 8 = .ok (.newarray .int, 2) := by decide +kernel
theorem dX4_init_10 : decode cX4_init 10 = .ok (.putfield 11, 3) := by decide +kernel
theorem dX4_init_13 : decode cX4_init 13 = .ok (.aload_n 0, 1) := by decide +kernel
theorem dX4_init_14 : decode cX4_init 14 = .ok (.sipush 300, 3) := by decide +kernel
theorem dX4_init_17 : decode cX4_init 17 = .ok (.newarray .int, 2) := by decide +kernel
theorem dX4_init_19 : decode cX4_init 19 = .ok (.putfield 15, 3) := by decide +kernel
theorem dX4_init_22 : decode cX4_init 22 = .ok (.aload_n 0, 1) := by decide +kernel
theorem dX4_init_23 : decode cX4_init 23 = .ok (.sipush 300, 3) := by decide +kernel
theorem dX4_init_26 : decode cX4_init 26 = .ok (.newarray .int, 2) := by decide +kernel
theorem dX4_init_28 : decode cX4_init 28 = .ok (.putfield 18, 3) := by decide +kernel
theorem dX4_init_31 : decode cX4_init 31 = .ok (.aload_n 0, 1) := by decide +kernel
theorem dX4_init_32 : decode cX4_init 32 = .ok (.bipush 12, 2) := by decide +kernel
theorem dX4_init_34 : decode cX4_init 34 = .ok (.newarray .int, 2) := by decide +kernel
theorem dX4_init_36 : decode cX4_init 36 = .ok (.putfield 21, 3) := by decide +kernel
theorem dX4_init_39 : decode cX4_init 39 = .ok (.return_, 1) := by decide +kernel
theorem dX4_count_0 : decode cX4_count 0 = .ok (.aload_n 0, 1) := by decide +kernel
theorem dX4_count_1 : decode cX4_count 1 = .ok (.getfield 24, 3) := by decide +kernel
theorem dX4_count_4 : decode cX4_count 4 = .ok (.ireturn, 1) := by decide +kernel
theorem dX4_clear_0 : decode cX4_clear 0 = .ok (.aload_n 0, 1) := by decide +kernel
theorem dX4_clear_1 : decode cX4_clear 1 = .ok (.iconst 0, 1) := by decide +kernel
theorem dX4_clear_2 : decode cX4_clear 2 = .ok (.putfield 28, 3) := by decide +kernel
theorem dX4_clear_5 : decode cX4_clear 5 = .ok (.aload_n 0, 1) := by decide +kernel
theorem dX4_clear_6 : decode cX4_clear 6 = .ok (.iconst 0, 1) := by decide +kernel
theorem dX4_clear_7 : decode cX4_clear 7 = .ok (.putfield 24, 3) := by decide +kernel
theorem dX4_clear_10 : decode cX4_clear 10 = .ok (.return_, 1) := by decide +kernel
theorem dX4_addStep_0 : decode cX4_addStep 0 = .ok (.aload_n 0, 1) := by decide +kernel
theorem dX4_addStep_1 : decode cX4_addStep 1 = .ok (.getfield 28, 3) := by decide +kernel
theorem dX4_addStep_4 : decode cX4_addStep 4 = .ok (.sipush 300, 3) := by decide +kernel
theorem dX4_addStep_7 : decode cX4_addStep 7 = .ok (.if_icmp .ge 43, 3) := by decide +kernel
theorem dX4_addStep_10 : decode cX4_addStep 10 = .ok (.aload_n 0, 1) := by decide +kernel
theorem dX4_addStep_11 : decode cX4_addStep 11 = .ok (.getfield 11, 3) := by decide +kernel
theorem dX4_addStep_14 : decode cX4_addStep 14 = .ok (.aload_n 0, 1) := by decide +kernel
theorem dX4_addStep_15 : decode cX4_addStep 15 = .ok (.getfield 28, 3) := by decide +kernel
theorem dX4_addStep_18 : decode cX4_addStep 18 = .ok (.iload_n 1, 1) := by decide +kernel
theorem dX4_addStep_19 : decode cX4_addStep 19 = .ok (.iastore, 1) := by decide +kernel
theorem dX4_addStep_20 : decode cX4_addStep 20 = .ok (.aload_n 0, 1) := by decide +kernel
theorem dX4_addStep_21 : decode cX4_addStep 21 = .ok (.getfield 15, 3) := by decide +kernel
theorem dX4_addStep_24 : decode cX4_addStep 24 = .ok (.aload_n 0, 1) := by decide +kernel
theorem dX4_addStep_25 : decode cX4_addStep 25 = .ok (.getfield 28, 3) := by decide +kernel
theorem dX4_addStep_28 : decode cX4_addStep 28 = .ok (.iload_n 2, 1) := by decide +kernel
theorem dX4_addStep_29 : decode cX4_addStep 29 = .ok (.iastore, 1) := by decide +kernel
theorem dX4_addStep_30 : decode cX4_addStep 30 = .ok (.aload_n 0, 1) := by decide +kernel
theorem dX4_addStep_31 : decode cX4_addStep 31 = .ok (.getfield 18, 3) := by decide +kernel
theorem dX4_addStep_34 : decode cX4_addStep 34 = .ok (.aload_n 0, 1) := by decide +kernel
theorem dX4_addStep_35 : decode cX4_addStep 35 = .ok (.getfield 28, 3) := by decide +kernel
theorem dX4_addStep_38 : decode cX4_addStep 38 = .ok (.iload_n 3, 1) := by decide +kernel
theorem dX4_addStep_39 : decode cX4_addStep 39 = .ok (.iastore, 1) := by decide +kernel
theorem dX4_addStep_40 : decode cX4_addStep 40 = .ok (.aload_n 0, 1) := by decide +kernel
theorem dX4_addStep_41 : decode cX4_addStep 41 = .ok (.dup, 1) := by decide +kernel
theorem dX4_addStep_42 : decode cX4_addStep 42 = .ok (.getfield 28, 3) := by decide +kernel
theorem dX4_addStep_45 : decode cX4_addStep 45 = .ok (.iconst 1, 1) := by decide +kernel
theorem dX4_addStep_46 : decode cX4_addStep 46 = .ok (.iadd, 1) := by decide +kernel
theorem dX4_addStep_47 : decode cX4_addStep 47 = .ok (.putfield 28, 3) := by decide +kernel
theorem dX4_addStep_50 : decode cX4_addStep 50 = .ok (.return_, 1) := by decide +kernel
theorem dX4_closeRule_0 : decode cX4_closeRule 0 = .ok (.aload_n 0, 1) := by decide +kernel
theorem dX4_closeRule_1 : decode cX4_closeRule 1 = .ok (.getfield 24, 3) := by decide +kernel
theorem dX4_closeRule_4 : decode cX4_closeRule 4 = .ok (.bipush 12, 2) := by decide +kernel
theorem dX4_closeRule_6 : decode cX4_closeRule 6 = .ok (.if_icmp .ge 26, 3) := by decide +kernel
theorem dX4_closeRule_9 : decode cX4_closeRule 9 = .ok (.aload_n 0, 1) := by decide +kernel
theorem dX4_closeRule_10 : decode cX4_closeRule 10 = .ok (.getfield 21, 3) := by decide +kernel
theorem dX4_closeRule_13 : decode cX4_closeRule 13 = .ok (.aload_n 0, 1) := by decide +kernel
theorem dX4_closeRule_14 : decode cX4_closeRule 14 = .ok (.getfield 24, 3) := by decide +kernel
theorem dX4_closeRule_17 : decode cX4_closeRule 17 = .ok (.aload_n 0, 1) := by decide +kernel
theorem dX4_closeRule_18 : decode cX4_closeRule 18 = .ok (.getfield 28, 3) := by decide +kernel
theorem dX4_closeRule_21 : decode cX4_closeRule 21 = .ok (.iastore, 1) := by decide +kernel
theorem dX4_closeRule_22 : decode cX4_closeRule 22 = .ok (.aload_n 0, 1) := by decide +kernel
theorem dX4_closeRule_23 : decode cX4_closeRule 23 = .ok (.dup, 1) := by decide +kernel
theorem dX4_closeRule_24 : decode cX4_closeRule 24 = .ok (.getfield 24, 3) := by decide +kernel
theorem dX4_closeRule_27 : decode cX4_closeRule 27 = .ok (.iconst 1, 1) := by decide +kernel
theorem dX4_closeRule_28 : decode cX4_closeRule 28 = .ok (.iadd, 1) := by decide +kernel
theorem dX4_closeRule_29 : decode cX4_closeRule 29 = .ok (.putfield 24, 3) := by decide +kernel
theorem dX4_closeRule_32 : decode cX4_closeRule 32 = .ok (.return_, 1) := by decide +kernel
theorem dX4_firstThatBars_0 : decode cX4_firstThatBars 0 = .ok (.iconst 0, 1) := by decide +kernel
theorem dX4_firstThatBars_1 : decode cX4_firstThatBars 1 = .ok (.istore_n 2, 1) := by decide +kernel
theorem dX4_firstThatBars_2 : decode cX4_firstThatBars 2 = .ok (.iconst 0, 1) := by decide +kernel
theorem dX4_firstThatBars_3 : decode cX4_firstThatBars 3 = .ok (.istore_n 3, 1) := by decide +kernel
theorem dX4_firstThatBars_4 : decode cX4_firstThatBars 4 = .ok (.iload_n 3, 1) := by decide +kernel
theorem dX4_firstThatBars_5 : decode cX4_firstThatBars 5 = .ok (.aload_n 0, 1) := by decide +kernel
theorem dX4_firstThatBars_6 : decode cX4_firstThatBars 6 = .ok (.getfield 24, 3) := by decide +kernel
theorem dX4_firstThatBars_9 : decode cX4_firstThatBars 9 = .ok (.if_icmp .ge 33, 3) := by decide +kernel
theorem dX4_firstThatBars_12 : decode cX4_firstThatBars 12 = .ok (.aload_n 0, 1) := by decide +kernel
theorem dX4_firstThatBars_13 : decode cX4_firstThatBars 13 = .ok (.iload_n 2, 1) := by decide +kernel
theorem dX4_firstThatBars_14 : decode cX4_firstThatBars 14 = .ok (.aload_n 0, 1) := by decide +kernel
theorem dX4_firstThatBars_15 : decode cX4_firstThatBars 15 = .ok (.getfield 21, 3) := by decide +kernel
theorem dX4_firstThatBars_18 : decode cX4_firstThatBars 18 = .ok (.iload_n 3, 1) := by decide +kernel
theorem dX4_firstThatBars_19 : decode cX4_firstThatBars 19 = .ok (.iaload, 1) := by decide +kernel
theorem dX4_firstThatBars_20 : decode cX4_firstThatBars 20 = .ok (.aload_n 1, 1) := by decide +kernel
theorem dX4_firstThatBars_21 : decode cX4_firstThatBars 21 = .ok (.invokevirtual 31, 3) := by decide +kernel
theorem dX4_firstThatBars_24 : decode cX4_firstThatBars 24 = .ok (.ifCond .eq 5, 3) := by decide +kernel
theorem dX4_firstThatBars_27 : decode cX4_firstThatBars 27 = .ok (.iload_n 3, 1) := by decide +kernel
theorem dX4_firstThatBars_28 : decode cX4_firstThatBars 28 = .ok (.ireturn, 1) := by decide +kernel
theorem dX4_firstThatBars_29 : decode cX4_firstThatBars 29 = .ok (.aload_n 0, 1) := by decide +kernel
theorem dX4_firstThatBars_30 : decode cX4_firstThatBars 30 = .ok (.getfield 21, 3) := by decide +kernel
theorem dX4_firstThatBars_33 : decode cX4_firstThatBars 33 = .ok (.iload_n 3, 1) := by decide +kernel
theorem dX4_firstThatBars_34 : decode cX4_firstThatBars 34 = .ok (.iaload, 1) := by decide +kernel
theorem dX4_firstThatBars_35 : decode cX4_firstThatBars 35 = .ok (.istore_n 2, 1) := by decide +kernel
theorem dX4_firstThatBars_36 : decode cX4_firstThatBars 36 = .ok (.iinc 3 1, 3) := by decide +kernel
theorem dX4_firstThatBars_39 : decode cX4_firstThatBars 39 = .ok (.goto (-35), 3) := by decide +kernel
theorem dX4_firstThatBars_42 : decode cX4_firstThatBars 42 = .ok (.iconst (-1), 1) := by decide +kernel
theorem dX4_firstThatBars_43 : decode cX4_firstThatBars 43 = .ok (.ireturn, 1) := by decide +kernel
theorem dX4_holds_0 : decode cX4_holds 0 = .ok (.iconst 0, 1) := by decide +kernel
theorem dX4_holds_1 : decode cX4_holds 1 = .ok (.istore 4, 2) := by decide +kernel
theorem dX4_holds_3 : decode cX4_holds 3 = .ok (.iload_n 1, 1) := by decide +kernel
theorem dX4_holds_4 : decode cX4_holds 4 = .ok (.istore 5, 2) := by decide +kernel
theorem dX4_holds_6 : decode cX4_holds 6 = .ok (.iload 5, 2) := by decide +kernel
theorem dX4_holds_8 : decode cX4_holds 8 = .ok (.iload_n 2, 1) := by decide +kernel
theorem dX4_holds_9 : decode cX4_holds 9 = .ok (.if_icmp .ge 109, 3) := by decide +kernel
theorem dX4_holds_12 : decode cX4_holds 12 = .ok (.iload 5, 2) := by decide +kernel
theorem dX4_holds_14 : decode cX4_holds 14 = .ok (.sipush 300, 3) := by decide +kernel
theorem dX4_holds_17 : decode cX4_holds 17 = .ok (.if_icmp .ge 101, 3) := by decide +kernel
theorem dX4_holds_20 : decode cX4_holds 20 = .ok (.aload_n 0, 1) := by decide +kernel
theorem dX4_holds_21 : decode cX4_holds 21 = .ok (.getfield 11, 3) := by decide +kernel
theorem dX4_holds_24 : decode cX4_holds 24 = .ok (.iload 5, 2) := by decide +kernel
theorem dX4_holds_26 : decode cX4_holds 26 = .ok (.iaload, 1) := by decide +kernel
theorem dX4_holds_27 : decode cX4_holds 27 = .ok (.tableswitch 63 1 3 #[49, 34, 25], 25) := by decide +kernel
theorem dX4_holds_52 : decode cX4_holds 52 = .ok (.iload 4, 2) := by decide +kernel
theorem dX4_holds_54 : decode cX4_holds 54 = .ok (.iconst 1, 1) := by decide +kernel
theorem dX4_holds_55 : decode cX4_holds 55 = .ok (.ixor, 1) := by decide +kernel
theorem dX4_holds_56 : decode cX4_holds 56 = .ok (.istore 4, 2) := by decide +kernel
theorem dX4_holds_58 : decode cX4_holds 58 = .ok (.goto 54, 3) := by decide +kernel
theorem dX4_holds_61 : decode cX4_holds 61 = .ok (.iload 4, 2) := by decide +kernel
theorem dX4_holds_63 : decode cX4_holds 63 = .ok (.iconst 1, 1) := by decide +kernel
theorem dX4_holds_64 : decode cX4_holds 64 = .ok (.iushr, 1) := by decide +kernel
theorem dX4_holds_65 : decode cX4_holds 65 = .ok (.iload 4, 2) := by decide +kernel
theorem dX4_holds_67 : decode cX4_holds 67 = .ok (.bipush (-2), 2) := by decide +kernel
theorem dX4_holds_69 : decode cX4_holds 69 = .ok (.ior, 1) := by decide +kernel
theorem dX4_holds_70 : decode cX4_holds 70 = .ok (.iand, 1) := by decide +kernel
theorem dX4_holds_71 : decode cX4_holds 71 = .ok (.istore 4, 2) := by decide +kernel
theorem dX4_holds_73 : decode cX4_holds 73 = .ok (.goto 39, 3) := by decide +kernel
theorem dX4_holds_76 : decode cX4_holds 76 = .ok (.iload 4, 2) := by decide +kernel
theorem dX4_holds_78 : decode cX4_holds 78 = .ok (.iconst 1, 1) := by decide +kernel
theorem dX4_holds_79 : decode cX4_holds 79 = .ok (.iushr, 1) := by decide +kernel
theorem dX4_holds_80 : decode cX4_holds 80 = .ok (.iload 4, 2) := by decide +kernel
theorem dX4_holds_82 : decode cX4_holds 82 = .ok (.iconst 1, 1) := by decide +kernel
theorem dX4_holds_83 : decode cX4_holds 83 = .ok (.iand, 1) := by decide +kernel
theorem dX4_holds_84 : decode cX4_holds 84 = .ok (.ior, 1) := by decide +kernel
theorem dX4_holds_85 : decode cX4_holds 85 = .ok (.istore 4, 2) := by decide +kernel
theorem dX4_holds_87 : decode cX4_holds 87 = .ok (.goto 25, 3) := by decide +kernel
theorem dX4_holds_90 : decode cX4_holds 90 = .ok (.iload 4, 2) := by decide +kernel
theorem dX4_holds_92 : decode cX4_holds 92 = .ok (.iconst 1, 1) := by decide +kernel
theorem dX4_holds_93 : decode cX4_holds 93 = .ok (.ishl, 1) := by decide +kernel
theorem dX4_holds_94 : decode cX4_holds 94 = .ok (.aload_n 0, 1) := by decide +kernel
theorem dX4_holds_95 : decode cX4_holds 95 = .ok (.iload 5, 2) := by decide +kernel
theorem dX4_holds_97 : decode cX4_holds 97 = .ok (.aload_n 3, 1) := by decide +kernel
theorem dX4_holds_98 : decode cX4_holds 98 = .ok (.invokevirtual 35, 3) := by decide +kernel
theorem dX4_holds_101 : decode cX4_holds 101 = .ok (.ifCond .eq 7, 3) := by decide +kernel
theorem dX4_holds_104 : decode cX4_holds 104 = .ok (.iconst 1, 1) := by decide +kernel
theorem dX4_holds_105 : decode cX4_holds 105 = .ok (.goto 4, 3) := by decide +kernel
theorem dX4_holds_108 : decode cX4_holds 108 = .ok (.iconst 0, 1) := by decide +kernel
theorem dX4_holds_109 : decode cX4_holds 109 = .ok (.ior, 1) := by decide +kernel
theorem dX4_holds_110 : decode cX4_holds 110 = .ok (.istore 4, 2) := by decide +kernel
theorem dX4_holds_112 : decode cX4_holds 112 = .ok (.iinc 5 1, 3) := by decide +kernel
theorem dX4_holds_115 : decode cX4_holds 115 = .ok (.goto (-109), 3) := by decide +kernel
theorem dX4_holds_118 : decode cX4_holds 118 = .ok (.iload 4, 2) := by decide +kernel
theorem dX4_holds_120 : decode cX4_holds 120 = .ok (.iconst 1, 1) := by decide +kernel
theorem dX4_holds_121 : decode cX4_holds 121 = .ok (.iand, 1) := by decide +kernel
theorem dX4_holds_122 : decode cX4_holds 122 = .ok (.ifCond .eq 7, 3) := by decide +kernel
theorem dX4_holds_125 : decode cX4_holds 125 = .ok (.iconst 1, 1) := by decide +kernel
theorem dX4_holds_126 : decode cX4_holds 126 = .ok (.goto 4, 3) := by decide +kernel
theorem dX4_holds_129 : decode cX4_holds 129 = .ok (.iconst 0, 1) := by decide +kernel
theorem dX4_holds_130 : decode cX4_holds 130 = .ok (.ireturn, 1) := by decide +kernel
theorem dX4_compares_0 : decode cX4_compares 0 = .ok (.aload_n 2, 1) := by decide +kernel
theorem dX4_compares_1 : decode cX4_compares 1 = .ok (.aload_n 0, 1) := by decide +kernel
theorem dX4_compares_2 : decode cX4_compares 2 = .ok (.getfield 15, 3) := by decide +kernel
theorem dX4_compares_5 : decode cX4_compares 5 = .ok (.iload_n 1, 1) := by decide +kernel
theorem dX4_compares_6 : decode cX4_compares 6 = .ok (.iaload, 1) := by decide +kernel
theorem dX4_compares_7 : decode cX4_compares 7 = .ok (.invokevirtual 39, 3) := by decide +kernel
theorem dX4_compares_10 : decode cX4_compares 10 = .ok (.istore_n 3, 1) := by decide +kernel
theorem dX4_compares_11 : decode cX4_compares 11 = .ok (.aload_n 2, 1) := by decide +kernel
theorem dX4_compares_12 : decode cX4_compares 12 = .ok (.aload_n 0, 1) := by decide +kernel
theorem dX4_compares_13 : decode cX4_compares 13 = .ok (.getfield 18, 3) := by decide +kernel
theorem dX4_compares_16 : decode cX4_compares 16 = .ok (.iload_n 1, 1) := by decide +kernel
theorem dX4_compares_17 : decode cX4_compares 17 = .ok (.iaload, 1) := by decide +kernel
theorem dX4_compares_18 : decode cX4_compares 18 = .ok (.invokevirtual 39, 3) := by decide +kernel
theorem dX4_compares_21 : decode cX4_compares 21 = .ok (.istore 4, 2) := by decide +kernel
theorem dX4_compares_23 : decode cX4_compares 23 = .ok (.aload_n 0, 1) := by decide +kernel
theorem dX4_compares_24 : decode cX4_compares 24 = .ok (.getfield 11, 3) := by decide +kernel
theorem dX4_compares_27 : decode cX4_compares 27 = .ok (.iload_n 1, 1) := by decide +kernel
theorem dX4_compares_28 : decode cX4_compares 28 = .ok (.iaload, 1) := by decide +kernel
theorem dX4_compares_29 : decode cX4_compares 29 = .ok (.lookupswitch 51 #[(18, 27), (20, 39)], 27) := by decide +kernel
theorem dX4_compares_56 : decode cX4_compares 56 = .ok (.iload_n 3, 1) := by decide +kernel
theorem dX4_compares_57 : decode cX4_compares 57 = .ok (.iload 4, 2) := by decide +kernel
theorem dX4_compares_59 : decode cX4_compares 59 = .ok (.if_icmp .ge 7, 3) := by decide +kernel
theorem dX4_compares_62 : decode cX4_compares 62 = .ok (.iconst 1, 1) := by decide +kernel
theorem dX4_compares_63 : decode cX4_compares 63 = .ok (.goto 4, 3) := by decide +kernel
theorem dX4_compares_66 : decode cX4_compares 66 = .ok (.iconst 0, 1) := by decide +kernel
theorem dX4_compares_67 : decode cX4_compares 67 = .ok (.ireturn, 1) := by decide +kernel
theorem dX4_compares_68 : decode cX4_compares 68 = .ok (.iload_n 3, 1) := by decide +kernel
theorem dX4_compares_69 : decode cX4_compares 69 = .ok (.iload 4, 2) := by decide +kernel
theorem dX4_compares_71 : decode cX4_compares 71 = .ok (.if_icmp .le 7, 3) := by decide +kernel
theorem dX4_compares_74 : decode cX4_compares 74 = .ok (.iconst 1, 1) := by decide +kernel
theorem dX4_compares_75 : decode cX4_compares 75 = .ok (.goto 4, 3) := by decide +kernel
theorem dX4_compares_78 : decode cX4_compares 78 = .ok (.iconst 0, 1) := by decide +kernel
theorem dX4_compares_79 : decode cX4_compares 79 = .ok (.ireturn, 1) := by decide +kernel
theorem dX4_compares_80 : decode cX4_compares 80 = .ok (.iload_n 3, 1) := by decide +kernel
theorem dX4_compares_81 : decode cX4_compares 81 = .ok (.iload 4, 2) := by decide +kernel
theorem dX4_compares_83 : decode cX4_compares 83 = .ok (.if_icmp .ne 7, 3) := by decide +kernel
theorem dX4_compares_86 : decode cX4_compares 86 = .ok (.iconst 1, 1) := by decide +kernel
theorem dX4_compares_87 : decode cX4_compares 87 = .ok (.goto 4, 3) := by decide +kernel
theorem dX4_compares_90 : decode cX4_compares 90 = .ok (.iconst 0, 1) := by decide +kernel
theorem dX4_compares_91 : decode cX4_compares 91 = .ok (.ireturn, 1) := by decide +kernel
theorem dX5_init_0 : decode cX5_init 0 = .ok (.aload_n 0, 1) := by decide +kernel
theorem dX5_init_1 : decode cX5_init 1 = .ok (.invokespecial 3, 3) := by decide +kernel
theorem dX5_init_4 : decode cX5_init 4 = .ok (.aload_n 0, 1) := by decide +kernel
theorem dX5_init_5 : decode cX5_init 5 = .ok (.new 9, 3) := by decide +kernel
theorem dX5_init_8 : decode cX5_init 8 = .ok (.dup, 1) := by decide +kernel
theorem dX5_init_9 : decode cX5_init 9 = .ok (.aload_n 1, 1) := by decide +kernel
theorem dX5_init_10 : decode cX5_init 10 = .ok (.invokespecial 11, 3) := by decide +kernel
theorem dX5_init_13 : decode cX5_init 13 = .ok (.putfield 14, 3) := by decide +kernel
theorem dX5_init_16 : decode cX5_init 16 = .ok (.aload_n 0, 1) := by decide +kernel
theorem dX5_init_17 : decode cX5_init 17 = .ok (.aload_n 2, 1) := by decide +kernel
theorem dX5_init_18 : decode cX5_init 18 = .ok (.putfield 20, 3) := by decide +kernel
theorem dX5_init_21 : decode cX5_init 21 = .ok (.aload_n 0, 1) := by decide +kernel
theorem dX5_init_22 : decode cX5_init 22 = .ok (.iconst 0, 1) := by decide +kernel
theorem dX5_init_23 : decode cX5_init 23 = .ok (.putfield 24, 3) := by decide +kernel
theorem dX5_init_26 : decode cX5_init 26 = .ok (.aload_n 0, 1) := by decide +kernel
theorem dX5_init_27 : decode cX5_init 27 = .ok (.iconst (-1), 1) := by decide +kernel
theorem dX5_init_28 : decode cX5_init 28 = .ok (.putfield 28, 3) := by decide +kernel
theorem dX5_init_31 : decode cX5_init 31 = .ok (.return_, 1) := by decide +kernel
theorem dX5_readInto_0 : decode cX5_readInto 0 = .ok (.aload_n 0, 1) := by decide +kernel
theorem dX5_readInto_1 : decode cX5_readInto 1 = .ok (.aload_n 1, 1) := by decide +kernel
theorem dX5_readInto_2 : decode cX5_readInto 2 = .ok (.putfield 20, 3) := by decide +kernel
theorem dX5_readInto_5 : decode cX5_readInto 5 = .ok (.aload_n 0, 1) := by decide +kernel
theorem dX5_readInto_6 : decode cX5_readInto 6 = .ok (.getfield 20, 3) := by decide +kernel
theorem dX5_readInto_9 : decode cX5_readInto 9 = .ok (.invokevirtual 31, 3) := by decide +kernel
theorem dX5_readInto_12 : decode cX5_readInto 12 = .ok (.aload_n 0, 1) := by decide +kernel
theorem dX5_readInto_13 : decode cX5_readInto 13 = .ok (.iconst 0, 1) := by decide +kernel
theorem dX5_readInto_14 : decode cX5_readInto 14 = .ok (.putfield 24, 3) := by decide +kernel
theorem dX5_readInto_17 : decode cX5_readInto 17 = .ok (.aload_n 0, 1) := by decide +kernel
theorem dX5_readInto_18 : decode cX5_readInto 18 = .ok (.iconst (-1), 1) := by decide +kernel
theorem dX5_readInto_19 : decode cX5_readInto 19 = .ok (.putfield 28, 3) := by decide +kernel
theorem dX5_readInto_22 : decode cX5_readInto 22 = .ok (.aload_n 0, 1) := by decide +kernel
theorem dX5_readInto_23 : decode cX5_readInto 23 = .ok (.getfield 14, 3) := by decide +kernel
theorem dX5_readInto_26 : decode cX5_readInto 26 = .ok (.invokevirtual 36, 3) := by decide +kernel
theorem dX5_readInto_29 : decode cX5_readInto 29 = .ok (.aload_n 0, 1) := by decide +kernel
theorem dX5_readInto_30 : decode cX5_readInto 30 = .ok (.iconst 0, 1) := by decide +kernel
theorem dX5_readInto_31 : decode cX5_readInto 31 = .ok (.putfield 39, 3) := by decide +kernel
theorem dX5_readInto_34 : decode cX5_readInto 34 = .ok (.aload_n 0, 1) := by decide +kernel
theorem dX5_readInto_35 : decode cX5_readInto 35 = .ok (.aload_n 0, 1) := by decide +kernel
theorem dX5_readInto_36 : decode cX5_readInto 36 = .ok (.getfield 14, 3) := by decide +kernel
theorem dX5_readInto_39 : decode cX5_readInto 39 = .ok (.aload_n 0, 1) := by decide +kernel
theorem dX5_readInto_40 : decode cX5_readInto 40 = .ok (.getfield 39, 3) := by decide +kernel
theorem dX5_readInto_43 : decode cX5_readInto 43 = .ok (.invokevirtual 42, 3) := by decide +kernel
theorem dX5_readInto_46 : decode cX5_readInto 46 = .ok (.putfield 46, 3) := by decide +kernel
theorem dX5_readInto_49 : decode cX5_readInto 49 = .ok (.iconst 0, 1) := by decide +kernel
theorem dX5_readInto_50 : decode cX5_readInto 50 = .ok (.istore_n 2, 1) := by decide +kernel
theorem dX5_readInto_51 : decode cX5_readInto 51 = .ok (.iload_n 2, 1) := by decide +kernel
theorem dX5_readInto_52 : decode cX5_readInto 52 = .ok (.bipush 12, 2) := by decide +kernel
theorem dX5_readInto_54 : decode cX5_readInto 54 = .ok (.if_icmp .ge 38, 3) := by decide +kernel
theorem dX5_readInto_57 : decode cX5_readInto 57 = .ok (.aload_n 0, 1) := by decide +kernel
theorem dX5_readInto_58 : decode cX5_readInto 58 = .ok (.getfield 46, 3) := by decide +kernel
theorem dX5_readInto_61 : decode cX5_readInto 61 = .ok (.ifCond .ne 31, 3) := by decide +kernel
theorem dX5_readInto_64 : decode cX5_readInto 64 = .ok (.aload_n 0, 1) := by decide +kernel
theorem dX5_readInto_65 : decode cX5_readInto 65 = .ok (.invokevirtual 49, 3) := by decide +kernel
theorem dX5_readInto_68 : decode cX5_readInto 68 = .ok (.aload_n 0, 1) := by decide +kernel
theorem dX5_readInto_69 : decode cX5_readInto 69 = .ok (.iconst 0, 1) := by decide +kernel
theorem dX5_readInto_70 : decode cX5_readInto 70 = .ok (.invokevirtual 52, 3) := by decide +kernel
theorem dX5_readInto_73 : decode cX5_readInto 73 = .ok (.aload_n 0, 1) := by decide +kernel
theorem dX5_readInto_74 : decode cX5_readInto 74 = .ok (.bipush 15, 2) := by decide +kernel
theorem dX5_readInto_76 : decode cX5_readInto 76 = .ok (.invokevirtual 56, 3) := by decide +kernel
theorem dX5_readInto_79 : decode cX5_readInto 79 = .ok (.aload_n 0, 1) := by decide +kernel
theorem dX5_readInto_80 : decode cX5_readInto 80 = .ok (.getfield 20, 3) := by decide +kernel
theorem dX5_readInto_83 : decode cX5_readInto 83 = .ok (.invokevirtual 59, 3) := by decide +kernel
theorem dX5_readInto_86 : decode cX5_readInto 86 = .ok (.iinc 2 1, 3) := by decide +kernel
theorem dX5_readInto_89 : decode cX5_readInto 89 = .ok (.goto (-38), 3) := by decide +kernel
theorem dX5_readInto_92 : decode cX5_readInto 92 = .ok (.aload_n 0, 1) := by decide +kernel
theorem dX5_readInto_93 : decode cX5_readInto 93 = .ok (.getfield 46, 3) := by decide +kernel
theorem dX5_readInto_96 : decode cX5_readInto 96 = .ok (.ifCond .ne 11, 3) := by decide +kernel
theorem dX5_readInto_99 : decode cX5_readInto 99 = .ok (.aload_n 0, 1) := by decide +kernel
theorem dX5_readInto_100 : decode cX5_readInto 100 = .ok (.iconst 2, 1) := by decide +kernel
theorem dX5_readInto_101 : decode cX5_readInto 101 = .ok (.invokevirtual 62, 3) := by decide +kernel
theorem dX5_readInto_104 : decode cX5_readInto 104 = .ok (.goto 17, 3) := by decide +kernel
theorem dX5_readInto_107 : decode cX5_readInto 107 = .ok (.aload_n 0, 1) := by decide +kernel
theorem dX5_readInto_108 : decode cX5_readInto 108 = .ok (.getfield 46, 3) := by decide +kernel
theorem dX5_readInto_111 : decode cX5_readInto 111 = .ok (.bipush 22, 2) := by decide +kernel
theorem dX5_readInto_113 : decode cX5_readInto 113 = .ok (.if_icmp .eq 8, 3) := by decide +kernel
theorem dX5_readInto_116 : decode cX5_readInto 116 = .ok (.aload_n 0, 1) := by decide +kernel
theorem dX5_readInto_117 : decode cX5_readInto 117 = .ok (.iconst 1, 1) := by decide +kernel
theorem dX5_readInto_118 : decode cX5_readInto 118 = .ok (.invokevirtual 62, 3) := by decide +kernel
theorem dX5_readInto_121 : decode cX5_readInto 121 = .ok (.aload_n 0, 1) := by decide +kernel
theorem dX5_readInto_122 : decode cX5_readInto 122 = .ok (.getfield 24, 3) := by decide +kernel
theorem dX5_readInto_125 : decode cX5_readInto 125 = .ok (.ifCond .ne 7, 3) := by decide +kernel
theorem dX5_readInto_128 : decode cX5_readInto 128 = .ok (.iconst 1, 1) := by decide +kernel
theorem dX5_readInto_129 : decode cX5_readInto 129 = .ok (.goto 4, 3) := by decide +kernel
theorem dX5_readInto_132 : decode cX5_readInto 132 = .ok (.iconst 0, 1) := by decide +kernel
theorem dX5_readInto_133 : decode cX5_readInto 133 = .ok (.ireturn, 1) := by decide +kernel
theorem dX5_readChoice_0 : decode cX5_readChoice 0 = .ok (.aload_n 0, 1) := by decide +kernel
theorem dX5_readChoice_1 : decode cX5_readChoice 1 = .ok (.iload_n 1, 1) := by decide +kernel
theorem dX5_readChoice_2 : decode cX5_readChoice 2 = .ok (.invokevirtual 65, 3) := by decide +kernel
theorem dX5_readChoice_5 : decode cX5_readChoice 5 = .ok (.iconst 0, 1) := by decide +kernel
theorem dX5_readChoice_6 : decode cX5_readChoice 6 = .ok (.istore_n 2, 1) := by decide +kernel
theorem dX5_readChoice_7 : decode cX5_readChoice 7 = .ok (.iload_n 2, 1) := by decide +kernel
theorem dX5_readChoice_8 : decode cX5_readChoice 8 = .ok (.sipush 600, 3) := by decide +kernel
theorem dX5_readChoice_11 : decode cX5_readChoice 11 = .ok (.if_icmp .ge 36, 3) := by decide +kernel
theorem dX5_readChoice_14 : decode cX5_readChoice 14 = .ok (.aload_n 0, 1) := by decide +kernel
theorem dX5_readChoice_15 : decode cX5_readChoice 15 = .ok (.getfield 46, 3) := by decide +kernel
theorem dX5_readChoice_18 : decode cX5_readChoice 18 = .ok (.iconst 1, 1) := by decide +kernel
theorem dX5_readChoice_19 : decode cX5_readChoice 19 = .ok (.if_icmp .ne 28, 3) := by decide +kernel
theorem dX5_readChoice_22 : decode cX5_readChoice 22 = .ok (.aload_n 0, 1) := by decide +kernel
theorem dX5_readChoice_23 : decode cX5_readChoice 23 = .ok (.invokevirtual 49, 3) := by decide +kernel
theorem dX5_readChoice_26 : decode cX5_readChoice 26 = .ok (.aload_n 0, 1) := by decide +kernel
theorem dX5_readChoice_27 : decode cX5_readChoice 27 = .ok (.iload_n 1, 1) := by decide +kernel
theorem dX5_readChoice_28 : decode cX5_readChoice 28 = .ok (.invokevirtual 65, 3) := by decide +kernel
theorem dX5_readChoice_31 : decode cX5_readChoice 31 = .ok (.aload_n 0, 1) := by decide +kernel
theorem dX5_readChoice_32 : decode cX5_readChoice 32 = .ok (.getfield 20, 3) := by decide +kernel
theorem dX5_readChoice_35 : decode cX5_readChoice 35 = .ok (.iconst 1, 1) := by decide +kernel
theorem dX5_readChoice_36 : decode cX5_readChoice 36 = .ok (.iconst 0, 1) := by decide +kernel
theorem dX5_readChoice_37 : decode cX5_readChoice 37 = .ok (.iconst 0, 1) := by decide +kernel
theorem dX5_readChoice_38 : decode cX5_readChoice 38 = .ok (.invokevirtual 70, 3) := by decide +kernel
theorem dX5_readChoice_41 : decode cX5_readChoice 41 = .ok (.iinc 2 1, 3) := by decide +kernel
theorem dX5_readChoice_44 : decode cX5_readChoice 44 = .ok (.goto (-37), 3) := by decide +kernel
theorem dX5_readChoice_47 : decode cX5_readChoice 47 = .ok (.return_, 1) := by decide +kernel
theorem dX5_readJoin_0 : decode cX5_readJoin 0 = .ok (.aload_n 0, 1) := by decide +kernel
theorem dX5_readJoin_1 : decode cX5_readJoin 1 = .ok (.iload_n 1, 1) := by decide +kernel
theorem dX5_readJoin_2 : decode cX5_readJoin 2 = .ok (.invokevirtual 74, 3) := by decide +kernel
theorem dX5_readJoin_5 : decode cX5_readJoin 5 = .ok (.iconst 0, 1) := by decide +kernel
theorem dX5_readJoin_6 : decode cX5_readJoin 6 = .ok (.istore_n 2, 1) := by decide +kernel
theorem dX5_readJoin_7 : decode cX5_readJoin 7 = .ok (.iload_n 2, 1) := by decide +kernel
theorem dX5_readJoin_8 : decode cX5_readJoin 8 = .ok (.sipush 600, 3) := by decide +kernel
theorem dX5_readJoin_11 : decode cX5_readJoin 11 = .ok (.if_icmp .ge 36, 3) := by decide +kernel
theorem dX5_readJoin_14 : decode cX5_readJoin 14 = .ok (.aload_n 0, 1) := by decide +kernel
theorem dX5_readJoin_15 : decode cX5_readJoin 15 = .ok (.getfield 46, 3) := by decide +kernel
theorem dX5_readJoin_18 : decode cX5_readJoin 18 = .ok (.iconst 2, 1) := by decide +kernel
theorem dX5_readJoin_19 : decode cX5_readJoin 19 = .ok (.if_icmp .ne 28, 3) := by decide +kernel
theorem dX5_readJoin_22 : decode cX5_readJoin 22 = .ok (.aload_n 0, 1) := by decide +kernel
theorem dX5_readJoin_23 : decode cX5_readJoin 23 = .ok (.invokevirtual 49, 3) := by decide +kernel
theorem dX5_readJoin_26 : decode cX5_readJoin 26 = .ok (.aload_n 0, 1) := by decide +kernel
theorem dX5_readJoin_27 : decode cX5_readJoin 27 = .ok (.iload_n 1, 1) := by decide +kernel
theorem dX5_readJoin_28 : decode cX5_readJoin 28 = .ok (.invokevirtual 74, 3) := by decide +kernel
theorem dX5_readJoin_31 : decode cX5_readJoin 31 = .ok (.aload_n 0, 1) := by decide +kernel
theorem dX5_readJoin_32 : decode cX5_readJoin 32 = .ok (.getfield 20, 3) := by decide +kernel
theorem dX5_readJoin_35 : decode cX5_readJoin 35 = .ok (.iconst 2, 1) := by decide +kernel
theorem dX5_readJoin_36 : decode cX5_readJoin 36 = .ok (.iconst 0, 1) := by decide +kernel
theorem dX5_readJoin_37 : decode cX5_readJoin 37 = .ok (.iconst 0, 1) := by decide +kernel
theorem dX5_readJoin_38 : decode cX5_readJoin 38 = .ok (.invokevirtual 70, 3) := by decide +kernel
theorem dX5_readJoin_41 : decode cX5_readJoin 41 = .ok (.iinc 2 1, 3) := by decide +kernel
theorem dX5_readJoin_44 : decode cX5_readJoin 44 = .ok (.goto (-37), 3) := by decide +kernel
theorem dX5_readJoin_47 : decode cX5_readJoin 47 = .ok (.return_, 1) := by decide +kernel
theorem dX5_readClause_0 : decode cX5_readClause 0 = .ok (.aload_n 0, 1) := by decide +kernel
theorem dX5_readClause_1 : decode cX5_readClause 1 = .ok (.getfield 46, 3) := by decide +kernel
theorem dX5_readClause_4 : decode cX5_readClause 4 = .ok (.iconst 3, 1) := by decide +kernel
theorem dX5_readClause_5 : decode cX5_readClause 5 = .ok (.if_icmp .eq 19, 3) := by decide +kernel
theorem dX5_readClause_8 : decode cX5_readClause 8 = .ok (.aload_n 0, 1) := by decide +kernel
theorem dX5_readClause_9 : decode cX5_readClause 9 = .ok (.getfield 46, 3) := by decide +kernel
theorem dX5_readClause_12 : decode cX5_readClause 12 = .ok (.bipush 16, 2) := by decide +kernel
theorem dX5_readClause_14 : decode cX5_readClause 14 = .ok (.if_icmp .eq 10, 3) := by decide +kernel
theorem dX5_readClause_17 : decode cX5_readClause 17 = .ok (.aload_n 0, 1) := by decide +kernel
theorem dX5_readClause_18 : decode cX5_readClause 18 = .ok (.invokevirtual 77, 3) := by decide +kernel
theorem dX5_readClause_21 : decode cX5_readClause 21 = .ok (.goto 66, 3) := by decide +kernel
theorem dX5_readClause_24 : decode cX5_readClause 24 = .ok (.iload_n 1, 1) := by decide +kernel
theorem dX5_readClause_25 : decode cX5_readClause 25 = .ok (.bipush 8, 2) := by decide +kernel
theorem dX5_readClause_27 : decode cX5_readClause 27 = .ok (.if_icmp .lt 11, 3) := by decide +kernel
theorem dX5_readClause_30 : decode cX5_readClause 30 = .ok (.aload_n 0, 1) := by decide +kernel
theorem dX5_readClause_31 : decode cX5_readClause 31 = .ok (.iconst 2, 1) := by decide +kernel
theorem dX5_readClause_32 : decode cX5_readClause 32 = .ok (.invokevirtual 62, 3) := by decide +kernel
theorem dX5_readClause_35 : decode cX5_readClause 35 = .ok (.goto 52, 3) := by decide +kernel
theorem dX5_readClause_38 : decode cX5_readClause 38 = .ok (.aload_n 0, 1) := by decide +kernel
theorem dX5_readClause_39 : decode cX5_readClause 39 = .ok (.getfield 46, 3) := by decide +kernel
theorem dX5_readClause_42 : decode cX5_readClause 42 = .ok (.iconst 3, 1) := by decide +kernel
theorem dX5_readClause_43 : decode cX5_readClause 43 = .ok (.if_icmp .ne 27, 3) := by decide +kernel
theorem dX5_readClause_46 : decode cX5_readClause 46 = .ok (.aload_n 0, 1) := by decide +kernel
theorem dX5_readClause_47 : decode cX5_readClause 47 = .ok (.invokevirtual 49, 3) := by decide +kernel
theorem dX5_readClause_50 : decode cX5_readClause 50 = .ok (.aload_n 0, 1) := by decide +kernel
theorem dX5_readClause_51 : decode cX5_readClause 51 = .ok (.iload_n 1, 1) := by decide +kernel
theorem dX5_readClause_52 : decode cX5_readClause 52 = .ok (.iconst 1, 1) := by decide +kernel
theorem dX5_readClause_53 : decode cX5_readClause 53 = .ok (.iadd, 1) := by decide +kernel
theorem dX5_readClause_54 : decode cX5_readClause 54 = .ok (.invokevirtual 74, 3) := by decide +kernel
theorem dX5_readClause_57 : decode cX5_readClause 57 = .ok (.aload_n 0, 1) := by decide +kernel
theorem dX5_readClause_58 : decode cX5_readClause 58 = .ok (.getfield 20, 3) := by decide +kernel
theorem dX5_readClause_61 : decode cX5_readClause 61 = .ok (.iconst 3, 1) := by decide +kernel
theorem dX5_readClause_62 : decode cX5_readClause 62 = .ok (.iconst 0, 1) := by decide +kernel
theorem dX5_readClause_63 : decode cX5_readClause 63 = .ok (.iconst 0, 1) := by decide +kernel
theorem dX5_readClause_64 : decode cX5_readClause 64 = .ok (.invokevirtual 70, 3) := by decide +kernel
theorem dX5_readClause_67 : decode cX5_readClause 67 = .ok (.goto 20, 3) := by decide +kernel
theorem dX5_readClause_70 : decode cX5_readClause 70 = .ok (.aload_n 0, 1) := by decide +kernel
theorem dX5_readClause_71 : decode cX5_readClause 71 = .ok (.invokevirtual 49, 3) := by decide +kernel
theorem dX5_readClause_74 : decode cX5_readClause 74 = .ok (.aload_n 0, 1) := by decide +kernel
theorem dX5_readClause_75 : decode cX5_readClause 75 = .ok (.iload_n 1, 1) := by decide +kernel
theorem dX5_readClause_76 : decode cX5_readClause 76 = .ok (.iconst 1, 1) := by decide +kernel
theorem dX5_readClause_77 : decode cX5_readClause 77 = .ok (.iadd, 1) := by decide +kernel
theorem dX5_readClause_78 : decode cX5_readClause 78 = .ok (.invokevirtual 52, 3) := by decide +kernel
theorem dX5_readClause_81 : decode cX5_readClause 81 = .ok (.aload_n 0, 1) := by decide +kernel
theorem dX5_readClause_82 : decode cX5_readClause 82 = .ok (.bipush 17, 2) := by decide +kernel
theorem dX5_readClause_84 : decode cX5_readClause 84 = .ok (.invokevirtual 56, 3) := by decide +kernel
theorem dX5_readClause_87 : decode cX5_readClause 87 = .ok (.return_, 1) := by decide +kernel
theorem dX5_readComparison_0 : decode cX5_readComparison 0 = .ok (.aload_n 0, 1) := by decide +kernel
theorem dX5_readComparison_1 : decode cX5_readComparison 1 = .ok (.invokevirtual 80, 3) := by decide +kernel
theorem dX5_readComparison_4 : decode cX5_readComparison 4 = .ok (.istore_n 1, 1) := by decide +kernel
theorem dX5_readComparison_5 : decode cX5_readComparison 5 = .ok (.aload_n 0, 1) := by decide +kernel
theorem dX5_readComparison_6 : decode cX5_readComparison 6 = .ok (.getfield 46, 3) := by decide +kernel
theorem dX5_readComparison_9 : decode cX5_readComparison 9 = .ok (.istore_n 2, 1) := by decide +kernel
theorem dX5_readComparison_10 : decode cX5_readComparison 10 = .ok (.iload_n 2, 1) := by decide +kernel
theorem dX5_readComparison_11 : decode cX5_readComparison 11 = .ok (.bipush 18, 2) := by decide +kernel
theorem dX5_readComparison_13 : decode cX5_readComparison 13 = .ok (.if_icmp .eq 15, 3) := by decide +kernel
theorem dX5_readComparison_16 : decode cX5_readComparison 16 = .ok (.iload_n 2, 1) := by decide +kernel
theorem dX5_readComparison_17 : decode cX5_readComparison 17 = .ok (.bipush 19, 2) := by decide +kernel
theorem dX5_readComparison_19 : decode cX5_readComparison 19 = .ok (.if_icmp .eq 9, 3) := by decide +kernel
theorem dX5_readComparison_22 : decode cX5_readComparison 22 = .ok (.iload_n 2, 1) := by decide +kernel
theorem dX5_readComparison_23 : decode cX5_readComparison 23 = .ok (.bipush 20, 2) := by decide +kernel
theorem dX5_readComparison_25 : decode cX5_readComparison 25 = .ok (.if_icmp .ne 10, 3) := by decide +kernel
theorem dX5_readComparison_28 : decode cX5_readComparison 28 = .ok (.aload_n 0, 1) := by decide +kernel
theorem dX5_readComparison_29 : decode cX5_readComparison 29 = .ok (.invokevirtual 49, 3) := by decide +kernel
theorem dX5_readComparison_32 : decode cX5_readComparison 32 = .ok (.goto 8, 3) := by decide +kernel
theorem dX5_readComparison_35 : decode cX5_readComparison 35 = .ok (.aload_n 0, 1) := by decide +kernel
theorem dX5_readComparison_36 : decode cX5_readComparison 36 = .ok (.iconst 1, 1) := by decide +kernel
theorem dX5_readComparison_37 : decode cX5_readComparison 37 = .ok (.invokevirtual 62, 3) := by decide +kernel
theorem dX5_readComparison_40 : decode cX5_readComparison 40 = .ok (.aload_n 0, 1) := by decide +kernel
theorem dX5_readComparison_41 : decode cX5_readComparison 41 = .ok (.invokevirtual 80, 3) := by decide +kernel
theorem dX5_readComparison_44 : decode cX5_readComparison 44 = .ok (.istore_n 3, 1) := by decide +kernel
theorem dX5_readComparison_45 : decode cX5_readComparison 45 = .ok (.aload_n 0, 1) := by decide +kernel
theorem dX5_readComparison_46 : decode cX5_readComparison 46 = .ok (.getfield 20, 3) := by decide +kernel
theorem dX5_readComparison_49 : decode cX5_readComparison 49 = .ok (.iload_n 2, 1) := by decide +kernel
theorem dX5_readComparison_50 : decode cX5_readComparison 50 = .ok (.iload_n 1, 1) := by decide +kernel
theorem dX5_readComparison_51 : decode cX5_readComparison 51 = .ok (.iload_n 3, 1) := by decide +kernel
theorem dX5_readComparison_52 : decode cX5_readComparison 52 = .ok (.invokevirtual 70, 3) := by decide +kernel
theorem dX5_readComparison_55 : decode cX5_readComparison 55 = .ok (.return_, 1) := by decide +kernel
theorem dX5_readTerm_0 : decode cX5_readTerm 0 = .ok (.iconst 0, 1) := by decide +kernel
theorem dX5_readTerm_1 : decode cX5_readTerm 1 = .ok (.istore_n 1, 1) := by decide +kernel
theorem dX5_readTerm_2 : decode cX5_readTerm 2 = .ok (.aload_n 0, 1) := by decide +kernel
theorem dX5_readTerm_3 : decode cX5_readTerm 3 = .ok (.getfield 46, 3) := by decide +kernel
theorem dX5_readTerm_6 : decode cX5_readTerm 6 = .ok (.bipush 21, 2) := by decide +kernel
theorem dX5_readTerm_8 : decode cX5_readTerm 8 = .ok (.if_icmp .ne 18, 3) := by decide +kernel
theorem dX5_readTerm_11 : decode cX5_readTerm 11 = .ok (.aload_n 0, 1) := by decide +kernel
theorem dX5_readTerm_12 : decode cX5_readTerm 12 = .ok (.getfield 14, 3) := by decide +kernel
theorem dX5_readTerm_15 : decode cX5_readTerm 15 = .ok (.aload_n 0, 1) := by decide +kernel
theorem dX5_readTerm_16 : decode cX5_readTerm 16 = .ok (.getfield 39, 3) := by decide +kernel
theorem dX5_readTerm_19 : decode cX5_readTerm 19 = .ok (.invokevirtual 84, 3) := by decide +kernel
theorem dX5_readTerm_22 : decode cX5_readTerm 22 = .ok (.istore_n 1, 1) := by decide +kernel
theorem dX5_readTerm_23 : decode cX5_readTerm 23 = .ok (.goto 113, 3) := by decide +kernel
theorem dX5_readTerm_26 : decode cX5_readTerm 26 = .ok (.aload_n 0, 1) := by decide +kernel
theorem dX5_readTerm_27 : decode cX5_readTerm 27 = .ok (.getfield 46, 3) := by decide +kernel
theorem dX5_readTerm_30 : decode cX5_readTerm 30 = .ok (.iconst 4, 1) := by decide +kernel
theorem dX5_readTerm_31 : decode cX5_readTerm 31 = .ok (.if_icmp .ne 10, 3) := by decide +kernel
theorem dX5_readTerm_34 : decode cX5_readTerm 34 = .ok (.sipush 10000, 3) := by decide +kernel
theorem dX5_readTerm_37 : decode cX5_readTerm 37 = .ok (.istore_n 1, 1) := by decide +kernel
theorem dX5_readTerm_38 : decode cX5_readTerm 38 = .ok (.goto 98, 3) := by decide +kernel
theorem dX5_readTerm_41 : decode cX5_readTerm 41 = .ok (.aload_n 0, 1) := by decide +kernel
theorem dX5_readTerm_42 : decode cX5_readTerm 42 = .ok (.getfield 46, 3) := by decide +kernel
theorem dX5_readTerm_45 : decode cX5_readTerm 45 = .ok (.iconst 5, 1) := by decide +kernel
theorem dX5_readTerm_46 : decode cX5_readTerm 46 = .ok (.if_icmp .ne 10, 3) := by decide +kernel
theorem dX5_readTerm_49 : decode cX5_readTerm 49 = .ok (.sipush 10001, 3) := by decide +kernel
theorem dX5_readTerm_52 : decode cX5_readTerm 52 = .ok (.istore_n 1, 1) := by decide +kernel
theorem dX5_readTerm_53 : decode cX5_readTerm 53 = .ok (.goto 83, 3) := by decide +kernel
theorem dX5_readTerm_56 : decode cX5_readTerm 56 = .ok (.aload_n 0, 1) := by decide +kernel
theorem dX5_readTerm_57 : decode cX5_readTerm 57 = .ok (.getfield 46, 3) := by decide +kernel
theorem dX5_readTerm_60 : decode cX5_readTerm 60 = .ok (.bipush 6, 2) := by decide +kernel
theorem dX5_readTerm_62 : decode cX5_readTerm 62 = .ok (.if_icmp .lt 69, 3) := by decide +kernel
theorem dX5_readTerm_65 : decode cX5_readTerm 65 = .ok (.aload_n 0, 1) := by decide +kernel
theorem dX5_readTerm_66 : decode cX5_readTerm 66 = .ok (.getfield 46, 3) := by decide +kernel
theorem dX5_readTerm_69 : decode cX5_readTerm 69 = .ok (.bipush 9, 2) := by decide +kernel
theorem dX5_readTerm_71 : decode cX5_readTerm 71 = .ok (.if_icmp .gt 60, 3) := by decide +kernel
theorem dX5_readTerm_74 : decode cX5_readTerm 74 = .ok (.sipush 10002, 3) := by decide +kernel
theorem dX5_readTerm_77 : decode cX5_readTerm 77 = .ok (.aload_n 0, 1) := by decide +kernel
theorem dX5_readTerm_78 : decode cX5_readTerm 78 = .ok (.getfield 46, 3) := by decide +kernel
theorem dX5_readTerm_81 : decode cX5_readTerm 81 = .ok (.bipush 6, 2) := by decide +kernel
theorem dX5_readTerm_83 : decode cX5_readTerm 83 = .ok (.isub, 1) := by decide +kernel
theorem dX5_readTerm_84 : decode cX5_readTerm 84 = .ok (.iconst 5, 1) := by decide +kernel
theorem dX5_readTerm_85 : decode cX5_readTerm 85 = .ok (.imul, 1) := by decide +kernel
theorem dX5_readTerm_86 : decode cX5_readTerm 86 = .ok (.iadd, 1) := by decide +kernel
theorem dX5_readTerm_87 : decode cX5_readTerm 87 = .ok (.istore_n 1, 1) := by decide +kernel
theorem dX5_readTerm_88 : decode cX5_readTerm 88 = .ok (.aload_n 0, 1) := by decide +kernel
theorem dX5_readTerm_89 : decode cX5_readTerm 89 = .ok (.invokevirtual 49, 3) := by decide +kernel
theorem dX5_readTerm_92 : decode cX5_readTerm 92 = .ok (.aload_n 0, 1) := by decide +kernel
theorem dX5_readTerm_93 : decode cX5_readTerm 93 = .ok (.getfield 46, 3) := by decide +kernel
theorem dX5_readTerm_96 : decode cX5_readTerm 96 = .ok (.bipush 10, 2) := by decide +kernel
theorem dX5_readTerm_98 : decode cX5_readTerm 98 = .ok (.if_icmp .lt 25, 3) := by decide +kernel
theorem dX5_readTerm_101 : decode cX5_readTerm 101 = .ok (.aload_n 0, 1) := by decide +kernel
theorem dX5_readTerm_102 : decode cX5_readTerm 102 = .ok (.getfield 46, 3) := by decide +kernel
theorem dX5_readTerm_105 : decode cX5_readTerm 105 = .ok (.bipush 14, 2) := by decide +kernel
theorem dX5_readTerm_107 : decode cX5_readTerm 107 = .ok (.if_icmp .gt 16, 3) := by decide +kernel
theorem dX5_readTerm_110 : decode cX5_readTerm 110 = .ok (.iload_n 1, 1) := by decide +kernel
theorem dX5_readTerm_111 : decode cX5_readTerm 111 = .ok (.aload_n 0, 1) := by decide +kernel
theorem dX5_readTerm_112 : decode cX5_readTerm 112 = .ok (.getfield 46, 3) := by decide +kernel
theorem dX5_readTerm_115 : decode cX5_readTerm 115 = .ok (.bipush 10, 2) := by decide +kernel
theorem dX5_readTerm_117 : decode cX5_readTerm 117 = .ok (.isub, 1) := by decide +kernel
theorem dX5_readTerm_118 : decode cX5_readTerm 118 = .ok (.iadd, 1) := by decide +kernel
theorem dX5_readTerm_119 : decode cX5_readTerm 119 = .ok (.istore_n 1, 1) := by decide +kernel
theorem dX5_readTerm_120 : decode cX5_readTerm 120 = .ok (.goto 16, 3) := by decide +kernel
theorem dX5_readTerm_123 : decode cX5_readTerm 123 = .ok (.aload_n 0, 1) := by decide +kernel
theorem dX5_readTerm_124 : decode cX5_readTerm 124 = .ok (.iconst 1, 1) := by decide +kernel
theorem dX5_readTerm_125 : decode cX5_readTerm 125 = .ok (.invokevirtual 62, 3) := by decide +kernel
theorem dX5_readTerm_128 : decode cX5_readTerm 128 = .ok (.goto 8, 3) := by decide +kernel
theorem dX5_readTerm_131 : decode cX5_readTerm 131 = .ok (.aload_n 0, 1) := by decide +kernel
theorem dX5_readTerm_132 : decode cX5_readTerm 132 = .ok (.iconst 1, 1) := by decide +kernel
theorem dX5_readTerm_133 : decode cX5_readTerm 133 = .ok (.invokevirtual 62, 3) := by decide +kernel
theorem dX5_readTerm_136 : decode cX5_readTerm 136 = .ok (.aload_n 0, 1) := by decide +kernel
theorem dX5_readTerm_137 : decode cX5_readTerm 137 = .ok (.invokevirtual 49, 3) := by decide +kernel
theorem dX5_readTerm_140 : decode cX5_readTerm 140 = .ok (.iload_n 1, 1) := by decide +kernel
theorem dX5_readTerm_141 : decode cX5_readTerm 141 = .ok (.ireturn, 1) := by decide +kernel
theorem dX5_take_0 : decode cX5_take 0 = .ok (.aload_n 0, 1) := by decide +kernel
theorem dX5_take_1 : decode cX5_take 1 = .ok (.getfield 46, 3) := by decide +kernel
theorem dX5_take_4 : decode cX5_take 4 = .ok (.iload_n 1, 1) := by decide +kernel
theorem dX5_take_5 : decode cX5_take 5 = .ok (.if_icmp .eq 8, 3) := by decide +kernel
theorem dX5_take_8 : decode cX5_take 8 = .ok (.aload_n 0, 1) := by decide +kernel
theorem dX5_take_9 : decode cX5_take 9 = .ok (.iconst 1, 1) := by decide +kernel
theorem dX5_take_10 : decode cX5_take 10 = .ok (.invokevirtual 62, 3) := by decide +kernel
theorem dX5_take_13 : decode cX5_take 13 = .ok (.aload_n 0, 1) := by decide +kernel
theorem dX5_take_14 : decode cX5_take 14 = .ok (.invokevirtual 49, 3) := by decide +kernel
theorem dX5_take_17 : decode cX5_take 17 = .ok (.return_, 1) := by decide +kernel
theorem dX5_advance_0 : decode cX5_advance 0 = .ok (.aload_n 0, 1) := by decide +kernel
theorem dX5_advance_1 : decode cX5_advance 1 = .ok (.getfield 24, 3) := by decide +kernel
theorem dX5_advance_4 : decode cX5_advance 4 = .ok (.ifCond .ne 28, 3) := by decide +kernel
theorem dX5_advance_7 : decode cX5_advance 7 = .ok (.aload_n 0, 1) := by decide +kernel
theorem dX5_advance_8 : decode cX5_advance 8 = .ok (.dup, 1) := by decide +kernel
theorem dX5_advance_9 : decode cX5_advance 9 = .ok (.getfield 39, 3) := by decide +kernel
theorem dX5_advance_12 : decode cX5_advance 12 = .ok (.iconst 1, 1) := by decide +kernel
theorem dX5_advance_13 : decode cX5_advance 13 = .ok (.iadd, 1) := by decide +kernel
theorem dX5_advance_14 : decode cX5_advance 14 = .ok (.putfield 39, 3) := by decide +kernel
theorem dX5_advance_17 : decode cX5_advance 17 = .ok (.aload_n 0, 1) := by decide +kernel
theorem dX5_advance_18 : decode cX5_advance 18 = .ok (.aload_n 0, 1) := by decide +kernel
theorem dX5_advance_19 : decode cX5_advance 19 = .ok (.getfield 14, 3) := by decide +kernel
theorem dX5_advance_22 : decode cX5_advance 22 = .ok (.aload_n 0, 1) := by decide +kernel
theorem dX5_advance_23 : decode cX5_advance 23 = .ok (.getfield 39, 3) := by decide +kernel
theorem dX5_advance_26 : decode cX5_advance 26 = .ok (.invokevirtual 42, 3) := by decide +kernel
theorem dX5_advance_29 : decode cX5_advance 29 = .ok (.putfield 46, 3) := by decide +kernel
theorem dX5_advance_32 : decode cX5_advance 32 = .ok (.return_, 1) := by decide +kernel
theorem dX5_refuse_0 : decode cX5_refuse 0 = .ok (.aload_n 0, 1) := by decide +kernel
theorem dX5_refuse_1 : decode cX5_refuse 1 = .ok (.getfield 24, 3) := by decide +kernel
theorem dX5_refuse_4 : decode cX5_refuse 4 = .ok (.ifCond .ne 23, 3) := by decide +kernel
theorem dX5_refuse_7 : decode cX5_refuse 7 = .ok (.aload_n 0, 1) := by decide +kernel
theorem dX5_refuse_8 : decode cX5_refuse 8 = .ok (.iload_n 1, 1) := by decide +kernel
theorem dX5_refuse_9 : decode cX5_refuse 9 = .ok (.putfield 24, 3) := by decide +kernel
theorem dX5_refuse_12 : decode cX5_refuse 12 = .ok (.aload_n 0, 1) := by decide +kernel
theorem dX5_refuse_13 : decode cX5_refuse 13 = .ok (.aload_n 0, 1) := by decide +kernel
theorem dX5_refuse_14 : decode cX5_refuse 14 = .ok (.getfield 14, 3) := by decide +kernel
theorem dX5_refuse_17 : decode cX5_refuse 17 = .ok (.aload_n 0, 1) := by decide +kernel
theorem dX5_refuse_18 : decode cX5_refuse 18 = .ok (.getfield 39, 3) := by decide +kernel
theorem dX5_refuse_21 : decode cX5_refuse 21 = .ok (.invokevirtual 89, 3) := by decide +kernel
theorem dX5_refuse_24 : decode cX5_refuse 24 = .ok (.putfield 28, 3) := by decide +kernel
theorem dX5_refuse_27 : decode cX5_refuse 27 = .ok (.aload_n 0, 1) := by decide +kernel
theorem dX5_refuse_28 : decode cX5_refuse 28 = .ok (.bipush 23, 2) := by decide +kernel
theorem dX5_refuse_30 : decode cX5_refuse 30 = .ok (.putfield 46, 3) := by decide +kernel
theorem dX5_refuse_33 : decode cX5_refuse 33 = .ok (.return_, 1) := by decide +kernel
theorem dX6_init_0 : decode cX6_init 0 = .ok (.aload_n 0, 1) := by decide +kernel
theorem dX6_init_1 : decode cX6_init 1 = .ok (.invokespecial 3, 3) := by decide +kernel
theorem dX6_init_4 : decode cX6_init 4 = .ok (.aload_n 0, 1) := by decide +kernel
theorem dX6_init_5 : decode cX6_init 5 = .ok (.bipush 20, 2) := by decide +kernel
theorem dX6_init_7 : decode cX6_init 7 = .ok (.anewarray 9, 3) := by decide +kernel
theorem dX6_init_10 : decode cX6_init 10 = .ok (.putfield 11, 3) := by decide +kernel
theorem dX6_init_13 : decode cX6_init 13 = .ok (.return_, 1) := by decide +kernel
theorem dX6_count_0 : decode cX6_count 0 = .ok (.aload_n 0, 1) := by decide +kernel
theorem dX6_count_1 : decode cX6_count 1 = .ok (.getfield 17, 3) := by decide +kernel
theorem dX6_count_4 : decode cX6_count 4 = .ok (.ireturn, 1) := by decide +kernel
theorem dX6_isFull_0 : decode cX6_isFull 0 = .ok (.aload_n 0, 1) := by decide +kernel
theorem dX6_isFull_1 : decode cX6_isFull 1 = .ok (.getfield 17, 3) := by decide +kernel
theorem dX6_isFull_4 : decode cX6_isFull 4 = .ok (.bipush 20, 2) := by decide +kernel
theorem dX6_isFull_6 : decode cX6_isFull 6 = .ok (.if_icmp .lt 7, 3) := by decide +kernel
theorem dX6_isFull_9 : decode cX6_isFull 9 = .ok (.iconst 1, 1) := by decide +kernel
theorem dX6_isFull_10 : decode cX6_isFull 10 = .ok (.goto 4, 3) := by decide +kernel
theorem dX6_isFull_13 : decode cX6_isFull 13 = .ok (.iconst 0, 1) := by decide +kernel
theorem dX6_isFull_14 : decode cX6_isFull 14 = .ok (.ireturn, 1) := by decide +kernel
theorem dX6_put_0 : decode cX6_put 0 = .ok (.aload_n 0, 1) := by decide +kernel
theorem dX6_put_1 : decode cX6_put 1 = .ok (.invokevirtual 21, 3) := by decide +kernel
theorem dX6_put_4 : decode cX6_put 4 = .ok (.ifCond .eq 5, 3) := by decide +kernel
theorem dX6_put_7 : decode cX6_put 7 = .ok (.iconst (-1), 1) := by decide +kernel
theorem dX6_put_8 : decode cX6_put 8 = .ok (.ireturn, 1) := by decide +kernel
theorem dX6_put_9 : decode cX6_put 9 = .ok (.aload_n 0, 1) := by decide +kernel
theorem dX6_put_10 : decode cX6_put 10 = .ok (.getfield 11, 3) := by decide +kernel
theorem dX6_put_13 : decode cX6_put 13 = .ok (.aload_n 0, 1) := by decide +kernel
theorem dX6_put_14 : decode cX6_put 14 = .ok (.getfield 17, 3) := by decide +kernel
theorem dX6_put_17 : decode cX6_put 17 = .ok (.aload_n 1, 1) := by decide +kernel
theorem dX6_put_18 : decode cX6_put 18 = .ok (.aastore, 1) := by decide +kernel
theorem dX6_put_19 : decode cX6_put 19 = .ok (.aload_n 0, 1) := by decide +kernel
theorem dX6_put_20 : decode cX6_put 20 = .ok (.dup, 1) := by decide +kernel
theorem dX6_put_21 : decode cX6_put 21 = .ok (.getfield 17, 3) := by decide +kernel
theorem dX6_put_24 : decode cX6_put 24 = .ok (.iconst 1, 1) := by decide +kernel
theorem dX6_put_25 : decode cX6_put 25 = .ok (.iadd, 1) := by decide +kernel
theorem dX6_put_26 : decode cX6_put 26 = .ok (.putfield 17, 3) := by decide +kernel
theorem dX6_put_29 : decode cX6_put 29 = .ok (.aload_n 0, 1) := by decide +kernel
theorem dX6_put_30 : decode cX6_put 30 = .ok (.getfield 17, 3) := by decide +kernel
theorem dX6_put_33 : decode cX6_put 33 = .ok (.iconst 1, 1) := by decide +kernel
theorem dX6_put_34 : decode cX6_put 34 = .ok (.isub, 1) := by decide +kernel
theorem dX6_put_35 : decode cX6_put 35 = .ok (.ireturn, 1) := by decide +kernel
theorem dX6_find_0 : decode cX6_find 0 = .ok (.iload_n 1, 1) := by decide +kernel
theorem dX6_find_1 : decode cX6_find 1 = .ok (.ifCond .lt 20, 3) := by decide +kernel
theorem dX6_find_4 : decode cX6_find 4 = .ok (.iload_n 1, 1) := by decide +kernel
theorem dX6_find_5 : decode cX6_find 5 = .ok (.aload_n 0, 1) := by decide +kernel
theorem dX6_find_6 : decode cX6_find 6 = .ok (.getfield 17, 3) := by decide +kernel
theorem dX6_find_9 : decode cX6_find 9 = .ok (.if_icmp .ge 12, 3) := by decide +kernel
theorem dX6_find_12 : decode cX6_find 12 = .ok (.aload_n 0, 1) := by decide +kernel
theorem dX6_find_13 : decode cX6_find 13 = .ok (.getfield 11, 3) := by decide +kernel
theorem dX6_find_16 : decode cX6_find 16 = .ok (.iload_n 1, 1) := by decide +kernel
theorem dX6_find_17 : decode cX6_find 17 = .ok (.aaload, 1) := by decide +kernel
theorem dX6_find_18 : decode cX6_find 18 = .ok (.goto 4, 3) := by decide +kernel
theorem dX6_find_21 : decode cX6_find 21 = .ok (.aconst_null, 1) := by decide +kernel
theorem dX6_find_22 : decode cX6_find 22 = .ok (.areturn, 1) := by decide +kernel
theorem dX6_findThere_0 : decode cX6_findThere 0 = .ok (.aload_n 0, 1) := by decide +kernel
theorem dX6_findThere_1 : decode cX6_findThere 1 = .ok (.iload_n 1, 1) := by decide +kernel
theorem dX6_findThere_2 : decode cX6_findThere 2 = .ok (.invokevirtual 25, 3) := by decide +kernel
theorem dX6_findThere_5 : decode cX6_findThere 5 = .ok (.astore_n 2, 1) := by decide +kernel
theorem dX6_findThere_6 : decode cX6_findThere 6 = .ok (.aload_n 2, 1) := by decide +kernel
theorem dX6_findThere_7 : decode cX6_findThere 7 = .ok (.ifnull 14, 3) := by decide +kernel
theorem dX6_findThere_10 : decode cX6_findThere 10 = .ok (.aload_n 2, 1) := by decide +kernel
theorem dX6_findThere_11 : decode cX6_findThere 11 = .ok (.invokevirtual 29, 3) := by decide +kernel
theorem dX6_findThere_14 : decode cX6_findThere 14 = .ok (.ifCond .eq 7, 3) := by decide +kernel
theorem dX6_findThere_17 : decode cX6_findThere 17 = .ok (.aload_n 2, 1) := by decide +kernel
theorem dX6_findThere_18 : decode cX6_findThere 18 = .ok (.goto 4, 3) := by decide +kernel
theorem dX6_findThere_21 : decode cX6_findThere 21 = .ok (.aconst_null, 1) := by decide +kernel
theorem dX6_findThere_22 : decode cX6_findThere 22 = .ok (.areturn, 1) := by decide +kernel
theorem dX6_countThere_0 : decode cX6_countThere 0 = .ok (.iconst 0, 1) := by decide +kernel
theorem dX6_countThere_1 : decode cX6_countThere 1 = .ok (.istore_n 1, 1) := by decide +kernel
theorem dX6_countThere_2 : decode cX6_countThere 2 = .ok (.iconst 0, 1) := by decide +kernel
theorem dX6_countThere_3 : decode cX6_countThere 3 = .ok (.istore_n 2, 1) := by decide +kernel
theorem dX6_countThere_4 : decode cX6_countThere 4 = .ok (.iload_n 2, 1) := by decide +kernel
theorem dX6_countThere_5 : decode cX6_countThere 5 = .ok (.aload_n 0, 1) := by decide +kernel
theorem dX6_countThere_6 : decode cX6_countThere 6 = .ok (.getfield 17, 3) := by decide +kernel
theorem dX6_countThere_9 : decode cX6_countThere 9 = .ok (.if_icmp .ge 20, 3) := by decide +kernel
theorem dX6_countThere_12 : decode cX6_countThere 12 = .ok (.aload_n 0, 1) := by decide +kernel
theorem dX6_countThere_13 : decode cX6_countThere 13 = .ok (.iload_n 2, 1) := by decide +kernel
theorem dX6_countThere_14 : decode cX6_countThere 14 = .ok (.invokevirtual 32, 3) := by decide +kernel
theorem dX6_countThere_17 : decode cX6_countThere 17 = .ok (.ifnull 6, 3) := by decide +kernel
theorem dX6_countThere_20 : decode cX6_countThere 20 = .ok (.iinc 1 1, 3) := by decide +kernel
theorem dX6_countThere_23 : decode cX6_countThere 23 = .ok (.iinc 2 1, 3) := by decide +kernel
theorem dX6_countThere_26 : decode cX6_countThere 26 = .ok (.goto (-22), 3) := by decide +kernel
theorem dX6_countThere_29 : decode cX6_countThere 29 = .ok (.iload_n 1, 1) := by decide +kernel
theorem dX6_countThere_30 : decode cX6_countThere 30 = .ok (.ireturn, 1) := by decide +kernel
theorem dX6_isInDoubt_0 : decode cX6_isInDoubt 0 = .ok (.aload_n 1, 1) := by decide +kernel
theorem dX6_isInDoubt_1 : decode cX6_isInDoubt 1 = .ok (.invokevirtual 29, 3) := by decide +kernel
theorem dX6_isInDoubt_4 : decode cX6_isInDoubt 4 = .ok (.ifCond .ne 5, 3) := by decide +kernel
theorem dX6_isInDoubt_7 : decode cX6_isInDoubt 7 = .ok (.iconst 0, 1) := by decide +kernel
theorem dX6_isInDoubt_8 : decode cX6_isInDoubt 8 = .ok (.ireturn, 1) := by decide +kernel
theorem dX6_isInDoubt_9 : decode cX6_isInDoubt 9 = .ok (.aload_n 0, 1) := by decide +kernel
theorem dX6_isInDoubt_10 : decode cX6_isInDoubt 10 = .ok (.aload_n 1, 1) := by decide +kernel
theorem dX6_isInDoubt_11 : decode cX6_isInDoubt 11 = .ok (.getfield 35, 3) := by decide +kernel
theorem dX6_isInDoubt_14 : decode cX6_isInDoubt 14 = .ok (.invokevirtual 32, 3) := by decide +kernel
theorem dX6_isInDoubt_17 : decode cX6_isInDoubt 17 = .ok (.ifnonnull 5, 3) := by decide +kernel
theorem dX6_isInDoubt_20 : decode cX6_isInDoubt 20 = .ok (.iconst 1, 1) := by decide +kernel
theorem dX6_isInDoubt_21 : decode cX6_isInDoubt 21 = .ok (.ireturn, 1) := by decide +kernel
theorem dX6_isInDoubt_22 : decode cX6_isInDoubt 22 = .ok (.iconst 0, 1) := by decide +kernel
theorem dX6_isInDoubt_23 : decode cX6_isInDoubt 23 = .ok (.istore_n 2, 1) := by decide +kernel
theorem dX6_isInDoubt_24 : decode cX6_isInDoubt 24 = .ok (.iload_n 2, 1) := by decide +kernel
theorem dX6_isInDoubt_25 : decode cX6_isInDoubt 25 = .ok (.aload_n 0, 1) := by decide +kernel
theorem dX6_isInDoubt_26 : decode cX6_isInDoubt 26 = .ok (.getfield 17, 3) := by decide +kernel
theorem dX6_isInDoubt_29 : decode cX6_isInDoubt 29 = .ok (.if_icmp .ge 43, 3) := by decide +kernel
theorem dX6_isInDoubt_32 : decode cX6_isInDoubt 32 = .ok (.aload_n 0, 1) := by decide +kernel
theorem dX6_isInDoubt_33 : decode cX6_isInDoubt 33 = .ok (.iload_n 2, 1) := by decide +kernel
theorem dX6_isInDoubt_34 : decode cX6_isInDoubt 34 = .ok (.invokevirtual 32, 3) := by decide +kernel
theorem dX6_isInDoubt_37 : decode cX6_isInDoubt 37 = .ok (.astore_n 3, 1) := by decide +kernel
theorem dX6_isInDoubt_38 : decode cX6_isInDoubt 38 = .ok (.aload_n 3, 1) := by decide +kernel
theorem dX6_isInDoubt_39 : decode cX6_isInDoubt 39 = .ok (.ifnull 27, 3) := by decide +kernel
theorem dX6_isInDoubt_42 : decode cX6_isInDoubt 42 = .ok (.aload_n 3, 1) := by decide +kernel
theorem dX6_isInDoubt_43 : decode cX6_isInDoubt 43 = .ok (.getfield 35, 3) := by decide +kernel
theorem dX6_isInDoubt_46 : decode cX6_isInDoubt 46 = .ok (.aload_n 1, 1) := by decide +kernel
theorem dX6_isInDoubt_47 : decode cX6_isInDoubt 47 = .ok (.getfield 35, 3) := by decide +kernel
theorem dX6_isInDoubt_50 : decode cX6_isInDoubt 50 = .ok (.if_icmp .ne 16, 3) := by decide +kernel
theorem dX6_isInDoubt_53 : decode cX6_isInDoubt 53 = .ok (.aload_n 3, 1) := by decide +kernel
theorem dX6_isInDoubt_54 : decode cX6_isInDoubt 54 = .ok (.invokevirtual 38, 3) := by decide +kernel
theorem dX6_isInDoubt_57 : decode cX6_isInDoubt 57 = .ok (.aload_n 1, 1) := by decide +kernel
theorem dX6_isInDoubt_58 : decode cX6_isInDoubt 58 = .ok (.invokevirtual 38, 3) := by decide +kernel
theorem dX6_isInDoubt_61 : decode cX6_isInDoubt 61 = .ok (.if_icmp .eq 5, 3) := by decide +kernel
theorem dX6_isInDoubt_64 : decode cX6_isInDoubt 64 = .ok (.iconst 1, 1) := by decide +kernel
theorem dX6_isInDoubt_65 : decode cX6_isInDoubt 65 = .ok (.ireturn, 1) := by decide +kernel
theorem dX6_isInDoubt_66 : decode cX6_isInDoubt 66 = .ok (.iinc 2 1, 3) := by decide +kernel
theorem dX6_isInDoubt_69 : decode cX6_isInDoubt 69 = .ok (.goto (-45), 3) := by decide +kernel
theorem dX6_isInDoubt_72 : decode cX6_isInDoubt 72 = .ok (.iconst 0, 1) := by decide +kernel
theorem dX6_isInDoubt_73 : decode cX6_isInDoubt 73 = .ok (.ireturn, 1) := by decide +kernel
theorem dX7_init_0 : decode cX7_init 0 = .ok (.aload_n 0, 1) := by decide +kernel
theorem dX7_init_1 : decode cX7_init 1 = .ok (.invokespecial 3, 3) := by decide +kernel
theorem dX7_init_4 : decode cX7_init 4 = .ok (.aload_n 0, 1) := by decide +kernel
theorem dX7_init_5 : decode cX7_init 5 = .ok (.sipush 600, 3) := by decide +kernel
theorem dX7_init_8 : decode cX7_init 8 = .ok (.newarray .byte, 2) := by decide +kernel
theorem dX7_init_10 : decode cX7_init 10 = .ok (.putfield 11, 3) := by decide +kernel
theorem dX7_init_13 : decode cX7_init 13 = .ok (.return_, 1) := by decide +kernel
theorem dX7_length_0 : decode cX7_length 0 = .ok (.aload_n 0, 1) := by decide +kernel
theorem dX7_length_1 : decode cX7_length 1 = .ok (.getfield 15, 3) := by decide +kernel
theorem dX7_length_4 : decode cX7_length 4 = .ok (.ireturn, 1) := by decide +kernel
theorem dX7_hasRoomFor_0 : decode cX7_hasRoomFor 0 = .ok (.aload_n 0, 1) := by decide +kernel
theorem dX7_hasRoomFor_1 : decode cX7_hasRoomFor 1 = .ok (.getfield 15, 3) := by decide +kernel
theorem dX7_hasRoomFor_4 : decode cX7_hasRoomFor 4 = .ok (.iconst 4, 1) := by decide +kernel
theorem dX7_hasRoomFor_5 : decode cX7_hasRoomFor 5 = .ok (.iload_n 1, 1) := by decide +kernel
theorem dX7_hasRoomFor_6 : decode cX7_hasRoomFor 6 = .ok (.imul, 1) := by decide +kernel
theorem dX7_hasRoomFor_7 : decode cX7_hasRoomFor 7 = .ok (.iadd, 1) := by decide +kernel
theorem dX7_hasRoomFor_8 : decode cX7_hasRoomFor 8 = .ok (.sipush 600, 3) := by decide +kernel
theorem dX7_hasRoomFor_11 : decode cX7_hasRoomFor 11 = .ok (.if_icmp .gt 7, 3) := by decide +kernel
theorem dX7_hasRoomFor_14 : decode cX7_hasRoomFor 14 = .ok (.iconst 1, 1) := by decide +kernel
theorem dX7_hasRoomFor_15 : decode cX7_hasRoomFor 15 = .ok (.goto 4, 3) := by decide +kernel
theorem dX7_hasRoomFor_18 : decode cX7_hasRoomFor 18 = .ok (.iconst 0, 1) := by decide +kernel
theorem dX7_hasRoomFor_19 : decode cX7_hasRoomFor 19 = .ok (.ireturn, 1) := by decide +kernel
theorem dX7_append_0 : decode cX7_append 0 = .ok (.aload_n 0, 1) := by decide +kernel
theorem dX7_append_1 : decode cX7_append 1 = .ok (.iconst 1, 1) := by decide +kernel
theorem dX7_append_2 : decode cX7_append 2 = .ok (.invokevirtual 19, 3) := by decide +kernel
theorem dX7_append_5 : decode cX7_append 5 = .ok (.ifCond .ne 4, 3) := by decide +kernel
theorem dX7_append_8 : decode cX7_append 8 = .ok (.return_, 1) := by decide +kernel
theorem dX7_append_9 : decode cX7_append 9 = .ok (.aload_n 0, 1) := by decide +kernel
theorem dX7_append_10 : decode cX7_append 10 = .ok (.getfield 11, 3) := by decide +kernel
theorem dX7_append_13 : decode cX7_append 13 = .ok (.aload_n 0, 1) := by decide +kernel
theorem dX7_append_14 : decode cX7_append 14 = .ok (.getfield 15, 3) := by decide +kernel
theorem dX7_append_17 : decode cX7_append 17 = .ok (.iload_n 1, 1) := by decide +kernel
theorem dX7_append_18 : decode cX7_append 18 = .ok (.bipush 24, 2) := by decide +kernel
theorem dX7_append_20 : decode cX7_append 20 = .ok (.ishr, 1) := by decide +kernel
theorem dX7_append_21 : decode cX7_append 21 = .ok (.i2b, 1) := by decide +kernel
theorem dX7_append_22 : decode cX7_append 22 = .ok (.bastore, 1) := by decide +kernel
theorem dX7_append_23 : decode cX7_append 23 = .ok (.aload_n 0, 1) := by decide +kernel
theorem dX7_append_24 : decode cX7_append 24 = .ok (.getfield 11, 3) := by decide +kernel
theorem dX7_append_27 : decode cX7_append 27 = .ok (.aload_n 0, 1) := by decide +kernel
theorem dX7_append_28 : decode cX7_append 28 = .ok (.getfield 15, 3) := by decide +kernel
theorem dX7_append_31 : decode cX7_append 31 = .ok (.iconst 1, 1) := by decide +kernel
theorem dX7_append_32 : decode cX7_append 32 = .ok (.iadd, 1) := by decide +kernel
theorem dX7_append_33 : decode cX7_append 33 = .ok (.iload_n 1, 1) := by decide +kernel
theorem dX7_append_34 : decode cX7_append 34 = .ok (.bipush 16, 2) := by decide +kernel
theorem dX7_append_36 : decode cX7_append 36 = .ok (.ishr, 1) := by decide +kernel
theorem dX7_append_37 : decode cX7_append 37 = .ok (.i2b, 1) := by decide +kernel
theorem dX7_append_38 : decode cX7_append 38 = .ok (.bastore, 1) := by decide +kernel
theorem dX7_append_39 : decode cX7_append 39 = .ok (.aload_n 0, 1) := by decide +kernel
theorem dX7_append_40 : decode cX7_append 40 = .ok (.getfield 11, 3) := by decide +kernel
theorem dX7_append_43 : decode cX7_append 43 = .ok (.aload_n 0, 1) := by decide +kernel
theorem dX7_append_44 : decode cX7_append 44 = .ok (.getfield 15, 3) := by decide +kernel
theorem dX7_append_47 : decode cX7_append 47 = .ok (.iconst 2, 1) := by decide +kernel
theorem dX7_append_48 : decode cX7_append 48 = .ok (.iadd, 1) := by decide +kernel
theorem dX7_append_49 : decode cX7_append 49 = .ok (.iload_n 1, 1) := by decide +kernel
theorem dX7_append_50 : decode cX7_append 50 = .ok (.bipush 8, 2) := by decide +kernel
theorem dX7_append_52 : decode cX7_append 52 = .ok (.ishr, 1) := by decide +kernel
theorem dX7_append_53 : decode cX7_append 53 = .ok (.i2b, 1) := by decide +kernel
theorem dX7_append_54 : decode cX7_append 54 = .ok (.bastore, 1) := by decide +kernel
theorem dX7_append_55 : decode cX7_append 55 = .ok (.aload_n 0, 1) := by decide +kernel
theorem dX7_append_56 : decode cX7_append 56 = .ok (.getfield 11, 3) := by decide +kernel
theorem dX7_append_59 : decode cX7_append 59 = .ok (.aload_n 0, 1) := by decide +kernel
theorem dX7_append_60 : decode cX7_append 60 = .ok (.getfield 15, 3) := by decide +kernel
theorem dX7_append_63 : decode cX7_append 63 = .ok (.iconst 3, 1) := by decide +kernel
theorem dX7_append_64 : decode cX7_append 64 = .ok (.iadd, 1) := by decide +kernel
theorem dX7_append_65 : decode cX7_append 65 = .ok (.iload_n 1, 1) := by decide +kernel
theorem dX7_append_66 : decode cX7_append 66 = .ok (.i2b, 1) := by decide +kernel
theorem dX7_append_67 : decode cX7_append 67 = .ok (.bastore, 1) := by decide +kernel
theorem dX7_append_68 : decode cX7_append 68 = .ok (.aload_n 0, 1) := by decide +kernel
theorem dX7_append_69 : decode cX7_append 69 = .ok (.dup, 1) := by decide +kernel
theorem dX7_append_70 : decode cX7_append 70 = .ok (.getfield 15, 3) := by decide +kernel
theorem dX7_append_73 : decode cX7_append 73 = .ok (.iconst 4, 1) := by decide +kernel
theorem dX7_append_74 : decode cX7_append 74 = .ok (.iadd, 1) := by decide +kernel
theorem dX7_append_75 : decode cX7_append 75 = .ok (.putfield 15, 3) := by decide +kernel
theorem dX7_append_78 : decode cX7_append 78 = .ok (.return_, 1) := by decide +kernel
theorem dX7_cut_0 : decode cX7_cut 0 = .ok (.iload_n 1, 1) := by decide +kernel
theorem dX7_cut_1 : decode cX7_cut 1 = .ok (.ifCond .lt 16, 3) := by decide +kernel
theorem dX7_cut_4 : decode cX7_cut 4 = .ok (.iload_n 1, 1) := by decide +kernel
theorem dX7_cut_5 : decode cX7_cut 5 = .ok (.aload_n 0, 1) := by decide +kernel
theorem dX7_cut_6 : decode cX7_cut 6 = .ok (.getfield 15, 3) := by decide +kernel
theorem dX7_cut_9 : decode cX7_cut 9 = .ok (.if_icmp .gt 8, 3) := by decide +kernel
theorem dX7_cut_12 : decode cX7_cut 12 = .ok (.aload_n 0, 1) := by decide +kernel
theorem dX7_cut_13 : decode cX7_cut 13 = .ok (.iload_n 1, 1) := by decide +kernel
theorem dX7_cut_14 : decode cX7_cut 14 = .ok (.putfield 15, 3) := by decide +kernel
theorem dX7_cut_17 : decode cX7_cut 17 = .ok (.return_, 1) := by decide +kernel
theorem dX7_at_0 : decode cX7_at 0 = .ok (.iload_n 1, 1) := by decide +kernel
theorem dX7_at_1 : decode cX7_at 1 = .ok (.ifCond .lt 24, 3) := by decide +kernel
theorem dX7_at_4 : decode cX7_at 4 = .ok (.iload_n 1, 1) := by decide +kernel
theorem dX7_at_5 : decode cX7_at 5 = .ok (.aload_n 0, 1) := by decide +kernel
theorem dX7_at_6 : decode cX7_at 6 = .ok (.getfield 15, 3) := by decide +kernel
theorem dX7_at_9 : decode cX7_at 9 = .ok (.if_icmp .ge 16, 3) := by decide +kernel
theorem dX7_at_12 : decode cX7_at 12 = .ok (.aload_n 0, 1) := by decide +kernel
theorem dX7_at_13 : decode cX7_at 13 = .ok (.getfield 11, 3) := by decide +kernel
theorem dX7_at_16 : decode cX7_at 16 = .ok (.iload_n 1, 1) := by decide +kernel
theorem dX7_at_17 : decode cX7_at 17 = .ok (.baload, 1) := by decide +kernel
theorem dX7_at_18 : decode cX7_at 18 = .ok (.sipush 255, 3) := by decide +kernel
theorem dX7_at_21 : decode cX7_at 21 = .ok (.iand, 1) := by decide +kernel
theorem dX7_at_22 : decode cX7_at 22 = .ok (.goto 4, 3) := by decide +kernel
theorem dX7_at_25 : decode cX7_at 25 = .ok (.iconst (-1), 1) := by decide +kernel
theorem dX7_at_26 : decode cX7_at 26 = .ok (.ireturn, 1) := by decide +kernel
theorem dX8_init_0 : decode cX8_init 0 = .ok (.aload_n 0, 1) := by decide +kernel
theorem dX8_init_1 : decode cX8_init 1 = .ok (.invokespecial 3, 3) := by decide +kernel
theorem dX8_init_4 : decode cX8_init 4 = .ok (.aload_n 0, 1) := by decide +kernel
theorem dX8_init_5 : decode cX8_init 5 = .ok (.iconst 5, 1) := by decide +kernel
theorem dX8_init_6 : decode cX8_init 6 = .ok (.anewarray 9, 3) := by decide +kernel
theorem dX8_init_9 : decode cX8_init 9 = .ok (.putfield 11, 3) := by decide +kernel
theorem dX8_init_12 : decode cX8_init 12 = .ok (.return_, 1) := by decide +kernel
theorem dX8_at_0 : decode cX8_at 0 = .ok (.iload_n 1, 1) := by decide +kernel
theorem dX8_at_1 : decode cX8_at 1 = .ok (.ifCond .lt 17, 3) := by decide +kernel
theorem dX8_at_4 : decode cX8_at 4 = .ok (.iload_n 1, 1) := by decide +kernel
theorem dX8_at_5 : decode cX8_at 5 = .ok (.iconst 5, 1) := by decide +kernel
theorem dX8_at_6 : decode cX8_at 6 = .ok (.if_icmp .ge 12, 3) := by decide +kernel
theorem dX8_at_9 : decode cX8_at 9 = .ok (.aload_n 0, 1) := by decide +kernel
theorem dX8_at_10 : decode cX8_at 10 = .ok (.getfield 11, 3) := by decide +kernel
theorem dX8_at_13 : decode cX8_at 13 = .ok (.iload_n 1, 1) := by decide +kernel
theorem dX8_at_14 : decode cX8_at 14 = .ok (.aaload, 1) := by decide +kernel
theorem dX8_at_15 : decode cX8_at 15 = .ok (.goto 4, 3) := by decide +kernel
theorem dX8_at_18 : decode cX8_at 18 = .ok (.aconst_null, 1) := by decide +kernel
theorem dX8_at_19 : decode cX8_at 19 = .ok (.areturn, 1) := by decide +kernel
theorem dX8_lay_0 : decode cX8_lay 0 = .ok (.iload_n 1, 1) := by decide +kernel
theorem dX8_lay_1 : decode cX8_lay 1 = .ok (.ifCond .lt 15, 3) := by decide +kernel
theorem dX8_lay_4 : decode cX8_lay 4 = .ok (.iload_n 1, 1) := by decide +kernel
theorem dX8_lay_5 : decode cX8_lay 5 = .ok (.iconst 5, 1) := by decide +kernel
theorem dX8_lay_6 : decode cX8_lay 6 = .ok (.if_icmp .ge 10, 3) := by decide +kernel
theorem dX8_lay_9 : decode cX8_lay 9 = .ok (.aload_n 0, 1) := by decide +kernel
theorem dX8_lay_10 : decode cX8_lay 10 = .ok (.getfield 11, 3) := by decide +kernel
theorem dX8_lay_13 : decode cX8_lay 13 = .ok (.iload_n 1, 1) := by decide +kernel
theorem dX8_lay_14 : decode cX8_lay 14 = .ok (.aload_n 2, 1) := by decide +kernel
theorem dX8_lay_15 : decode cX8_lay 15 = .ok (.aastore, 1) := by decide +kernel
theorem dX8_lay_16 : decode cX8_lay 16 = .ok (.return_, 1) := by decide +kernel
theorem dX8_clear_0 : decode cX8_clear 0 = .ok (.iconst 0, 1) := by decide +kernel
theorem dX8_clear_1 : decode cX8_clear 1 = .ok (.istore_n 1, 1) := by decide +kernel
theorem dX8_clear_2 : decode cX8_clear 2 = .ok (.iload_n 1, 1) := by decide +kernel
theorem dX8_clear_3 : decode cX8_clear 3 = .ok (.iconst 5, 1) := by decide +kernel
theorem dX8_clear_4 : decode cX8_clear 4 = .ok (.if_icmp .ge 16, 3) := by decide +kernel
theorem dX8_clear_7 : decode cX8_clear 7 = .ok (.aload_n 0, 1) := by decide +kernel
theorem dX8_clear_8 : decode cX8_clear 8 = .ok (.getfield 11, 3) := by decide +kernel
theorem dX8_clear_11 : decode cX8_clear 11 = .ok (.iload_n 1, 1) := by decide +kernel
theorem dX8_clear_12 : decode cX8_clear 12 = .ok (.aconst_null, 1) := by decide +kernel
theorem dX8_clear_13 : decode cX8_clear 13 = .ok (.aastore, 1) := by decide +kernel
theorem dX8_clear_14 : decode cX8_clear 14 = .ok (.iinc 1 1, 3) := by decide +kernel
theorem dX8_clear_17 : decode cX8_clear 17 = .ok (.goto (-15), 3) := by decide +kernel
theorem dX8_clear_20 : decode cX8_clear 20 = .ok (.return_, 1) := by decide +kernel
theorem dX8_read_0 : decode cX8_read 0 = .ok (.aload_n 0, 1) := by decide +kernel
theorem dX8_read_1 : decode cX8_read 1 = .ok (.invokevirtual 17, 3) := by decide +kernel
theorem dX8_read_4 : decode cX8_read 4 = .ok (.iload_n 1, 1) := by decide +kernel
theorem dX8_read_5 : decode cX8_read 5 = .ok (.ifCond .le 12, 3) := by decide +kernel
theorem dX8_read_8 : decode cX8_read 8 = .ok (.iload_n 1, 1) := by decide +kernel
theorem dX8_read_9 : decode cX8_read 9 = .ok (.aload_n 2, 1) := by decide +kernel
theorem dX8_read_10 : decode cX8_read 10 = .ok (.invokevirtual 20, 3) := by decide +kernel
theorem dX8_read_13 : decode cX8_read 13 = .ok (.ishr, 1) := by decide +kernel
theorem dX8_read_14 : decode cX8_read 14 = .ok (.ifCond .eq 5, 3) := by decide +kernel
theorem dX8_read_17 : decode cX8_read 17 = .ok (.iconst 0, 1) := by decide +kernel
theorem dX8_read_18 : decode cX8_read 18 = .ok (.ireturn, 1) := by decide +kernel
theorem dX8_read_19 : decode cX8_read 19 = .ok (.iconst 0, 1) := by decide +kernel
theorem dX8_read_20 : decode cX8_read 20 = .ok (.istore_n 3, 1) := by decide +kernel
theorem dX8_read_21 : decode cX8_read 21 = .ok (.iload_n 3, 1) := by decide +kernel
theorem dX8_read_22 : decode cX8_read 22 = .ok (.aload_n 2, 1) := by decide +kernel
theorem dX8_read_23 : decode cX8_read 23 = .ok (.invokevirtual 20, 3) := by decide +kernel
theorem dX8_read_26 : decode cX8_read 26 = .ok (.if_icmp .ge 54, 3) := by decide +kernel
theorem dX8_read_29 : decode cX8_read 29 = .ok (.aload_n 2, 1) := by decide +kernel
theorem dX8_read_30 : decode cX8_read 30 = .ok (.iload_n 3, 1) := by decide +kernel
theorem dX8_read_31 : decode cX8_read 31 = .ok (.invokevirtual 26, 3) := by decide +kernel
theorem dX8_read_34 : decode cX8_read 34 = .ok (.astore 4, 2) := by decide +kernel
theorem dX8_read_36 : decode cX8_read 36 = .ok (.iload_n 1, 1) := by decide +kernel
theorem dX8_read_37 : decode cX8_read 37 = .ok (.iload_n 3, 1) := by decide +kernel
theorem dX8_read_38 : decode cX8_read 38 = .ok (.ishr, 1) := by decide +kernel
theorem dX8_read_39 : decode cX8_read 39 = .ok (.iconst 1, 1) := by decide +kernel
theorem dX8_read_40 : decode cX8_read 40 = .ok (.iand, 1) := by decide +kernel
theorem dX8_read_41 : decode cX8_read 41 = .ok (.ifCond .eq 33, 3) := by decide +kernel
theorem dX8_read_44 : decode cX8_read 44 = .ok (.aload 4, 2) := by decide +kernel
theorem dX8_read_46 : decode cX8_read 46 = .ok (.ifnull 28, 3) := by decide +kernel
theorem dX8_read_49 : decode cX8_read 49 = .ok (.aload_n 0, 1) := by decide +kernel
theorem dX8_read_50 : decode cX8_read 50 = .ok (.aload 4, 2) := by decide +kernel
theorem dX8_read_52 : decode cX8_read 52 = .ok (.getfield 30, 3) := by decide +kernel
theorem dX8_read_55 : decode cX8_read 55 = .ok (.invokevirtual 34, 3) := by decide +kernel
theorem dX8_read_58 : decode cX8_read 58 = .ok (.ifnull 5, 3) := by decide +kernel
theorem dX8_read_61 : decode cX8_read 61 = .ok (.iconst 0, 1) := by decide +kernel
theorem dX8_read_62 : decode cX8_read 62 = .ok (.ireturn, 1) := by decide +kernel
theorem dX8_read_63 : decode cX8_read 63 = .ok (.aload_n 0, 1) := by decide +kernel
theorem dX8_read_64 : decode cX8_read 64 = .ok (.aload 4, 2) := by decide +kernel
theorem dX8_read_66 : decode cX8_read 66 = .ok (.getfield 30, 3) := by decide +kernel
theorem dX8_read_69 : decode cX8_read 69 = .ok (.aload 4, 2) := by decide +kernel
theorem dX8_read_71 : decode cX8_read 71 = .ok (.invokevirtual 37, 3) := by decide +kernel
theorem dX8_read_74 : decode cX8_read 74 = .ok (.iinc 3 1, 3) := by decide +kernel
theorem dX8_read_77 : decode cX8_read 77 = .ok (.goto (-56), 3) := by decide +kernel
theorem dX8_read_80 : decode cX8_read 80 = .ok (.iconst 1, 1) := by decide +kernel
theorem dX8_read_81 : decode cX8_read 81 = .ok (.ireturn, 1) := by decide +kernel
theorem dX8_bits_0 : decode cX8_bits 0 = .ok (.iconst 0, 1) := by decide +kernel
theorem dX8_bits_1 : decode cX8_bits 1 = .ok (.istore_n 1, 1) := by decide +kernel
theorem dX8_bits_2 : decode cX8_bits 2 = .ok (.iconst 0, 1) := by decide +kernel
theorem dX8_bits_3 : decode cX8_bits 3 = .ok (.istore_n 2, 1) := by decide +kernel
theorem dX8_bits_4 : decode cX8_bits 4 = .ok (.iload_n 2, 1) := by decide +kernel
theorem dX8_bits_5 : decode cX8_bits 5 = .ok (.iconst 5, 1) := by decide +kernel
theorem dX8_bits_6 : decode cX8_bits 6 = .ok (.if_icmp .ge 29, 3) := by decide +kernel
theorem dX8_bits_9 : decode cX8_bits 9 = .ok (.aload_n 0, 1) := by decide +kernel
theorem dX8_bits_10 : decode cX8_bits 10 = .ok (.getfield 11, 3) := by decide +kernel
theorem dX8_bits_13 : decode cX8_bits 13 = .ok (.iload_n 2, 1) := by decide +kernel
theorem dX8_bits_14 : decode cX8_bits 14 = .ok (.aaload, 1) := by decide +kernel
theorem dX8_bits_15 : decode cX8_bits 15 = .ok (.astore_n 3, 1) := by decide +kernel
theorem dX8_bits_16 : decode cX8_bits 16 = .ok (.aload_n 3, 1) := by decide +kernel
theorem dX8_bits_17 : decode cX8_bits 17 = .ok (.ifnull 12, 3) := by decide +kernel
theorem dX8_bits_20 : decode cX8_bits 20 = .ok (.iload_n 1, 1) := by decide +kernel
theorem dX8_bits_21 : decode cX8_bits 21 = .ok (.iconst 1, 1) := by decide +kernel
theorem dX8_bits_22 : decode cX8_bits 22 = .ok (.aload_n 3, 1) := by decide +kernel
theorem dX8_bits_23 : decode cX8_bits 23 = .ok (.getfield 41, 3) := by decide +kernel
theorem dX8_bits_26 : decode cX8_bits 26 = .ok (.ishl, 1) := by decide +kernel
theorem dX8_bits_27 : decode cX8_bits 27 = .ok (.ior, 1) := by decide +kernel
theorem dX8_bits_28 : decode cX8_bits 28 = .ok (.istore_n 1, 1) := by decide +kernel
theorem dX8_bits_29 : decode cX8_bits 29 = .ok (.iinc 2 1, 3) := by decide +kernel
theorem dX8_bits_32 : decode cX8_bits 32 = .ok (.goto (-28), 3) := by decide +kernel
theorem dX8_bits_35 : decode cX8_bits 35 = .ok (.iload_n 1, 1) := by decide +kernel
theorem dX8_bits_36 : decode cX8_bits 36 = .ok (.ireturn, 1) := by decide +kernel
theorem dX8_sumRanks_0 : decode cX8_sumRanks 0 = .ok (.iconst 0, 1) := by decide +kernel
theorem dX8_sumRanks_1 : decode cX8_sumRanks 1 = .ok (.istore_n 1, 1) := by decide +kernel
theorem dX8_sumRanks_2 : decode cX8_sumRanks 2 = .ok (.iconst 0, 1) := by decide +kernel
theorem dX8_sumRanks_3 : decode cX8_sumRanks 3 = .ok (.istore_n 2, 1) := by decide +kernel
theorem dX8_sumRanks_4 : decode cX8_sumRanks 4 = .ok (.iload_n 2, 1) := by decide +kernel
theorem dX8_sumRanks_5 : decode cX8_sumRanks 5 = .ok (.iconst 5, 1) := by decide +kernel
theorem dX8_sumRanks_6 : decode cX8_sumRanks 6 = .ok (.if_icmp .ge 27, 3) := by decide +kernel
theorem dX8_sumRanks_9 : decode cX8_sumRanks 9 = .ok (.aload_n 0, 1) := by decide +kernel
theorem dX8_sumRanks_10 : decode cX8_sumRanks 10 = .ok (.getfield 11, 3) := by decide +kernel
theorem dX8_sumRanks_13 : decode cX8_sumRanks 13 = .ok (.iload_n 2, 1) := by decide +kernel
theorem dX8_sumRanks_14 : decode cX8_sumRanks 14 = .ok (.aaload, 1) := by decide +kernel
theorem dX8_sumRanks_15 : decode cX8_sumRanks 15 = .ok (.astore_n 3, 1) := by decide +kernel
theorem dX8_sumRanks_16 : decode cX8_sumRanks 16 = .ok (.aload_n 3, 1) := by decide +kernel
theorem dX8_sumRanks_17 : decode cX8_sumRanks 17 = .ok (.ifnull 10, 3) := by decide +kernel
theorem dX8_sumRanks_20 : decode cX8_sumRanks 20 = .ok (.iload_n 1, 1) := by decide +kernel
theorem dX8_sumRanks_21 : decode cX8_sumRanks 21 = .ok (.aload_n 3, 1) := by decide +kernel
theorem dX8_sumRanks_22 : decode cX8_sumRanks 22 = .ok (.getfield 44, 3) := by decide +kernel
theorem dX8_sumRanks_25 : decode cX8_sumRanks 25 = .ok (.iadd, 1) := by decide +kernel
theorem dX8_sumRanks_26 : decode cX8_sumRanks 26 = .ok (.istore_n 1, 1) := by decide +kernel
theorem dX8_sumRanks_27 : decode cX8_sumRanks 27 = .ok (.iinc 2 1, 3) := by decide +kernel
theorem dX8_sumRanks_30 : decode cX8_sumRanks 30 = .ok (.goto (-26), 3) := by decide +kernel
theorem dX8_sumRanks_33 : decode cX8_sumRanks 33 = .ok (.iload_n 1, 1) := by decide +kernel
theorem dX8_sumRanks_34 : decode cX8_sumRanks 34 = .ok (.ireturn, 1) := by decide +kernel
theorem dX8_isAllKeptBy_0 : decode cX8_isAllKeptBy 0 = .ok (.iconst 0, 1) := by decide +kernel
theorem dX8_isAllKeptBy_1 : decode cX8_isAllKeptBy 1 = .ok (.istore_n 2, 1) := by decide +kernel
theorem dX8_isAllKeptBy_2 : decode cX8_isAllKeptBy 2 = .ok (.iload_n 2, 1) := by decide +kernel
theorem dX8_isAllKeptBy_3 : decode cX8_isAllKeptBy 3 = .ok (.iconst 5, 1) := by decide +kernel
theorem dX8_isAllKeptBy_4 : decode cX8_isAllKeptBy 4 = .ok (.if_icmp .ge 37, 3) := by decide +kernel
theorem dX8_isAllKeptBy_7 : decode cX8_isAllKeptBy 7 = .ok (.aload_n 0, 1) := by decide +kernel
theorem dX8_isAllKeptBy_8 : decode cX8_isAllKeptBy 8 = .ok (.getfield 11, 3) := by decide +kernel
theorem dX8_isAllKeptBy_11 : decode cX8_isAllKeptBy 11 = .ok (.iload_n 2, 1) := by decide +kernel
theorem dX8_isAllKeptBy_12 : decode cX8_isAllKeptBy 12 = .ok (.aaload, 1) := by decide +kernel
theorem dX8_isAllKeptBy_13 : decode cX8_isAllKeptBy 13 = .ok (.astore_n 3, 1) := by decide +kernel
theorem dX8_isAllKeptBy_14 : decode cX8_isAllKeptBy 14 = .ok (.aload_n 3, 1) := by decide +kernel
theorem dX8_isAllKeptBy_15 : decode cX8_isAllKeptBy 15 = .ok (.ifnull 20, 3) := by decide +kernel
theorem dX8_isAllKeptBy_18 : decode cX8_isAllKeptBy 18 = .ok (.aload_n 3, 1) := by decide +kernel
theorem dX8_isAllKeptBy_19 : decode cX8_isAllKeptBy 19 = .ok (.invokevirtual 47, 3) := by decide +kernel
theorem dX8_isAllKeptBy_22 : decode cX8_isAllKeptBy 22 = .ok (.ifCond .eq 11, 3) := by decide +kernel
theorem dX8_isAllKeptBy_25 : decode cX8_isAllKeptBy 25 = .ok (.aload_n 3, 1) := by decide +kernel
theorem dX8_isAllKeptBy_26 : decode cX8_isAllKeptBy 26 = .ok (.invokevirtual 51, 3) := by decide +kernel
theorem dX8_isAllKeptBy_29 : decode cX8_isAllKeptBy 29 = .ok (.iload_n 1, 1) := by decide +kernel
theorem dX8_isAllKeptBy_30 : decode cX8_isAllKeptBy 30 = .ok (.if_icmp .eq 5, 3) := by decide +kernel
theorem dX8_isAllKeptBy_33 : decode cX8_isAllKeptBy 33 = .ok (.iconst 0, 1) := by decide +kernel
theorem dX8_isAllKeptBy_34 : decode cX8_isAllKeptBy 34 = .ok (.ireturn, 1) := by decide +kernel
theorem dX8_isAllKeptBy_35 : decode cX8_isAllKeptBy 35 = .ok (.iinc 2 1, 3) := by decide +kernel
theorem dX8_isAllKeptBy_38 : decode cX8_isAllKeptBy 38 = .ok (.goto (-36), 3) := by decide +kernel
theorem dX8_isAllKeptBy_41 : decode cX8_isAllKeptBy 41 = .ok (.iconst 1, 1) := by decide +kernel
theorem dX8_isAllKeptBy_42 : decode cX8_isAllKeptBy 42 = .ok (.ireturn, 1) := by decide +kernel
theorem dX9_init_0 : decode cX9_init 0 = .ok (.aload_n 0, 1) := by decide +kernel
theorem dX9_init_1 : decode cX9_init 1 = .ok (.invokespecial 3, 3) := by decide +kernel
theorem dX9_init_4 : decode cX9_init 4 = .ok (.aload_n 0, 1) := by decide +kernel
theorem dX9_init_5 : decode cX9_init 5 = .ok (.iload_n 1, 1) := by decide +kernel
theorem dX9_init_6 : decode cX9_init 6 = .ok (.putfield 9, 3) := by decide +kernel
theorem dX9_init_9 : decode cX9_init 9 = .ok (.aload_n 0, 1) := by decide +kernel
theorem dX9_init_10 : decode cX9_init 10 = .ok (.iload_n 2, 1) := by decide +kernel
theorem dX9_init_11 : decode cX9_init 11 = .ok (.putfield 15, 3) := by decide +kernel
theorem dX9_init_14 : decode cX9_init 14 = .ok (.aload_n 0, 1) := by decide +kernel
theorem dX9_init_15 : decode cX9_init 15 = .ok (.iload_n 3, 1) := by decide +kernel
theorem dX9_init_16 : decode cX9_init 16 = .ok (.putfield 18, 3) := by decide +kernel
theorem dX9_init_19 : decode cX9_init 19 = .ok (.aload_n 0, 1) := by decide +kernel
theorem dX9_init_20 : decode cX9_init 20 = .ok (.iload 4, 2) := by decide +kernel
theorem dX9_init_22 : decode cX9_init 22 = .ok (.putfield 21, 3) := by decide +kernel
theorem dX9_init_25 : decode cX9_init 25 = .ok (.aload_n 0, 1) := by decide +kernel
theorem dX9_init_26 : decode cX9_init 26 = .ok (.iload 5, 2) := by decide +kernel
theorem dX9_init_28 : decode cX9_init 28 = .ok (.putfield 24, 3) := by decide +kernel
theorem dX9_init_31 : decode cX9_init 31 = .ok (.aload_n 0, 1) := by decide +kernel
theorem dX9_init_32 : decode cX9_init 32 = .ok (.aload 6, 2) := by decide +kernel
theorem dX9_init_34 : decode cX9_init 34 = .ok (.getfield 27, 3) := by decide +kernel
theorem dX9_init_37 : decode cX9_init 37 = .ok (.putfield 32, 3) := by decide +kernel
theorem dX9_init_40 : decode cX9_init 40 = .ok (.aload_n 0, 1) := by decide +kernel
theorem dX9_init_41 : decode cX9_init 41 = .ok (.iconst (-1), 1) := by decide +kernel
theorem dX9_init_42 : decode cX9_init 42 = .ok (.putfield 35, 3) := by decide +kernel
theorem dX9_init_45 : decode cX9_init 45 = .ok (.aload_n 0, 1) := by decide +kernel
theorem dX9_init_46 : decode cX9_init 46 = .ok (.iload_n 1, 1) := by decide +kernel
theorem dX9_init_47 : decode cX9_init 47 = .ok (.putfield 38, 3) := by decide +kernel
theorem dX9_init_50 : decode cX9_init 50 = .ok (.aload_n 0, 1) := by decide +kernel
theorem dX9_init_51 : decode cX9_init 51 = .ok (.aload 6, 2) := by decide +kernel
theorem dX9_init_53 : decode cX9_init 53 = .ok (.putfield 41, 3) := by decide +kernel
theorem dX9_init_56 : decode cX9_init 56 = .ok (.return_, 1) := by decide +kernel
theorem dX9_init__0 : decode cX9_init_ 0 = .ok (.aload_n 0, 1) := by decide +kernel
theorem dX9_init__1 : decode cX9_init_ 1 = .ok (.invokespecial 3, 3) := by decide +kernel
theorem dX9_init__4 : decode cX9_init_ 4 = .ok (.aload_n 0, 1) := by decide +kernel
theorem dX9_init__5 : decode cX9_init_ 5 = .ok (.iload_n 1, 1) := by decide +kernel
theorem dX9_init__6 : decode cX9_init_ 6 = .ok (.putfield 9, 3) := by decide +kernel
theorem dX9_init__9 : decode cX9_init_ 9 = .ok (.aload_n 0, 1) := by decide +kernel
theorem dX9_init__10 : decode cX9_init_ 10 = .ok (.aload_n 2, 1) := by decide +kernel
theorem dX9_init__11 : decode cX9_init_ 11 = .ok (.getfield 15, 3) := by decide +kernel
theorem dX9_init__14 : decode cX9_init_ 14 = .ok (.putfield 15, 3) := by decide +kernel
theorem dX9_init__17 : decode cX9_init_ 17 = .ok (.aload_n 0, 1) := by decide +kernel
theorem dX9_init__18 : decode cX9_init_ 18 = .ok (.iload_n 3, 1) := by decide +kernel
theorem dX9_init__19 : decode cX9_init_ 19 = .ok (.putfield 18, 3) := by decide +kernel
theorem dX9_init__22 : decode cX9_init_ 22 = .ok (.aload_n 0, 1) := by decide +kernel
theorem dX9_init__23 : decode cX9_init_ 23 = .ok (.aload_n 2, 1) := by decide +kernel
theorem dX9_init__24 : decode cX9_init_ 24 = .ok (.getfield 21, 3) := by decide +kernel
theorem dX9_init__27 : decode cX9_init_ 27 = .ok (.putfield 21, 3) := by decide +kernel
theorem dX9_init__30 : decode cX9_init_ 30 = .ok (.aload_n 0, 1) := by decide +kernel
theorem dX9_init__31 : decode cX9_init_ 31 = .ok (.aload_n 2, 1) := by decide +kernel
theorem dX9_init__32 : decode cX9_init_ 32 = .ok (.getfield 24, 3) := by decide +kernel
theorem dX9_init__35 : decode cX9_init_ 35 = .ok (.putfield 24, 3) := by decide +kernel
theorem dX9_init__38 : decode cX9_init_ 38 = .ok (.aload_n 0, 1) := by decide +kernel
theorem dX9_init__39 : decode cX9_init_ 39 = .ok (.aload 4, 2) := by decide +kernel
theorem dX9_init__41 : decode cX9_init_ 41 = .ok (.getfield 27, 3) := by decide +kernel
theorem dX9_init__44 : decode cX9_init_ 44 = .ok (.putfield 32, 3) := by decide +kernel
theorem dX9_init__47 : decode cX9_init_ 47 = .ok (.aload_n 0, 1) := by decide +kernel
theorem dX9_init__48 : decode cX9_init_ 48 = .ok (.aload_n 2, 1) := by decide +kernel
theorem dX9_init__49 : decode cX9_init_ 49 = .ok (.getfield 9, 3) := by decide +kernel
theorem dX9_init__52 : decode cX9_init_ 52 = .ok (.putfield 35, 3) := by decide +kernel
theorem dX9_init__55 : decode cX9_init_ 55 = .ok (.aload_n 0, 1) := by decide +kernel
theorem dX9_init__56 : decode cX9_init_ 56 = .ok (.aload_n 2, 1) := by decide +kernel
theorem dX9_init__57 : decode cX9_init_ 57 = .ok (.getfield 38, 3) := by decide +kernel
theorem dX9_init__60 : decode cX9_init_ 60 = .ok (.putfield 38, 3) := by decide +kernel
theorem dX9_init__63 : decode cX9_init_ 63 = .ok (.aload_n 0, 1) := by decide +kernel
theorem dX9_init__64 : decode cX9_init_ 64 = .ok (.aload 4, 2) := by decide +kernel
theorem dX9_init__66 : decode cX9_init_ 66 = .ok (.putfield 41, 3) := by decide +kernel
theorem dX9_init__69 : decode cX9_init_ 69 = .ok (.return_, 1) := by decide +kernel
theorem dX9_owner_0 : decode cX9_owner 0 = .ok (.aload_n 0, 1) := by decide +kernel
theorem dX9_owner_1 : decode cX9_owner 1 = .ok (.getfield 41, 3) := by decide +kernel
theorem dX9_owner_4 : decode cX9_owner 4 = .ok (.getfield 45, 3) := by decide +kernel
theorem dX9_owner_7 : decode cX9_owner 7 = .ok (.ireturn, 1) := by decide +kernel
theorem dX9_keeper_0 : decode cX9_keeper 0 = .ok (.aload_n 0, 1) := by decide +kernel
theorem dX9_keeper_1 : decode cX9_keeper 1 = .ok (.getfield 41, 3) := by decide +kernel
theorem dX9_keeper_4 : decode cX9_keeper 4 = .ok (.getfield 48, 3) := by decide +kernel
theorem dX9_keeper_7 : decode cX9_keeper 7 = .ok (.ireturn, 1) := by decide +kernel
theorem dX9_isThere_0 : decode cX9_isThere 0 = .ok (.aload_n 0, 1) := by decide +kernel
theorem dX9_isThere_1 : decode cX9_isThere 1 = .ok (.getfield 41, 3) := by decide +kernel
theorem dX9_isThere_4 : decode cX9_isThere 4 = .ok (.getfield 51, 3) := by decide +kernel
theorem dX9_isThere_7 : decode cX9_isThere 7 = .ok (.ireturn, 1) := by decide +kernel
theorem dX9_isLent_0 : decode cX9_isLent 0 = .ok (.aload_n 0, 1) := by decide +kernel
theorem dX9_isLent_1 : decode cX9_isLent 1 = .ok (.getfield 41, 3) := by decide +kernel
theorem dX9_isLent_4 : decode cX9_isLent 4 = .ok (.getfield 48, 3) := by decide +kernel
theorem dX9_isLent_7 : decode cX9_isLent 7 = .ok (.aload_n 0, 1) := by decide +kernel
theorem dX9_isLent_8 : decode cX9_isLent 8 = .ok (.getfield 41, 3) := by decide +kernel
theorem dX9_isLent_11 : decode cX9_isLent 11 = .ok (.getfield 45, 3) := by decide +kernel
theorem dX9_isLent_14 : decode cX9_isLent 14 = .ok (.if_icmp .eq 7, 3) := by decide +kernel
theorem dX9_isLent_17 : decode cX9_isLent 17 = .ok (.iconst 1, 1) := by decide +kernel
theorem dX9_isLent_18 : decode cX9_isLent 18 = .ok (.goto 4, 3) := by decide +kernel
theorem dX9_isLent_21 : decode cX9_isLent 21 = .ok (.iconst 0, 1) := by decide +kernel
theorem dX9_isLent_22 : decode cX9_isLent 22 = .ok (.ireturn, 1) := by decide +kernel
theorem dX9_suits_0 : decode cX9_suits 0 = .ok (.aload_n 0, 1) := by decide +kernel
theorem dX9_suits_1 : decode cX9_suits 1 = .ok (.getfield 24, 3) := by decide +kernel
theorem dX9_suits_4 : decode cX9_suits 4 = .ok (.iload_n 1, 1) := by decide +kernel
theorem dX9_suits_5 : decode cX9_suits 5 = .ok (.ishr, 1) := by decide +kernel
theorem dX9_suits_6 : decode cX9_suits 6 = .ok (.iconst 1, 1) := by decide +kernel
theorem dX9_suits_7 : decode cX9_suits 7 = .ok (.iand, 1) := by decide +kernel
theorem dX9_suits_8 : decode cX9_suits 8 = .ok (.ifCond .eq 7, 3) := by decide +kernel
theorem dX9_suits_11 : decode cX9_suits 11 = .ok (.iconst 1, 1) := by decide +kernel
theorem dX9_suits_12 : decode cX9_suits 12 = .ok (.goto 4, 3) := by decide +kernel
theorem dX9_suits_15 : decode cX9_suits 15 = .ok (.iconst 0, 1) := by decide +kernel
theorem dX9_suits_16 : decode cX9_suits 16 = .ok (.ireturn, 1) := by decide +kernel
theorem dX9_goTo_0 : decode cX9_goTo 0 = .ok (.aload_n 0, 1) := by decide +kernel
theorem dX9_goTo_1 : decode cX9_goTo 1 = .ok (.new 28, 3) := by decide +kernel
theorem dX9_goTo_4 : decode cX9_goTo 4 = .ok (.dup, 1) := by decide +kernel
theorem dX9_goTo_5 : decode cX9_goTo 5 = .ok (.aload_n 0, 1) := by decide +kernel
theorem dX9_goTo_6 : decode cX9_goTo 6 = .ok (.getfield 41, 3) := by decide +kernel
theorem dX9_goTo_9 : decode cX9_goTo 9 = .ok (.iload_n 1, 1) := by decide +kernel
theorem dX9_goTo_10 : decode cX9_goTo 10 = .ok (.iload_n 2, 1) := by decide +kernel
theorem dX9_goTo_11 : decode cX9_goTo 11 = .ok (.iload_n 2, 1) := by decide +kernel
theorem dX9_goTo_12 : decode cX9_goTo 12 = .ok (.aload_n 0, 1) := by decide +kernel
theorem dX9_goTo_13 : decode cX9_goTo 13 = .ok (.getfield 41, 3) := by decide +kernel
theorem dX9_goTo_16 : decode cX9_goTo 16 = .ok (.getfield 55, 3) := by decide +kernel
theorem dX9_goTo_19 : decode cX9_goTo 19 = .ok (.iconst 1, 1) := by decide +kernel
theorem dX9_goTo_20 : decode cX9_goTo 20 = .ok (.iadd, 1) := by decide +kernel
theorem dX9_goTo_21 : decode cX9_goTo 21 = .ok (.iconst 1, 1) := by decide +kernel
theorem dX9_goTo_22 : decode cX9_goTo 22 = .ok (.invokespecial 58, 3) := by decide +kernel
theorem dX9_goTo_25 : decode cX9_goTo 25 = .ok (.putfield 41, 3) := by decide +kernel
theorem dX9_goTo_28 : decode cX9_goTo 28 = .ok (.return_, 1) := by decide +kernel
theorem dX9_stayWith_0 : decode cX9_stayWith 0 = .ok (.aload_n 0, 1) := by decide +kernel
theorem dX9_stayWith_1 : decode cX9_stayWith 1 = .ok (.new 28, 3) := by decide +kernel
theorem dX9_stayWith_4 : decode cX9_stayWith 4 = .ok (.dup, 1) := by decide +kernel
theorem dX9_stayWith_5 : decode cX9_stayWith 5 = .ok (.aload_n 0, 1) := by decide +kernel
theorem dX9_stayWith_6 : decode cX9_stayWith 6 = .ok (.getfield 41, 3) := by decide +kernel
theorem dX9_stayWith_9 : decode cX9_stayWith 9 = .ok (.iload_n 1, 1) := by decide +kernel
theorem dX9_stayWith_10 : decode cX9_stayWith 10 = .ok (.aload_n 0, 1) := by decide +kernel
theorem dX9_stayWith_11 : decode cX9_stayWith 11 = .ok (.getfield 41, 3) := by decide +kernel
theorem dX9_stayWith_14 : decode cX9_stayWith 14 = .ok (.getfield 45, 3) := by decide +kernel
theorem dX9_stayWith_17 : decode cX9_stayWith 17 = .ok (.iload_n 2, 1) := by decide +kernel
theorem dX9_stayWith_18 : decode cX9_stayWith 18 = .ok (.aload_n 0, 1) := by decide +kernel
theorem dX9_stayWith_19 : decode cX9_stayWith 19 = .ok (.getfield 41, 3) := by decide +kernel
theorem dX9_stayWith_22 : decode cX9_stayWith 22 = .ok (.getfield 55, 3) := by decide +kernel
theorem dX9_stayWith_25 : decode cX9_stayWith 25 = .ok (.iconst 1, 1) := by decide +kernel
theorem dX9_stayWith_26 : decode cX9_stayWith 26 = .ok (.invokespecial 58, 3) := by decide +kernel
theorem dX9_stayWith_29 : decode cX9_stayWith 29 = .ok (.putfield 41, 3) := by decide +kernel
theorem dX9_stayWith_32 : decode cX9_stayWith 32 = .ok (.return_, 1) := by decide +kernel
theorem dX9_vanish_0 : decode cX9_vanish 0 = .ok (.aload_n 0, 1) := by decide +kernel
theorem dX9_vanish_1 : decode cX9_vanish 1 = .ok (.new 28, 3) := by decide +kernel
theorem dX9_vanish_4 : decode cX9_vanish 4 = .ok (.dup, 1) := by decide +kernel
theorem dX9_vanish_5 : decode cX9_vanish 5 = .ok (.aload_n 0, 1) := by decide +kernel
theorem dX9_vanish_6 : decode cX9_vanish 6 = .ok (.getfield 41, 3) := by decide +kernel
theorem dX9_vanish_9 : decode cX9_vanish 9 = .ok (.iload_n 1, 1) := by decide +kernel
theorem dX9_vanish_10 : decode cX9_vanish 10 = .ok (.aload_n 0, 1) := by decide +kernel
theorem dX9_vanish_11 : decode cX9_vanish 11 = .ok (.getfield 41, 3) := by decide +kernel
theorem dX9_vanish_14 : decode cX9_vanish 14 = .ok (.getfield 45, 3) := by decide +kernel
theorem dX9_vanish_17 : decode cX9_vanish 17 = .ok (.aload_n 0, 1) := by decide +kernel
theorem dX9_vanish_18 : decode cX9_vanish 18 = .ok (.getfield 41, 3) := by decide +kernel
theorem dX9_vanish_21 : decode cX9_vanish 21 = .ok (.getfield 48, 3) := by decide +kernel
theorem dX9_vanish_24 : decode cX9_vanish 24 = .ok (.aload_n 0, 1) := by decide +kernel
theorem dX9_vanish_25 : decode cX9_vanish 25 = .ok (.getfield 41, 3) := by decide +kernel
theorem dX9_vanish_28 : decode cX9_vanish 28 = .ok (.getfield 55, 3) := by decide +kernel
theorem dX9_vanish_31 : decode cX9_vanish 31 = .ok (.iconst 0, 1) := by decide +kernel
theorem dX9_vanish_32 : decode cX9_vanish 32 = .ok (.invokespecial 58, 3) := by decide +kernel
theorem dX9_vanish_35 : decode cX9_vanish 35 = .ok (.putfield 41, 3) := by decide +kernel
theorem dX9_vanish_38 : decode cX9_vanish 38 = .ok (.return_, 1) := by decide +kernel
theorem dX9_latestUpTo_0 : decode cX9_latestUpTo 0 = .ok (.aload_n 0, 1) := by decide +kernel
theorem dX9_latestUpTo_1 : decode cX9_latestUpTo 1 = .ok (.getfield 41, 3) := by decide +kernel
theorem dX9_latestUpTo_4 : decode cX9_latestUpTo 4 = .ok (.astore_n 2, 1) := by decide +kernel
theorem dX9_latestUpTo_5 : decode cX9_latestUpTo 5 = .ok (.aload_n 2, 1) := by decide +kernel
theorem dX9_latestUpTo_6 : decode cX9_latestUpTo 6 = .ok (.ifnull 21, 3) := by decide +kernel
theorem dX9_latestUpTo_9 : decode cX9_latestUpTo 9 = .ok (.aload_n 2, 1) := by decide +kernel
theorem dX9_latestUpTo_10 : decode cX9_latestUpTo 10 = .ok (.getfield 27, 3) := by decide +kernel
theorem dX9_latestUpTo_13 : decode cX9_latestUpTo 13 = .ok (.iload_n 1, 1) := by decide +kernel
theorem dX9_latestUpTo_14 : decode cX9_latestUpTo 14 = .ok (.if_icmp .gt 5, 3) := by decide +kernel
theorem dX9_latestUpTo_17 : decode cX9_latestUpTo 17 = .ok (.aload_n 2, 1) := by decide +kernel
theorem dX9_latestUpTo_18 : decode cX9_latestUpTo 18 = .ok (.areturn, 1) := by decide +kernel
theorem dX9_latestUpTo_19 : decode cX9_latestUpTo 19 = .ok (.aload_n 2, 1) := by decide +kernel
theorem dX9_latestUpTo_20 : decode cX9_latestUpTo 20 = .ok (.getfield 61, 3) := by decide +kernel
theorem dX9_latestUpTo_23 : decode cX9_latestUpTo 23 = .ok (.astore_n 2, 1) := by decide +kernel
theorem dX9_latestUpTo_24 : decode cX9_latestUpTo 24 = .ok (.goto (-19), 3) := by decide +kernel
theorem dX9_latestUpTo_27 : decode cX9_latestUpTo 27 = .ok (.aconst_null, 1) := by decide +kernel
theorem dX9_latestUpTo_28 : decode cX9_latestUpTo 28 = .ok (.areturn, 1) := by decide +kernel
theorem dX9_countOwners_0 : decode cX9_countOwners 0 = .ok (.aload_n 0, 1) := by decide +kernel
theorem dX9_countOwners_1 : decode cX9_countOwners 1 = .ok (.getfield 41, 3) := by decide +kernel
theorem dX9_countOwners_4 : decode cX9_countOwners 4 = .ok (.getfield 55, 3) := by decide +kernel
theorem dX9_countOwners_7 : decode cX9_countOwners 7 = .ok (.iconst 1, 1) := by decide +kernel
theorem dX9_countOwners_8 : decode cX9_countOwners 8 = .ok (.iadd, 1) := by decide +kernel
theorem dX9_countOwners_9 : decode cX9_countOwners 9 = .ok (.ireturn, 1) := by decide +kernel
theorem dX9_ownerAt_0 : decode cX9_ownerAt 0 = .ok (.aload_n 0, 1) := by decide +kernel
theorem dX9_ownerAt_1 : decode cX9_ownerAt 1 = .ok (.getfield 41, 3) := by decide +kernel
theorem dX9_ownerAt_4 : decode cX9_ownerAt 4 = .ok (.astore_n 2, 1) := by decide +kernel
theorem dX9_ownerAt_5 : decode cX9_ownerAt 5 = .ok (.aload_n 2, 1) := by decide +kernel
theorem dX9_ownerAt_6 : decode cX9_ownerAt 6 = .ok (.ifnull 24, 3) := by decide +kernel
theorem dX9_ownerAt_9 : decode cX9_ownerAt 9 = .ok (.aload_n 2, 1) := by decide +kernel
theorem dX9_ownerAt_10 : decode cX9_ownerAt 10 = .ok (.getfield 55, 3) := by decide +kernel
theorem dX9_ownerAt_13 : decode cX9_ownerAt 13 = .ok (.iload_n 1, 1) := by decide +kernel
theorem dX9_ownerAt_14 : decode cX9_ownerAt 14 = .ok (.if_icmp .ne 8, 3) := by decide +kernel
theorem dX9_ownerAt_17 : decode cX9_ownerAt 17 = .ok (.aload_n 2, 1) := by decide +kernel
theorem dX9_ownerAt_18 : decode cX9_ownerAt 18 = .ok (.getfield 45, 3) := by decide +kernel
theorem dX9_ownerAt_21 : decode cX9_ownerAt 21 = .ok (.ireturn, 1) := by decide +kernel
theorem dX9_ownerAt_22 : decode cX9_ownerAt 22 = .ok (.aload_n 2, 1) := by decide +kernel
theorem dX9_ownerAt_23 : decode cX9_ownerAt 23 = .ok (.getfield 61, 3) := by decide +kernel
theorem dX9_ownerAt_26 : decode cX9_ownerAt 26 = .ok (.astore_n 2, 1) := by decide +kernel
theorem dX9_ownerAt_27 : decode cX9_ownerAt 27 = .ok (.goto (-22), 3) := by decide +kernel
theorem dX9_ownerAt_30 : decode cX9_ownerAt 30 = .ok (.iconst (-1), 1) := by decide +kernel
theorem dX9_ownerAt_31 : decode cX9_ownerAt 31 = .ok (.ireturn, 1) := by decide +kernel
theorem dX10_init_0 : decode cX10_init 0 = .ok (.aload_n 0, 1) := by decide +kernel
theorem dX10_init_1 : decode cX10_init 1 = .ok (.invokespecial 3, 3) := by decide +kernel
theorem dX10_init_4 : decode cX10_init 4 = .ok (.aload_n 0, 1) := by decide +kernel
theorem dX10_init_5 : decode cX10_init 5 = .ok (.sipush 601, 3) := by decide +kernel
theorem dX10_init_8 : decode cX10_init 8 = .ok (.newarray .int, 2) := by decide +kernel
theorem dX10_init_10 : decode cX10_init 10 = .ok (.putfield 11, 3) := by decide +kernel
theorem dX10_init_13 : decode cX10_init 13 = .ok (.aload_n 0, 1) := by decide +kernel
theorem dX10_init_14 : decode cX10_init 14 = .ok (.sipush 601, 3) := by decide +kernel
theorem dX10_init_17 : decode cX10_init 17 = .ok (.newarray .int, 2) := by decide +kernel
theorem dX10_init_19 : decode cX10_init 19 = .ok (.putfield 15, 3) := by decide +kernel
theorem dX10_init_22 : decode cX10_init 22 = .ok (.aload_n 0, 1) := by decide +kernel
theorem dX10_init_23 : decode cX10_init 23 = .ok (.sipush 601, 3) := by decide +kernel
theorem dX10_init_26 : decode cX10_init 26 = .ok (.newarray .int, 2) := by decide +kernel
theorem dX10_init_28 : decode cX10_init 28 = .ok (.putfield 18, 3) := by decide +kernel
theorem dX10_init_31 : decode cX10_init 31 = .ok (.aload_n 0, 1) := by decide +kernel
theorem dX10_init_32 : decode cX10_init 32 = .ok (.aload_n 1, 1) := by decide +kernel
theorem dX10_init_33 : decode cX10_init 33 = .ok (.putfield 21, 3) := by decide +kernel
theorem dX10_init_36 : decode cX10_init 36 = .ok (.return_, 1) := by decide +kernel
theorem dX10_at_0 : decode cX10_at 0 = .ok (.iload_n 1, 1) := by decide +kernel
theorem dX10_at_1 : decode cX10_at 1 = .ok (.ifCond .lt 20, 3) := by decide +kernel
theorem dX10_at_4 : decode cX10_at 4 = .ok (.iload_n 1, 1) := by decide +kernel
theorem dX10_at_5 : decode cX10_at 5 = .ok (.aload_n 0, 1) := by decide +kernel
theorem dX10_at_6 : decode cX10_at 6 = .ok (.getfield 25, 3) := by decide +kernel
theorem dX10_at_9 : decode cX10_at 9 = .ok (.if_icmp .ge 12, 3) := by decide +kernel
theorem dX10_at_12 : decode cX10_at 12 = .ok (.aload_n 0, 1) := by decide +kernel
theorem dX10_at_13 : decode cX10_at 13 = .ok (.getfield 11, 3) := by decide +kernel
theorem dX10_at_16 : decode cX10_at 16 = .ok (.iload_n 1, 1) := by decide +kernel
theorem dX10_at_17 : decode cX10_at 17 = .ok (.iaload, 1) := by decide +kernel
theorem dX10_at_18 : decode cX10_at 18 = .ok (.goto 5, 3) := by decide +kernel
theorem dX10_at_21 : decode cX10_at 21 = .ok (.bipush 22, 2) := by decide +kernel
theorem dX10_at_23 : decode cX10_at 23 = .ok (.ireturn, 1) := by decide +kernel
theorem dX10_placeOf_0 : decode cX10_placeOf 0 = .ok (.iload_n 1, 1) := by decide +kernel
theorem dX10_placeOf_1 : decode cX10_placeOf 1 = .ok (.ifCond .lt 20, 3) := by decide +kernel
theorem dX10_placeOf_4 : decode cX10_placeOf 4 = .ok (.iload_n 1, 1) := by decide +kernel
theorem dX10_placeOf_5 : decode cX10_placeOf 5 = .ok (.aload_n 0, 1) := by decide +kernel
theorem dX10_placeOf_6 : decode cX10_placeOf 6 = .ok (.getfield 25, 3) := by decide +kernel
theorem dX10_placeOf_9 : decode cX10_placeOf 9 = .ok (.if_icmp .ge 12, 3) := by decide +kernel
theorem dX10_placeOf_12 : decode cX10_placeOf 12 = .ok (.aload_n 0, 1) := by decide +kernel
theorem dX10_placeOf_13 : decode cX10_placeOf 13 = .ok (.getfield 15, 3) := by decide +kernel
theorem dX10_placeOf_16 : decode cX10_placeOf 16 = .ok (.iload_n 1, 1) := by decide +kernel
theorem dX10_placeOf_17 : decode cX10_placeOf 17 = .ok (.iaload, 1) := by decide +kernel
theorem dX10_placeOf_18 : decode cX10_placeOf 18 = .ok (.goto 10, 3) := by decide +kernel
theorem dX10_placeOf_21 : decode cX10_placeOf 21 = .ok (.aload_n 0, 1) := by decide +kernel
theorem dX10_placeOf_22 : decode cX10_placeOf 22 = .ok (.getfield 21, 3) := by decide +kernel
theorem dX10_placeOf_25 : decode cX10_placeOf 25 = .ok (.invokevirtual 29, 3) := by decide +kernel
theorem dX10_placeOf_28 : decode cX10_placeOf 28 = .ok (.ireturn, 1) := by decide +kernel
theorem dX10_valueOf_0 : decode cX10_valueOf 0 = .ok (.iload_n 1, 1) := by decide +kernel
theorem dX10_valueOf_1 : decode cX10_valueOf 1 = .ok (.ifCond .lt 20, 3) := by decide +kernel
theorem dX10_valueOf_4 : decode cX10_valueOf 4 = .ok (.iload_n 1, 1) := by decide +kernel
theorem dX10_valueOf_5 : decode cX10_valueOf 5 = .ok (.aload_n 0, 1) := by decide +kernel
theorem dX10_valueOf_6 : decode cX10_valueOf 6 = .ok (.getfield 25, 3) := by decide +kernel
theorem dX10_valueOf_9 : decode cX10_valueOf 9 = .ok (.if_icmp .ge 12, 3) := by decide +kernel
theorem dX10_valueOf_12 : decode cX10_valueOf 12 = .ok (.aload_n 0, 1) := by decide +kernel
theorem dX10_valueOf_13 : decode cX10_valueOf 13 = .ok (.getfield 18, 3) := by decide +kernel
theorem dX10_valueOf_16 : decode cX10_valueOf 16 = .ok (.iload_n 1, 1) := by decide +kernel
theorem dX10_valueOf_17 : decode cX10_valueOf 17 = .ok (.iaload, 1) := by decide +kernel
theorem dX10_valueOf_18 : decode cX10_valueOf 18 = .ok (.goto 4, 3) := by decide +kernel
theorem dX10_valueOf_21 : decode cX10_valueOf 21 = .ok (.iconst 0, 1) := by decide +kernel
theorem dX10_valueOf_22 : decode cX10_valueOf 22 = .ok (.ireturn, 1) := by decide +kernel
theorem dX10_cutTape_0 : decode cX10_cutTape 0 = .ok (.aload_n 0, 1) := by decide +kernel
theorem dX10_cutTape_1 : decode cX10_cutTape 1 = .ok (.iconst 0, 1) := by decide +kernel
theorem dX10_cutTape_2 : decode cX10_cutTape 2 = .ok (.putfield 25, 3) := by decide +kernel
theorem dX10_cutTape_5 : decode cX10_cutTape 5 = .ok (.iconst 0, 1) := by decide +kernel
theorem dX10_cutTape_6 : decode cX10_cutTape 6 = .ok (.istore_n 1, 1) := by decide +kernel
theorem dX10_cutTape_7 : decode cX10_cutTape 7 = .ok (.iconst 0, 1) := by decide +kernel
theorem dX10_cutTape_8 : decode cX10_cutTape 8 = .ok (.istore_n 2, 1) := by decide +kernel
theorem dX10_cutTape_9 : decode cX10_cutTape 9 = .ok (.iload_n 2, 1) := by decide +kernel
theorem dX10_cutTape_10 : decode cX10_cutTape 10 = .ok (.sipush 600, 3) := by decide +kernel
theorem dX10_cutTape_13 : decode cX10_cutTape 13 = .ok (.if_icmp .ge 107, 3) := by decide +kernel
theorem dX10_cutTape_16 : decode cX10_cutTape 16 = .ok (.iload_n 1, 1) := by decide +kernel
theorem dX10_cutTape_17 : decode cX10_cutTape 17 = .ok (.aload_n 0, 1) := by decide +kernel
theorem dX10_cutTape_18 : decode cX10_cutTape 18 = .ok (.getfield 21, 3) := by decide +kernel
theorem dX10_cutTape_21 : decode cX10_cutTape 21 = .ok (.invokevirtual 29, 3) := by decide +kernel
theorem dX10_cutTape_24 : decode cX10_cutTape 24 = .ok (.if_icmp .ge 96, 3) := by decide +kernel
theorem dX10_cutTape_27 : decode cX10_cutTape 27 = .ok (.aload_n 0, 1) := by decide +kernel
theorem dX10_cutTape_28 : decode cX10_cutTape 28 = .ok (.getfield 21, 3) := by decide +kernel
theorem dX10_cutTape_31 : decode cX10_cutTape 31 = .ok (.iload_n 1, 1) := by decide +kernel
theorem dX10_cutTape_32 : decode cX10_cutTape 32 = .ok (.invokevirtual 33, 3) := by decide +kernel
theorem dX10_cutTape_35 : decode cX10_cutTape 35 = .ok (.istore_n 3, 1) := by decide +kernel
theorem dX10_cutTape_36 : decode cX10_cutTape 36 = .ok (.iload_n 3, 1) := by decide +kernel
theorem dX10_cutTape_37 : decode cX10_cutTape 37 = .ok (.invokestatic 37, 3) := by decide +kernel
theorem dX10_cutTape_40 : decode cX10_cutTape 40 = .ok (.ifCond .eq 9, 3) := by decide +kernel
theorem dX10_cutTape_43 : decode cX10_cutTape 43 = .ok (.iinc 1 1, 3) := by decide +kernel
theorem dX10_cutTape_46 : decode cX10_cutTape 46 = .ok (.goto 68, 3) := by decide +kernel
theorem dX10_cutTape_49 : decode cX10_cutTape 49 = .ok (.iload_n 3, 1) := by decide +kernel
theorem dX10_cutTape_50 : decode cX10_cutTape 50 = .ok (.invokestatic 41, 3) := by decide +kernel
theorem dX10_cutTape_53 : decode cX10_cutTape 53 = .ok (.ifCond .eq 12, 3) := by decide +kernel
theorem dX10_cutTape_56 : decode cX10_cutTape 56 = .ok (.aload_n 0, 1) := by decide +kernel
theorem dX10_cutTape_57 : decode cX10_cutTape 57 = .ok (.iload_n 1, 1) := by decide +kernel
theorem dX10_cutTape_58 : decode cX10_cutTape 58 = .ok (.invokevirtual 44, 3) := by decide +kernel
theorem dX10_cutTape_61 : decode cX10_cutTape 61 = .ok (.istore_n 1, 1) := by decide +kernel
theorem dX10_cutTape_62 : decode cX10_cutTape 62 = .ok (.goto 52, 3) := by decide +kernel
theorem dX10_cutTape_65 : decode cX10_cutTape 65 = .ok (.iload_n 3, 1) := by decide +kernel
theorem dX10_cutTape_66 : decode cX10_cutTape 66 = .ok (.invokestatic 47, 3) := by decide +kernel
theorem dX10_cutTape_69 : decode cX10_cutTape 69 = .ok (.ifCond .eq 12, 3) := by decide +kernel
theorem dX10_cutTape_72 : decode cX10_cutTape 72 = .ok (.aload_n 0, 1) := by decide +kernel
theorem dX10_cutTape_73 : decode cX10_cutTape 73 = .ok (.iload_n 1, 1) := by decide +kernel
theorem dX10_cutTape_74 : decode cX10_cutTape 74 = .ok (.invokevirtual 50, 3) := by decide +kernel
theorem dX10_cutTape_77 : decode cX10_cutTape 77 = .ok (.istore_n 1, 1) := by decide +kernel
theorem dX10_cutTape_78 : decode cX10_cutTape 78 = .ok (.goto 36, 3) := by decide +kernel
theorem dX10_cutTape_81 : decode cX10_cutTape 81 = .ok (.ldc 53, 2) := by decide +kernel
theorem dX10_cutTape_83 : decode cX10_cutTape 83 = .ok (.iload_n 3, 1) := by decide +kernel
theorem dX10_cutTape_84 : decode cX10_cutTape 84 = .ok (.i2c, 1) := by decide +kernel
theorem dX10_cutTape_85 : decode cX10_cutTape 85 = .ok (.invokevirtual 55, 3) := by decide +kernel
theorem dX10_cutTape_88 : decode cX10_cutTape 88 = .ok (.istore 4, 2) := by decide +kernel
theorem dX10_cutTape_90 : decode cX10_cutTape 90 = .ok (.aload_n 0, 1) := by decide +kernel
theorem dX10_cutTape_91 : decode cX10_cutTape 91 = .ok (.iload 4, 2) := by decide +kernel
theorem dX10_cutTape_93 : decode cX10_cutTape 93 = .ok (.ifCond .ge 8, 3) := by decide +kernel
theorem dX10_cutTape_96 : decode cX10_cutTape 96 = .ok (.bipush 23, 2) := by decide +kernel
theorem dX10_cutTape_98 : decode cX10_cutTape 98 = .ok (.goto 8, 3) := by decide +kernel
theorem dX10_cutTape_101 : decode cX10_cutTape 101 = .ok (.bipush 15, 2) := by decide +kernel
theorem dX10_cutTape_103 : decode cX10_cutTape 103 = .ok (.iload 4, 2) := by decide +kernel
theorem dX10_cutTape_105 : decode cX10_cutTape 105 = .ok (.iadd, 1) := by decide +kernel
theorem dX10_cutTape_106 : decode cX10_cutTape 106 = .ok (.iload_n 1, 1) := by decide +kernel
theorem dX10_cutTape_107 : decode cX10_cutTape 107 = .ok (.iconst 0, 1) := by decide +kernel
theorem dX10_cutTape_108 : decode cX10_cutTape 108 = .ok (.invokevirtual 60, 3) := by decide +kernel
theorem dX10_cutTape_111 : decode cX10_cutTape 111 = .ok (.iinc 1 1, 3) := by decide +kernel
theorem dX10_cutTape_114 : decode cX10_cutTape 114 = .ok (.iinc 2 1, 3) := by decide +kernel
theorem dX10_cutTape_117 : decode cX10_cutTape 117 = .ok (.goto (-108), 3) := by decide +kernel
theorem dX10_cutTape_120 : decode cX10_cutTape 120 = .ok (.return_, 1) := by decide +kernel
theorem dX10_put_0 : decode cX10_put 0 = .ok (.aload_n 0, 1) := by decide +kernel
theorem dX10_put_1 : decode cX10_put 1 = .ok (.getfield 25, 3) := by decide +kernel
theorem dX10_put_4 : decode cX10_put 4 = .ok (.sipush 601, 3) := by decide +kernel
theorem dX10_put_7 : decode cX10_put 7 = .ok (.if_icmp .ge 43, 3) := by decide +kernel
theorem dX10_put_10 : decode cX10_put 10 = .ok (.aload_n 0, 1) := by decide +kernel
theorem dX10_put_11 : decode cX10_put 11 = .ok (.getfield 11, 3) := by decide +kernel
theorem dX10_put_14 : decode cX10_put 14 = .ok (.aload_n 0, 1) := by decide +kernel
theorem dX10_put_15 : decode cX10_put 15 = .ok (.getfield 25, 3) := by decide +kernel
theorem dX10_put_18 : decode cX10_put 18 = .ok (.iload_n 1, 1) := by decide +kernel
theorem dX10_put_19 : decode cX10_put 19 = .ok (.iastore, 1) := by decide +kernel
theorem dX10_put_20 : decode cX10_put 20 = .ok (.aload_n 0, 1) := by decide +kernel
theorem dX10_put_21 : decode cX10_put 21 = .ok (.getfield 15, 3) := by decide +kernel
theorem dX10_put_24 : decode cX10_put 24 = .ok (.aload_n 0, 1) := by decide +kernel
theorem dX10_put_25 : decode cX10_put 25 = .ok (.getfield 25, 3) := by decide +kernel
theorem dX10_put_28 : decode cX10_put 28 = .ok (.iload_n 2, 1) := by decide +kernel
theorem dX10_put_29 : decode cX10_put 29 = .ok (.iastore, 1) := by decide +kernel
theorem dX10_put_30 : decode cX10_put 30 = .ok (.aload_n 0, 1) := by decide +kernel
theorem dX10_put_31 : decode cX10_put 31 = .ok (.getfield 18, 3) := by decide +kernel
theorem dX10_put_34 : decode cX10_put 34 = .ok (.aload_n 0, 1) := by decide +kernel
theorem dX10_put_35 : decode cX10_put 35 = .ok (.getfield 25, 3) := by decide +kernel
theorem dX10_put_38 : decode cX10_put 38 = .ok (.iload_n 3, 1) := by decide +kernel
theorem dX10_put_39 : decode cX10_put 39 = .ok (.iastore, 1) := by decide +kernel
theorem dX10_put_40 : decode cX10_put 40 = .ok (.aload_n 0, 1) := by decide +kernel
theorem dX10_put_41 : decode cX10_put 41 = .ok (.dup, 1) := by decide +kernel
theorem dX10_put_42 : decode cX10_put 42 = .ok (.getfield 25, 3) := by decide +kernel
theorem dX10_put_45 : decode cX10_put 45 = .ok (.iconst 1, 1) := by decide +kernel
theorem dX10_put_46 : decode cX10_put 46 = .ok (.iadd, 1) := by decide +kernel
theorem dX10_put_47 : decode cX10_put 47 = .ok (.putfield 25, 3) := by decide +kernel
theorem dX10_put_50 : decode cX10_put 50 = .ok (.return_, 1) := by decide +kernel
theorem dX10_takeWord_0 : decode cX10_takeWord 0 = .ok (.iload_n 1, 1) := by decide +kernel
theorem dX10_takeWord_1 : decode cX10_takeWord 1 = .ok (.iconst 1, 1) := by decide +kernel
theorem dX10_takeWord_2 : decode cX10_takeWord 2 = .ok (.iadd, 1) := by decide +kernel
theorem dX10_takeWord_3 : decode cX10_takeWord 3 = .ok (.istore_n 2, 1) := by decide +kernel
theorem dX10_takeWord_4 : decode cX10_takeWord 4 = .ok (.iload_n 2, 1) := by decide +kernel
theorem dX10_takeWord_5 : decode cX10_takeWord 5 = .ok (.aload_n 0, 1) := by decide +kernel
theorem dX10_takeWord_6 : decode cX10_takeWord 6 = .ok (.getfield 21, 3) := by decide +kernel
theorem dX10_takeWord_9 : decode cX10_takeWord 9 = .ok (.invokevirtual 29, 3) := by decide +kernel
theorem dX10_takeWord_12 : decode cX10_takeWord 12 = .ok (.if_icmp .ge 23, 3) := by decide +kernel
theorem dX10_takeWord_15 : decode cX10_takeWord 15 = .ok (.aload_n 0, 1) := by decide +kernel
theorem dX10_takeWord_16 : decode cX10_takeWord 16 = .ok (.getfield 21, 3) := by decide +kernel
theorem dX10_takeWord_19 : decode cX10_takeWord 19 = .ok (.iload_n 2, 1) := by decide +kernel
theorem dX10_takeWord_20 : decode cX10_takeWord 20 = .ok (.invokevirtual 33, 3) := by decide +kernel
theorem dX10_takeWord_23 : decode cX10_takeWord 23 = .ok (.invokestatic 41, 3) := by decide +kernel
theorem dX10_takeWord_26 : decode cX10_takeWord 26 = .ok (.ifCond .eq 9, 3) := by decide +kernel
theorem dX10_takeWord_29 : decode cX10_takeWord 29 = .ok (.iinc 2 1, 3) := by decide +kernel
theorem dX10_takeWord_32 : decode cX10_takeWord 32 = .ok (.goto (-28), 3) := by decide +kernel
theorem dX10_takeWord_35 : decode cX10_takeWord 35 = .ok (.bipush 23, 2) := by decide +kernel
theorem dX10_takeWord_37 : decode cX10_takeWord 37 = .ok (.istore_n 3, 1) := by decide +kernel
theorem dX10_takeWord_38 : decode cX10_takeWord 38 = .ok (.iconst 0, 1) := by decide +kernel
theorem dX10_takeWord_39 : decode cX10_takeWord 39 = .ok (.istore 4, 2) := by decide +kernel
theorem dX10_takeWord_41 : decode cX10_takeWord 41 = .ok (.iload 4, 2) := by decide +kernel
theorem dX10_takeWord_43 : decode cX10_takeWord 43 = .ok (.bipush 15, 2) := by decide +kernel
theorem dX10_takeWord_45 : decode cX10_takeWord 45 = .ok (.if_icmp .ge 23, 3) := by decide +kernel
theorem dX10_takeWord_48 : decode cX10_takeWord 48 = .ok (.aload_n 0, 1) := by decide +kernel
theorem dX10_takeWord_49 : decode cX10_takeWord 49 = .ok (.iload 4, 2) := by decide +kernel
theorem dX10_takeWord_51 : decode cX10_takeWord 51 = .ok (.iload_n 1, 1) := by decide +kernel
theorem dX10_takeWord_52 : decode cX10_takeWord 52 = .ok (.iload_n 2, 1) := by decide +kernel
theorem dX10_takeWord_53 : decode cX10_takeWord 53 = .ok (.invokevirtual 64, 3) := by decide +kernel
theorem dX10_takeWord_56 : decode cX10_takeWord 56 = .ok (.ifCond .eq 6, 3) := by decide +kernel
theorem dX10_takeWord_59 : decode cX10_takeWord 59 = .ok (.iload 4, 2) := by decide +kernel
theorem dX10_takeWord_61 : decode cX10_takeWord 61 = .ok (.istore_n 3, 1) := by decide +kernel
theorem dX10_takeWord_62 : decode cX10_takeWord 62 = .ok (.iinc 4 1, 3) := by decide +kernel
theorem dX10_takeWord_65 : decode cX10_takeWord 65 = .ok (.goto (-24), 3) := by decide +kernel
theorem dX10_takeWord_68 : decode cX10_takeWord 68 = .ok (.aload_n 0, 1) := by decide +kernel
theorem dX10_takeWord_69 : decode cX10_takeWord 69 = .ok (.iload_n 3, 1) := by decide +kernel
theorem dX10_takeWord_70 : decode cX10_takeWord 70 = .ok (.iload_n 1, 1) := by decide +kernel
theorem dX10_takeWord_71 : decode cX10_takeWord 71 = .ok (.iconst 0, 1) := by decide +kernel
theorem dX10_takeWord_72 : decode cX10_takeWord 72 = .ok (.invokevirtual 60, 3) := by decide +kernel
theorem dX10_takeWord_75 : decode cX10_takeWord 75 = .ok (.iload_n 2, 1) := by decide +kernel
theorem dX10_takeWord_76 : decode cX10_takeWord 76 = .ok (.ireturn, 1) := by decide +kernel
theorem dX10_isWord_0 : decode cX10_isWord 0 = .ok (.iload_n 3, 1) := by decide +kernel
theorem dX10_isWord_1 : decode cX10_isWord 1 = .ok (.iload_n 2, 1) := by decide +kernel
theorem dX10_isWord_2 : decode cX10_isWord 2 = .ok (.isub, 1) := by decide +kernel
theorem dX10_isWord_3 : decode cX10_isWord 3 = .ok (.bipush 6, 2) := by decide +kernel
theorem dX10_isWord_5 : decode cX10_isWord 5 = .ok (.if_icmp .le 5, 3) := by decide +kernel
theorem dX10_isWord_8 : decode cX10_isWord 8 = .ok (.iconst 0, 1) := by decide +kernel
theorem dX10_isWord_9 : decode cX10_isWord 9 = .ok (.ireturn, 1) := by decide +kernel
theorem dX10_isWord_10 : decode cX10_isWord 10 = .ok (.iconst 0, 1) := by decide +kernel
theorem dX10_isWord_11 : decode cX10_isWord 11 = .ok (.istore 4, 2) := by decide +kernel
theorem dX10_isWord_13 : decode cX10_isWord 13 = .ok (.iload 4, 2) := by decide +kernel
theorem dX10_isWord_15 : decode cX10_isWord 15 = .ok (.bipush 6, 2) := by decide +kernel
theorem dX10_isWord_17 : decode cX10_isWord 17 = .ok (.if_icmp .ge 54, 3) := by decide +kernel
theorem dX10_isWord_20 : decode cX10_isWord 20 = .ok (.iload_n 2, 1) := by decide +kernel
theorem dX10_isWord_21 : decode cX10_isWord 21 = .ok (.iload 4, 2) := by decide +kernel
theorem dX10_isWord_23 : decode cX10_isWord 23 = .ok (.iadd, 1) := by decide +kernel
theorem dX10_isWord_24 : decode cX10_isWord 24 = .ok (.iload_n 3, 1) := by decide +kernel
theorem dX10_isWord_25 : decode cX10_isWord 25 = .ok (.if_icmp .ge 17, 3) := by decide +kernel
theorem dX10_isWord_28 : decode cX10_isWord 28 = .ok (.aload_n 0, 1) := by decide +kernel
theorem dX10_isWord_29 : decode cX10_isWord 29 = .ok (.getfield 21, 3) := by decide +kernel
theorem dX10_isWord_32 : decode cX10_isWord 32 = .ok (.iload_n 2, 1) := by decide +kernel
theorem dX10_isWord_33 : decode cX10_isWord 33 = .ok (.iload 4, 2) := by decide +kernel
theorem dX10_isWord_35 : decode cX10_isWord 35 = .ok (.iadd, 1) := by decide +kernel
theorem dX10_isWord_36 : decode cX10_isWord 36 = .ok (.invokevirtual 33, 3) := by decide +kernel
theorem dX10_isWord_39 : decode cX10_isWord 39 = .ok (.goto 5, 3) := by decide +kernel
theorem dX10_isWord_42 : decode cX10_isWord 42 = .ok (.bipush 32, 2) := by decide +kernel
theorem dX10_isWord_44 : decode cX10_isWord 44 = .ok (.istore 5, 2) := by decide +kernel
theorem dX10_isWord_46 : decode cX10_isWord 46 = .ok (.ldc 68, 2) := by decide +kernel
theorem dX10_isWord_48 : decode cX10_isWord 48 = .ok (.iload_n 1, 1) := by decide +kernel
theorem dX10_isWord_49 : decode cX10_isWord 49 = .ok (.bipush 6, 2) := by decide +kernel
theorem dX10_isWord_51 : decode cX10_isWord 51 = .ok (.imul, 1) := by decide +kernel
theorem dX10_isWord_52 : decode cX10_isWord 52 = .ok (.iload 4, 2) := by decide +kernel
theorem dX10_isWord_54 : decode cX10_isWord 54 = .ok (.iadd, 1) := by decide +kernel
theorem dX10_isWord_55 : decode cX10_isWord 55 = .ok (.invokevirtual 70, 3) := by decide +kernel
theorem dX10_isWord_58 : decode cX10_isWord 58 = .ok (.iload 5, 2) := by decide +kernel
theorem dX10_isWord_60 : decode cX10_isWord 60 = .ok (.if_icmp .eq 5, 3) := by decide +kernel
theorem dX10_isWord_63 : decode cX10_isWord 63 = .ok (.iconst 0, 1) := by decide +kernel
theorem dX10_isWord_64 : decode cX10_isWord 64 = .ok (.ireturn, 1) := by decide +kernel
theorem dX10_isWord_65 : decode cX10_isWord 65 = .ok (.iinc 4 1, 3) := by decide +kernel
theorem dX10_isWord_68 : decode cX10_isWord 68 = .ok (.goto (-55), 3) := by decide +kernel
theorem dX10_isWord_71 : decode cX10_isWord 71 = .ok (.iconst 1, 1) := by decide +kernel
theorem dX10_isWord_72 : decode cX10_isWord 72 = .ok (.ireturn, 1) := by decide +kernel
theorem dX10_takeNumber_0 : decode cX10_takeNumber 0 = .ok (.iload_n 1, 1) := by decide +kernel
theorem dX10_takeNumber_1 : decode cX10_takeNumber 1 = .ok (.istore_n 2, 1) := by decide +kernel
theorem dX10_takeNumber_2 : decode cX10_takeNumber 2 = .ok (.iconst 0, 1) := by decide +kernel
theorem dX10_takeNumber_3 : decode cX10_takeNumber 3 = .ok (.istore_n 3, 1) := by decide +kernel
theorem dX10_takeNumber_4 : decode cX10_takeNumber 4 = .ok (.iload_n 2, 1) := by decide +kernel
theorem dX10_takeNumber_5 : decode cX10_takeNumber 5 = .ok (.aload_n 0, 1) := by decide +kernel
theorem dX10_takeNumber_6 : decode cX10_takeNumber 6 = .ok (.getfield 21, 3) := by decide +kernel
theorem dX10_takeNumber_9 : decode cX10_takeNumber 9 = .ok (.invokevirtual 29, 3) := by decide +kernel
theorem dX10_takeNumber_12 : decode cX10_takeNumber 12 = .ok (.if_icmp .ge 40, 3) := by decide +kernel
theorem dX10_takeNumber_15 : decode cX10_takeNumber 15 = .ok (.aload_n 0, 1) := by decide +kernel
theorem dX10_takeNumber_16 : decode cX10_takeNumber 16 = .ok (.getfield 21, 3) := by decide +kernel
theorem dX10_takeNumber_19 : decode cX10_takeNumber 19 = .ok (.iload_n 2, 1) := by decide +kernel
theorem dX10_takeNumber_20 : decode cX10_takeNumber 20 = .ok (.invokevirtual 33, 3) := by decide +kernel
theorem dX10_takeNumber_23 : decode cX10_takeNumber 23 = .ok (.invokestatic 47, 3) := by decide +kernel
theorem dX10_takeNumber_26 : decode cX10_takeNumber 26 = .ok (.ifCond .eq 26, 3) := by decide +kernel
theorem dX10_takeNumber_29 : decode cX10_takeNumber 29 = .ok (.iload_n 3, 1) := by decide +kernel
theorem dX10_takeNumber_30 : decode cX10_takeNumber 30 = .ok (.bipush 10, 2) := by decide +kernel
theorem dX10_takeNumber_32 : decode cX10_takeNumber 32 = .ok (.imul, 1) := by decide +kernel
theorem dX10_takeNumber_33 : decode cX10_takeNumber 33 = .ok (.aload_n 0, 1) := by decide +kernel
theorem dX10_takeNumber_34 : decode cX10_takeNumber 34 = .ok (.getfield 21, 3) := by decide +kernel
theorem dX10_takeNumber_37 : decode cX10_takeNumber 37 = .ok (.iload_n 2, 1) := by decide +kernel
theorem dX10_takeNumber_38 : decode cX10_takeNumber 38 = .ok (.invokevirtual 33, 3) := by decide +kernel
theorem dX10_takeNumber_41 : decode cX10_takeNumber 41 = .ok (.iadd, 1) := by decide +kernel
theorem dX10_takeNumber_42 : decode cX10_takeNumber 42 = .ok (.bipush 48, 2) := by decide +kernel
theorem dX10_takeNumber_44 : decode cX10_takeNumber 44 = .ok (.isub, 1) := by decide +kernel
theorem dX10_takeNumber_45 : decode cX10_takeNumber 45 = .ok (.istore_n 3, 1) := by decide +kernel
theorem dX10_takeNumber_46 : decode cX10_takeNumber 46 = .ok (.iinc 2 1, 3) := by decide +kernel
theorem dX10_takeNumber_49 : decode cX10_takeNumber 49 = .ok (.goto (-45), 3) := by decide +kernel
theorem dX10_takeNumber_52 : decode cX10_takeNumber 52 = .ok (.aload_n 0, 1) := by decide +kernel
theorem dX10_takeNumber_53 : decode cX10_takeNumber 53 = .ok (.iload_n 2, 1) := by decide +kernel
theorem dX10_takeNumber_54 : decode cX10_takeNumber 54 = .ok (.iload_n 1, 1) := by decide +kernel
theorem dX10_takeNumber_55 : decode cX10_takeNumber 55 = .ok (.isub, 1) := by decide +kernel
theorem dX10_takeNumber_56 : decode cX10_takeNumber 56 = .ok (.iconst 4, 1) := by decide +kernel
theorem dX10_takeNumber_57 : decode cX10_takeNumber 57 = .ok (.if_icmp .le 8, 3) := by decide +kernel
theorem dX10_takeNumber_60 : decode cX10_takeNumber 60 = .ok (.bipush 23, 2) := by decide +kernel
theorem dX10_takeNumber_62 : decode cX10_takeNumber 62 = .ok (.goto 5, 3) := by decide +kernel
theorem dX10_takeNumber_65 : decode cX10_takeNumber 65 = .ok (.bipush 21, 2) := by decide +kernel
theorem dX10_takeNumber_67 : decode cX10_takeNumber 67 = .ok (.iload_n 1, 1) := by decide +kernel
theorem dX10_takeNumber_68 : decode cX10_takeNumber 68 = .ok (.iload_n 3, 1) := by decide +kernel
theorem dX10_takeNumber_69 : decode cX10_takeNumber 69 = .ok (.invokevirtual 60, 3) := by decide +kernel
theorem dX10_takeNumber_72 : decode cX10_takeNumber 72 = .ok (.iload_n 2, 1) := by decide +kernel
theorem dX10_takeNumber_73 : decode cX10_takeNumber 73 = .ok (.ireturn, 1) := by decide +kernel
theorem dX10_isBlank_0 : decode cX10_isBlank 0 = .ok (.iload_n 0, 1) := by decide +kernel
theorem dX10_isBlank_1 : decode cX10_isBlank 1 = .ok (.bipush 32, 2) := by decide +kernel
theorem dX10_isBlank_3 : decode cX10_isBlank 3 = .ok (.if_icmp .eq 9, 3) := by decide +kernel
theorem dX10_isBlank_6 : decode cX10_isBlank 6 = .ok (.iload_n 0, 1) := by decide +kernel
theorem dX10_isBlank_7 : decode cX10_isBlank 7 = .ok (.bipush 10, 2) := by decide +kernel
theorem dX10_isBlank_9 : decode cX10_isBlank 9 = .ok (.if_icmp .ne 7, 3) := by decide +kernel
theorem dX10_isBlank_12 : decode cX10_isBlank 12 = .ok (.iconst 1, 1) := by decide +kernel
theorem dX10_isBlank_13 : decode cX10_isBlank 13 = .ok (.goto 4, 3) := by decide +kernel
theorem dX10_isBlank_16 : decode cX10_isBlank 16 = .ok (.iconst 0, 1) := by decide +kernel
theorem dX10_isBlank_17 : decode cX10_isBlank 17 = .ok (.ireturn, 1) := by decide +kernel
theorem dX10_isLetter_0 : decode cX10_isLetter 0 = .ok (.iload_n 0, 1) := by decide +kernel
theorem dX10_isLetter_1 : decode cX10_isLetter 1 = .ok (.bipush 97, 2) := by decide +kernel
theorem dX10_isLetter_3 : decode cX10_isLetter 3 = .ok (.if_icmp .lt 9, 3) := by decide +kernel
theorem dX10_isLetter_6 : decode cX10_isLetter 6 = .ok (.iload_n 0, 1) := by decide +kernel
theorem dX10_isLetter_7 : decode cX10_isLetter 7 = .ok (.bipush 122, 2) := by decide +kernel
theorem dX10_isLetter_9 : decode cX10_isLetter 9 = .ok (.if_icmp .le 15, 3) := by decide +kernel
theorem dX10_isLetter_12 : decode cX10_isLetter 12 = .ok (.iload_n 0, 1) := by decide +kernel
theorem dX10_isLetter_13 : decode cX10_isLetter 13 = .ok (.bipush 65, 2) := by decide +kernel
theorem dX10_isLetter_15 : decode cX10_isLetter 15 = .ok (.if_icmp .lt 13, 3) := by decide +kernel
theorem dX10_isLetter_18 : decode cX10_isLetter 18 = .ok (.iload_n 0, 1) := by decide +kernel
theorem dX10_isLetter_19 : decode cX10_isLetter 19 = .ok (.bipush 90, 2) := by decide +kernel
theorem dX10_isLetter_21 : decode cX10_isLetter 21 = .ok (.if_icmp .gt 7, 3) := by decide +kernel
theorem dX10_isLetter_24 : decode cX10_isLetter 24 = .ok (.iconst 1, 1) := by decide +kernel
theorem dX10_isLetter_25 : decode cX10_isLetter 25 = .ok (.goto 4, 3) := by decide +kernel
theorem dX10_isLetter_28 : decode cX10_isLetter 28 = .ok (.iconst 0, 1) := by decide +kernel
theorem dX10_isLetter_29 : decode cX10_isLetter 29 = .ok (.ireturn, 1) := by decide +kernel
theorem dX10_isDigit_0 : decode cX10_isDigit 0 = .ok (.iload_n 0, 1) := by decide +kernel
theorem dX10_isDigit_1 : decode cX10_isDigit 1 = .ok (.bipush 48, 2) := by decide +kernel
theorem dX10_isDigit_3 : decode cX10_isDigit 3 = .ok (.if_icmp .lt 13, 3) := by decide +kernel
theorem dX10_isDigit_6 : decode cX10_isDigit 6 = .ok (.iload_n 0, 1) := by decide +kernel
theorem dX10_isDigit_7 : decode cX10_isDigit 7 = .ok (.bipush 57, 2) := by decide +kernel
theorem dX10_isDigit_9 : decode cX10_isDigit 9 = .ok (.if_icmp .gt 7, 3) := by decide +kernel
theorem dX10_isDigit_12 : decode cX10_isDigit 12 = .ok (.iconst 1, 1) := by decide +kernel
theorem dX10_isDigit_13 : decode cX10_isDigit 13 = .ok (.goto 4, 3) := by decide +kernel
theorem dX10_isDigit_16 : decode cX10_isDigit 16 = .ok (.iconst 0, 1) := by decide +kernel
theorem dX10_isDigit_17 : decode cX10_isDigit 17 = .ok (.ireturn, 1) := by decide +kernel
theorem dX11_init_0 : decode cX11_init 0 = .ok (.aload_n 0, 1) := by decide +kernel
theorem dX11_init_1 : decode cX11_init 1 = .ok (.invokespecial 1, 3) := by decide +kernel
theorem dX11_init_4 : decode cX11_init 4 = .ok (.aload_n 0, 1) := by decide +kernel
theorem dX11_init_5 : decode cX11_init 5 = .ok (.iconst 0, 1) := by decide +kernel
theorem dX11_init_6 : decode cX11_init 6 = .ok (.putfield 7, 3) := by decide +kernel
theorem dX11_init_9 : decode cX11_init 9 = .ok (.aload_n 0, 1) := by decide +kernel
theorem dX11_init_10 : decode cX11_init 10 = .ok (.iconst 0, 1) := by decide +kernel
theorem dX11_init_11 : decode cX11_init 11 = .ok (.putfield 13, 3) := by decide +kernel
theorem dX11_init_14 : decode cX11_init 14 = .ok (.aload_n 0, 1) := by decide +kernel
theorem dX11_init_15 : decode cX11_init 15 = .ok (.new 16, 3) := by decide +kernel
theorem dX11_init_18 : decode cX11_init 18 = .ok (.dup, 1) := by decide +kernel
theorem dX11_init_19 : decode cX11_init 19 = .ok (.invokespecial 18, 3) := by decide +kernel
theorem dX11_init_22 : decode cX11_init 22 = .ok (.putfield 19, 3) := by decide +kernel
theorem dX11_init_25 : decode cX11_init 25 = .ok (.aload_n 0, 1) := by decide +kernel
theorem dX11_init_26 : decode cX11_init 26 = .ok (.new 23, 3) := by decide +kernel
theorem dX11_init_29 : decode cX11_init 29 = .ok (.dup, 1) := by decide +kernel
theorem dX11_init_30 : decode cX11_init 30 = .ok (.invokespecial 25, 3) := by decide +kernel
theorem dX11_init_33 : decode cX11_init 33 = .ok (.putfield 26, 3) := by decide +kernel
theorem dX11_init_36 : decode cX11_init 36 = .ok (.aload_n 0, 1) := by decide +kernel
theorem dX11_init_37 : decode cX11_init 37 = .ok (.new 30, 3) := by decide +kernel
theorem dX11_init_40 : decode cX11_init 40 = .ok (.dup, 1) := by decide +kernel
theorem dX11_init_41 : decode cX11_init 41 = .ok (.invokespecial 32, 3) := by decide +kernel
theorem dX11_init_44 : decode cX11_init 44 = .ok (.putfield 33, 3) := by decide +kernel
theorem dX11_init_47 : decode cX11_init 47 = .ok (.aload_n 0, 1) := by decide +kernel
theorem dX11_init_48 : decode cX11_init 48 = .ok (.new 37, 3) := by decide +kernel
theorem dX11_init_51 : decode cX11_init 51 = .ok (.dup, 1) := by decide +kernel
theorem dX11_init_52 : decode cX11_init 52 = .ok (.invokespecial 39, 3) := by decide +kernel
theorem dX11_init_55 : decode cX11_init 55 = .ok (.putfield 40, 3) := by decide +kernel
theorem dX11_init_58 : decode cX11_init 58 = .ok (.aload_n 0, 1) := by decide +kernel
theorem dX11_init_59 : decode cX11_init 59 = .ok (.new 37, 3) := by decide +kernel
theorem dX11_init_62 : decode cX11_init 62 = .ok (.dup, 1) := by decide +kernel
theorem dX11_init_63 : decode cX11_init 63 = .ok (.invokespecial 39, 3) := by decide +kernel
theorem dX11_init_66 : decode cX11_init 66 = .ok (.putfield 44, 3) := by decide +kernel
theorem dX11_init_69 : decode cX11_init 69 = .ok (.aload_n 0, 1) := by decide +kernel
theorem dX11_init_70 : decode cX11_init 70 = .ok (.new 47, 3) := by decide +kernel
theorem dX11_init_73 : decode cX11_init 73 = .ok (.dup, 1) := by decide +kernel
theorem dX11_init_74 : decode cX11_init 74 = .ok (.aload_n 0, 1) := by decide +kernel
theorem dX11_init_75 : decode cX11_init 75 = .ok (.getfield 33, 3) := by decide +kernel
theorem dX11_init_78 : decode cX11_init 78 = .ok (.aload_n 0, 1) := by decide +kernel
theorem dX11_init_79 : decode cX11_init 79 = .ok (.getfield 44, 3) := by decide +kernel
theorem dX11_init_82 : decode cX11_init 82 = .ok (.invokespecial 49, 3) := by decide +kernel
theorem dX11_init_85 : decode cX11_init 85 = .ok (.putfield 52, 3) := by decide +kernel
theorem dX11_init_88 : decode cX11_init 88 = .ok (.aload_n 0, 1) := by decide +kernel
theorem dX11_init_89 : decode cX11_init 89 = .ok (.new 56, 3) := by decide +kernel
theorem dX11_init_92 : decode cX11_init 92 = .ok (.dup, 1) := by decide +kernel
theorem dX11_init_93 : decode cX11_init 93 = .ok (.invokespecial 58, 3) := by decide +kernel
theorem dX11_init_96 : decode cX11_init 96 = .ok (.putfield 59, 3) := by decide +kernel
theorem dX11_init_99 : decode cX11_init 99 = .ok (.aload_n 0, 1) := by decide +kernel
theorem dX11_init_100 : decode cX11_init 100 = .ok (.new 63, 3) := by decide +kernel
theorem dX11_init_103 : decode cX11_init 103 = .ok (.dup, 1) := by decide +kernel
theorem dX11_init_104 : decode cX11_init 104 = .ok (.invokespecial 65, 3) := by decide +kernel
theorem dX11_init_107 : decode cX11_init 107 = .ok (.putfield 66, 3) := by decide +kernel
theorem dX11_init_110 : decode cX11_init 110 = .ok (.aload_n 0, 1) := by decide +kernel
theorem dX11_init_111 : decode cX11_init 111 = .ok (.new 70, 3) := by decide +kernel
theorem dX11_init_114 : decode cX11_init 114 = .ok (.dup, 1) := by decide +kernel
theorem dX11_init_115 : decode cX11_init 115 = .ok (.aload_n 0, 1) := by decide +kernel
theorem dX11_init_116 : decode cX11_init 116 = .ok (.getfield 19, 3) := by decide +kernel
theorem dX11_init_119 : decode cX11_init 119 = .ok (.aload_n 0, 1) := by decide +kernel
theorem dX11_init_120 : decode cX11_init 120 = .ok (.getfield 26, 3) := by decide +kernel
theorem dX11_init_123 : decode cX11_init 123 = .ok (.aload_n 0, 1) := by decide +kernel
theorem dX11_init_124 : decode cX11_init 124 = .ok (.getfield 40, 3) := by decide +kernel
theorem dX11_init_127 : decode cX11_init 127 = .ok (.invokespecial 72, 3) := by decide +kernel
theorem dX11_init_130 : decode cX11_init 130 = .ok (.putfield 75, 3) := by decide +kernel
theorem dX11_init_133 : decode cX11_init 133 = .ok (.return_, 1) := by decide +kernel
theorem dX11_thing_0 : decode cX11_thing 0 = .ok (.iload_n 1, 1) := by decide +kernel
theorem dX11_thing_1 : decode cX11_thing 1 = .ok (.iconst 0, 1) := by decide +kernel
theorem dX11_thing_2 : decode cX11_thing 2 = .ok (.iconst 4, 1) := by decide +kernel
theorem dX11_thing_3 : decode cX11_thing 3 = .ok (.invokestatic 79, 3) := by decide +kernel
theorem dX11_thing_6 : decode cX11_thing 6 = .ok (.ifCond .eq 17, 3) := by decide +kernel
theorem dX11_thing_9 : decode cX11_thing 9 = .ok (.iload_n 2, 1) := by decide +kernel
theorem dX11_thing_10 : decode cX11_thing 10 = .ok (.invokestatic 83, 3) := by decide +kernel
theorem dX11_thing_13 : decode cX11_thing 13 = .ok (.ifCond .eq 10, 3) := by decide +kernel
theorem dX11_thing_16 : decode cX11_thing 16 = .ok (.iload_n 3, 1) := by decide +kernel
theorem dX11_thing_17 : decode cX11_thing 17 = .ok (.invokestatic 83, 3) := by decide +kernel
theorem dX11_thing_20 : decode cX11_thing 20 = .ok (.ifCond .ne 5, 3) := by decide +kernel
theorem dX11_thing_23 : decode cX11_thing 23 = .ok (.iconst (-1), 1) := by decide +kernel
theorem dX11_thing_24 : decode cX11_thing 24 = .ok (.ireturn, 1) := by decide +kernel
theorem dX11_thing_25 : decode cX11_thing 25 = .ok (.iload 4, 2) := by decide +kernel
theorem dX11_thing_27 : decode cX11_thing 27 = .ok (.iconst 1, 1) := by decide +kernel
theorem dX11_thing_28 : decode cX11_thing 28 = .ok (.bipush 15, 2) := by decide +kernel
theorem dX11_thing_30 : decode cX11_thing 30 = .ok (.invokestatic 79, 3) := by decide +kernel
theorem dX11_thing_33 : decode cX11_thing 33 = .ok (.ifCond .eq 21, 3) := by decide +kernel
theorem dX11_thing_36 : decode cX11_thing 36 = .ok (.iload 5, 2) := by decide +kernel
theorem dX11_thing_38 : decode cX11_thing 38 = .ok (.invokestatic 87, 3) := by decide +kernel
theorem dX11_thing_41 : decode cX11_thing 41 = .ok (.ifCond .eq 13, 3) := by decide +kernel
theorem dX11_thing_44 : decode cX11_thing 44 = .ok (.aload_n 0, 1) := by decide +kernel
theorem dX11_thing_45 : decode cX11_thing 45 = .ok (.getfield 19, 3) := by decide +kernel
theorem dX11_thing_48 : decode cX11_thing 48 = .ok (.invokevirtual 90, 3) := by decide +kernel
theorem dX11_thing_51 : decode cX11_thing 51 = .ok (.ifCond .eq 5, 3) := by decide +kernel
theorem dX11_thing_54 : decode cX11_thing 54 = .ok (.iconst (-1), 1) := by decide +kernel
theorem dX11_thing_55 : decode cX11_thing 55 = .ok (.ireturn, 1) := by decide +kernel
theorem dX11_thing_56 : decode cX11_thing 56 = .ok (.new 94, 3) := by decide +kernel
theorem dX11_thing_59 : decode cX11_thing 59 = .ok (.dup, 1) := by decide +kernel
theorem dX11_thing_60 : decode cX11_thing 60 = .ok (.aload_n 0, 1) := by decide +kernel
theorem dX11_thing_61 : decode cX11_thing 61 = .ok (.getfield 7, 3) := by decide +kernel
theorem dX11_thing_64 : decode cX11_thing 64 = .ok (.iload 5, 2) := by decide +kernel
theorem dX11_thing_66 : decode cX11_thing 66 = .ok (.invokespecial 96, 3) := by decide +kernel
theorem dX11_thing_69 : decode cX11_thing 69 = .ok (.astore 6, 2) := by decide +kernel
theorem dX11_thing_71 : decode cX11_thing 71 = .ok (.aload_n 0, 1) := by decide +kernel
theorem dX11_thing_72 : decode cX11_thing 72 = .ok (.getfield 19, 3) := by decide +kernel
theorem dX11_thing_75 : decode cX11_thing 75 = .ok (.new 99, 3) := by decide +kernel
theorem dX11_thing_78 : decode cX11_thing 78 = .ok (.dup, 1) := by decide +kernel
theorem dX11_thing_79 : decode cX11_thing 79 = .ok (.aload_n 0, 1) := by decide +kernel
theorem dX11_thing_80 : decode cX11_thing 80 = .ok (.getfield 19, 3) := by decide +kernel
theorem dX11_thing_83 : decode cX11_thing 83 = .ok (.invokevirtual 101, 3) := by decide +kernel
theorem dX11_thing_86 : decode cX11_thing 86 = .ok (.iload_n 1, 1) := by decide +kernel
theorem dX11_thing_87 : decode cX11_thing 87 = .ok (.iload_n 2, 1) := by decide +kernel
theorem dX11_thing_88 : decode cX11_thing 88 = .ok (.iload_n 3, 1) := by decide +kernel
theorem dX11_thing_89 : decode cX11_thing 89 = .ok (.iload 4, 2) := by decide +kernel
theorem dX11_thing_91 : decode cX11_thing 91 = .ok (.aload 6, 2) := by decide +kernel
theorem dX11_thing_93 : decode cX11_thing 93 = .ok (.invokespecial 105, 3) := by decide +kernel
theorem dX11_thing_96 : decode cX11_thing 96 = .ok (.invokevirtual 108, 3) := by decide +kernel
theorem dX11_thing_99 : decode cX11_thing 99 = .ok (.ireturn, 1) := by decide +kernel
theorem dX11_copy_0 : decode cX11_copy 0 = .ok (.aload_n 0, 1) := by decide +kernel
theorem dX11_copy_1 : decode cX11_copy 1 = .ok (.getfield 19, 3) := by decide +kernel
theorem dX11_copy_4 : decode cX11_copy 4 = .ok (.iload_n 1, 1) := by decide +kernel
theorem dX11_copy_5 : decode cX11_copy 5 = .ok (.invokevirtual 112, 3) := by decide +kernel
theorem dX11_copy_8 : decode cX11_copy 8 = .ok (.astore 4, 2) := by decide +kernel
theorem dX11_copy_10 : decode cX11_copy 10 = .ok (.aload 4, 2) := by decide +kernel
theorem dX11_copy_12 : decode cX11_copy 12 = .ok (.ifnull 27, 3) := by decide +kernel
theorem dX11_copy_15 : decode cX11_copy 15 = .ok (.iload_n 2, 1) := by decide +kernel
theorem dX11_copy_16 : decode cX11_copy 16 = .ok (.invokestatic 83, 3) := by decide +kernel
theorem dX11_copy_19 : decode cX11_copy 19 = .ok (.ifCond .eq 20, 3) := by decide +kernel
theorem dX11_copy_22 : decode cX11_copy 22 = .ok (.iload_n 3, 1) := by decide +kernel
theorem dX11_copy_23 : decode cX11_copy 23 = .ok (.invokestatic 87, 3) := by decide +kernel
theorem dX11_copy_26 : decode cX11_copy 26 = .ok (.ifCond .eq 13, 3) := by decide +kernel
theorem dX11_copy_29 : decode cX11_copy 29 = .ok (.aload_n 0, 1) := by decide +kernel
theorem dX11_copy_30 : decode cX11_copy 30 = .ok (.getfield 19, 3) := by decide +kernel
theorem dX11_copy_33 : decode cX11_copy 33 = .ok (.invokevirtual 90, 3) := by decide +kernel
theorem dX11_copy_36 : decode cX11_copy 36 = .ok (.ifCond .eq 5, 3) := by decide +kernel
theorem dX11_copy_39 : decode cX11_copy 39 = .ok (.iconst (-1), 1) := by decide +kernel
theorem dX11_copy_40 : decode cX11_copy 40 = .ok (.ireturn, 1) := by decide +kernel
theorem dX11_copy_41 : decode cX11_copy 41 = .ok (.aload_n 0, 1) := by decide +kernel
theorem dX11_copy_42 : decode cX11_copy 42 = .ok (.getfield 19, 3) := by decide +kernel
theorem dX11_copy_45 : decode cX11_copy 45 = .ok (.new 99, 3) := by decide +kernel
theorem dX11_copy_48 : decode cX11_copy 48 = .ok (.dup, 1) := by decide +kernel
theorem dX11_copy_49 : decode cX11_copy 49 = .ok (.aload_n 0, 1) := by decide +kernel
theorem dX11_copy_50 : decode cX11_copy 50 = .ok (.getfield 19, 3) := by decide +kernel
theorem dX11_copy_53 : decode cX11_copy 53 = .ok (.invokevirtual 101, 3) := by decide +kernel
theorem dX11_copy_56 : decode cX11_copy 56 = .ok (.aload 4, 2) := by decide +kernel
theorem dX11_copy_58 : decode cX11_copy 58 = .ok (.iload_n 2, 1) := by decide +kernel
theorem dX11_copy_59 : decode cX11_copy 59 = .ok (.new 94, 3) := by decide +kernel
theorem dX11_copy_62 : decode cX11_copy 62 = .ok (.dup, 1) := by decide +kernel
theorem dX11_copy_63 : decode cX11_copy 63 = .ok (.aload_n 0, 1) := by decide +kernel
theorem dX11_copy_64 : decode cX11_copy 64 = .ok (.getfield 7, 3) := by decide +kernel
theorem dX11_copy_67 : decode cX11_copy 67 = .ok (.iload_n 3, 1) := by decide +kernel
theorem dX11_copy_68 : decode cX11_copy 68 = .ok (.invokespecial 96, 3) := by decide +kernel
theorem dX11_copy_71 : decode cX11_copy 71 = .ok (.invokespecial 116, 3) := by decide +kernel
theorem dX11_copy_74 : decode cX11_copy 74 = .ok (.invokevirtual 108, 3) := by decide +kernel
theorem dX11_copy_77 : decode cX11_copy 77 = .ok (.ireturn, 1) := by decide +kernel
theorem dX11_pass_0 : decode cX11_pass 0 = .ok (.aload_n 0, 1) := by decide +kernel
theorem dX11_pass_1 : decode cX11_pass 1 = .ok (.iload_n 2, 1) := by decide +kernel
theorem dX11_pass_2 : decode cX11_pass 2 = .ok (.iload_n 1, 1) := by decide +kernel
theorem dX11_pass_3 : decode cX11_pass 3 = .ok (.invokevirtual 119, 3) := by decide +kernel
theorem dX11_pass_6 : decode cX11_pass 6 = .ok (.astore_n 3, 1) := by decide +kernel
theorem dX11_pass_7 : decode cX11_pass 7 = .ok (.aload_n 3, 1) := by decide +kernel
theorem dX11_pass_8 : decode cX11_pass 8 = .ok (.ifnull 10, 3) := by decide +kernel
theorem dX11_pass_11 : decode cX11_pass 11 = .ok (.aload_n 0, 1) := by decide +kernel
theorem dX11_pass_12 : decode cX11_pass 12 = .ok (.invokevirtual 123, 3) := by decide +kernel
theorem dX11_pass_15 : decode cX11_pass 15 = .ok (.ifCond .ne 5, 3) := by decide +kernel
theorem dX11_pass_18 : decode cX11_pass 18 = .ok (.iconst 0, 1) := by decide +kernel
theorem dX11_pass_19 : decode cX11_pass 19 = .ok (.ireturn, 1) := by decide +kernel
theorem dX11_pass_20 : decode cX11_pass 20 = .ok (.aload_n 3, 1) := by decide +kernel
theorem dX11_pass_21 : decode cX11_pass 21 = .ok (.aload_n 0, 1) := by decide +kernel
theorem dX11_pass_22 : decode cX11_pass 22 = .ok (.getfield 7, 3) := by decide +kernel
theorem dX11_pass_25 : decode cX11_pass 25 = .ok (.iload_n 2, 1) := by decide +kernel
theorem dX11_pass_26 : decode cX11_pass 26 = .ok (.invokevirtual 126, 3) := by decide +kernel
theorem dX11_pass_29 : decode cX11_pass 29 = .ok (.iconst 1, 1) := by decide +kernel
theorem dX11_pass_30 : decode cX11_pass 30 = .ok (.ireturn, 1) := by decide +kernel
theorem dX11_lend_0 : decode cX11_lend 0 = .ok (.aload_n 0, 1) := by decide +kernel
theorem dX11_lend_1 : decode cX11_lend 1 = .ok (.iload_n 2, 1) := by decide +kernel
theorem dX11_lend_2 : decode cX11_lend 2 = .ok (.iload_n 1, 1) := by decide +kernel
theorem dX11_lend_3 : decode cX11_lend 3 = .ok (.invokevirtual 119, 3) := by decide +kernel
theorem dX11_lend_6 : decode cX11_lend 6 = .ok (.astore_n 3, 1) := by decide +kernel
theorem dX11_lend_7 : decode cX11_lend 7 = .ok (.aload_n 3, 1) := by decide +kernel
theorem dX11_lend_8 : decode cX11_lend 8 = .ok (.ifnull 10, 3) := by decide +kernel
theorem dX11_lend_11 : decode cX11_lend 11 = .ok (.aload_n 0, 1) := by decide +kernel
theorem dX11_lend_12 : decode cX11_lend 12 = .ok (.invokevirtual 123, 3) := by decide +kernel
theorem dX11_lend_15 : decode cX11_lend 15 = .ok (.ifCond .ne 5, 3) := by decide +kernel
theorem dX11_lend_18 : decode cX11_lend 18 = .ok (.iconst 0, 1) := by decide +kernel
theorem dX11_lend_19 : decode cX11_lend 19 = .ok (.ireturn, 1) := by decide +kernel
theorem dX11_lend_20 : decode cX11_lend 20 = .ok (.aload_n 3, 1) := by decide +kernel
theorem dX11_lend_21 : decode cX11_lend 21 = .ok (.aload_n 0, 1) := by decide +kernel
theorem dX11_lend_22 : decode cX11_lend 22 = .ok (.getfield 7, 3) := by decide +kernel
theorem dX11_lend_25 : decode cX11_lend 25 = .ok (.iload_n 2, 1) := by decide +kernel
theorem dX11_lend_26 : decode cX11_lend 26 = .ok (.invokevirtual 129, 3) := by decide +kernel
theorem dX11_lend_29 : decode cX11_lend 29 = .ok (.iconst 1, 1) := by decide +kernel
theorem dX11_lend_30 : decode cX11_lend 30 = .ok (.ireturn, 1) := by decide +kernel
theorem dX11_back_0 : decode cX11_back 0 = .ok (.aload_n 0, 1) := by decide +kernel
theorem dX11_back_1 : decode cX11_back 1 = .ok (.getfield 19, 3) := by decide +kernel
theorem dX11_back_4 : decode cX11_back 4 = .ok (.iload_n 1, 1) := by decide +kernel
theorem dX11_back_5 : decode cX11_back 5 = .ok (.invokevirtual 112, 3) := by decide +kernel
theorem dX11_back_8 : decode cX11_back 8 = .ok (.astore_n 2, 1) := by decide +kernel
theorem dX11_back_9 : decode cX11_back 9 = .ok (.aload_n 2, 1) := by decide +kernel
theorem dX11_back_10 : decode cX11_back 10 = .ok (.ifnull 17, 3) := by decide +kernel
theorem dX11_back_13 : decode cX11_back 13 = .ok (.aload_n 2, 1) := by decide +kernel
theorem dX11_back_14 : decode cX11_back 14 = .ok (.invokevirtual 132, 3) := by decide +kernel
theorem dX11_back_17 : decode cX11_back 17 = .ok (.ifCond .eq 10, 3) := by decide +kernel
theorem dX11_back_20 : decode cX11_back 20 = .ok (.aload_n 0, 1) := by decide +kernel
theorem dX11_back_21 : decode cX11_back 21 = .ok (.invokevirtual 123, 3) := by decide +kernel
theorem dX11_back_24 : decode cX11_back 24 = .ok (.ifCond .ne 5, 3) := by decide +kernel
theorem dX11_back_27 : decode cX11_back 27 = .ok (.iconst 0, 1) := by decide +kernel
theorem dX11_back_28 : decode cX11_back 28 = .ok (.ireturn, 1) := by decide +kernel
theorem dX11_back_29 : decode cX11_back 29 = .ok (.aload_n 2, 1) := by decide +kernel
theorem dX11_back_30 : decode cX11_back 30 = .ok (.aload_n 0, 1) := by decide +kernel
theorem dX11_back_31 : decode cX11_back 31 = .ok (.getfield 7, 3) := by decide +kernel
theorem dX11_back_34 : decode cX11_back 34 = .ok (.aload_n 2, 1) := by decide +kernel
theorem dX11_back_35 : decode cX11_back 35 = .ok (.invokevirtual 135, 3) := by decide +kernel
theorem dX11_back_38 : decode cX11_back 38 = .ok (.invokevirtual 129, 3) := by decide +kernel
theorem dX11_back_41 : decode cX11_back 41 = .ok (.iconst 1, 1) := by decide +kernel
theorem dX11_back_42 : decode cX11_back 42 = .ok (.ireturn, 1) := by decide +kernel
theorem dX11_burn_0 : decode cX11_burn 0 = .ok (.aload_n 0, 1) := by decide +kernel
theorem dX11_burn_1 : decode cX11_burn 1 = .ok (.getfield 19, 3) := by decide +kernel
theorem dX11_burn_4 : decode cX11_burn 4 = .ok (.iload_n 1, 1) := by decide +kernel
theorem dX11_burn_5 : decode cX11_burn 5 = .ok (.invokevirtual 112, 3) := by decide +kernel
theorem dX11_burn_8 : decode cX11_burn 8 = .ok (.astore_n 2, 1) := by decide +kernel
theorem dX11_burn_9 : decode cX11_burn 9 = .ok (.aload_n 2, 1) := by decide +kernel
theorem dX11_burn_10 : decode cX11_burn 10 = .ok (.ifnull 10, 3) := by decide +kernel
theorem dX11_burn_13 : decode cX11_burn 13 = .ok (.aload_n 0, 1) := by decide +kernel
theorem dX11_burn_14 : decode cX11_burn 14 = .ok (.invokevirtual 123, 3) := by decide +kernel
theorem dX11_burn_17 : decode cX11_burn 17 = .ok (.ifCond .ne 5, 3) := by decide +kernel
theorem dX11_burn_20 : decode cX11_burn 20 = .ok (.iconst 0, 1) := by decide +kernel
theorem dX11_burn_21 : decode cX11_burn 21 = .ok (.ireturn, 1) := by decide +kernel
theorem dX11_burn_22 : decode cX11_burn 22 = .ok (.aload_n 2, 1) := by decide +kernel
theorem dX11_burn_23 : decode cX11_burn 23 = .ok (.aload_n 0, 1) := by decide +kernel
theorem dX11_burn_24 : decode cX11_burn 24 = .ok (.getfield 7, 3) := by decide +kernel
theorem dX11_burn_27 : decode cX11_burn 27 = .ok (.invokevirtual 138, 3) := by decide +kernel
theorem dX11_burn_30 : decode cX11_burn 30 = .ok (.iconst 1, 1) := by decide +kernel
theorem dX11_burn_31 : decode cX11_burn 31 = .ok (.ireturn, 1) := by decide +kernel
theorem dX11_days_0 : decode cX11_days 0 = .ok (.iload_n 1, 1) := by decide +kernel
theorem dX11_days_1 : decode cX11_days 1 = .ok (.iconst 1, 1) := by decide +kernel
theorem dX11_days_2 : decode cX11_days 2 = .ok (.sipush 1000, 3) := by decide +kernel
theorem dX11_days_5 : decode cX11_days 5 = .ok (.invokestatic 79, 3) := by decide +kernel
theorem dX11_days_8 : decode cX11_days 8 = .ok (.ifCond .eq 15, 3) := by decide +kernel
theorem dX11_days_11 : decode cX11_days 11 = .ok (.aload_n 0, 1) := by decide +kernel
theorem dX11_days_12 : decode cX11_days 12 = .ok (.getfield 7, 3) := by decide +kernel
theorem dX11_days_15 : decode cX11_days 15 = .ok (.iload_n 1, 1) := by decide +kernel
theorem dX11_days_16 : decode cX11_days 16 = .ok (.iadd, 1) := by decide +kernel
theorem dX11_days_17 : decode cX11_days 17 = .ok (.sipush 9999, 3) := by decide +kernel
theorem dX11_days_20 : decode cX11_days 20 = .ok (.if_icmp .le 5, 3) := by decide +kernel
theorem dX11_days_23 : decode cX11_days 23 = .ok (.iconst (-1), 1) := by decide +kernel
theorem dX11_days_24 : decode cX11_days 24 = .ok (.ireturn, 1) := by decide +kernel
theorem dX11_days_25 : decode cX11_days 25 = .ok (.aload_n 0, 1) := by decide +kernel
theorem dX11_days_26 : decode cX11_days 26 = .ok (.dup, 1) := by decide +kernel
theorem dX11_days_27 : decode cX11_days 27 = .ok (.getfield 7, 3) := by decide +kernel
theorem dX11_days_30 : decode cX11_days 30 = .ok (.iload_n 1, 1) := by decide +kernel
theorem dX11_days_31 : decode cX11_days 31 = .ok (.iadd, 1) := by decide +kernel
theorem dX11_days_32 : decode cX11_days 32 = .ok (.putfield 7, 3) := by decide +kernel
theorem dX11_days_35 : decode cX11_days 35 = .ok (.aload_n 0, 1) := by decide +kernel
theorem dX11_days_36 : decode cX11_days 36 = .ok (.getfield 7, 3) := by decide +kernel
theorem dX11_days_39 : decode cX11_days 39 = .ok (.ireturn, 1) := by decide +kernel
theorem dX11_look_0 : decode cX11_look 0 = .ok (.iload_n 1, 1) := by decide +kernel
theorem dX11_look_1 : decode cX11_look 1 = .ok (.tableswitch 72 0 4 #[35, 40, 48, 56, 64], 35) := by decide +kernel
theorem dX11_look_36 : decode cX11_look 36 = .ok (.aload_n 0, 1) := by decide +kernel
theorem dX11_look_37 : decode cX11_look 37 = .ok (.getfield 7, 3) := by decide +kernel
theorem dX11_look_40 : decode cX11_look 40 = .ok (.ireturn, 1) := by decide +kernel
theorem dX11_look_41 : decode cX11_look 41 = .ok (.aload_n 0, 1) := by decide +kernel
theorem dX11_look_42 : decode cX11_look 42 = .ok (.getfield 19, 3) := by decide +kernel
theorem dX11_look_45 : decode cX11_look 45 = .ok (.invokevirtual 101, 3) := by decide +kernel
theorem dX11_look_48 : decode cX11_look 48 = .ok (.ireturn, 1) := by decide +kernel
theorem dX11_look_49 : decode cX11_look 49 = .ok (.aload_n 0, 1) := by decide +kernel
theorem dX11_look_50 : decode cX11_look 50 = .ok (.getfield 19, 3) := by decide +kernel
theorem dX11_look_53 : decode cX11_look 53 = .ok (.invokevirtual 142, 3) := by decide +kernel
theorem dX11_look_56 : decode cX11_look 56 = .ok (.ireturn, 1) := by decide +kernel
theorem dX11_look_57 : decode cX11_look 57 = .ok (.aload_n 0, 1) := by decide +kernel
theorem dX11_look_58 : decode cX11_look 58 = .ok (.getfield 26, 3) := by decide +kernel
theorem dX11_look_61 : decode cX11_look 61 = .ok (.invokevirtual 145, 3) := by decide +kernel
theorem dX11_look_64 : decode cX11_look 64 = .ok (.ireturn, 1) := by decide +kernel
theorem dX11_look_65 : decode cX11_look 65 = .ok (.aload_n 0, 1) := by decide +kernel
theorem dX11_look_66 : decode cX11_look 66 = .ok (.getfield 40, 3) := by decide +kernel
theorem dX11_look_69 : decode cX11_look 69 = .ok (.invokevirtual 146, 3) := by decide +kernel
theorem dX11_look_72 : decode cX11_look 72 = .ok (.ireturn, 1) := by decide +kernel
theorem dX11_look_73 : decode cX11_look 73 = .ok (.iconst (-1), 1) := by decide +kernel
theorem dX11_look_74 : decode cX11_look 74 = .ok (.ireturn, 1) := by decide +kernel
theorem dX11_of_0 : decode cX11_of 0 = .ok (.aload_n 0, 1) := by decide +kernel
theorem dX11_of_1 : decode cX11_of 1 = .ok (.getfield 19, 3) := by decide +kernel
theorem dX11_of_4 : decode cX11_of 4 = .ok (.iload_n 1, 1) := by decide +kernel
theorem dX11_of_5 : decode cX11_of 5 = .ok (.invokevirtual 147, 3) := by decide +kernel
theorem dX11_of_8 : decode cX11_of 8 = .ok (.astore_n 3, 1) := by decide +kernel
theorem dX11_of_9 : decode cX11_of 9 = .ok (.aload_n 3, 1) := by decide +kernel
theorem dX11_of_10 : decode cX11_of 10 = .ok (.ifnonnull 5, 3) := by decide +kernel
theorem dX11_of_13 : decode cX11_of 13 = .ok (.iconst (-1), 1) := by decide +kernel
theorem dX11_of_14 : decode cX11_of 14 = .ok (.ireturn, 1) := by decide +kernel
theorem dX11_of_15 : decode cX11_of 15 = .ok (.iload_n 2, 1) := by decide +kernel
theorem dX11_of_16 : decode cX11_of 16 = .ok (.tableswitch 117 0 8 #[52, 57, 62, 67, 72, 77, 82, 87, 100], 52) := by decide +kernel
theorem dX11_of_68 : decode cX11_of 68 = .ok (.aload_n 3, 1) := by decide +kernel
theorem dX11_of_69 : decode cX11_of 69 = .ok (.getfield 150, 3) := by decide +kernel
theorem dX11_of_72 : decode cX11_of 72 = .ok (.ireturn, 1) := by decide +kernel
theorem dX11_of_73 : decode cX11_of 73 = .ok (.aload_n 3, 1) := by decide +kernel
theorem dX11_of_74 : decode cX11_of 74 = .ok (.getfield 153, 3) := by decide +kernel
theorem dX11_of_77 : decode cX11_of 77 = .ok (.ireturn, 1) := by decide +kernel
theorem dX11_of_78 : decode cX11_of 78 = .ok (.aload_n 3, 1) := by decide +kernel
theorem dX11_of_79 : decode cX11_of 79 = .ok (.getfield 156, 3) := by decide +kernel
theorem dX11_of_82 : decode cX11_of 82 = .ok (.ireturn, 1) := by decide +kernel
theorem dX11_of_83 : decode cX11_of 83 = .ok (.aload_n 3, 1) := by decide +kernel
theorem dX11_of_84 : decode cX11_of 84 = .ok (.getfield 159, 3) := by decide +kernel
theorem dX11_of_87 : decode cX11_of 87 = .ok (.ireturn, 1) := by decide +kernel
theorem dX11_of_88 : decode cX11_of 88 = .ok (.aload_n 3, 1) := by decide +kernel
theorem dX11_of_89 : decode cX11_of 89 = .ok (.getfield 162, 3) := by decide +kernel
theorem dX11_of_92 : decode cX11_of 92 = .ok (.ireturn, 1) := by decide +kernel
theorem dX11_of_93 : decode cX11_of 93 = .ok (.aload_n 3, 1) := by decide +kernel
theorem dX11_of_94 : decode cX11_of 94 = .ok (.getfield 165, 3) := by decide +kernel
theorem dX11_of_97 : decode cX11_of 97 = .ok (.ireturn, 1) := by decide +kernel
theorem dX11_of_98 : decode cX11_of 98 = .ok (.aload_n 3, 1) := by decide +kernel
theorem dX11_of_99 : decode cX11_of 99 = .ok (.getfield 168, 3) := by decide +kernel
theorem dX11_of_102 : decode cX11_of 102 = .ok (.ireturn, 1) := by decide +kernel
theorem dX11_of_103 : decode cX11_of 103 = .ok (.aload_n 3, 1) := by decide +kernel
theorem dX11_of_104 : decode cX11_of 104 = .ok (.invokevirtual 171, 3) := by decide +kernel
theorem dX11_of_107 : decode cX11_of 107 = .ok (.ifCond .eq 7, 3) := by decide +kernel
theorem dX11_of_110 : decode cX11_of 110 = .ok (.iconst 1, 1) := by decide +kernel
theorem dX11_of_111 : decode cX11_of 111 = .ok (.goto 4, 3) := by decide +kernel
theorem dX11_of_114 : decode cX11_of 114 = .ok (.iconst 0, 1) := by decide +kernel
theorem dX11_of_115 : decode cX11_of 115 = .ok (.ireturn, 1) := by decide +kernel
theorem dX11_of_116 : decode cX11_of 116 = .ok (.aload_n 0, 1) := by decide +kernel
theorem dX11_of_117 : decode cX11_of 117 = .ok (.getfield 19, 3) := by decide +kernel
theorem dX11_of_120 : decode cX11_of 120 = .ok (.aload_n 3, 1) := by decide +kernel
theorem dX11_of_121 : decode cX11_of 121 = .ok (.invokevirtual 174, 3) := by decide +kernel
theorem dX11_of_124 : decode cX11_of 124 = .ok (.ifCond .eq 7, 3) := by decide +kernel
theorem dX11_of_127 : decode cX11_of 127 = .ok (.iconst 1, 1) := by decide +kernel
theorem dX11_of_128 : decode cX11_of 128 = .ok (.goto 4, 3) := by decide +kernel
theorem dX11_of_131 : decode cX11_of 131 = .ok (.iconst 0, 1) := by decide +kernel
theorem dX11_of_132 : decode cX11_of 132 = .ok (.ireturn, 1) := by decide +kernel
theorem dX11_of_133 : decode cX11_of 133 = .ok (.iconst (-1), 1) := by decide +kernel
theorem dX11_of_134 : decode cX11_of 134 = .ok (.ireturn, 1) := by decide +kernel
theorem dX11_held_0 : decode cX11_held 0 = .ok (.aload_n 0, 1) := by decide +kernel
theorem dX11_held_1 : decode cX11_held 1 = .ok (.getfield 19, 3) := by decide +kernel
theorem dX11_held_4 : decode cX11_held 4 = .ok (.iload_n 1, 1) := by decide +kernel
theorem dX11_held_5 : decode cX11_held 5 = .ok (.invokevirtual 147, 3) := by decide +kernel
theorem dX11_held_8 : decode cX11_held 8 = .ok (.astore 4, 2) := by decide +kernel
theorem dX11_held_10 : decode cX11_held 10 = .ok (.aload 4, 2) := by decide +kernel
theorem dX11_held_12 : decode cX11_held 12 = .ok (.ifnull 24, 3) := by decide +kernel
theorem dX11_held_15 : decode cX11_held 15 = .ok (.iload_n 2, 1) := by decide +kernel
theorem dX11_held_16 : decode cX11_held 16 = .ok (.iconst 0, 1) := by decide +kernel
theorem dX11_held_17 : decode cX11_held 17 = .ok (.aload_n 0, 1) := by decide +kernel
theorem dX11_held_18 : decode cX11_held 18 = .ok (.getfield 7, 3) := by decide +kernel
theorem dX11_held_21 : decode cX11_held 21 = .ok (.invokestatic 79, 3) := by decide +kernel
theorem dX11_held_24 : decode cX11_held 24 = .ok (.ifCond .eq 12, 3) := by decide +kernel
theorem dX11_held_27 : decode cX11_held 27 = .ok (.iload_n 3, 1) := by decide +kernel
theorem dX11_held_28 : decode cX11_held 28 = .ok (.iconst 0, 1) := by decide +kernel
theorem dX11_held_29 : decode cX11_held 29 = .ok (.iconst 1, 1) := by decide +kernel
theorem dX11_held_30 : decode cX11_held 30 = .ok (.invokestatic 79, 3) := by decide +kernel
theorem dX11_held_33 : decode cX11_held 33 = .ok (.ifCond .ne 5, 3) := by decide +kernel
theorem dX11_held_36 : decode cX11_held 36 = .ok (.iconst (-1), 1) := by decide +kernel
theorem dX11_held_37 : decode cX11_held 37 = .ok (.ireturn, 1) := by decide +kernel
theorem dX11_held_38 : decode cX11_held 38 = .ok (.aload 4, 2) := by decide +kernel
theorem dX11_held_40 : decode cX11_held 40 = .ok (.iload_n 2, 1) := by decide +kernel
theorem dX11_held_41 : decode cX11_held 41 = .ok (.invokevirtual 178, 3) := by decide +kernel
theorem dX11_held_44 : decode cX11_held 44 = .ok (.astore 5, 2) := by decide +kernel
theorem dX11_held_46 : decode cX11_held 46 = .ok (.aload 5, 2) := by decide +kernel
theorem dX11_held_48 : decode cX11_held 48 = .ok (.ifnull 11, 3) := by decide +kernel
theorem dX11_held_51 : decode cX11_held 51 = .ok (.aload 5, 2) := by decide +kernel
theorem dX11_held_53 : decode cX11_held 53 = .ok (.getfield 182, 3) := by decide +kernel
theorem dX11_held_56 : decode cX11_held 56 = .ok (.ifCond .ne 5, 3) := by decide +kernel
theorem dX11_held_59 : decode cX11_held 59 = .ok (.iconst (-1), 1) := by decide +kernel
theorem dX11_held_60 : decode cX11_held 60 = .ok (.ireturn, 1) := by decide +kernel
theorem dX11_held_61 : decode cX11_held 61 = .ok (.iload_n 3, 1) := by decide +kernel
theorem dX11_held_62 : decode cX11_held 62 = .ok (.ifCond .ne 11, 3) := by decide +kernel
theorem dX11_held_65 : decode cX11_held 65 = .ok (.aload 5, 2) := by decide +kernel
theorem dX11_held_67 : decode cX11_held 67 = .ok (.getfield 186, 3) := by decide +kernel
theorem dX11_held_70 : decode cX11_held 70 = .ok (.goto 8, 3) := by decide +kernel
theorem dX11_held_73 : decode cX11_held 73 = .ok (.aload 5, 2) := by decide +kernel
theorem dX11_held_75 : decode cX11_held 75 = .ok (.getfield 188, 3) := by decide +kernel
theorem dX11_held_78 : decode cX11_held 78 = .ok (.ireturn, 1) := by decide +kernel
theorem dX11_owners_0 : decode cX11_owners 0 = .ok (.aload_n 0, 1) := by decide +kernel
theorem dX11_owners_1 : decode cX11_owners 1 = .ok (.getfield 19, 3) := by decide +kernel
theorem dX11_owners_4 : decode cX11_owners 4 = .ok (.iload_n 1, 1) := by decide +kernel
theorem dX11_owners_5 : decode cX11_owners 5 = .ok (.invokevirtual 147, 3) := by decide +kernel
theorem dX11_owners_8 : decode cX11_owners 8 = .ok (.astore_n 3, 1) := by decide +kernel
theorem dX11_owners_9 : decode cX11_owners 9 = .ok (.aload_n 3, 1) := by decide +kernel
theorem dX11_owners_10 : decode cX11_owners 10 = .ok (.ifnonnull 5, 3) := by decide +kernel
theorem dX11_owners_13 : decode cX11_owners 13 = .ok (.iconst (-1), 1) := by decide +kernel
theorem dX11_owners_14 : decode cX11_owners 14 = .ok (.ireturn, 1) := by decide +kernel
theorem dX11_owners_15 : decode cX11_owners 15 = .ok (.iload_n 2, 1) := by decide +kernel
theorem dX11_owners_16 : decode cX11_owners 16 = .ok (.iconst (-1), 1) := by decide +kernel
theorem dX11_owners_17 : decode cX11_owners 17 = .ok (.if_icmp .ne 10, 3) := by decide +kernel
theorem dX11_owners_20 : decode cX11_owners 20 = .ok (.aload_n 3, 1) := by decide +kernel
theorem dX11_owners_21 : decode cX11_owners 21 = .ok (.invokevirtual 191, 3) := by decide +kernel
theorem dX11_owners_24 : decode cX11_owners 24 = .ok (.goto 8, 3) := by decide +kernel
theorem dX11_owners_27 : decode cX11_owners 27 = .ok (.aload_n 3, 1) := by decide +kernel
theorem dX11_owners_28 : decode cX11_owners 28 = .ok (.iload_n 2, 1) := by decide +kernel
theorem dX11_owners_29 : decode cX11_owners 29 = .ok (.invokevirtual 194, 3) := by decide +kernel
theorem dX11_owners_32 : decode cX11_owners 32 = .ok (.ireturn, 1) := by decide +kernel
theorem dX11_gather_0 : decode cX11_gather 0 = .ok (.iload_n 1, 1) := by decide +kernel
theorem dX11_gather_1 : decode cX11_gather 1 = .ok (.invokestatic 87, 3) := by decide +kernel
theorem dX11_gather_4 : decode cX11_gather 4 = .ok (.ifCond .eq 27, 3) := by decide +kernel
theorem dX11_gather_7 : decode cX11_gather 7 = .ok (.iload_n 2, 1) := by decide +kernel
theorem dX11_gather_8 : decode cX11_gather 8 = .ok (.invokestatic 198, 3) := by decide +kernel
theorem dX11_gather_11 : decode cX11_gather 11 = .ok (.ifCond .eq 20, 3) := by decide +kernel
theorem dX11_gather_14 : decode cX11_gather 14 = .ok (.iload_n 3, 1) := by decide +kernel
theorem dX11_gather_15 : decode cX11_gather 15 = .ok (.invokestatic 201, 3) := by decide +kernel
theorem dX11_gather_18 : decode cX11_gather 18 = .ok (.ifCond .eq 13, 3) := by decide +kernel
theorem dX11_gather_21 : decode cX11_gather 21 = .ok (.aload_n 0, 1) := by decide +kernel
theorem dX11_gather_22 : decode cX11_gather 22 = .ok (.getfield 26, 3) := by decide +kernel
theorem dX11_gather_25 : decode cX11_gather 25 = .ok (.invokevirtual 204, 3) := by decide +kernel
theorem dX11_gather_28 : decode cX11_gather 28 = .ok (.ifCond .eq 5, 3) := by decide +kernel
theorem dX11_gather_31 : decode cX11_gather 31 = .ok (.iconst (-1), 1) := by decide +kernel
theorem dX11_gather_32 : decode cX11_gather 32 = .ok (.ireturn, 1) := by decide +kernel
theorem dX11_gather_33 : decode cX11_gather 33 = .ok (.aload_n 0, 1) := by decide +kernel
theorem dX11_gather_34 : decode cX11_gather 34 = .ok (.getfield 59, 3) := by decide +kernel
theorem dX11_gather_37 : decode cX11_gather 37 = .ok (.iload 4, 2) := by decide +kernel
theorem dX11_gather_39 : decode cX11_gather 39 = .ok (.aload_n 0, 1) := by decide +kernel
theorem dX11_gather_40 : decode cX11_gather 40 = .ok (.getfield 19, 3) := by decide +kernel
theorem dX11_gather_43 : decode cX11_gather 43 = .ok (.invokevirtual 205, 3) := by decide +kernel
theorem dX11_gather_46 : decode cX11_gather 46 = .ok (.ifCond .eq 14, 3) := by decide +kernel
theorem dX11_gather_49 : decode cX11_gather 49 = .ok (.aload_n 0, 1) := by decide +kernel
theorem dX11_gather_50 : decode cX11_gather 50 = .ok (.getfield 59, 3) := by decide +kernel
theorem dX11_gather_53 : decode cX11_gather 53 = .ok (.iload_n 1, 1) := by decide +kernel
theorem dX11_gather_54 : decode cX11_gather 54 = .ok (.invokevirtual 209, 3) := by decide +kernel
theorem dX11_gather_57 : decode cX11_gather 57 = .ok (.ifCond .ne 5, 3) := by decide +kernel
theorem dX11_gather_60 : decode cX11_gather 60 = .ok (.iconst (-1), 1) := by decide +kernel
theorem dX11_gather_61 : decode cX11_gather 61 = .ok (.ireturn, 1) := by decide +kernel
theorem dX11_gather_62 : decode cX11_gather 62 = .ok (.aload_n 0, 1) := by decide +kernel
theorem dX11_gather_63 : decode cX11_gather 63 = .ok (.getfield 26, 3) := by decide +kernel
theorem dX11_gather_66 : decode cX11_gather 66 = .ok (.iload_n 1, 1) := by decide +kernel
theorem dX11_gather_67 : decode cX11_gather 67 = .ok (.aload_n 0, 1) := by decide +kernel
theorem dX11_gather_68 : decode cX11_gather 68 = .ok (.getfield 7, 3) := by decide +kernel
theorem dX11_gather_71 : decode cX11_gather 71 = .ok (.iload_n 2, 1) := by decide +kernel
theorem dX11_gather_72 : decode cX11_gather 72 = .ok (.iload_n 3, 1) := by decide +kernel
theorem dX11_gather_73 : decode cX11_gather 73 = .ok (.aload_n 0, 1) := by decide +kernel
theorem dX11_gather_74 : decode cX11_gather 74 = .ok (.getfield 59, 3) := by decide +kernel
theorem dX11_gather_77 : decode cX11_gather 77 = .ok (.invokevirtual 212, 3) := by decide +kernel
theorem dX11_gather_80 : decode cX11_gather 80 = .ok (.ireturn, 1) := by decide +kernel
theorem dX11_gathering_0 : decode cX11_gathering 0 = .ok (.aload_n 0, 1) := by decide +kernel
theorem dX11_gathering_1 : decode cX11_gathering 1 = .ok (.getfield 26, 3) := by decide +kernel
theorem dX11_gathering_4 : decode cX11_gathering 4 = .ok (.iload_n 1, 1) := by decide +kernel
theorem dX11_gathering_5 : decode cX11_gathering 5 = .ok (.iload_n 2, 1) := by decide +kernel
theorem dX11_gathering_6 : decode cX11_gathering 6 = .ok (.invokevirtual 215, 3) := by decide +kernel
theorem dX11_gathering_9 : decode cX11_gathering 9 = .ok (.ireturn, 1) := by decide +kernel
theorem dX11_seen_0 : decode cX11_seen 0 = .ok (.iload_n 1, 1) := by decide +kernel
theorem dX11_seen_1 : decode cX11_seen 1 = .ok (.iconst 0, 1) := by decide +kernel
theorem dX11_seen_2 : decode cX11_seen 2 = .ok (.bipush 7, 2) := by decide +kernel
theorem dX11_seen_4 : decode cX11_seen 4 = .ok (.invokestatic 79, 3) := by decide +kernel
theorem dX11_seen_7 : decode cX11_seen 7 = .ok (.ifCond .eq 25, 3) := by decide +kernel
theorem dX11_seen_10 : decode cX11_seen 10 = .ok (.aload_n 0, 1) := by decide +kernel
theorem dX11_seen_11 : decode cX11_seen 11 = .ok (.getfield 19, 3) := by decide +kernel
theorem dX11_seen_14 : decode cX11_seen 14 = .ok (.iload_n 2, 1) := by decide +kernel
theorem dX11_seen_15 : decode cX11_seen 15 = .ok (.invokevirtual 147, 3) := by decide +kernel
theorem dX11_seen_18 : decode cX11_seen 18 = .ok (.ifnull 14, 3) := by decide +kernel
theorem dX11_seen_21 : decode cX11_seen 21 = .ok (.aload_n 0, 1) := by decide +kernel
theorem dX11_seen_22 : decode cX11_seen 22 = .ok (.getfield 19, 3) := by decide +kernel
theorem dX11_seen_25 : decode cX11_seen 25 = .ok (.iload_n 3, 1) := by decide +kernel
theorem dX11_seen_26 : decode cX11_seen 26 = .ok (.invokevirtual 147, 3) := by decide +kernel
theorem dX11_seen_29 : decode cX11_seen 29 = .ok (.ifnonnull 5, 3) := by decide +kernel
theorem dX11_seen_32 : decode cX11_seen 32 = .ok (.iconst (-1), 1) := by decide +kernel
theorem dX11_seen_33 : decode cX11_seen 33 = .ok (.ireturn, 1) := by decide +kernel
theorem dX11_seen_34 : decode cX11_seen 34 = .ok (.aload_n 0, 1) := by decide +kernel
theorem dX11_seen_35 : decode cX11_seen 35 = .ok (.getfield 26, 3) := by decide +kernel
theorem dX11_seen_38 : decode cX11_seen 38 = .ok (.iconst 1, 1) := by decide +kernel
theorem dX11_seen_39 : decode cX11_seen 39 = .ok (.iload_n 1, 1) := by decide +kernel
theorem dX11_seen_40 : decode cX11_seen 40 = .ok (.ishl, 1) := by decide +kernel
theorem dX11_seen_41 : decode cX11_seen 41 = .ok (.iconst 1, 1) := by decide +kernel
theorem dX11_seen_42 : decode cX11_seen 42 = .ok (.iload_n 2, 1) := by decide +kernel
theorem dX11_seen_43 : decode cX11_seen 43 = .ok (.ishl, 1) := by decide +kernel
theorem dX11_seen_44 : decode cX11_seen 44 = .ok (.iconst 1, 1) := by decide +kernel
theorem dX11_seen_45 : decode cX11_seen 45 = .ok (.iload_n 3, 1) := by decide +kernel
theorem dX11_seen_46 : decode cX11_seen 46 = .ok (.ishl, 1) := by decide +kernel
theorem dX11_seen_47 : decode cX11_seen 47 = .ok (.ior, 1) := by decide +kernel
theorem dX11_seen_48 : decode cX11_seen 48 = .ok (.invokevirtual 219, 3) := by decide +kernel
theorem dX11_seen_51 : decode cX11_seen 51 = .ok (.ireturn, 1) := by decide +kernel
theorem dX11_again_0 : decode cX11_again 0 = .ok (.iload_n 1, 1) := by decide +kernel
theorem dX11_again_1 : decode cX11_again 1 = .ok (.invokestatic 201, 3) := by decide +kernel
theorem dX11_again_4 : decode cX11_again 4 = .ok (.ifCond .eq 18, 3) := by decide +kernel
theorem dX11_again_7 : decode cX11_again 7 = .ok (.aload_n 0, 1) := by decide +kernel
theorem dX11_again_8 : decode cX11_again 8 = .ok (.getfield 59, 3) := by decide +kernel
theorem dX11_again_11 : decode cX11_again 11 = .ok (.iload_n 2, 1) := by decide +kernel
theorem dX11_again_12 : decode cX11_again 12 = .ok (.aload_n 0, 1) := by decide +kernel
theorem dX11_again_13 : decode cX11_again 13 = .ok (.getfield 19, 3) := by decide +kernel
theorem dX11_again_16 : decode cX11_again 16 = .ok (.invokevirtual 205, 3) := by decide +kernel
theorem dX11_again_19 : decode cX11_again 19 = .ok (.ifCond .ne 5, 3) := by decide +kernel
theorem dX11_again_22 : decode cX11_again 22 = .ok (.iconst (-1), 1) := by decide +kernel
theorem dX11_again_23 : decode cX11_again 23 = .ok (.ireturn, 1) := by decide +kernel
theorem dX11_again_24 : decode cX11_again 24 = .ok (.aload_n 0, 1) := by decide +kernel
theorem dX11_again_25 : decode cX11_again 25 = .ok (.getfield 26, 3) := by decide +kernel
theorem dX11_again_28 : decode cX11_again 28 = .ok (.iload_n 1, 1) := by decide +kernel
theorem dX11_again_29 : decode cX11_again 29 = .ok (.aload_n 0, 1) := by decide +kernel
theorem dX11_again_30 : decode cX11_again 30 = .ok (.getfield 59, 3) := by decide +kernel
theorem dX11_again_33 : decode cX11_again 33 = .ok (.invokevirtual 222, 3) := by decide +kernel
theorem dX11_again_36 : decode cX11_again 36 = .ok (.ireturn, 1) := by decide +kernel
theorem dX11_feed_0 : decode cX11_feed 0 = .ok (.aload_n 0, 1) := by decide +kernel
theorem dX11_feed_1 : decode cX11_feed 1 = .ok (.getfield 33, 3) := by decide +kernel
theorem dX11_feed_4 : decode cX11_feed 4 = .ok (.iconst 5, 1) := by decide +kernel
theorem dX11_feed_5 : decode cX11_feed 5 = .ok (.invokevirtual 226, 3) := by decide +kernel
theorem dX11_feed_8 : decode cX11_feed 8 = .ok (.ifCond .ne 5, 3) := by decide +kernel
theorem dX11_feed_11 : decode cX11_feed 11 = .ok (.iconst (-1), 1) := by decide +kernel
theorem dX11_feed_12 : decode cX11_feed 12 = .ok (.ireturn, 1) := by decide +kernel
theorem dX11_feed_13 : decode cX11_feed 13 = .ok (.aload_n 0, 1) := by decide +kernel
theorem dX11_feed_14 : decode cX11_feed 14 = .ok (.getfield 33, 3) := by decide +kernel
theorem dX11_feed_17 : decode cX11_feed 17 = .ok (.iload_n 1, 1) := by decide +kernel
theorem dX11_feed_18 : decode cX11_feed 18 = .ok (.invokevirtual 229, 3) := by decide +kernel
theorem dX11_feed_21 : decode cX11_feed 21 = .ok (.aload_n 0, 1) := by decide +kernel
theorem dX11_feed_22 : decode cX11_feed 22 = .ok (.getfield 33, 3) := by decide +kernel
theorem dX11_feed_25 : decode cX11_feed 25 = .ok (.iload_n 2, 1) := by decide +kernel
theorem dX11_feed_26 : decode cX11_feed 26 = .ok (.invokevirtual 229, 3) := by decide +kernel
theorem dX11_feed_29 : decode cX11_feed 29 = .ok (.aload_n 0, 1) := by decide +kernel
theorem dX11_feed_30 : decode cX11_feed 30 = .ok (.getfield 33, 3) := by decide +kernel
theorem dX11_feed_33 : decode cX11_feed 33 = .ok (.iload_n 3, 1) := by decide +kernel
theorem dX11_feed_34 : decode cX11_feed 34 = .ok (.invokevirtual 229, 3) := by decide +kernel
theorem dX11_feed_37 : decode cX11_feed 37 = .ok (.aload_n 0, 1) := by decide +kernel
theorem dX11_feed_38 : decode cX11_feed 38 = .ok (.getfield 33, 3) := by decide +kernel
theorem dX11_feed_41 : decode cX11_feed 41 = .ok (.iload 4, 2) := by decide +kernel
theorem dX11_feed_43 : decode cX11_feed 43 = .ok (.invokevirtual 229, 3) := by decide +kernel
theorem dX11_feed_46 : decode cX11_feed 46 = .ok (.aload_n 0, 1) := by decide +kernel
theorem dX11_feed_47 : decode cX11_feed 47 = .ok (.getfield 33, 3) := by decide +kernel
theorem dX11_feed_50 : decode cX11_feed 50 = .ok (.iload 5, 2) := by decide +kernel
theorem dX11_feed_52 : decode cX11_feed 52 = .ok (.invokevirtual 229, 3) := by decide +kernel
theorem dX11_feed_55 : decode cX11_feed 55 = .ok (.aload_n 0, 1) := by decide +kernel
theorem dX11_feed_56 : decode cX11_feed 56 = .ok (.getfield 33, 3) := by decide +kernel
theorem dX11_feed_59 : decode cX11_feed 59 = .ok (.invokevirtual 232, 3) := by decide +kernel
theorem dX11_feed_62 : decode cX11_feed 62 = .ok (.ireturn, 1) := by decide +kernel
theorem dX11_end_0 : decode cX11_end 0 = .ok (.iload_n 1, 1) := by decide +kernel
theorem dX11_end_1 : decode cX11_end 1 = .ok (.iconst 0, 1) := by decide +kernel
theorem dX11_end_2 : decode cX11_end 2 = .ok (.aload_n 0, 1) := by decide +kernel
theorem dX11_end_3 : decode cX11_end 3 = .ok (.getfield 33, 3) := by decide +kernel
theorem dX11_end_6 : decode cX11_end 6 = .ok (.invokevirtual 232, 3) := by decide +kernel
theorem dX11_end_9 : decode cX11_end 9 = .ok (.invokestatic 79, 3) := by decide +kernel
theorem dX11_end_12 : decode cX11_end 12 = .ok (.ifCond .ne 5, 3) := by decide +kernel
theorem dX11_end_15 : decode cX11_end 15 = .ok (.iconst 0, 1) := by decide +kernel
theorem dX11_end_16 : decode cX11_end 16 = .ok (.ireturn, 1) := by decide +kernel
theorem dX11_end_17 : decode cX11_end 17 = .ok (.aload_n 0, 1) := by decide +kernel
theorem dX11_end_18 : decode cX11_end 18 = .ok (.getfield 33, 3) := by decide +kernel
theorem dX11_end_21 : decode cX11_end 21 = .ok (.iload_n 1, 1) := by decide +kernel
theorem dX11_end_22 : decode cX11_end 22 = .ok (.invokevirtual 235, 3) := by decide +kernel
theorem dX11_end_25 : decode cX11_end 25 = .ok (.iconst 1, 1) := by decide +kernel
theorem dX11_end_26 : decode cX11_end 26 = .ok (.ireturn, 1) := by decide +kernel
theorem dX11_rules_0 : decode cX11_rules 0 = .ok (.aload_n 0, 1) := by decide +kernel
theorem dX11_rules_1 : decode cX11_rules 1 = .ok (.getfield 52, 3) := by decide +kernel
theorem dX11_rules_4 : decode cX11_rules 4 = .ok (.aload_n 0, 1) := by decide +kernel
theorem dX11_rules_5 : decode cX11_rules 5 = .ok (.getfield 44, 3) := by decide +kernel
theorem dX11_rules_8 : decode cX11_rules 8 = .ok (.invokevirtual 238, 3) := by decide +kernel
theorem dX11_rules_11 : decode cX11_rules 11 = .ok (.istore_n 1, 1) := by decide +kernel
theorem dX11_rules_12 : decode cX11_rules 12 = .ok (.aload_n 0, 1) := by decide +kernel
theorem dX11_rules_13 : decode cX11_rules 13 = .ok (.getfield 33, 3) := by decide +kernel
theorem dX11_rules_16 : decode cX11_rules 16 = .ok (.iconst 0, 1) := by decide +kernel
theorem dX11_rules_17 : decode cX11_rules 17 = .ok (.invokevirtual 235, 3) := by decide +kernel
theorem dX11_rules_20 : decode cX11_rules 20 = .ok (.iload_n 1, 1) := by decide +kernel
theorem dX11_rules_21 : decode cX11_rules 21 = .ok (.ifCond .ne 5, 3) := by decide +kernel
theorem dX11_rules_24 : decode cX11_rules 24 = .ok (.iconst (-1), 1) := by decide +kernel
theorem dX11_rules_25 : decode cX11_rules 25 = .ok (.ireturn, 1) := by decide +kernel
theorem dX11_rules_26 : decode cX11_rules 26 = .ok (.aload_n 0, 1) := by decide +kernel
theorem dX11_rules_27 : decode cX11_rules 27 = .ok (.getfield 40, 3) := by decide +kernel
theorem dX11_rules_30 : decode cX11_rules 30 = .ok (.astore_n 2, 1) := by decide +kernel
theorem dX11_rules_31 : decode cX11_rules 31 = .ok (.aload_n 0, 1) := by decide +kernel
theorem dX11_rules_32 : decode cX11_rules 32 = .ok (.aload_n 0, 1) := by decide +kernel
theorem dX11_rules_33 : decode cX11_rules 33 = .ok (.getfield 44, 3) := by decide +kernel
theorem dX11_rules_36 : decode cX11_rules 36 = .ok (.putfield 40, 3) := by decide +kernel
theorem dX11_rules_39 : decode cX11_rules 39 = .ok (.aload_n 0, 1) := by decide +kernel
theorem dX11_rules_40 : decode cX11_rules 40 = .ok (.aload_n 2, 1) := by decide +kernel
theorem dX11_rules_41 : decode cX11_rules 41 = .ok (.putfield 44, 3) := by decide +kernel
theorem dX11_rules_44 : decode cX11_rules 44 = .ok (.aload_n 0, 1) := by decide +kernel
theorem dX11_rules_45 : decode cX11_rules 45 = .ok (.getfield 40, 3) := by decide +kernel
theorem dX11_rules_48 : decode cX11_rules 48 = .ok (.invokevirtual 146, 3) := by decide +kernel
theorem dX11_rules_51 : decode cX11_rules 51 = .ok (.ireturn, 1) := by decide +kernel
theorem dX11_fault_0 : decode cX11_fault 0 = .ok (.iload_n 1, 1) := by decide +kernel
theorem dX11_fault_1 : decode cX11_fault 1 = .ok (.lookupswitch 43 #[(0, 27), (1, 35)], 27) := by decide +kernel
theorem dX11_fault_28 : decode cX11_fault 28 = .ok (.aload_n 0, 1) := by decide +kernel
theorem dX11_fault_29 : decode cX11_fault 29 = .ok (.getfield 52, 3) := by decide +kernel
theorem dX11_fault_32 : decode cX11_fault 32 = .ok (.getfield 242, 3) := by decide +kernel
theorem dX11_fault_35 : decode cX11_fault 35 = .ok (.ireturn, 1) := by decide +kernel
theorem dX11_fault_36 : decode cX11_fault 36 = .ok (.aload_n 0, 1) := by decide +kernel
theorem dX11_fault_37 : decode cX11_fault 37 = .ok (.getfield 52, 3) := by decide +kernel
theorem dX11_fault_40 : decode cX11_fault 40 = .ok (.getfield 245, 3) := by decide +kernel
theorem dX11_fault_43 : decode cX11_fault 43 = .ok (.ireturn, 1) := by decide +kernel
theorem dX11_fault_44 : decode cX11_fault 44 = .ok (.iconst (-1), 1) := by decide +kernel
theorem dX11_fault_45 : decode cX11_fault 45 = .ok (.ireturn, 1) := by decide +kernel
theorem dX11_barred_0 : decode cX11_barred 0 = .ok (.iload_n 1, 1) := by decide +kernel
theorem dX11_barred_1 : decode cX11_barred 1 = .ok (.invokestatic 198, 3) := by decide +kernel
theorem dX11_barred_4 : decode cX11_barred 4 = .ok (.ifCond .eq 25, 3) := by decide +kernel
theorem dX11_barred_7 : decode cX11_barred 7 = .ok (.iload_n 2, 1) := by decide +kernel
theorem dX11_barred_8 : decode cX11_barred 8 = .ok (.invokestatic 201, 3) := by decide +kernel
theorem dX11_barred_11 : decode cX11_barred 11 = .ok (.ifCond .eq 18, 3) := by decide +kernel
theorem dX11_barred_14 : decode cX11_barred 14 = .ok (.aload_n 0, 1) := by decide +kernel
theorem dX11_barred_15 : decode cX11_barred 15 = .ok (.getfield 59, 3) := by decide +kernel
theorem dX11_barred_18 : decode cX11_barred 18 = .ok (.iload_n 3, 1) := by decide +kernel
theorem dX11_barred_19 : decode cX11_barred 19 = .ok (.aload_n 0, 1) := by decide +kernel
theorem dX11_barred_20 : decode cX11_barred 20 = .ok (.getfield 19, 3) := by decide +kernel
theorem dX11_barred_23 : decode cX11_barred 23 = .ok (.invokevirtual 205, 3) := by decide +kernel
theorem dX11_barred_26 : decode cX11_barred 26 = .ok (.ifCond .ne 6, 3) := by decide +kernel
theorem dX11_barred_29 : decode cX11_barred 29 = .ok (.bipush (-2), 2) := by decide +kernel
theorem dX11_barred_31 : decode cX11_barred 31 = .ok (.ireturn, 1) := by decide +kernel
theorem dX11_barred_32 : decode cX11_barred 32 = .ok (.aload_n 0, 1) := by decide +kernel
theorem dX11_barred_33 : decode cX11_barred 33 = .ok (.getfield 66, 3) := by decide +kernel
theorem dX11_barred_36 : decode cX11_barred 36 = .ok (.iload_n 1, 1) := by decide +kernel
theorem dX11_barred_37 : decode cX11_barred 37 = .ok (.iload_n 2, 1) := by decide +kernel
theorem dX11_barred_38 : decode cX11_barred 38 = .ok (.invokevirtual 248, 3) := by decide +kernel
theorem dX11_barred_41 : decode cX11_barred 41 = .ok (.aload_n 0, 1) := by decide +kernel
theorem dX11_barred_42 : decode cX11_barred 42 = .ok (.getfield 66, 3) := by decide +kernel
theorem dX11_barred_45 : decode cX11_barred 45 = .ok (.aload_n 0, 1) := by decide +kernel
theorem dX11_barred_46 : decode cX11_barred 46 = .ok (.getfield 59, 3) := by decide +kernel
theorem dX11_barred_49 : decode cX11_barred 49 = .ok (.aload_n 0, 1) := by decide +kernel
theorem dX11_barred_50 : decode cX11_barred 50 = .ok (.getfield 7, 3) := by decide +kernel
theorem dX11_barred_53 : decode cX11_barred 53 = .ok (.invokevirtual 251, 3) := by decide +kernel
theorem dX11_barred_56 : decode cX11_barred 56 = .ok (.aload_n 0, 1) := by decide +kernel
theorem dX11_barred_57 : decode cX11_barred 57 = .ok (.getfield 40, 3) := by decide +kernel
theorem dX11_barred_60 : decode cX11_barred 60 = .ok (.aload_n 0, 1) := by decide +kernel
theorem dX11_barred_61 : decode cX11_barred 61 = .ok (.getfield 66, 3) := by decide +kernel
theorem dX11_barred_64 : decode cX11_barred 64 = .ok (.invokevirtual 255, 3) := by decide +kernel
theorem dX11_barred_67 : decode cX11_barred 67 = .ok (.ireturn, 1) := by decide +kernel
theorem dX11_best_0 : decode cX11_best 0 = .ok (.iload_n 1, 1) := by decide +kernel
theorem dX11_best_1 : decode cX11_best 1 = .ok (.invokestatic 87, 3) := by decide +kernel
theorem dX11_best_4 : decode cX11_best 4 = .ok (.ifCond .eq 17, 3) := by decide +kernel
theorem dX11_best_7 : decode cX11_best 7 = .ok (.iload_n 2, 1) := by decide +kernel
theorem dX11_best_8 : decode cX11_best 8 = .ok (.invokestatic 198, 3) := by decide +kernel
theorem dX11_best_11 : decode cX11_best 11 = .ok (.ifCond .eq 10, 3) := by decide +kernel
theorem dX11_best_14 : decode cX11_best 14 = .ok (.iload_n 3, 1) := by decide +kernel
theorem dX11_best_15 : decode cX11_best 15 = .ok (.invokestatic 201, 3) := by decide +kernel
theorem dX11_best_18 : decode cX11_best 18 = .ok (.ifCond .ne 5, 3) := by decide +kernel
theorem dX11_best_21 : decode cX11_best 21 = .ok (.iconst (-1), 1) := by decide +kernel
theorem dX11_best_22 : decode cX11_best 22 = .ok (.ireturn, 1) := by decide +kernel
theorem dX11_best_23 : decode cX11_best 23 = .ok (.iload 4, 2) := by decide +kernel
theorem dX11_best_25 : decode cX11_best 25 = .ok (.iconst 1, 1) := by decide +kernel
theorem dX11_best_26 : decode cX11_best 26 = .ok (.bipush 31, 2) := by decide +kernel
theorem dX11_best_28 : decode cX11_best 28 = .ok (.invokestatic 79, 3) := by decide +kernel
theorem dX11_best_31 : decode cX11_best 31 = .ok (.ifCond .eq 13, 3) := by decide +kernel
theorem dX11_best_34 : decode cX11_best 34 = .ok (.iload 5, 2) := by decide +kernel
theorem dX11_best_36 : decode cX11_best 36 = .ok (.iconst 0, 1) := by decide +kernel
theorem dX11_best_37 : decode cX11_best 37 = .ok (.iconst 3, 1) := by decide +kernel
theorem dX11_best_38 : decode cX11_best 38 = .ok (.invokestatic 79, 3) := by decide +kernel
theorem dX11_best_41 : decode cX11_best 41 = .ok (.ifCond .ne 5, 3) := by decide +kernel
theorem dX11_best_44 : decode cX11_best 44 = .ok (.iconst (-1), 1) := by decide +kernel
theorem dX11_best_45 : decode cX11_best 45 = .ok (.ireturn, 1) := by decide +kernel
theorem dX11_best_46 : decode cX11_best 46 = .ok (.aload_n 0, 1) := by decide +kernel
theorem dX11_best_47 : decode cX11_best 47 = .ok (.getfield 75, 3) := by decide +kernel
theorem dX11_best_50 : decode cX11_best 50 = .ok (.iload_n 1, 1) := by decide +kernel
theorem dX11_best_51 : decode cX11_best 51 = .ok (.iload_n 2, 1) := by decide +kernel
theorem dX11_best_52 : decode cX11_best 52 = .ok (.iload_n 3, 1) := by decide +kernel
theorem dX11_best_53 : decode cX11_best 53 = .ok (.invokevirtual 259, 3) := by decide +kernel
theorem dX11_best_56 : decode cX11_best 56 = .ok (.aload_n 0, 1) := by decide +kernel
theorem dX11_best_57 : decode cX11_best 57 = .ok (.getfield 75, 3) := by decide +kernel
theorem dX11_best_60 : decode cX11_best 60 = .ok (.iload 4, 2) := by decide +kernel
theorem dX11_best_62 : decode cX11_best 62 = .ok (.aload_n 0, 1) := by decide +kernel
theorem dX11_best_63 : decode cX11_best 63 = .ok (.getfield 40, 3) := by decide +kernel
theorem dX11_best_66 : decode cX11_best 66 = .ok (.aload_n 0, 1) := by decide +kernel
theorem dX11_best_67 : decode cX11_best 67 = .ok (.getfield 7, 3) := by decide +kernel
theorem dX11_best_70 : decode cX11_best 70 = .ok (.invokevirtual 263, 3) := by decide +kernel
theorem dX11_best_73 : decode cX11_best 73 = .ok (.aload_n 0, 1) := by decide +kernel
theorem dX11_best_74 : decode cX11_best 74 = .ok (.getfield 75, 3) := by decide +kernel
theorem dX11_best_77 : decode cX11_best 77 = .ok (.iload 5, 2) := by decide +kernel
theorem dX11_best_79 : decode cX11_best 79 = .ok (.invokevirtual 267, 3) := by decide +kernel
theorem dX11_best_82 : decode cX11_best 82 = .ok (.ireturn, 1) := by decide +kernel
theorem dX11_findFreeFor_0 : decode cX11_findFreeFor 0 = .ok (.aload_n 0, 1) := by decide +kernel
theorem dX11_findFreeFor_1 : decode cX11_findFreeFor 1 = .ok (.getfield 19, 3) := by decide +kernel
theorem dX11_findFreeFor_4 : decode cX11_findFreeFor 4 = .ok (.iload_n 2, 1) := by decide +kernel
theorem dX11_findFreeFor_5 : decode cX11_findFreeFor 5 = .ok (.invokevirtual 112, 3) := by decide +kernel
theorem dX11_findFreeFor_8 : decode cX11_findFreeFor 8 = .ok (.astore_n 3, 1) := by decide +kernel
theorem dX11_findFreeFor_9 : decode cX11_findFreeFor 9 = .ok (.aload_n 3, 1) := by decide +kernel
theorem dX11_findFreeFor_10 : decode cX11_findFreeFor 10 = .ok (.ifnull 25, 3) := by decide +kernel
theorem dX11_findFreeFor_13 : decode cX11_findFreeFor 13 = .ok (.aload_n 3, 1) := by decide +kernel
theorem dX11_findFreeFor_14 : decode cX11_findFreeFor 14 = .ok (.invokevirtual 132, 3) := by decide +kernel
theorem dX11_findFreeFor_17 : decode cX11_findFreeFor 17 = .ok (.ifCond .ne 18, 3) := by decide +kernel
theorem dX11_findFreeFor_20 : decode cX11_findFreeFor 20 = .ok (.iload_n 1, 1) := by decide +kernel
theorem dX11_findFreeFor_21 : decode cX11_findFreeFor 21 = .ok (.invokestatic 87, 3) := by decide +kernel
theorem dX11_findFreeFor_24 : decode cX11_findFreeFor 24 = .ok (.ifCond .eq 11, 3) := by decide +kernel
theorem dX11_findFreeFor_27 : decode cX11_findFreeFor 27 = .ok (.aload_n 3, 1) := by decide +kernel
theorem dX11_findFreeFor_28 : decode cX11_findFreeFor 28 = .ok (.invokevirtual 135, 3) := by decide +kernel
theorem dX11_findFreeFor_31 : decode cX11_findFreeFor 31 = .ok (.iload_n 1, 1) := by decide +kernel
theorem dX11_findFreeFor_32 : decode cX11_findFreeFor 32 = .ok (.if_icmp .ne 5, 3) := by decide +kernel
theorem dX11_findFreeFor_35 : decode cX11_findFreeFor 35 = .ok (.aconst_null, 1) := by decide +kernel
theorem dX11_findFreeFor_36 : decode cX11_findFreeFor 36 = .ok (.areturn, 1) := by decide +kernel
theorem dX11_findFreeFor_37 : decode cX11_findFreeFor 37 = .ok (.aload_n 3, 1) := by decide +kernel
theorem dX11_findFreeFor_38 : decode cX11_findFreeFor 38 = .ok (.areturn, 1) := by decide +kernel
theorem dX11_spendAct_0 : decode cX11_spendAct 0 = .ok (.aload_n 0, 1) := by decide +kernel
theorem dX11_spendAct_1 : decode cX11_spendAct 1 = .ok (.getfield 13, 3) := by decide +kernel
theorem dX11_spendAct_4 : decode cX11_spendAct 4 = .ok (.sipush 300, 3) := by decide +kernel
theorem dX11_spendAct_7 : decode cX11_spendAct 7 = .ok (.if_icmp .lt 5, 3) := by decide +kernel
theorem dX11_spendAct_10 : decode cX11_spendAct 10 = .ok (.iconst 0, 1) := by decide +kernel
theorem dX11_spendAct_11 : decode cX11_spendAct 11 = .ok (.ireturn, 1) := by decide +kernel
theorem dX11_spendAct_12 : decode cX11_spendAct 12 = .ok (.aload_n 0, 1) := by decide +kernel
theorem dX11_spendAct_13 : decode cX11_spendAct 13 = .ok (.dup, 1) := by decide +kernel
theorem dX11_spendAct_14 : decode cX11_spendAct 14 = .ok (.getfield 13, 3) := by decide +kernel
theorem dX11_spendAct_17 : decode cX11_spendAct 17 = .ok (.iconst 1, 1) := by decide +kernel
theorem dX11_spendAct_18 : decode cX11_spendAct 18 = .ok (.iadd, 1) := by decide +kernel
theorem dX11_spendAct_19 : decode cX11_spendAct 19 = .ok (.putfield 13, 3) := by decide +kernel
theorem dX11_spendAct_22 : decode cX11_spendAct 22 = .ok (.iconst 1, 1) := by decide +kernel
theorem dX11_spendAct_23 : decode cX11_spendAct 23 = .ok (.ireturn, 1) := by decide +kernel
theorem dX11_isWithin_0 : decode cX11_isWithin 0 = .ok (.iload_n 0, 1) := by decide +kernel
theorem dX11_isWithin_1 : decode cX11_isWithin 1 = .ok (.iload_n 1, 1) := by decide +kernel
theorem dX11_isWithin_2 : decode cX11_isWithin 2 = .ok (.if_icmp .lt 12, 3) := by decide +kernel
theorem dX11_isWithin_5 : decode cX11_isWithin 5 = .ok (.iload_n 0, 1) := by decide +kernel
theorem dX11_isWithin_6 : decode cX11_isWithin 6 = .ok (.iload_n 2, 1) := by decide +kernel
theorem dX11_isWithin_7 : decode cX11_isWithin 7 = .ok (.if_icmp .gt 7, 3) := by decide +kernel
theorem dX11_isWithin_10 : decode cX11_isWithin 10 = .ok (.iconst 1, 1) := by decide +kernel
theorem dX11_isWithin_11 : decode cX11_isWithin 11 = .ok (.goto 4, 3) := by decide +kernel
theorem dX11_isWithin_14 : decode cX11_isWithin 14 = .ok (.iconst 0, 1) := by decide +kernel
theorem dX11_isWithin_15 : decode cX11_isWithin 15 = .ok (.ireturn, 1) := by decide +kernel
theorem dX11_isMark_0 : decode cX11_isMark 0 = .ok (.iload_n 0, 1) := by decide +kernel
theorem dX11_isMark_1 : decode cX11_isMark 1 = .ok (.iconst 0, 1) := by decide +kernel
theorem dX11_isMark_2 : decode cX11_isMark 2 = .ok (.bipush 9, 2) := by decide +kernel
theorem dX11_isMark_4 : decode cX11_isMark 4 = .ok (.invokestatic 79, 3) := by decide +kernel
theorem dX11_isMark_7 : decode cX11_isMark 7 = .ok (.ireturn, 1) := by decide +kernel
theorem dX11_isHouse_0 : decode cX11_isHouse 0 = .ok (.iload_n 0, 1) := by decide +kernel
theorem dX11_isHouse_1 : decode cX11_isHouse 1 = .ok (.iconst 0, 1) := by decide +kernel
theorem dX11_isHouse_2 : decode cX11_isHouse 2 = .ok (.bipush 7, 2) := by decide +kernel
theorem dX11_isHouse_4 : decode cX11_isHouse 4 = .ok (.invokestatic 79, 3) := by decide +kernel
theorem dX11_isHouse_7 : decode cX11_isHouse 7 = .ok (.ireturn, 1) := by decide +kernel
theorem dX11_isSeason_0 : decode cX11_isSeason 0 = .ok (.iload_n 0, 1) := by decide +kernel
theorem dX11_isSeason_1 : decode cX11_isSeason 1 = .ok (.iconst 0, 1) := by decide +kernel
theorem dX11_isSeason_2 : decode cX11_isSeason 2 = .ok (.iconst 3, 1) := by decide +kernel
theorem dX11_isSeason_3 : decode cX11_isSeason 3 = .ok (.invokestatic 79, 3) := by decide +kernel
theorem dX11_isSeason_6 : decode cX11_isSeason 6 = .ok (.ireturn, 1) := by decide +kernel
theorem dX11_isGuests_0 : decode cX11_isGuests 0 = .ok (.iload_n 0, 1) := by decide +kernel
theorem dX11_isGuests_1 : decode cX11_isGuests 1 = .ok (.iconst 1, 1) := by decide +kernel
theorem dX11_isGuests_2 : decode cX11_isGuests 2 = .ok (.sipush 255, 3) := by decide +kernel
theorem dX11_isGuests_5 : decode cX11_isGuests 5 = .ok (.invokestatic 79, 3) := by decide +kernel
theorem dX11_isGuests_8 : decode cX11_isGuests 8 = .ok (.ireturn, 1) := by decide +kernel
theorem dJ11_isValidCodePoint_9a6ad_0 : decode cJ11_isValidCodePoint_9a6ad 0 = .ok (.iload_n 0, 1) := by decide +kernel
theorem dJ11_isValidCodePoint_9a6ad_1 : decode cJ11_isValidCodePoint_9a6ad 1 = .ok (.bipush 16, 2) := by decide +kernel
theorem dJ11_isValidCodePoint_9a6ad_3 : decode cJ11_isValidCodePoint_9a6ad 3 = .ok (.iushr, 1) := by decide +kernel
theorem dJ11_isValidCodePoint_9a6ad_4 : decode cJ11_isValidCodePoint_9a6ad 4 = .ok (.istore_n 1, 1) := by decide +kernel
theorem dJ11_isValidCodePoint_9a6ad_5 : decode cJ11_isValidCodePoint_9a6ad 5 = .ok (.iload_n 1, 1) := by decide +kernel
theorem dJ11_isValidCodePoint_9a6ad_6 : decode cJ11_isValidCodePoint_9a6ad 6 = .ok (.bipush 17, 2) := by decide +kernel
theorem dJ11_isValidCodePoint_9a6ad_8 : decode cJ11_isValidCodePoint_9a6ad 8 = .ok (.if_icmp .ge 7, 3) := by decide +kernel
theorem dJ11_isValidCodePoint_9a6ad_11 : decode cJ11_isValidCodePoint_9a6ad 11 = .ok (.iconst 1, 1) := by decide +kernel
theorem dJ11_isValidCodePoint_9a6ad_12 : decode cJ11_isValidCodePoint_9a6ad 12 = .ok (.goto 4, 3) := by decide +kernel
theorem dJ11_isValidCodePoint_9a6ad_15 : decode cJ11_isValidCodePoint_9a6ad 15 = .ok (.iconst 0, 1) := by decide +kernel
theorem dJ11_isValidCodePoint_9a6ad_16 : decode cJ11_isValidCodePoint_9a6ad 16 = .ok (.ireturn, 1) := by decide +kernel
theorem dJ11_highSurrogate_5068e_0 : decode cJ11_highSurrogate_5068e 0 = .ok (.iload_n 0, 1) := by decide +kernel
theorem dJ11_highSurrogate_5068e_1 : decode cJ11_highSurrogate_5068e 1 = .ok (.bipush 10, 2) := by decide +kernel
theorem dJ11_highSurrogate_5068e_3 : decode cJ11_highSurrogate_5068e 3 = .ok (.iushr, 1) := by decide +kernel
theorem dJ11_highSurrogate_5068e_4 : decode cJ11_highSurrogate_5068e 4 = .ok (.ldc 110, 2) := by decide +kernel
theorem dJ11_highSurrogate_5068e_6 : decode cJ11_highSurrogate_5068e 6 = .ok (.iadd, 1) := by decide +kernel
theorem dJ11_highSurrogate_5068e_7 : decode cJ11_highSurrogate_5068e 7 = .ok (.i2c, 1) := by decide +kernel
theorem dJ11_highSurrogate_5068e_8 : decode cJ11_highSurrogate_5068e 8 = .ok (.ireturn, 1) := by decide +kernel
theorem dJ11_lowSurrogate_5068e_0 : decode cJ11_lowSurrogate_5068e 0 = .ok (.iload_n 0, 1) := by decide +kernel
theorem dJ11_lowSurrogate_5068e_1 : decode cJ11_lowSurrogate_5068e 1 = .ok (.sipush 1023, 3) := by decide +kernel
theorem dJ11_lowSurrogate_5068e_4 : decode cJ11_lowSurrogate_5068e 4 = .ok (.iand, 1) := by decide +kernel
theorem dJ11_lowSurrogate_5068e_5 : decode cJ11_lowSurrogate_5068e 5 = .ok (.ldc 76, 2) := by decide +kernel
theorem dJ11_lowSurrogate_5068e_7 : decode cJ11_lowSurrogate_5068e 7 = .ok (.iadd, 1) := by decide +kernel
theorem dJ11_lowSurrogate_5068e_8 : decode cJ11_lowSurrogate_5068e 8 = .ok (.i2c, 1) := by decide +kernel
theorem dJ11_lowSurrogate_5068e_9 : decode cJ11_lowSurrogate_5068e 9 = .ok (.ireturn, 1) := by decide +kernel
theorem dJ6_bitCount_0f7a4_0 : decode cJ6_bitCount_0f7a4 0 = .ok (.iload_n 0, 1) := by decide +kernel
theorem dJ6_bitCount_0f7a4_1 : decode cJ6_bitCount_0f7a4 1 = .ok (.iload_n 0, 1) := by decide +kernel
theorem dJ6_bitCount_0f7a4_2 : decode cJ6_bitCount_0f7a4 2 = .ok (.iconst 1, 1) := by decide +kernel
theorem dJ6_bitCount_0f7a4_3 : decode cJ6_bitCount_0f7a4 3 = .ok (.iushr, 1) := by decide +kernel
theorem dJ6_bitCount_0f7a4_4 : decode cJ6_bitCount_0f7a4 4 = .ok (.ldc_w 265, 3) := by decide +kernel
theorem dJ6_bitCount_0f7a4_7 : decode cJ6_bitCount_0f7a4 7 = .ok (.iand, 1) := by decide +kernel
theorem dJ6_bitCount_0f7a4_8 : decode cJ6_bitCount_0f7a4 8 = .ok (.isub, 1) := by decide +kernel
theorem dJ6_bitCount_0f7a4_9 : decode cJ6_bitCount_0f7a4 9 = .ok (.istore_n 0, 1) := by decide +kernel
theorem dJ6_bitCount_0f7a4_10 : decode cJ6_bitCount_0f7a4 10 = .ok (.iload_n 0, 1) := by decide +kernel
theorem dJ6_bitCount_0f7a4_11 : decode cJ6_bitCount_0f7a4 11 = .ok (.ldc_w 266, 3) := by decide +kernel
theorem dJ6_bitCount_0f7a4_14 : decode cJ6_bitCount_0f7a4 14 = .ok (.iand, 1) := by decide +kernel
theorem dJ6_bitCount_0f7a4_15 : decode cJ6_bitCount_0f7a4 15 = .ok (.iload_n 0, 1) := by decide +kernel
theorem dJ6_bitCount_0f7a4_16 : decode cJ6_bitCount_0f7a4 16 = .ok (.iconst 2, 1) := by decide +kernel
theorem dJ6_bitCount_0f7a4_17 : decode cJ6_bitCount_0f7a4 17 = .ok (.iushr, 1) := by decide +kernel
theorem dJ6_bitCount_0f7a4_18 : decode cJ6_bitCount_0f7a4 18 = .ok (.ldc_w 266, 3) := by decide +kernel
theorem dJ6_bitCount_0f7a4_21 : decode cJ6_bitCount_0f7a4 21 = .ok (.iand, 1) := by decide +kernel
theorem dJ6_bitCount_0f7a4_22 : decode cJ6_bitCount_0f7a4 22 = .ok (.iadd, 1) := by decide +kernel
theorem dJ6_bitCount_0f7a4_23 : decode cJ6_bitCount_0f7a4 23 = .ok (.istore_n 0, 1) := by decide +kernel
theorem dJ6_bitCount_0f7a4_24 : decode cJ6_bitCount_0f7a4 24 = .ok (.iload_n 0, 1) := by decide +kernel
theorem dJ6_bitCount_0f7a4_25 : decode cJ6_bitCount_0f7a4 25 = .ok (.iload_n 0, 1) := by decide +kernel
theorem dJ6_bitCount_0f7a4_26 : decode cJ6_bitCount_0f7a4 26 = .ok (.iconst 4, 1) := by decide +kernel
theorem dJ6_bitCount_0f7a4_27 : decode cJ6_bitCount_0f7a4 27 = .ok (.iushr, 1) := by decide +kernel
theorem dJ6_bitCount_0f7a4_28 : decode cJ6_bitCount_0f7a4 28 = .ok (.iadd, 1) := by decide +kernel
theorem dJ6_bitCount_0f7a4_29 : decode cJ6_bitCount_0f7a4 29 = .ok (.ldc_w 267, 3) := by decide +kernel
theorem dJ6_bitCount_0f7a4_32 : decode cJ6_bitCount_0f7a4 32 = .ok (.iand, 1) := by decide +kernel
theorem dJ6_bitCount_0f7a4_33 : decode cJ6_bitCount_0f7a4 33 = .ok (.istore_n 0, 1) := by decide +kernel
theorem dJ6_bitCount_0f7a4_34 : decode cJ6_bitCount_0f7a4 34 = .ok (.iload_n 0, 1) := by decide +kernel
theorem dJ6_bitCount_0f7a4_35 : decode cJ6_bitCount_0f7a4 35 = .ok (.iload_n 0, 1) := by decide +kernel
theorem dJ6_bitCount_0f7a4_36 : decode cJ6_bitCount_0f7a4 36 = .ok (.bipush 8, 2) := by decide +kernel
theorem dJ6_bitCount_0f7a4_38 : decode cJ6_bitCount_0f7a4 38 = .ok (.iushr, 1) := by decide +kernel
theorem dJ6_bitCount_0f7a4_39 : decode cJ6_bitCount_0f7a4 39 = .ok (.iadd, 1) := by decide +kernel
theorem dJ6_bitCount_0f7a4_40 : decode cJ6_bitCount_0f7a4 40 = .ok (.istore_n 0, 1) := by decide +kernel
theorem dJ6_bitCount_0f7a4_41 : decode cJ6_bitCount_0f7a4 41 = .ok (.iload_n 0, 1) := by decide +kernel
theorem dJ6_bitCount_0f7a4_42 : decode cJ6_bitCount_0f7a4 42 = .ok (.iload_n 0, 1) := by decide +kernel
theorem dJ6_bitCount_0f7a4_43 : decode cJ6_bitCount_0f7a4 43 = .ok (.bipush 16, 2) := by decide +kernel
theorem dJ6_bitCount_0f7a4_45 : decode cJ6_bitCount_0f7a4 45 = .ok (.iushr, 1) := by decide +kernel
theorem dJ6_bitCount_0f7a4_46 : decode cJ6_bitCount_0f7a4 46 = .ok (.iadd, 1) := by decide +kernel
theorem dJ6_bitCount_0f7a4_47 : decode cJ6_bitCount_0f7a4 47 = .ok (.istore_n 0, 1) := by decide +kernel
theorem dJ6_bitCount_0f7a4_48 : decode cJ6_bitCount_0f7a4 48 = .ok (.iload_n 0, 1) := by decide +kernel
theorem dJ6_bitCount_0f7a4_49 : decode cJ6_bitCount_0f7a4 49 = .ok (.bipush 63, 2) := by decide +kernel
theorem dJ6_bitCount_0f7a4_51 : decode cJ6_bitCount_0f7a4 51 = .ok (.iand, 1) := by decide +kernel
theorem dJ6_bitCount_0f7a4_52 : decode cJ6_bitCount_0f7a4 52 = .ok (.ireturn, 1) := by decide +kernel
theorem dJ9_max_7cf53_0 : decode cJ9_max_7cf53 0 = .ok (.iload_n 0, 1) := by decide +kernel
theorem dJ9_max_7cf53_1 : decode cJ9_max_7cf53 1 = .ok (.iload_n 1, 1) := by decide +kernel
theorem dJ9_max_7cf53_2 : decode cJ9_max_7cf53 2 = .ok (.if_icmp .lt 7, 3) := by decide +kernel
theorem dJ9_max_7cf53_5 : decode cJ9_max_7cf53 5 = .ok (.iload_n 0, 1) := by decide +kernel
theorem dJ9_max_7cf53_6 : decode cJ9_max_7cf53 6 = .ok (.goto 4, 3) := by decide +kernel
theorem dJ9_max_7cf53_9 : decode cJ9_max_7cf53 9 = .ok (.iload_n 1, 1) := by decide +kernel
theorem dJ9_max_7cf53_10 : decode cJ9_max_7cf53 10 = .ok (.ireturn, 1) := by decide +kernel
theorem dJ9_min_7cf53_0 : decode cJ9_min_7cf53 0 = .ok (.iload_n 0, 1) := by decide +kernel
theorem dJ9_min_7cf53_1 : decode cJ9_min_7cf53 1 = .ok (.iload_n 1, 1) := by decide +kernel
theorem dJ9_min_7cf53_2 : decode cJ9_min_7cf53 2 = .ok (.if_icmp .gt 7, 3) := by decide +kernel
theorem dJ9_min_7cf53_5 : decode cJ9_min_7cf53 5 = .ok (.iload_n 0, 1) := by decide +kernel
theorem dJ9_min_7cf53_6 : decode cJ9_min_7cf53 6 = .ok (.goto 4, 3) := by decide +kernel
theorem dJ9_min_7cf53_9 : decode cJ9_min_7cf53 9 = .ok (.iload_n 1, 1) := by decide +kernel
theorem dJ9_min_7cf53_10 : decode cJ9_min_7cf53 10 = .ok (.ireturn, 1) := by decide +kernel
theorem dJ0_length_8abf5_0 : decode cJ0_length_8abf5 0 = .ok (.aload_n 0, 1) := by decide +kernel
theorem dJ0_length_8abf5_1 : decode cJ0_length_8abf5 1 = .ok (.getfield 9, 3) := by decide +kernel
theorem dJ0_length_8abf5_4 : decode cJ0_length_8abf5 4 = .ok (.arraylength, 1) := by decide +kernel
theorem dJ0_length_8abf5_5 : decode cJ0_length_8abf5 5 = .ok (.aload_n 0, 1) := by decide +kernel
theorem dJ0_length_8abf5_6 : decode cJ0_length_8abf5 6 = .ok (.invokevirtual 335, 3) := by decide +kernel
theorem dJ0_length_8abf5_9 : decode cJ0_length_8abf5 9 = .ok (.ishr, 1) := by decide +kernel
theorem dJ0_length_8abf5_10 : decode cJ0_length_8abf5 10 = .ok (.ireturn, 1) := by decide +kernel
theorem dJ0_charAt_5068e_0 : decode cJ0_charAt_5068e 0 = .ok (.aload_n 0, 1) := by decide +kernel
theorem dJ0_charAt_5068e_1 : decode cJ0_charAt_5068e 1 = .ok (.invokevirtual 492, 3) := by decide +kernel
theorem dJ0_charAt_5068e_4 : decode cJ0_charAt_5068e 4 = .ok (.ifCond .eq 12, 3) := by decide +kernel
theorem dJ0_charAt_5068e_7 : decode cJ0_charAt_5068e 7 = .ok (.aload_n 0, 1) := by decide +kernel
theorem dJ0_charAt_5068e_8 : decode cJ0_charAt_5068e 8 = .ok (.getfield 9, 3) := by decide +kernel
theorem dJ0_charAt_5068e_11 : decode cJ0_charAt_5068e 11 = .ok (.iload_n 1, 1) := by decide +kernel
theorem dJ0_charAt_5068e_12 : decode cJ0_charAt_5068e 12 = .ok (.invokestatic 495, 3) := by decide +kernel
theorem dJ0_charAt_5068e_15 : decode cJ0_charAt_5068e 15 = .ok (.ireturn, 1) := by decide +kernel
theorem dJ0_charAt_5068e_16 : decode cJ0_charAt_5068e 16 = .ok (.aload_n 0, 1) := by decide +kernel
theorem dJ0_charAt_5068e_17 : decode cJ0_charAt_5068e 17 = .ok (.getfield 9, 3) := by decide +kernel
theorem dJ0_charAt_5068e_20 : decode cJ0_charAt_5068e 20 = .ok (.iload_n 1, 1) := by decide +kernel
theorem dJ0_charAt_5068e_21 : decode cJ0_charAt_5068e 21 = .ok (.invokestatic 498, 3) := by decide +kernel
theorem dJ0_charAt_5068e_24 : decode cJ0_charAt_5068e 24 = .ok (.ireturn, 1) := by decide +kernel
theorem dJ0_indexOf_0f7a4_0 : decode cJ0_indexOf_0f7a4 0 = .ok (.aload_n 0, 1) := by decide +kernel
theorem dJ0_indexOf_0f7a4_1 : decode cJ0_indexOf_0f7a4 1 = .ok (.iload_n 1, 1) := by decide +kernel
theorem dJ0_indexOf_0f7a4_2 : decode cJ0_indexOf_0f7a4 2 = .ok (.iconst 0, 1) := by decide +kernel
theorem dJ0_indexOf_0f7a4_3 : decode cJ0_indexOf_0f7a4 3 = .ok (.invokevirtual 633, 3) := by decide +kernel
theorem dJ0_indexOf_0f7a4_6 : decode cJ0_indexOf_0f7a4 6 = .ok (.ireturn, 1) := by decide +kernel
theorem dJ0_indexOf_7cf53_0 : decode cJ0_indexOf_7cf53 0 = .ok (.aload_n 0, 1) := by decide +kernel
theorem dJ0_indexOf_7cf53_1 : decode cJ0_indexOf_7cf53 1 = .ok (.invokevirtual 492, 3) := by decide +kernel
theorem dJ0_indexOf_7cf53_4 : decode cJ0_indexOf_7cf53 4 = .ok (.ifCond .eq 19, 3) := by decide +kernel
theorem dJ0_indexOf_7cf53_7 : decode cJ0_indexOf_7cf53 7 = .ok (.aload_n 0, 1) := by decide +kernel
theorem dJ0_indexOf_7cf53_8 : decode cJ0_indexOf_7cf53 8 = .ok (.getfield 9, 3) := by decide +kernel
theorem dJ0_indexOf_7cf53_11 : decode cJ0_indexOf_7cf53 11 = .ok (.iload_n 1, 1) := by decide +kernel
theorem dJ0_indexOf_7cf53_12 : decode cJ0_indexOf_7cf53 12 = .ok (.iload_n 2, 1) := by decide +kernel
theorem dJ0_indexOf_7cf53_13 : decode cJ0_indexOf_7cf53 13 = .ok (.aload_n 0, 1) := by decide +kernel
theorem dJ0_indexOf_7cf53_14 : decode cJ0_indexOf_7cf53 14 = .ok (.invokevirtual 505, 3) := by decide +kernel
theorem dJ0_indexOf_7cf53_17 : decode cJ0_indexOf_7cf53 17 = .ok (.invokestatic 637, 3) := by decide +kernel
theorem dJ0_indexOf_7cf53_20 : decode cJ0_indexOf_7cf53 20 = .ok (.goto 16, 3) := by decide +kernel
theorem dJ0_indexOf_7cf53_23 : decode cJ0_indexOf_7cf53 23 = .ok (.aload_n 0, 1) := by decide +kernel
theorem dJ0_indexOf_7cf53_24 : decode cJ0_indexOf_7cf53 24 = .ok (.getfield 9, 3) := by decide +kernel
theorem dJ0_indexOf_7cf53_27 : decode cJ0_indexOf_7cf53 27 = .ok (.iload_n 1, 1) := by decide +kernel
theorem dJ0_indexOf_7cf53_28 : decode cJ0_indexOf_7cf53 28 = .ok (.iload_n 2, 1) := by decide +kernel
theorem dJ0_indexOf_7cf53_29 : decode cJ0_indexOf_7cf53 29 = .ok (.aload_n 0, 1) := by decide +kernel
theorem dJ0_indexOf_7cf53_30 : decode cJ0_indexOf_7cf53 30 = .ok (.invokevirtual 505, 3) := by decide +kernel
theorem dJ0_indexOf_7cf53_33 : decode cJ0_indexOf_7cf53 33 = .ok (.invokestatic 640, 3) := by decide +kernel
theorem dJ0_indexOf_7cf53_36 : decode cJ0_indexOf_7cf53 36 = .ok (.ireturn, 1) := by decide +kernel
theorem dJ0_coder_7d493_0 : decode cJ0_coder_7d493 0 = .ok (.getstatic 38, 3) := by decide +kernel
theorem dJ0_coder_7d493_3 : decode cJ0_coder_7d493 3 = .ok (.ifCond .eq 10, 3) := by decide +kernel
theorem dJ0_coder_7d493_6 : decode cJ0_coder_7d493 6 = .ok (.aload_n 0, 1) := by decide +kernel
theorem dJ0_coder_7d493_7 : decode cJ0_coder_7d493 7 = .ok (.getfield 15, 3) := by decide +kernel
theorem dJ0_coder_7d493_10 : decode cJ0_coder_7d493 10 = .ok (.goto 4, 3) := by decide +kernel
theorem dJ0_coder_7d493_13 : decode cJ0_coder_7d493 13 = .ok (.iconst 1, 1) := by decide +kernel
theorem dJ0_coder_7d493_14 : decode cJ0_coder_7d493 14 = .ok (.ireturn, 1) := by decide +kernel
theorem dJ0_isLatin1_aae02_0 : decode cJ0_isLatin1_aae02 0 = .ok (.getstatic 38, 3) := by decide +kernel
theorem dJ0_isLatin1_aae02_3 : decode cJ0_isLatin1_aae02 3 = .ok (.ifCond .eq 14, 3) := by decide +kernel
theorem dJ0_isLatin1_aae02_6 : decode cJ0_isLatin1_aae02 6 = .ok (.aload_n 0, 1) := by decide +kernel
theorem dJ0_isLatin1_aae02_7 : decode cJ0_isLatin1_aae02 7 = .ok (.getfield 15, 3) := by decide +kernel
theorem dJ0_isLatin1_aae02_10 : decode cJ0_isLatin1_aae02 10 = .ok (.ifCond .ne 7, 3) := by decide +kernel
theorem dJ0_isLatin1_aae02_13 : decode cJ0_isLatin1_aae02 13 = .ok (.iconst 1, 1) := by decide +kernel
theorem dJ0_isLatin1_aae02_14 : decode cJ0_isLatin1_aae02 14 = .ok (.goto 4, 3) := by decide +kernel
theorem dJ0_isLatin1_aae02_17 : decode cJ0_isLatin1_aae02 17 = .ok (.iconst 0, 1) := by decide +kernel
theorem dJ0_isLatin1_aae02_18 : decode cJ0_isLatin1_aae02 18 = .ok (.ireturn, 1) := by decide +kernel
theorem dJ0_checkIndex_df160_0 : decode cJ0_checkIndex_df160 0 = .ok (.iload_n 0, 1) := by decide +kernel
theorem dJ0_checkIndex_df160_1 : decode cJ0_checkIndex_df160 1 = .ok (.iload_n 1, 1) := by decide +kernel
theorem dJ0_checkIndex_df160_2 : decode cJ0_checkIndex_df160 2 = .ok (.getstatic 1053, 3) := by decide +kernel
theorem dJ0_checkIndex_df160_5 : decode cJ0_checkIndex_df160 5 = .ok (.invokestatic 1059, 3) := by decide +kernel
theorem dJ0_checkIndex_df160_8 : decode cJ0_checkIndex_df160 8 = .ok (.pop, 1) := by decide +kernel
theorem dJ0_checkIndex_df160_9 : decode cJ0_checkIndex_df160 9 = .ok (.return_, 1) := by decide +kernel
theorem dJ0_checkBoundsBeginEnd_23922_0 : decode cJ0_checkBoundsBeginEnd_23922 0 = .ok (.iload_n 0, 1) := by decide +kernel
theorem dJ0_checkBoundsBeginEnd_23922_1 : decode cJ0_checkBoundsBeginEnd_23922 1 = .ok (.iload_n 1, 1) := by decide +kernel
theorem dJ0_checkBoundsBeginEnd_23922_2 : decode cJ0_checkBoundsBeginEnd_23922 2 = .ok (.iload_n 2, 1) := by decide +kernel
theorem dJ0_checkBoundsBeginEnd_23922_3 : decode cJ0_checkBoundsBeginEnd_23922 3 = .ok (.getstatic 1053, 3) := by decide +kernel
theorem dJ0_checkBoundsBeginEnd_23922_6 : decode cJ0_checkBoundsBeginEnd_23922 6 = .ok (.invokestatic 1062, 3) := by decide +kernel
theorem dJ0_checkBoundsBeginEnd_23922_9 : decode cJ0_checkBoundsBeginEnd_23922 9 = .ok (.pop, 1) := by decide +kernel
theorem dJ0_checkBoundsBeginEnd_23922_10 : decode cJ0_checkBoundsBeginEnd_23922 10 = .ok (.return_, 1) := by decide +kernel
theorem dJ1_charAt_3b067_0 : decode cJ1_charAt_3b067 0 = .ok (.iload_n 1, 1) := by decide +kernel
theorem dJ1_charAt_3b067_1 : decode cJ1_charAt_3b067 1 = .ok (.aload_n 0, 1) := by decide +kernel
theorem dJ1_charAt_3b067_2 : decode cJ1_charAt_3b067 2 = .ok (.arraylength, 1) := by decide +kernel
theorem dJ1_charAt_3b067_3 : decode cJ1_charAt_3b067 3 = .ok (.invokestatic 9, 3) := by decide +kernel
theorem dJ1_charAt_3b067_6 : decode cJ1_charAt_3b067 6 = .ok (.aload_n 0, 1) := by decide +kernel
theorem dJ1_charAt_3b067_7 : decode cJ1_charAt_3b067 7 = .ok (.iload_n 1, 1) := by decide +kernel
theorem dJ1_charAt_3b067_8 : decode cJ1_charAt_3b067 8 = .ok (.baload, 1) := by decide +kernel
theorem dJ1_charAt_3b067_9 : decode cJ1_charAt_3b067 9 = .ok (.sipush 255, 3) := by decide +kernel
theorem dJ1_charAt_3b067_12 : decode cJ1_charAt_3b067 12 = .ok (.iand, 1) := by decide +kernel
theorem dJ1_charAt_3b067_13 : decode cJ1_charAt_3b067 13 = .ok (.i2c, 1) := by decide +kernel
theorem dJ1_charAt_3b067_14 : decode cJ1_charAt_3b067 14 = .ok (.ireturn, 1) := by decide +kernel
theorem dJ1_canEncode_9a6ad_0 : decode cJ1_canEncode_9a6ad 0 = .ok (.iload_n 0, 1) := by decide +kernel
theorem dJ1_canEncode_9a6ad_1 : decode cJ1_canEncode_9a6ad 1 = .ok (.ifCond .lt 14, 3) := by decide +kernel
theorem dJ1_canEncode_9a6ad_4 : decode cJ1_canEncode_9a6ad 4 = .ok (.iload_n 0, 1) := by decide +kernel
theorem dJ1_canEncode_9a6ad_5 : decode cJ1_canEncode_9a6ad 5 = .ok (.sipush 255, 3) := by decide +kernel
theorem dJ1_canEncode_9a6ad_8 : decode cJ1_canEncode_9a6ad 8 = .ok (.if_icmp .gt 7, 3) := by decide +kernel
theorem dJ1_canEncode_9a6ad_11 : decode cJ1_canEncode_9a6ad 11 = .ok (.iconst 1, 1) := by decide +kernel
theorem dJ1_canEncode_9a6ad_12 : decode cJ1_canEncode_9a6ad 12 = .ok (.goto 4, 3) := by decide +kernel
theorem dJ1_canEncode_9a6ad_15 : decode cJ1_canEncode_9a6ad 15 = .ok (.iconst 0, 1) := by decide +kernel
theorem dJ1_canEncode_9a6ad_16 : decode cJ1_canEncode_9a6ad 16 = .ok (.ireturn, 1) := by decide +kernel
theorem dJ1_indexOf_4cfef_0 : decode cJ1_indexOf_4cfef 0 = .ok (.iload_n 1, 1) := by decide +kernel
theorem dJ1_indexOf_4cfef_1 : decode cJ1_indexOf_4cfef 1 = .ok (.invokestatic 88, 3) := by decide +kernel
theorem dJ1_indexOf_4cfef_4 : decode cJ1_indexOf_4cfef 4 = .ok (.ifCond .ne 5, 3) := by decide +kernel
theorem dJ1_indexOf_4cfef_7 : decode cJ1_indexOf_4cfef 7 = .ok (.iconst (-1), 1) := by decide +kernel
theorem dJ1_indexOf_4cfef_8 : decode cJ1_indexOf_4cfef 8 = .ok (.ireturn, 1) := by decide +kernel
theorem dJ1_indexOf_4cfef_9 : decode cJ1_indexOf_4cfef 9 = .ok (.iload_n 2, 1) := by decide +kernel
theorem dJ1_indexOf_4cfef_10 : decode cJ1_indexOf_4cfef 10 = .ok (.iconst 0, 1) := by decide +kernel
theorem dJ1_indexOf_4cfef_11 : decode cJ1_indexOf_4cfef 11 = .ok (.invokestatic 92, 3) := by decide +kernel
theorem dJ1_indexOf_4cfef_14 : decode cJ1_indexOf_4cfef 14 = .ok (.istore_n 2, 1) := by decide +kernel
theorem dJ1_indexOf_4cfef_15 : decode cJ1_indexOf_4cfef 15 = .ok (.iload_n 3, 1) := by decide +kernel
theorem dJ1_indexOf_4cfef_16 : decode cJ1_indexOf_4cfef 16 = .ok (.aload_n 0, 1) := by decide +kernel
theorem dJ1_indexOf_4cfef_17 : decode cJ1_indexOf_4cfef 17 = .ok (.arraylength, 1) := by decide +kernel
theorem dJ1_indexOf_4cfef_18 : decode cJ1_indexOf_4cfef 18 = .ok (.invokestatic 38, 3) := by decide +kernel
theorem dJ1_indexOf_4cfef_21 : decode cJ1_indexOf_4cfef 21 = .ok (.istore_n 3, 1) := by decide +kernel
theorem dJ1_indexOf_4cfef_22 : decode cJ1_indexOf_4cfef 22 = .ok (.iload_n 2, 1) := by decide +kernel
theorem dJ1_indexOf_4cfef_23 : decode cJ1_indexOf_4cfef 23 = .ok (.iload_n 3, 1) := by decide +kernel
theorem dJ1_indexOf_4cfef_24 : decode cJ1_indexOf_4cfef 24 = .ok (.if_icmp .lt 5, 3) := by decide +kernel
theorem dJ1_indexOf_4cfef_27 : decode cJ1_indexOf_4cfef 27 = .ok (.iconst (-1), 1) := by decide +kernel
theorem dJ1_indexOf_4cfef_28 : decode cJ1_indexOf_4cfef 28 = .ok (.ireturn, 1) := by decide +kernel
theorem dJ1_indexOf_4cfef_29 : decode cJ1_indexOf_4cfef 29 = .ok (.aload_n 0, 1) := by decide +kernel
theorem dJ1_indexOf_4cfef_30 : decode cJ1_indexOf_4cfef 30 = .ok (.iload_n 1, 1) := by decide +kernel
theorem dJ1_indexOf_4cfef_31 : decode cJ1_indexOf_4cfef 31 = .ok (.iload_n 2, 1) := by decide +kernel
theorem dJ1_indexOf_4cfef_32 : decode cJ1_indexOf_4cfef 32 = .ok (.iload_n 3, 1) := by decide +kernel
theorem dJ1_indexOf_4cfef_33 : decode cJ1_indexOf_4cfef 33 = .ok (.invokestatic 95, 3) := by decide +kernel
theorem dJ1_indexOf_4cfef_36 : decode cJ1_indexOf_4cfef 36 = .ok (.ireturn, 1) := by decide +kernel
theorem dJ1_indexOfChar_4cfef_0 : decode cJ1_indexOfChar_4cfef 0 = .ok (.iload_n 1, 1) := by decide +kernel
theorem dJ1_indexOfChar_4cfef_1 : decode cJ1_indexOfChar_4cfef 1 = .ok (.i2b, 1) := by decide +kernel
theorem dJ1_indexOfChar_4cfef_2 : decode cJ1_indexOfChar_4cfef 2 = .ok (.istore 4, 2) := by decide +kernel
theorem dJ1_indexOfChar_4cfef_4 : decode cJ1_indexOfChar_4cfef 4 = .ok (.iload_n 2, 1) := by decide +kernel
theorem dJ1_indexOfChar_4cfef_5 : decode cJ1_indexOfChar_4cfef 5 = .ok (.istore 5, 2) := by decide +kernel
theorem dJ1_indexOfChar_4cfef_7 : decode cJ1_indexOfChar_4cfef 7 = .ok (.iload 5, 2) := by decide +kernel
theorem dJ1_indexOfChar_4cfef_9 : decode cJ1_indexOfChar_4cfef 9 = .ok (.iload_n 3, 1) := by decide +kernel
theorem dJ1_indexOfChar_4cfef_10 : decode cJ1_indexOfChar_4cfef 10 = .ok (.if_icmp .ge 21, 3) := by decide +kernel
theorem dJ1_indexOfChar_4cfef_13 : decode cJ1_indexOfChar_4cfef 13 = .ok (.aload_n 0, 1) := by decide +kernel
theorem dJ1_indexOfChar_4cfef_14 : decode cJ1_indexOfChar_4cfef 14 = .ok (.iload 5, 2) := by decide +kernel
theorem dJ1_indexOfChar_4cfef_16 : decode cJ1_indexOfChar_4cfef 16 = .ok (.baload, 1) := by decide +kernel
theorem dJ1_indexOfChar_4cfef_17 : decode cJ1_indexOfChar_4cfef 17 = .ok (.iload 4, 2) := by decide +kernel
theorem dJ1_indexOfChar_4cfef_19 : decode cJ1_indexOfChar_4cfef 19 = .ok (.if_icmp .ne 6, 3) := by decide +kernel
theorem dJ1_indexOfChar_4cfef_22 : decode cJ1_indexOfChar_4cfef 22 = .ok (.iload 5, 2) := by decide +kernel
theorem dJ1_indexOfChar_4cfef_24 : decode cJ1_indexOfChar_4cfef 24 = .ok (.ireturn, 1) := by decide +kernel
theorem dJ1_indexOfChar_4cfef_25 : decode cJ1_indexOfChar_4cfef 25 = .ok (.iinc 5 1, 3) := by decide +kernel
theorem dJ1_indexOfChar_4cfef_28 : decode cJ1_indexOfChar_4cfef 28 = .ok (.goto (-21), 3) := by decide +kernel
theorem dJ1_indexOfChar_4cfef_31 : decode cJ1_indexOfChar_4cfef 31 = .ok (.iconst (-1), 1) := by decide +kernel
theorem dJ1_indexOfChar_4cfef_32 : decode cJ1_indexOfChar_4cfef 32 = .ok (.ireturn, 1) := by decide +kernel
theorem dJ2_getChar_3b067_0 : decode cJ2_getChar_3b067 0 = .ok (.getstatic 44, 3) := by decide +kernel
theorem dJ2_getChar_3b067_3 : decode cJ2_getChar_3b067 3 = .ok (.ifCond .ne 25, 3) := by decide +kernel
theorem dJ2_getChar_3b067_6 : decode cJ2_getChar_3b067 6 = .ok (.iload_n 1, 1) := by decide +kernel
theorem dJ2_getChar_3b067_7 : decode cJ2_getChar_3b067 7 = .ok (.ifCond .lt 11, 3) := by decide +kernel
theorem dJ2_getChar_3b067_10 : decode cJ2_getChar_3b067 10 = .ok (.iload_n 1, 1) := by decide +kernel
theorem dJ2_getChar_3b067_11 : decode cJ2_getChar_3b067 11 = .ok (.aload_n 0, 1) := by decide +kernel
theorem dJ2_getChar_3b067_12 : decode cJ2_getChar_3b067 12 = .ok (.invokestatic 48, 3) := by decide +kernel
theorem dJ2_getChar_3b067_15 : decode cJ2_getChar_3b067 15 = .ok (.if_icmp .lt 13, 3) := by decide +kernel
theorem dJ2_getChar_3b067_18 : decode cJ2_getChar_3b067 18 = .ok (.new 52, 3) := by decide +kernel
theorem dJ2_getChar_3b067_21 : decode cJ2_getChar_3b067 21 = .ok (.dup, 1) := by decide +kernel
theorem dJ2_getChar_3b067_22 : decode cJ2_getChar_3b067 22 = .ok (.ldc 54, 2) := by decide +kernel
theorem dJ2_getChar_3b067_24 : decode cJ2_getChar_3b067 24 = .ok (.invokespecial 56, 3) := by decide +kernel
theorem dJ2_getChar_3b067_27 : decode cJ2_getChar_3b067 27 = .ok (.athrow, 1) := by decide +kernel
theorem dJ2_getChar_3b067_28 : decode cJ2_getChar_3b067 28 = .ok (.iload_n 1, 1) := by decide +kernel
theorem dJ2_getChar_3b067_29 : decode cJ2_getChar_3b067 29 = .ok (.iconst 1, 1) := by decide +kernel
theorem dJ2_getChar_3b067_30 : decode cJ2_getChar_3b067 30 = .ok (.ishl, 1) := by decide +kernel
theorem dJ2_getChar_3b067_31 : decode cJ2_getChar_3b067 31 = .ok (.istore_n 1, 1) := by decide +kernel
theorem dJ2_getChar_3b067_32 : decode cJ2_getChar_3b067 32 = .ok (.aload_n 0, 1) := by decide +kernel
theorem dJ2_getChar_3b067_33 : decode cJ2_getChar_3b067 33 = .ok (.iload_n 1, 1) := by decide +kernel
theorem dJ2_getChar_3b067_34 : decode cJ2_getChar_3b067 34 = .ok (.iinc 1 1, 3) := by decide +kernel
theorem dJ2_getChar_3b067_37 : decode cJ2_getChar_3b067 37 = .ok (.baload, 1) := by decide +kernel
theorem dJ2_getChar_3b067_38 : decode cJ2_getChar_3b067 38 = .ok (.sipush 255, 3) := by decide +kernel
theorem dJ2_getChar_3b067_41 : decode cJ2_getChar_3b067 41 = .ok (.iand, 1) := by decide +kernel
theorem dJ2_getChar_3b067_42 : decode cJ2_getChar_3b067 42 = .ok (.getstatic 59, 3) := by decide +kernel
theorem dJ2_getChar_3b067_45 : decode cJ2_getChar_3b067 45 = .ok (.ishl, 1) := by decide +kernel
theorem dJ2_getChar_3b067_46 : decode cJ2_getChar_3b067 46 = .ok (.aload_n 0, 1) := by decide +kernel
theorem dJ2_getChar_3b067_47 : decode cJ2_getChar_3b067 47 = .ok (.iload_n 1, 1) := by decide +kernel
theorem dJ2_getChar_3b067_48 : decode cJ2_getChar_3b067 48 = .ok (.baload, 1) := by decide +kernel
theorem dJ2_getChar_3b067_49 : decode cJ2_getChar_3b067 49 = .ok (.sipush 255, 3) := by decide +kernel
theorem dJ2_getChar_3b067_52 : decode cJ2_getChar_3b067 52 = .ok (.iand, 1) := by decide +kernel
theorem dJ2_getChar_3b067_53 : decode cJ2_getChar_3b067 53 = .ok (.getstatic 63, 3) := by decide +kernel
theorem dJ2_getChar_3b067_56 : decode cJ2_getChar_3b067 56 = .ok (.ishl, 1) := by decide +kernel
theorem dJ2_getChar_3b067_57 : decode cJ2_getChar_3b067 57 = .ok (.ior, 1) := by decide +kernel
theorem dJ2_getChar_3b067_58 : decode cJ2_getChar_3b067 58 = .ok (.i2c, 1) := by decide +kernel
theorem dJ2_getChar_3b067_59 : decode cJ2_getChar_3b067 59 = .ok (.ireturn, 1) := by decide +kernel
theorem dJ2_length_9d52b_0 : decode cJ2_length_9d52b 0 = .ok (.aload_n 0, 1) := by decide +kernel
theorem dJ2_length_9d52b_1 : decode cJ2_length_9d52b 1 = .ok (.arraylength, 1) := by decide +kernel
theorem dJ2_length_9d52b_2 : decode cJ2_length_9d52b 2 = .ok (.iconst 1, 1) := by decide +kernel
theorem dJ2_length_9d52b_3 : decode cJ2_length_9d52b 3 = .ok (.ishr, 1) := by decide +kernel
theorem dJ2_length_9d52b_4 : decode cJ2_length_9d52b 4 = .ok (.ireturn, 1) := by decide +kernel
theorem dJ2_indexOf_4cfef_0 : decode cJ2_indexOf_4cfef 0 = .ok (.iload_n 2, 1) := by decide +kernel
theorem dJ2_indexOf_4cfef_1 : decode cJ2_indexOf_4cfef 1 = .ok (.iconst 0, 1) := by decide +kernel
theorem dJ2_indexOf_4cfef_2 : decode cJ2_indexOf_4cfef 2 = .ok (.invokestatic 224, 3) := by decide +kernel
theorem dJ2_indexOf_4cfef_5 : decode cJ2_indexOf_4cfef 5 = .ok (.istore_n 2, 1) := by decide +kernel
theorem dJ2_indexOf_4cfef_6 : decode cJ2_indexOf_4cfef 6 = .ok (.iload_n 3, 1) := by decide +kernel
theorem dJ2_indexOf_4cfef_7 : decode cJ2_indexOf_4cfef 7 = .ok (.aload_n 0, 1) := by decide +kernel
theorem dJ2_indexOf_4cfef_8 : decode cJ2_indexOf_4cfef 8 = .ok (.arraylength, 1) := by decide +kernel
theorem dJ2_indexOf_4cfef_9 : decode cJ2_indexOf_4cfef 9 = .ok (.iconst 1, 1) := by decide +kernel
theorem dJ2_indexOf_4cfef_10 : decode cJ2_indexOf_4cfef 10 = .ok (.ishr, 1) := by decide +kernel
theorem dJ2_indexOf_4cfef_11 : decode cJ2_indexOf_4cfef 11 = .ok (.invokestatic 183, 3) := by decide +kernel
theorem dJ2_indexOf_4cfef_14 : decode cJ2_indexOf_4cfef 14 = .ok (.istore_n 3, 1) := by decide +kernel
theorem dJ2_indexOf_4cfef_15 : decode cJ2_indexOf_4cfef 15 = .ok (.iload_n 2, 1) := by decide +kernel
theorem dJ2_indexOf_4cfef_16 : decode cJ2_indexOf_4cfef 16 = .ok (.iload_n 3, 1) := by decide +kernel
theorem dJ2_indexOf_4cfef_17 : decode cJ2_indexOf_4cfef 17 = .ok (.if_icmp .lt 5, 3) := by decide +kernel
theorem dJ2_indexOf_4cfef_20 : decode cJ2_indexOf_4cfef 20 = .ok (.iconst (-1), 1) := by decide +kernel
theorem dJ2_indexOf_4cfef_21 : decode cJ2_indexOf_4cfef 21 = .ok (.ireturn, 1) := by decide +kernel
theorem dJ2_indexOf_4cfef_22 : decode cJ2_indexOf_4cfef 22 = .ok (.iload_n 1, 1) := by decide +kernel
theorem dJ2_indexOf_4cfef_23 : decode cJ2_indexOf_4cfef 23 = .ok (.ldc 227, 2) := by decide +kernel
theorem dJ2_indexOf_4cfef_25 : decode cJ2_indexOf_4cfef 25 = .ok (.if_icmp .ge 11, 3) := by decide +kernel
theorem dJ2_indexOf_4cfef_28 : decode cJ2_indexOf_4cfef 28 = .ok (.aload_n 0, 1) := by decide +kernel
theorem dJ2_indexOf_4cfef_29 : decode cJ2_indexOf_4cfef 29 = .ok (.iload_n 1, 1) := by decide +kernel
theorem dJ2_indexOf_4cfef_30 : decode cJ2_indexOf_4cfef 30 = .ok (.iload_n 2, 1) := by decide +kernel
theorem dJ2_indexOf_4cfef_31 : decode cJ2_indexOf_4cfef 31 = .ok (.iload_n 3, 1) := by decide +kernel
theorem dJ2_indexOf_4cfef_32 : decode cJ2_indexOf_4cfef 32 = .ok (.invokestatic 228, 3) := by decide +kernel
theorem dJ2_indexOf_4cfef_35 : decode cJ2_indexOf_4cfef 35 = .ok (.ireturn, 1) := by decide +kernel
theorem dJ2_indexOf_4cfef_36 : decode cJ2_indexOf_4cfef 36 = .ok (.aload_n 0, 1) := by decide +kernel
theorem dJ2_indexOf_4cfef_37 : decode cJ2_indexOf_4cfef 37 = .ok (.iload_n 1, 1) := by decide +kernel
theorem dJ2_indexOf_4cfef_38 : decode cJ2_indexOf_4cfef 38 = .ok (.iload_n 2, 1) := by decide +kernel
theorem dJ2_indexOf_4cfef_39 : decode cJ2_indexOf_4cfef 39 = .ok (.iload_n 3, 1) := by decide +kernel
theorem dJ2_indexOf_4cfef_40 : decode cJ2_indexOf_4cfef 40 = .ok (.invokestatic 232, 3) := by decide +kernel
theorem dJ2_indexOf_4cfef_43 : decode cJ2_indexOf_4cfef 43 = .ok (.ireturn, 1) := by decide +kernel
theorem dJ2_indexOfChar_4cfef_0 : decode cJ2_indexOfChar_4cfef 0 = .ok (.iload_n 2, 1) := by decide +kernel
theorem dJ2_indexOfChar_4cfef_1 : decode cJ2_indexOfChar_4cfef 1 = .ok (.iload_n 3, 1) := by decide +kernel
theorem dJ2_indexOfChar_4cfef_2 : decode cJ2_indexOfChar_4cfef 2 = .ok (.aload_n 0, 1) := by decide +kernel
theorem dJ2_indexOfChar_4cfef_3 : decode cJ2_indexOfChar_4cfef 3 = .ok (.invokestatic 96, 3) := by decide +kernel
theorem dJ2_indexOfChar_4cfef_6 : decode cJ2_indexOfChar_4cfef 6 = .ok (.aload_n 0, 1) := by decide +kernel
theorem dJ2_indexOfChar_4cfef_7 : decode cJ2_indexOfChar_4cfef 7 = .ok (.iload_n 1, 1) := by decide +kernel
theorem dJ2_indexOfChar_4cfef_8 : decode cJ2_indexOfChar_4cfef 8 = .ok (.iload_n 2, 1) := by decide +kernel
theorem dJ2_indexOfChar_4cfef_9 : decode cJ2_indexOfChar_4cfef 9 = .ok (.iload_n 3, 1) := by decide +kernel
theorem dJ2_indexOfChar_4cfef_10 : decode cJ2_indexOfChar_4cfef 10 = .ok (.invokestatic 244, 3) := by decide +kernel
theorem dJ2_indexOfChar_4cfef_13 : decode cJ2_indexOfChar_4cfef 13 = .ok (.ireturn, 1) := by decide +kernel
theorem dJ2_indexOfCharUnsafe_4cfef_0 : decode cJ2_indexOfCharUnsafe_4cfef 0 = .ok (.iload_n 2, 1) := by decide +kernel
theorem dJ2_indexOfCharUnsafe_4cfef_1 : decode cJ2_indexOfCharUnsafe_4cfef 1 = .ok (.istore 4, 2) := by decide +kernel
theorem dJ2_indexOfCharUnsafe_4cfef_3 : decode cJ2_indexOfCharUnsafe_4cfef 3 = .ok (.iload 4, 2) := by decide +kernel
theorem dJ2_indexOfCharUnsafe_4cfef_5 : decode cJ2_indexOfCharUnsafe_4cfef 5 = .ok (.iload_n 3, 1) := by decide +kernel
theorem dJ2_indexOfCharUnsafe_4cfef_6 : decode cJ2_indexOfCharUnsafe_4cfef 6 = .ok (.if_icmp .ge 22, 3) := by decide +kernel
theorem dJ2_indexOfCharUnsafe_4cfef_9 : decode cJ2_indexOfCharUnsafe_4cfef 9 = .ok (.aload_n 0, 1) := by decide +kernel
theorem dJ2_indexOfCharUnsafe_4cfef_10 : decode cJ2_indexOfCharUnsafe_4cfef 10 = .ok (.iload 4, 2) := by decide +kernel
theorem dJ2_indexOfCharUnsafe_4cfef_12 : decode cJ2_indexOfCharUnsafe_4cfef 12 = .ok (.invokestatic 71, 3) := by decide +kernel
theorem dJ2_indexOfCharUnsafe_4cfef_15 : decode cJ2_indexOfCharUnsafe_4cfef 15 = .ok (.iload_n 1, 1) := by decide +kernel
theorem dJ2_indexOfCharUnsafe_4cfef_16 : decode cJ2_indexOfCharUnsafe_4cfef 16 = .ok (.if_icmp .ne 6, 3) := by decide +kernel
theorem dJ2_indexOfCharUnsafe_4cfef_19 : decode cJ2_indexOfCharUnsafe_4cfef 19 = .ok (.iload 4, 2) := by decide +kernel
theorem dJ2_indexOfCharUnsafe_4cfef_21 : decode cJ2_indexOfCharUnsafe_4cfef 21 = .ok (.ireturn, 1) := by decide +kernel
theorem dJ2_indexOfCharUnsafe_4cfef_22 : decode cJ2_indexOfCharUnsafe_4cfef 22 = .ok (.iinc 4 1, 3) := by decide +kernel
theorem dJ2_indexOfCharUnsafe_4cfef_25 : decode cJ2_indexOfCharUnsafe_4cfef 25 = .ok (.goto (-22), 3) := by decide +kernel
theorem dJ2_indexOfCharUnsafe_4cfef_28 : decode cJ2_indexOfCharUnsafe_4cfef 28 = .ok (.iconst (-1), 1) := by decide +kernel
theorem dJ2_indexOfCharUnsafe_4cfef_29 : decode cJ2_indexOfCharUnsafe_4cfef 29 = .ok (.ireturn, 1) := by decide +kernel
theorem dJ2_indexOfSupplementary_4cfef_0 : decode cJ2_indexOfSupplementary_4cfef 0 = .ok (.iload_n 1, 1) := by decide +kernel
theorem dJ2_indexOfSupplementary_4cfef_1 : decode cJ2_indexOfSupplementary_4cfef 1 = .ok (.invokestatic 164, 3) := by decide +kernel
theorem dJ2_indexOfSupplementary_4cfef_4 : decode cJ2_indexOfSupplementary_4cfef 4 = .ok (.ifCond .eq 65, 3) := by decide +kernel
theorem dJ2_indexOfSupplementary_4cfef_7 : decode cJ2_indexOfSupplementary_4cfef 7 = .ok (.iload_n 1, 1) := by decide +kernel
theorem dJ2_indexOfSupplementary_4cfef_8 : decode cJ2_indexOfSupplementary_4cfef 8 = .ok (.invokestatic 157, 3) := by decide +kernel
theorem dJ2_indexOfSupplementary_4cfef_11 : decode cJ2_indexOfSupplementary_4cfef 11 = .ok (.istore 4, 2) := by decide +kernel
theorem dJ2_indexOfSupplementary_4cfef_13 : decode cJ2_indexOfSupplementary_4cfef 13 = .ok (.iload_n 1, 1) := by decide +kernel
theorem dJ2_indexOfSupplementary_4cfef_14 : decode cJ2_indexOfSupplementary_4cfef 14 = .ok (.invokestatic 161, 3) := by decide +kernel
theorem dJ2_indexOfSupplementary_4cfef_17 : decode cJ2_indexOfSupplementary_4cfef 17 = .ok (.istore 5, 2) := by decide +kernel
theorem dJ2_indexOfSupplementary_4cfef_19 : decode cJ2_indexOfSupplementary_4cfef 19 = .ok (.iload_n 2, 1) := by decide +kernel
theorem dJ2_indexOfSupplementary_4cfef_20 : decode cJ2_indexOfSupplementary_4cfef 20 = .ok (.iload_n 3, 1) := by decide +kernel
theorem dJ2_indexOfSupplementary_4cfef_21 : decode cJ2_indexOfSupplementary_4cfef 21 = .ok (.aload_n 0, 1) := by decide +kernel
theorem dJ2_indexOfSupplementary_4cfef_22 : decode cJ2_indexOfSupplementary_4cfef 22 = .ok (.invokestatic 96, 3) := by decide +kernel
theorem dJ2_indexOfSupplementary_4cfef_25 : decode cJ2_indexOfSupplementary_4cfef 25 = .ok (.iload_n 2, 1) := by decide +kernel
theorem dJ2_indexOfSupplementary_4cfef_26 : decode cJ2_indexOfSupplementary_4cfef 26 = .ok (.istore 6, 2) := by decide +kernel
theorem dJ2_indexOfSupplementary_4cfef_28 : decode cJ2_indexOfSupplementary_4cfef 28 = .ok (.iload 6, 2) := by decide +kernel
theorem dJ2_indexOfSupplementary_4cfef_30 : decode cJ2_indexOfSupplementary_4cfef 30 = .ok (.iload_n 3, 1) := by decide +kernel
theorem dJ2_indexOfSupplementary_4cfef_31 : decode cJ2_indexOfSupplementary_4cfef 31 = .ok (.iconst 1, 1) := by decide +kernel
theorem dJ2_indexOfSupplementary_4cfef_32 : decode cJ2_indexOfSupplementary_4cfef 32 = .ok (.isub, 1) := by decide +kernel
theorem dJ2_indexOfSupplementary_4cfef_33 : decode cJ2_indexOfSupplementary_4cfef 33 = .ok (.if_icmp .ge 36, 3) := by decide +kernel
theorem dJ2_indexOfSupplementary_4cfef_36 : decode cJ2_indexOfSupplementary_4cfef 36 = .ok (.aload_n 0, 1) := by decide +kernel
theorem dJ2_indexOfSupplementary_4cfef_37 : decode cJ2_indexOfSupplementary_4cfef 37 = .ok (.iload 6, 2) := by decide +kernel
theorem dJ2_indexOfSupplementary_4cfef_39 : decode cJ2_indexOfSupplementary_4cfef 39 = .ok (.invokestatic 71, 3) := by decide +kernel
theorem dJ2_indexOfSupplementary_4cfef_42 : decode cJ2_indexOfSupplementary_4cfef 42 = .ok (.iload 4, 2) := by decide +kernel
theorem dJ2_indexOfSupplementary_4cfef_44 : decode cJ2_indexOfSupplementary_4cfef 44 = .ok (.if_icmp .ne 19, 3) := by decide +kernel
theorem dJ2_indexOfSupplementary_4cfef_47 : decode cJ2_indexOfSupplementary_4cfef 47 = .ok (.aload_n 0, 1) := by decide +kernel
theorem dJ2_indexOfSupplementary_4cfef_48 : decode cJ2_indexOfSupplementary_4cfef 48 = .ok (.iload 6, 2) := by decide +kernel
theorem dJ2_indexOfSupplementary_4cfef_50 : decode cJ2_indexOfSupplementary_4cfef 50 = .ok (.iconst 1, 1) := by decide +kernel
theorem dJ2_indexOfSupplementary_4cfef_51 : decode cJ2_indexOfSupplementary_4cfef 51 = .ok (.iadd, 1) := by decide +kernel
theorem dJ2_indexOfSupplementary_4cfef_52 : decode cJ2_indexOfSupplementary_4cfef 52 = .ok (.invokestatic 71, 3) := by decide +kernel
theorem dJ2_indexOfSupplementary_4cfef_55 : decode cJ2_indexOfSupplementary_4cfef 55 = .ok (.iload 5, 2) := by decide +kernel
theorem dJ2_indexOfSupplementary_4cfef_57 : decode cJ2_indexOfSupplementary_4cfef 57 = .ok (.if_icmp .ne 6, 3) := by decide +kernel
theorem dJ2_indexOfSupplementary_4cfef_60 : decode cJ2_indexOfSupplementary_4cfef 60 = .ok (.iload 6, 2) := by decide +kernel
theorem dJ2_indexOfSupplementary_4cfef_62 : decode cJ2_indexOfSupplementary_4cfef 62 = .ok (.ireturn, 1) := by decide +kernel
theorem dJ2_indexOfSupplementary_4cfef_63 : decode cJ2_indexOfSupplementary_4cfef 63 = .ok (.iinc 6 1, 3) := by decide +kernel
theorem dJ2_indexOfSupplementary_4cfef_66 : decode cJ2_indexOfSupplementary_4cfef 66 = .ok (.goto (-38), 3) := by decide +kernel
theorem dJ2_indexOfSupplementary_4cfef_69 : decode cJ2_indexOfSupplementary_4cfef 69 = .ok (.iconst (-1), 1) := by decide +kernel
theorem dJ2_indexOfSupplementary_4cfef_70 : decode cJ2_indexOfSupplementary_4cfef 70 = .ok (.ireturn, 1) := by decide +kernel
theorem dJ2_charAt_3b067_0 : decode cJ2_charAt_3b067 0 = .ok (.iload_n 1, 1) := by decide +kernel
theorem dJ2_charAt_3b067_1 : decode cJ2_charAt_3b067 1 = .ok (.aload_n 0, 1) := by decide +kernel
theorem dJ2_charAt_3b067_2 : decode cJ2_charAt_3b067 2 = .ok (.invokestatic 67, 3) := by decide +kernel
theorem dJ2_charAt_3b067_5 : decode cJ2_charAt_3b067 5 = .ok (.aload_n 0, 1) := by decide +kernel
theorem dJ2_charAt_3b067_6 : decode cJ2_charAt_3b067 6 = .ok (.iload_n 1, 1) := by decide +kernel
theorem dJ2_charAt_3b067_7 : decode cJ2_charAt_3b067 7 = .ok (.invokestatic 71, 3) := by decide +kernel
theorem dJ2_charAt_3b067_10 : decode cJ2_charAt_3b067 10 = .ok (.ireturn, 1) := by decide +kernel
theorem dJ2_checkIndex_2214a_0 : decode cJ2_checkIndex_2214a 0 = .ok (.iload_n 0, 1) := by decide +kernel
theorem dJ2_checkIndex_2214a_1 : decode cJ2_checkIndex_2214a 1 = .ok (.aload_n 1, 1) := by decide +kernel
theorem dJ2_checkIndex_2214a_2 : decode cJ2_checkIndex_2214a 2 = .ok (.invokestatic 48, 3) := by decide +kernel
theorem dJ2_checkIndex_2214a_5 : decode cJ2_checkIndex_2214a 5 = .ok (.invokestatic 414, 3) := by decide +kernel
theorem dJ2_checkIndex_2214a_8 : decode cJ2_checkIndex_2214a 8 = .ok (.return_, 1) := by decide +kernel
theorem dJ2_checkBoundsBeginEnd_d044e_0 : decode cJ2_checkBoundsBeginEnd_d044e 0 = .ok (.iload_n 0, 1) := by decide +kernel
theorem dJ2_checkBoundsBeginEnd_d044e_1 : decode cJ2_checkBoundsBeginEnd_d044e 1 = .ok (.iload_n 1, 1) := by decide +kernel
theorem dJ2_checkBoundsBeginEnd_d044e_2 : decode cJ2_checkBoundsBeginEnd_d044e 2 = .ok (.aload_n 2, 1) := by decide +kernel
theorem dJ2_checkBoundsBeginEnd_d044e_3 : decode cJ2_checkBoundsBeginEnd_d044e 3 = .ok (.invokestatic 48, 3) := by decide +kernel
theorem dJ2_checkBoundsBeginEnd_d044e_6 : decode cJ2_checkBoundsBeginEnd_d044e 6 = .ok (.invokestatic 241, 3) := by decide +kernel
theorem dJ2_checkBoundsBeginEnd_d044e_9 : decode cJ2_checkBoundsBeginEnd_d044e 9 = .ok (.return_, 1) := by decide +kernel
theorem dJ3_checkIndex_8e157_0 : decode cJ3_checkIndex_8e157 0 = .ok (.iload_n 0, 1) := by decide +kernel
theorem dJ3_checkIndex_8e157_1 : decode cJ3_checkIndex_8e157 1 = .ok (.ifCond .lt 8, 3) := by decide +kernel
theorem dJ3_checkIndex_8e157_4 : decode cJ3_checkIndex_8e157 4 = .ok (.iload_n 0, 1) := by decide +kernel
theorem dJ3_checkIndex_8e157_5 : decode cJ3_checkIndex_8e157 5 = .ok (.iload_n 1, 1) := by decide +kernel
theorem dJ3_checkIndex_8e157_6 : decode cJ3_checkIndex_8e157 6 = .ok (.if_icmp .lt 10, 3) := by decide +kernel
theorem dJ3_checkIndex_8e157_9 : decode cJ3_checkIndex_8e157 9 = .ok (.aload_n 2, 1) := by decide +kernel
theorem dJ3_checkIndex_8e157_10 : decode cJ3_checkIndex_8e157 10 = .ok (.iload_n 0, 1) := by decide +kernel
theorem dJ3_checkIndex_8e157_11 : decode cJ3_checkIndex_8e157 11 = .ok (.iload_n 1, 1) := by decide +kernel
theorem dJ3_checkIndex_8e157_12 : decode cJ3_checkIndex_8e157 12 = .ok (.invokestatic 95, 3) := by decide +kernel
theorem dJ3_checkIndex_8e157_15 : decode cJ3_checkIndex_8e157 15 = .ok (.athrow, 1) := by decide +kernel
theorem dJ3_checkIndex_8e157_16 : decode cJ3_checkIndex_8e157 16 = .ok (.iload_n 0, 1) := by decide +kernel
theorem dJ3_checkIndex_8e157_17 : decode cJ3_checkIndex_8e157 17 = .ok (.ireturn, 1) := by decide +kernel
theorem dJ3_checkFromToIndex_8c36e_0 : decode cJ3_checkFromToIndex_8c36e 0 = .ok (.iload_n 0, 1) := by decide +kernel
theorem dJ3_checkFromToIndex_8c36e_1 : decode cJ3_checkFromToIndex_8c36e 1 = .ok (.ifCond .lt 13, 3) := by decide +kernel
theorem dJ3_checkFromToIndex_8c36e_4 : decode cJ3_checkFromToIndex_8c36e 4 = .ok (.iload_n 0, 1) := by decide +kernel
theorem dJ3_checkFromToIndex_8c36e_5 : decode cJ3_checkFromToIndex_8c36e 5 = .ok (.iload_n 1, 1) := by decide +kernel
theorem dJ3_checkFromToIndex_8c36e_6 : decode cJ3_checkFromToIndex_8c36e 6 = .ok (.if_icmp .gt 8, 3) := by decide +kernel
theorem dJ3_checkFromToIndex_8c36e_9 : decode cJ3_checkFromToIndex_8c36e 9 = .ok (.iload_n 1, 1) := by decide +kernel
theorem dJ3_checkFromToIndex_8c36e_10 : decode cJ3_checkFromToIndex_8c36e 10 = .ok (.iload_n 2, 1) := by decide +kernel
theorem dJ3_checkFromToIndex_8c36e_11 : decode cJ3_checkFromToIndex_8c36e 11 = .ok (.if_icmp .le 11, 3) := by decide +kernel
theorem dJ3_checkFromToIndex_8c36e_14 : decode cJ3_checkFromToIndex_8c36e 14 = .ok (.aload_n 3, 1) := by decide +kernel
theorem dJ3_checkFromToIndex_8c36e_15 : decode cJ3_checkFromToIndex_8c36e 15 = .ok (.iload_n 0, 1) := by decide +kernel
theorem dJ3_checkFromToIndex_8c36e_16 : decode cJ3_checkFromToIndex_8c36e 16 = .ok (.iload_n 1, 1) := by decide +kernel
theorem dJ3_checkFromToIndex_8c36e_17 : decode cJ3_checkFromToIndex_8c36e 17 = .ok (.iload_n 2, 1) := by decide +kernel
theorem dJ3_checkFromToIndex_8c36e_18 : decode cJ3_checkFromToIndex_8c36e 18 = .ok (.invokestatic 99, 3) := by decide +kernel
theorem dJ3_checkFromToIndex_8c36e_21 : decode cJ3_checkFromToIndex_8c36e 21 = .ok (.athrow, 1) := by decide +kernel
theorem dJ3_checkFromToIndex_8c36e_22 : decode cJ3_checkFromToIndex_8c36e 22 = .ok (.iload_n 0, 1) := by decide +kernel
theorem dJ3_checkFromToIndex_8c36e_23 : decode cJ3_checkFromToIndex_8c36e 23 = .ok (.ireturn, 1) := by decide +kernel
end
section
theorem dX12_init_0 : decode cX12_init 0 = .ok (.aload_n 0, 1) := by decide +kernel
theorem dX12_init_1 : decode cX12_init 1 = .ok (.invokespecial 1, 3) := by decide +kernel
theorem dX12_init_4 : decode cX12_init 4 = .ok (.aload_n 0, 1) := by decide +kernel
theorem dX12_init_5 : decode cX12_init 5 = .ok (.bipush 20, 2) := by decide +kernel
theorem dX12_init_7 : decode cX12_init 7 = .ok (.newarray .int, 2) := by decide +kernel
theorem dX12_init_9 : decode cX12_init 9 = .ok (.putfield 7, 3) := by decide +kernel
theorem dX12_init_12 : decode cX12_init 12 = .ok (.aload_n 0, 1) := by decide +kernel
theorem dX12_init_13 : decode cX12_init 13 = .ok (.bipush 20, 2) := by decide +kernel
theorem dX12_init_15 : decode cX12_init 15 = .ok (.newarray .int, 2) := by decide +kernel
theorem dX12_init_17 : decode cX12_init 17 = .ok (.putfield 13, 3) := by decide +kernel
theorem dX12_init_20 : decode cX12_init 20 = .ok (.aload_n 0, 1) := by decide +kernel
theorem dX12_init_21 : decode cX12_init 21 = .ok (.bipush 20, 2) := by decide +kernel
theorem dX12_init_23 : decode cX12_init 23 = .ok (.newarray .int, 2) := by decide +kernel
theorem dX12_init_25 : decode cX12_init 25 = .ok (.putfield 16, 3) := by decide +kernel
theorem dX12_init_28 : decode cX12_init 28 = .ok (.aload_n 0, 1) := by decide +kernel
theorem dX12_init_29 : decode cX12_init 29 = .ok (.bipush 20, 2) := by decide +kernel
theorem dX12_init_31 : decode cX12_init 31 = .ok (.newarray .int, 2) := by decide +kernel
theorem dX12_init_33 : decode cX12_init 33 = .ok (.putfield 19, 3) := by decide +kernel
theorem dX12_init_36 : decode cX12_init 36 = .ok (.aload_n 0, 1) := by decide +kernel
theorem dX12_init_37 : decode cX12_init 37 = .ok (.bipush 20, 2) := by decide +kernel
theorem dX12_init_39 : decode cX12_init 39 = .ok (.newarray .int, 2) := by decide +kernel
theorem dX12_init_41 : decode cX12_init 41 = .ok (.putfield 22, 3) := by decide +kernel
theorem dX12_init_44 : decode cX12_init 44 = .ok (.aload_n 0, 1) := by decide +kernel
theorem dX12_init_45 : decode cX12_init 45 = .ok (.bipush 20, 2) := by decide +kernel
theorem dX12_init_47 : decode cX12_init 47 = .ok (.newarray .int, 2) := by decide +kernel
theorem dX12_init_49 : decode cX12_init 49 = .ok (.putfield 25, 3) := by decide +kernel
theorem dX12_init_52 : decode cX12_init 52 = .ok (.aload_n 0, 1) := by decide +kernel
theorem dX12_init_53 : decode cX12_init 53 = .ok (.bipush 20, 2) := by decide +kernel
theorem dX12_init_55 : decode cX12_init 55 = .ok (.newarray .int, 2) := by decide +kernel
theorem dX12_init_57 : decode cX12_init 57 = .ok (.putfield 28, 3) := by decide +kernel
theorem dX12_init_60 : decode cX12_init 60 = .ok (.aload_n 0, 1) := by decide +kernel
theorem dX12_init_61 : decode cX12_init 61 = .ok (.bipush 20, 2) := by decide +kernel
theorem dX12_init_63 : decode cX12_init 63 = .ok (.newarray .int, 2) := by decide +kernel
theorem dX12_init_65 : decode cX12_init 65 = .ok (.putfield 31, 3) := by decide +kernel
theorem dX12_init_68 : decode cX12_init 68 = .ok (.aload_n 0, 1) := by decide +kernel
theorem dX12_init_69 : decode cX12_init 69 = .ok (.sipush 300, 3) := by decide +kernel
theorem dX12_init_72 : decode cX12_init 72 = .ok (.newarray .int, 2) := by decide +kernel
theorem dX12_init_74 : decode cX12_init 74 = .ok (.putfield 34, 3) := by decide +kernel
theorem dX12_init_77 : decode cX12_init 77 = .ok (.aload_n 0, 1) := by decide +kernel
theorem dX12_init_78 : decode cX12_init 78 = .ok (.sipush 300, 3) := by decide +kernel
theorem dX12_init_81 : decode cX12_init 81 = .ok (.newarray .int, 2) := by decide +kernel
theorem dX12_init_83 : decode cX12_init 83 = .ok (.putfield 37, 3) := by decide +kernel
theorem dX12_init_86 : decode cX12_init 86 = .ok (.aload_n 0, 1) := by decide +kernel
theorem dX12_init_87 : decode cX12_init 87 = .ok (.sipush 300, 3) := by decide +kernel
theorem dX12_init_90 : decode cX12_init 90 = .ok (.newarray .int, 2) := by decide +kernel
theorem dX12_init_92 : decode cX12_init 92 = .ok (.putfield 40, 3) := by decide +kernel
theorem dX12_init_95 : decode cX12_init 95 = .ok (.aload_n 0, 1) := by decide +kernel
theorem dX12_init_96 : decode cX12_init 96 = .ok (.sipush 300, 3) := by decide +kernel
theorem dX12_init_99 : decode cX12_init 99 = .ok (.newarray .int, 2) := by decide +kernel
theorem dX12_init_101 : decode cX12_init 101 = .ok (.putfield 43, 3) := by decide +kernel
theorem dX12_init_104 : decode cX12_init 104 = .ok (.aload_n 0, 1) := by decide +kernel
theorem dX12_init_105 : decode cX12_init 105 = .ok (.bipush 60, 2) := by decide +kernel
theorem dX12_init_107 : decode cX12_init 107 = .ok (.newarray .int, 2) := by decide +kernel
theorem dX12_init_109 : decode cX12_init 109 = .ok (.putfield 46, 3) := by decide +kernel
theorem dX12_init_112 : decode cX12_init 112 = .ok (.aload_n 0, 1) := by decide +kernel
theorem dX12_init_113 : decode cX12_init 113 = .ok (.bipush 60, 2) := by decide +kernel
theorem dX12_init_115 : decode cX12_init 115 = .ok (.newarray .int, 2) := by decide +kernel
theorem dX12_init_117 : decode cX12_init 117 = .ok (.putfield 49, 3) := by decide +kernel
theorem dX12_init_120 : decode cX12_init 120 = .ok (.aload_n 0, 1) := by decide +kernel
theorem dX12_init_121 : decode cX12_init 121 = .ok (.bipush 60, 2) := by decide +kernel
theorem dX12_init_123 : decode cX12_init 123 = .ok (.newarray .int, 2) := by decide +kernel
theorem dX12_init_125 : decode cX12_init 125 = .ok (.putfield 52, 3) := by decide +kernel
theorem dX12_init_128 : decode cX12_init 128 = .ok (.aload_n 0, 1) := by decide +kernel
theorem dX12_init_129 : decode cX12_init 129 = .ok (.bipush 60, 2) := by decide +kernel
theorem dX12_init_131 : decode cX12_init 131 = .ok (.newarray .int, 2) := by decide +kernel
theorem dX12_init_133 : decode cX12_init 133 = .ok (.putfield 55, 3) := by decide +kernel
theorem dX12_init_136 : decode cX12_init 136 = .ok (.aload_n 0, 1) := by decide +kernel
theorem dX12_init_137 : decode cX12_init 137 = .ok (.bipush 60, 2) := by decide +kernel
theorem dX12_init_139 : decode cX12_init 139 = .ok (.newarray .int, 2) := by decide +kernel
theorem dX12_init_141 : decode cX12_init 141 = .ok (.putfield 58, 3) := by decide +kernel
theorem dX12_init_144 : decode cX12_init 144 = .ok (.aload_n 0, 1) := by decide +kernel
theorem dX12_init_145 : decode cX12_init 145 = .ok (.bipush 13, 2) := by decide +kernel
theorem dX12_init_147 : decode cX12_init 147 = .ok (.newarray .int, 2) := by decide +kernel
theorem dX12_init_149 : decode cX12_init 149 = .ok (.putfield 61, 3) := by decide +kernel
theorem dX12_init_152 : decode cX12_init 152 = .ok (.aload_n 0, 1) := by decide +kernel
theorem dX12_init_153 : decode cX12_init 153 = .ok (.sipush 620, 3) := by decide +kernel
theorem dX12_init_156 : decode cX12_init 156 = .ok (.newarray .int, 2) := by decide +kernel
theorem dX12_init_158 : decode cX12_init 158 = .ok (.putfield 64, 3) := by decide +kernel
theorem dX12_init_161 : decode cX12_init 161 = .ok (.aload_n 0, 1) := by decide +kernel
theorem dX12_init_162 : decode cX12_init 162 = .ok (.bipush 13, 2) := by decide +kernel
theorem dX12_init_164 : decode cX12_init 164 = .ok (.newarray .int, 2) := by decide +kernel
theorem dX12_init_166 : decode cX12_init 166 = .ok (.putfield 67, 3) := by decide +kernel
theorem dX12_init_169 : decode cX12_init 169 = .ok (.aload_n 0, 1) := by decide +kernel
theorem dX12_init_170 : decode cX12_init 170 = .ok (.sipush 620, 3) := by decide +kernel
theorem dX12_init_173 : decode cX12_init 173 = .ok (.newarray .int, 2) := by decide +kernel
theorem dX12_init_175 : decode cX12_init 175 = .ok (.putfield 70, 3) := by decide +kernel
theorem dX12_init_178 : decode cX12_init 178 = .ok (.aload_n 0, 1) := by decide +kernel
theorem dX12_init_179 : decode cX12_init 179 = .ok (.sipush 620, 3) := by decide +kernel
theorem dX12_init_182 : decode cX12_init 182 = .ok (.newarray .int, 2) := by decide +kernel
theorem dX12_init_184 : decode cX12_init 184 = .ok (.putfield 73, 3) := by decide +kernel
theorem dX12_init_187 : decode cX12_init 187 = .ok (.aload_n 0, 1) := by decide +kernel
theorem dX12_init_188 : decode cX12_init 188 = .ok (.sipush 600, 3) := by decide +kernel
theorem dX12_init_191 : decode cX12_init 191 = .ok (.newarray .int, 2) := by decide +kernel
theorem dX12_init_193 : decode cX12_init 193 = .ok (.putfield 76, 3) := by decide +kernel
theorem dX12_init_196 : decode cX12_init 196 = .ok (.aload_n 0, 1) := by decide +kernel
theorem dX12_init_197 : decode cX12_init 197 = .ok (.iconst (-1), 1) := by decide +kernel
theorem dX12_init_198 : decode cX12_init 198 = .ok (.putfield 79, 3) := by decide +kernel
theorem dX12_init_201 : decode cX12_init 201 = .ok (.aload_n 0, 1) := by decide +kernel
theorem dX12_init_202 : decode cX12_init 202 = .ok (.iconst 5, 1) := by decide +kernel
theorem dX12_init_203 : decode cX12_init 203 = .ok (.newarray .int, 2) := by decide +kernel
theorem dX12_init_205 : decode cX12_init 205 = .ok (.putfield 83, 3) := by decide +kernel
theorem dX12_init_208 : decode cX12_init 208 = .ok (.return_, 1) := by decide +kernel
theorem dX12_isIn_0 : decode cX12_isIn 0 = .ok (.iload_n 0, 1) := by decide +kernel
theorem dX12_isIn_1 : decode cX12_isIn 1 = .ok (.iload_n 1, 1) := by decide +kernel
theorem dX12_isIn_2 : decode cX12_isIn 2 = .ok (.if_icmp .lt 12, 3) := by decide +kernel
theorem dX12_isIn_5 : decode cX12_isIn 5 = .ok (.iload_n 0, 1) := by decide +kernel
theorem dX12_isIn_6 : decode cX12_isIn 6 = .ok (.iload_n 2, 1) := by decide +kernel
theorem dX12_isIn_7 : decode cX12_isIn 7 = .ok (.if_icmp .gt 7, 3) := by decide +kernel
theorem dX12_isIn_10 : decode cX12_isIn 10 = .ok (.iconst 1, 1) := by decide +kernel
theorem dX12_isIn_11 : decode cX12_isIn 11 = .ok (.goto 4, 3) := by decide +kernel
theorem dX12_isIn_14 : decode cX12_isIn 14 = .ok (.iconst 0, 1) := by decide +kernel
theorem dX12_isIn_15 : decode cX12_isIn 15 = .ok (.ireturn, 1) := by decide +kernel
theorem dX12_isHouse_0 : decode cX12_isHouse 0 = .ok (.iload_n 0, 1) := by decide +kernel
theorem dX12_isHouse_1 : decode cX12_isHouse 1 = .ok (.iconst 0, 1) := by decide +kernel
theorem dX12_isHouse_2 : decode cX12_isHouse 2 = .ok (.bipush 7, 2) := by decide +kernel
theorem dX12_isHouse_4 : decode cX12_isHouse 4 = .ok (.invokestatic 86, 3) := by decide +kernel
theorem dX12_isHouse_7 : decode cX12_isHouse 7 = .ok (.ireturn, 1) := by decide +kernel
theorem dX12_isThing_0 : decode cX12_isThing 0 = .ok (.iload_n 1, 1) := by decide +kernel
theorem dX12_isThing_1 : decode cX12_isThing 1 = .ok (.iconst 0, 1) := by decide +kernel
theorem dX12_isThing_2 : decode cX12_isThing 2 = .ok (.aload_n 0, 1) := by decide +kernel
theorem dX12_isThing_3 : decode cX12_isThing 3 = .ok (.getfield 90, 3) := by decide +kernel
theorem dX12_isThing_6 : decode cX12_isThing 6 = .ok (.iconst 1, 1) := by decide +kernel
theorem dX12_isThing_7 : decode cX12_isThing 7 = .ok (.isub, 1) := by decide +kernel
theorem dX12_isThing_8 : decode cX12_isThing 8 = .ok (.invokestatic 86, 3) := by decide +kernel
theorem dX12_isThing_11 : decode cX12_isThing 11 = .ok (.ireturn, 1) := by decide +kernel
theorem dX12_isThere_0 : decode cX12_isThere 0 = .ok (.aload_n 0, 1) := by decide +kernel
theorem dX12_isThere_1 : decode cX12_isThere 1 = .ok (.iload_n 1, 1) := by decide +kernel
theorem dX12_isThere_2 : decode cX12_isThere 2 = .ok (.invokevirtual 93, 3) := by decide +kernel
theorem dX12_isThere_5 : decode cX12_isThere 5 = .ok (.ifCond .eq 17, 3) := by decide +kernel
theorem dX12_isThere_8 : decode cX12_isThere 8 = .ok (.aload_n 0, 1) := by decide +kernel
theorem dX12_isThere_9 : decode cX12_isThere 9 = .ok (.getfield 31, 3) := by decide +kernel
theorem dX12_isThere_12 : decode cX12_isThere 12 = .ok (.iload_n 1, 1) := by decide +kernel
theorem dX12_isThere_13 : decode cX12_isThere 13 = .ok (.iaload, 1) := by decide +kernel
theorem dX12_isThere_14 : decode cX12_isThere 14 = .ok (.iconst (-1), 1) := by decide +kernel
theorem dX12_isThere_15 : decode cX12_isThere 15 = .ok (.if_icmp .ne 7, 3) := by decide +kernel
theorem dX12_isThere_18 : decode cX12_isThere 18 = .ok (.iconst 1, 1) := by decide +kernel
theorem dX12_isThere_19 : decode cX12_isThere 19 = .ok (.goto 4, 3) := by decide +kernel
theorem dX12_isThere_22 : decode cX12_isThere 22 = .ok (.iconst 0, 1) := by decide +kernel
theorem dX12_isThere_23 : decode cX12_isThere 23 = .ok (.ireturn, 1) := by decide +kernel
theorem dX12_comes_0 : decode cX12_comes 0 = .ok (.aload_n 0, 1) := by decide +kernel
theorem dX12_comes_1 : decode cX12_comes 1 = .ok (.getfield 90, 3) := by decide +kernel
theorem dX12_comes_4 : decode cX12_comes 4 = .ok (.istore 7, 2) := by decide +kernel
theorem dX12_comes_6 : decode cX12_comes 6 = .ok (.aload_n 0, 1) := by decide +kernel
theorem dX12_comes_7 : decode cX12_comes 7 = .ok (.dup, 1) := by decide +kernel
theorem dX12_comes_8 : decode cX12_comes 8 = .ok (.getfield 90, 3) := by decide +kernel
theorem dX12_comes_11 : decode cX12_comes 11 = .ok (.iconst 1, 1) := by decide +kernel
theorem dX12_comes_12 : decode cX12_comes 12 = .ok (.iadd, 1) := by decide +kernel
theorem dX12_comes_13 : decode cX12_comes 13 = .ok (.putfield 90, 3) := by decide +kernel
theorem dX12_comes_16 : decode cX12_comes 16 = .ok (.aload_n 0, 1) := by decide +kernel
theorem dX12_comes_17 : decode cX12_comes 17 = .ok (.getfield 7, 3) := by decide +kernel
theorem dX12_comes_20 : decode cX12_comes 20 = .ok (.iload 7, 2) := by decide +kernel
theorem dX12_comes_22 : decode cX12_comes 22 = .ok (.iload_n 1, 1) := by decide +kernel
theorem dX12_comes_23 : decode cX12_comes 23 = .ok (.iastore, 1) := by decide +kernel
theorem dX12_comes_24 : decode cX12_comes 24 = .ok (.aload_n 0, 1) := by decide +kernel
theorem dX12_comes_25 : decode cX12_comes 25 = .ok (.getfield 13, 3) := by decide +kernel
theorem dX12_comes_28 : decode cX12_comes 28 = .ok (.iload 7, 2) := by decide +kernel
theorem dX12_comes_30 : decode cX12_comes 30 = .ok (.iload_n 2, 1) := by decide +kernel
theorem dX12_comes_31 : decode cX12_comes 31 = .ok (.iastore, 1) := by decide +kernel
theorem dX12_comes_32 : decode cX12_comes 32 = .ok (.aload_n 0, 1) := by decide +kernel
theorem dX12_comes_33 : decode cX12_comes 33 = .ok (.getfield 16, 3) := by decide +kernel
theorem dX12_comes_36 : decode cX12_comes 36 = .ok (.iload 7, 2) := by decide +kernel
theorem dX12_comes_38 : decode cX12_comes 38 = .ok (.iload_n 3, 1) := by decide +kernel
theorem dX12_comes_39 : decode cX12_comes 39 = .ok (.iastore, 1) := by decide +kernel
theorem dX12_comes_40 : decode cX12_comes 40 = .ok (.aload_n 0, 1) := by decide +kernel
theorem dX12_comes_41 : decode cX12_comes 41 = .ok (.getfield 19, 3) := by decide +kernel
theorem dX12_comes_44 : decode cX12_comes 44 = .ok (.iload 7, 2) := by decide +kernel
theorem dX12_comes_46 : decode cX12_comes 46 = .ok (.iload 4, 2) := by decide +kernel
theorem dX12_comes_48 : decode cX12_comes 48 = .ok (.iastore, 1) := by decide +kernel
theorem dX12_comes_49 : decode cX12_comes 49 = .ok (.aload_n 0, 1) := by decide +kernel
theorem dX12_comes_50 : decode cX12_comes 50 = .ok (.getfield 22, 3) := by decide +kernel
theorem dX12_comes_53 : decode cX12_comes 53 = .ok (.iload 7, 2) := by decide +kernel
theorem dX12_comes_55 : decode cX12_comes 55 = .ok (.aload_n 0, 1) := by decide +kernel
theorem dX12_comes_56 : decode cX12_comes 56 = .ok (.getfield 97, 3) := by decide +kernel
theorem dX12_comes_59 : decode cX12_comes 59 = .ok (.iastore, 1) := by decide +kernel
theorem dX12_comes_60 : decode cX12_comes 60 = .ok (.aload_n 0, 1) := by decide +kernel
theorem dX12_comes_61 : decode cX12_comes 61 = .ok (.getfield 25, 3) := by decide +kernel
theorem dX12_comes_64 : decode cX12_comes 64 = .ok (.iload 7, 2) := by decide +kernel
theorem dX12_comes_66 : decode cX12_comes 66 = .ok (.iload 6, 2) := by decide +kernel
theorem dX12_comes_68 : decode cX12_comes 68 = .ok (.iastore, 1) := by decide +kernel
theorem dX12_comes_69 : decode cX12_comes 69 = .ok (.aload_n 0, 1) := by decide +kernel
theorem dX12_comes_70 : decode cX12_comes 70 = .ok (.getfield 28, 3) := by decide +kernel
theorem dX12_comes_73 : decode cX12_comes 73 = .ok (.iload 7, 2) := by decide +kernel
theorem dX12_comes_75 : decode cX12_comes 75 = .ok (.iload 5, 2) := by decide +kernel
theorem dX12_comes_77 : decode cX12_comes 77 = .ok (.iastore, 1) := by decide +kernel
theorem dX12_comes_78 : decode cX12_comes 78 = .ok (.aload_n 0, 1) := by decide +kernel
theorem dX12_comes_79 : decode cX12_comes 79 = .ok (.getfield 31, 3) := by decide +kernel
theorem dX12_comes_82 : decode cX12_comes 82 = .ok (.iload 7, 2) := by decide +kernel
theorem dX12_comes_84 : decode cX12_comes 84 = .ok (.iconst (-1), 1) := by decide +kernel
theorem dX12_comes_85 : decode cX12_comes 85 = .ok (.iastore, 1) := by decide +kernel
theorem dX12_comes_86 : decode cX12_comes 86 = .ok (.iload 7, 2) := by decide +kernel
theorem dX12_comes_88 : decode cX12_comes 88 = .ok (.ireturn, 1) := by decide +kernel
theorem dX12_thing_0 : decode cX12_thing 0 = .ok (.iload_n 1, 1) := by decide +kernel
theorem dX12_thing_1 : decode cX12_thing 1 = .ok (.iconst 0, 1) := by decide +kernel
theorem dX12_thing_2 : decode cX12_thing 2 = .ok (.iconst 4, 1) := by decide +kernel
theorem dX12_thing_3 : decode cX12_thing 3 = .ok (.invokestatic 86, 3) := by decide +kernel
theorem dX12_thing_6 : decode cX12_thing 6 = .ok (.ifCond .eq 51, 3) := by decide +kernel
theorem dX12_thing_9 : decode cX12_thing 9 = .ok (.iload_n 2, 1) := by decide +kernel
theorem dX12_thing_10 : decode cX12_thing 10 = .ok (.iconst 0, 1) := by decide +kernel
theorem dX12_thing_11 : decode cX12_thing 11 = .ok (.bipush 9, 2) := by decide +kernel
theorem dX12_thing_13 : decode cX12_thing 13 = .ok (.invokestatic 86, 3) := by decide +kernel
theorem dX12_thing_16 : decode cX12_thing 16 = .ok (.ifCond .eq 41, 3) := by decide +kernel
theorem dX12_thing_19 : decode cX12_thing 19 = .ok (.iload_n 3, 1) := by decide +kernel
theorem dX12_thing_20 : decode cX12_thing 20 = .ok (.iconst 0, 1) := by decide +kernel
theorem dX12_thing_21 : decode cX12_thing 21 = .ok (.bipush 9, 2) := by decide +kernel
theorem dX12_thing_23 : decode cX12_thing 23 = .ok (.invokestatic 86, 3) := by decide +kernel
theorem dX12_thing_26 : decode cX12_thing 26 = .ok (.ifCond .eq 31, 3) := by decide +kernel
theorem dX12_thing_29 : decode cX12_thing 29 = .ok (.iload 4, 2) := by decide +kernel
theorem dX12_thing_31 : decode cX12_thing 31 = .ok (.iconst 1, 1) := by decide +kernel
theorem dX12_thing_32 : decode cX12_thing 32 = .ok (.bipush 15, 2) := by decide +kernel
theorem dX12_thing_34 : decode cX12_thing 34 = .ok (.invokestatic 86, 3) := by decide +kernel
theorem dX12_thing_37 : decode cX12_thing 37 = .ok (.ifCond .eq 20, 3) := by decide +kernel
theorem dX12_thing_40 : decode cX12_thing 40 = .ok (.iload 5, 2) := by decide +kernel
theorem dX12_thing_42 : decode cX12_thing 42 = .ok (.invokestatic 100, 3) := by decide +kernel
theorem dX12_thing_45 : decode cX12_thing 45 = .ok (.ifCond .eq 12, 3) := by decide +kernel
theorem dX12_thing_48 : decode cX12_thing 48 = .ok (.aload_n 0, 1) := by decide +kernel
theorem dX12_thing_49 : decode cX12_thing 49 = .ok (.getfield 90, 3) := by decide +kernel
theorem dX12_thing_52 : decode cX12_thing 52 = .ok (.bipush 20, 2) := by decide +kernel
theorem dX12_thing_54 : decode cX12_thing 54 = .ok (.if_icmp .ne 5, 3) := by decide +kernel
theorem dX12_thing_57 : decode cX12_thing 57 = .ok (.iconst (-1), 1) := by decide +kernel
theorem dX12_thing_58 : decode cX12_thing 58 = .ok (.ireturn, 1) := by decide +kernel
theorem dX12_thing_59 : decode cX12_thing 59 = .ok (.aload_n 0, 1) := by decide +kernel
theorem dX12_thing_60 : decode cX12_thing 60 = .ok (.iload_n 1, 1) := by decide +kernel
theorem dX12_thing_61 : decode cX12_thing 61 = .ok (.iload_n 2, 1) := by decide +kernel
theorem dX12_thing_62 : decode cX12_thing 62 = .ok (.iload_n 3, 1) := by decide +kernel
theorem dX12_thing_63 : decode cX12_thing 63 = .ok (.iload 4, 2) := by decide +kernel
theorem dX12_thing_65 : decode cX12_thing 65 = .ok (.iload 5, 2) := by decide +kernel
theorem dX12_thing_67 : decode cX12_thing 67 = .ok (.iconst (-1), 1) := by decide +kernel
theorem dX12_thing_68 : decode cX12_thing 68 = .ok (.invokevirtual 103, 3) := by decide +kernel
theorem dX12_thing_71 : decode cX12_thing 71 = .ok (.ireturn, 1) := by decide +kernel
theorem dX12_copy_0 : decode cX12_copy 0 = .ok (.aload_n 0, 1) := by decide +kernel
theorem dX12_copy_1 : decode cX12_copy 1 = .ok (.iload_n 1, 1) := by decide +kernel
theorem dX12_copy_2 : decode cX12_copy 2 = .ok (.invokevirtual 107, 3) := by decide +kernel
theorem dX12_copy_5 : decode cX12_copy 5 = .ok (.ifCond .eq 29, 3) := by decide +kernel
theorem dX12_copy_8 : decode cX12_copy 8 = .ok (.iload_n 2, 1) := by decide +kernel
theorem dX12_copy_9 : decode cX12_copy 9 = .ok (.iconst 0, 1) := by decide +kernel
theorem dX12_copy_10 : decode cX12_copy 10 = .ok (.bipush 9, 2) := by decide +kernel
theorem dX12_copy_12 : decode cX12_copy 12 = .ok (.invokestatic 86, 3) := by decide +kernel
theorem dX12_copy_15 : decode cX12_copy 15 = .ok (.ifCond .eq 19, 3) := by decide +kernel
theorem dX12_copy_18 : decode cX12_copy 18 = .ok (.iload_n 3, 1) := by decide +kernel
theorem dX12_copy_19 : decode cX12_copy 19 = .ok (.invokestatic 100, 3) := by decide +kernel
theorem dX12_copy_22 : decode cX12_copy 22 = .ok (.ifCond .eq 12, 3) := by decide +kernel
theorem dX12_copy_25 : decode cX12_copy 25 = .ok (.aload_n 0, 1) := by decide +kernel
theorem dX12_copy_26 : decode cX12_copy 26 = .ok (.getfield 90, 3) := by decide +kernel
theorem dX12_copy_29 : decode cX12_copy 29 = .ok (.bipush 20, 2) := by decide +kernel
theorem dX12_copy_31 : decode cX12_copy 31 = .ok (.if_icmp .ne 5, 3) := by decide +kernel
theorem dX12_copy_34 : decode cX12_copy 34 = .ok (.iconst (-1), 1) := by decide +kernel
theorem dX12_copy_35 : decode cX12_copy 35 = .ok (.ireturn, 1) := by decide +kernel
theorem dX12_copy_36 : decode cX12_copy 36 = .ok (.aload_n 0, 1) := by decide +kernel
theorem dX12_copy_37 : decode cX12_copy 37 = .ok (.aload_n 0, 1) := by decide +kernel
theorem dX12_copy_38 : decode cX12_copy 38 = .ok (.getfield 7, 3) := by decide +kernel
theorem dX12_copy_41 : decode cX12_copy 41 = .ok (.iload_n 1, 1) := by decide +kernel
theorem dX12_copy_42 : decode cX12_copy 42 = .ok (.iaload, 1) := by decide +kernel
theorem dX12_copy_43 : decode cX12_copy 43 = .ok (.iload_n 2, 1) := by decide +kernel
theorem dX12_copy_44 : decode cX12_copy 44 = .ok (.aload_n 0, 1) := by decide +kernel
theorem dX12_copy_45 : decode cX12_copy 45 = .ok (.getfield 16, 3) := by decide +kernel
theorem dX12_copy_48 : decode cX12_copy 48 = .ok (.iload_n 1, 1) := by decide +kernel
theorem dX12_copy_49 : decode cX12_copy 49 = .ok (.iaload, 1) := by decide +kernel
theorem dX12_copy_50 : decode cX12_copy 50 = .ok (.aload_n 0, 1) := by decide +kernel
theorem dX12_copy_51 : decode cX12_copy 51 = .ok (.getfield 19, 3) := by decide +kernel
theorem dX12_copy_54 : decode cX12_copy 54 = .ok (.iload_n 1, 1) := by decide +kernel
theorem dX12_copy_55 : decode cX12_copy 55 = .ok (.iaload, 1) := by decide +kernel
theorem dX12_copy_56 : decode cX12_copy 56 = .ok (.iload_n 3, 1) := by decide +kernel
theorem dX12_copy_57 : decode cX12_copy 57 = .ok (.iload_n 1, 1) := by decide +kernel
theorem dX12_copy_58 : decode cX12_copy 58 = .ok (.invokevirtual 103, 3) := by decide +kernel
theorem dX12_copy_61 : decode cX12_copy 61 = .ok (.ireturn, 1) := by decide +kernel
theorem dX12_happens_0 : decode cX12_happens 0 = .ok (.aload_n 0, 1) := by decide +kernel
theorem dX12_happens_1 : decode cX12_happens 1 = .ok (.getfield 110, 3) := by decide +kernel
theorem dX12_happens_4 : decode cX12_happens 4 = .ok (.sipush 300, 3) := by decide +kernel
theorem dX12_happens_7 : decode cX12_happens 7 = .ok (.if_icmp .ne 5, 3) := by decide +kernel
theorem dX12_happens_10 : decode cX12_happens 10 = .ok (.iconst 0, 1) := by decide +kernel
theorem dX12_happens_11 : decode cX12_happens 11 = .ok (.ireturn, 1) := by decide +kernel
theorem dX12_happens_12 : decode cX12_happens 12 = .ok (.aload_n 0, 1) := by decide +kernel
theorem dX12_happens_13 : decode cX12_happens 13 = .ok (.getfield 34, 3) := by decide +kernel
theorem dX12_happens_16 : decode cX12_happens 16 = .ok (.aload_n 0, 1) := by decide +kernel
theorem dX12_happens_17 : decode cX12_happens 17 = .ok (.getfield 110, 3) := by decide +kernel
theorem dX12_happens_20 : decode cX12_happens 20 = .ok (.iload_n 1, 1) := by decide +kernel
theorem dX12_happens_21 : decode cX12_happens 21 = .ok (.iastore, 1) := by decide +kernel
theorem dX12_happens_22 : decode cX12_happens 22 = .ok (.aload_n 0, 1) := by decide +kernel
theorem dX12_happens_23 : decode cX12_happens 23 = .ok (.getfield 37, 3) := by decide +kernel
theorem dX12_happens_26 : decode cX12_happens 26 = .ok (.aload_n 0, 1) := by decide +kernel
theorem dX12_happens_27 : decode cX12_happens 27 = .ok (.getfield 110, 3) := by decide +kernel
theorem dX12_happens_30 : decode cX12_happens 30 = .ok (.iload_n 2, 1) := by decide +kernel
theorem dX12_happens_31 : decode cX12_happens 31 = .ok (.iastore, 1) := by decide +kernel
theorem dX12_happens_32 : decode cX12_happens 32 = .ok (.aload_n 0, 1) := by decide +kernel
theorem dX12_happens_33 : decode cX12_happens 33 = .ok (.getfield 40, 3) := by decide +kernel
theorem dX12_happens_36 : decode cX12_happens 36 = .ok (.aload_n 0, 1) := by decide +kernel
theorem dX12_happens_37 : decode cX12_happens 37 = .ok (.getfield 110, 3) := by decide +kernel
theorem dX12_happens_40 : decode cX12_happens 40 = .ok (.iload_n 3, 1) := by decide +kernel
theorem dX12_happens_41 : decode cX12_happens 41 = .ok (.iastore, 1) := by decide +kernel
theorem dX12_happens_42 : decode cX12_happens 42 = .ok (.aload_n 0, 1) := by decide +kernel
theorem dX12_happens_43 : decode cX12_happens 43 = .ok (.getfield 43, 3) := by decide +kernel
theorem dX12_happens_46 : decode cX12_happens 46 = .ok (.aload_n 0, 1) := by decide +kernel
theorem dX12_happens_47 : decode cX12_happens 47 = .ok (.getfield 110, 3) := by decide +kernel
theorem dX12_happens_50 : decode cX12_happens 50 = .ok (.aload_n 0, 1) := by decide +kernel
theorem dX12_happens_51 : decode cX12_happens 51 = .ok (.getfield 97, 3) := by decide +kernel
theorem dX12_happens_54 : decode cX12_happens 54 = .ok (.iastore, 1) := by decide +kernel
theorem dX12_happens_55 : decode cX12_happens 55 = .ok (.aload_n 0, 1) := by decide +kernel
theorem dX12_happens_56 : decode cX12_happens 56 = .ok (.dup, 1) := by decide +kernel
theorem dX12_happens_57 : decode cX12_happens 57 = .ok (.getfield 110, 3) := by decide +kernel
theorem dX12_happens_60 : decode cX12_happens 60 = .ok (.iconst 1, 1) := by decide +kernel
theorem dX12_happens_61 : decode cX12_happens 61 = .ok (.iadd, 1) := by decide +kernel
theorem dX12_happens_62 : decode cX12_happens 62 = .ok (.putfield 110, 3) := by decide +kernel
theorem dX12_happens_65 : decode cX12_happens 65 = .ok (.iconst 1, 1) := by decide +kernel
theorem dX12_happens_66 : decode cX12_happens 66 = .ok (.ireturn, 1) := by decide +kernel
theorem dX12_ownerOn_0 : decode cX12_ownerOn 0 = .ok (.aload_n 0, 1) := by decide +kernel
theorem dX12_ownerOn_1 : decode cX12_ownerOn 1 = .ok (.getfield 28, 3) := by decide +kernel
theorem dX12_ownerOn_4 : decode cX12_ownerOn 4 = .ok (.iload_n 1, 1) := by decide +kernel
theorem dX12_ownerOn_5 : decode cX12_ownerOn 5 = .ok (.iaload, 1) := by decide +kernel
theorem dX12_ownerOn_6 : decode cX12_ownerOn 6 = .ok (.istore_n 3, 1) := by decide +kernel
theorem dX12_ownerOn_7 : decode cX12_ownerOn 7 = .ok (.iconst 0, 1) := by decide +kernel
theorem dX12_ownerOn_8 : decode cX12_ownerOn 8 = .ok (.istore 4, 2) := by decide +kernel
theorem dX12_ownerOn_10 : decode cX12_ownerOn 10 = .ok (.iload 4, 2) := by decide +kernel
theorem dX12_ownerOn_12 : decode cX12_ownerOn 12 = .ok (.aload_n 0, 1) := by decide +kernel
theorem dX12_ownerOn_13 : decode cX12_ownerOn 13 = .ok (.getfield 110, 3) := by decide +kernel
theorem dX12_ownerOn_16 : decode cX12_ownerOn 16 = .ok (.if_icmp .ge 49, 3) := by decide +kernel
theorem dX12_ownerOn_19 : decode cX12_ownerOn 19 = .ok (.aload_n 0, 1) := by decide +kernel
theorem dX12_ownerOn_20 : decode cX12_ownerOn 20 = .ok (.getfield 34, 3) := by decide +kernel
theorem dX12_ownerOn_23 : decode cX12_ownerOn 23 = .ok (.iload 4, 2) := by decide +kernel
theorem dX12_ownerOn_25 : decode cX12_ownerOn 25 = .ok (.iaload, 1) := by decide +kernel
theorem dX12_ownerOn_26 : decode cX12_ownerOn 26 = .ok (.iload_n 1, 1) := by decide +kernel
theorem dX12_ownerOn_27 : decode cX12_ownerOn 27 = .ok (.if_icmp .ne 32, 3) := by decide +kernel
theorem dX12_ownerOn_30 : decode cX12_ownerOn 30 = .ok (.aload_n 0, 1) := by decide +kernel
theorem dX12_ownerOn_31 : decode cX12_ownerOn 31 = .ok (.getfield 37, 3) := by decide +kernel
theorem dX12_ownerOn_34 : decode cX12_ownerOn 34 = .ok (.iload 4, 2) := by decide +kernel
theorem dX12_ownerOn_36 : decode cX12_ownerOn 36 = .ok (.iaload, 1) := by decide +kernel
theorem dX12_ownerOn_37 : decode cX12_ownerOn 37 = .ok (.ifCond .ne 22, 3) := by decide +kernel
theorem dX12_ownerOn_40 : decode cX12_ownerOn 40 = .ok (.aload_n 0, 1) := by decide +kernel
theorem dX12_ownerOn_41 : decode cX12_ownerOn 41 = .ok (.getfield 43, 3) := by decide +kernel
theorem dX12_ownerOn_44 : decode cX12_ownerOn 44 = .ok (.iload 4, 2) := by decide +kernel
theorem dX12_ownerOn_46 : decode cX12_ownerOn 46 = .ok (.iaload, 1) := by decide +kernel
theorem dX12_ownerOn_47 : decode cX12_ownerOn 47 = .ok (.iload_n 2, 1) := by decide +kernel
theorem dX12_ownerOn_48 : decode cX12_ownerOn 48 = .ok (.if_icmp .gt 11, 3) := by decide +kernel
theorem dX12_ownerOn_51 : decode cX12_ownerOn 51 = .ok (.aload_n 0, 1) := by decide +kernel
theorem dX12_ownerOn_52 : decode cX12_ownerOn 52 = .ok (.getfield 40, 3) := by decide +kernel
theorem dX12_ownerOn_55 : decode cX12_ownerOn 55 = .ok (.iload 4, 2) := by decide +kernel
theorem dX12_ownerOn_57 : decode cX12_ownerOn 57 = .ok (.iaload, 1) := by decide +kernel
theorem dX12_ownerOn_58 : decode cX12_ownerOn 58 = .ok (.istore_n 3, 1) := by decide +kernel
theorem dX12_ownerOn_59 : decode cX12_ownerOn 59 = .ok (.iinc 4 1, 3) := by decide +kernel
theorem dX12_ownerOn_62 : decode cX12_ownerOn 62 = .ok (.goto (-52), 3) := by decide +kernel
theorem dX12_ownerOn_65 : decode cX12_ownerOn 65 = .ok (.iload_n 3, 1) := by decide +kernel
theorem dX12_ownerOn_66 : decode cX12_ownerOn 66 = .ok (.ireturn, 1) := by decide +kernel
theorem dX12_lentOn_0 : decode cX12_lentOn 0 = .ok (.iconst (-1), 1) := by decide +kernel
theorem dX12_lentOn_1 : decode cX12_lentOn 1 = .ok (.istore_n 3, 1) := by decide +kernel
theorem dX12_lentOn_2 : decode cX12_lentOn 2 = .ok (.iconst 0, 1) := by decide +kernel
theorem dX12_lentOn_3 : decode cX12_lentOn 3 = .ok (.istore 4, 2) := by decide +kernel
theorem dX12_lentOn_5 : decode cX12_lentOn 5 = .ok (.iload 4, 2) := by decide +kernel
theorem dX12_lentOn_7 : decode cX12_lentOn 7 = .ok (.aload_n 0, 1) := by decide +kernel
theorem dX12_lentOn_8 : decode cX12_lentOn 8 = .ok (.getfield 110, 3) := by decide +kernel
theorem dX12_lentOn_11 : decode cX12_lentOn 11 = .ok (.if_icmp .ge 69, 3) := by decide +kernel
theorem dX12_lentOn_14 : decode cX12_lentOn 14 = .ok (.aload_n 0, 1) := by decide +kernel
theorem dX12_lentOn_15 : decode cX12_lentOn 15 = .ok (.getfield 34, 3) := by decide +kernel
theorem dX12_lentOn_18 : decode cX12_lentOn 18 = .ok (.iload 4, 2) := by decide +kernel
theorem dX12_lentOn_20 : decode cX12_lentOn 20 = .ok (.iaload, 1) := by decide +kernel
theorem dX12_lentOn_21 : decode cX12_lentOn 21 = .ok (.iload_n 1, 1) := by decide +kernel
theorem dX12_lentOn_22 : decode cX12_lentOn 22 = .ok (.if_icmp .ne 52, 3) := by decide +kernel
theorem dX12_lentOn_25 : decode cX12_lentOn 25 = .ok (.aload_n 0, 1) := by decide +kernel
theorem dX12_lentOn_26 : decode cX12_lentOn 26 = .ok (.getfield 37, 3) := by decide +kernel
theorem dX12_lentOn_29 : decode cX12_lentOn 29 = .ok (.iload 4, 2) := by decide +kernel
theorem dX12_lentOn_31 : decode cX12_lentOn 31 = .ok (.iaload, 1) := by decide +kernel
theorem dX12_lentOn_32 : decode cX12_lentOn 32 = .ok (.iconst 1, 1) := by decide +kernel
theorem dX12_lentOn_33 : decode cX12_lentOn 33 = .ok (.iconst 2, 1) := by decide +kernel
theorem dX12_lentOn_34 : decode cX12_lentOn 34 = .ok (.invokestatic 86, 3) := by decide +kernel
theorem dX12_lentOn_37 : decode cX12_lentOn 37 = .ok (.ifCond .eq 37, 3) := by decide +kernel
theorem dX12_lentOn_40 : decode cX12_lentOn 40 = .ok (.aload_n 0, 1) := by decide +kernel
theorem dX12_lentOn_41 : decode cX12_lentOn 41 = .ok (.getfield 43, 3) := by decide +kernel
theorem dX12_lentOn_44 : decode cX12_lentOn 44 = .ok (.iload 4, 2) := by decide +kernel
theorem dX12_lentOn_46 : decode cX12_lentOn 46 = .ok (.iaload, 1) := by decide +kernel
theorem dX12_lentOn_47 : decode cX12_lentOn 47 = .ok (.iload_n 2, 1) := by decide +kernel
theorem dX12_lentOn_48 : decode cX12_lentOn 48 = .ok (.if_icmp .gt 26, 3) := by decide +kernel
theorem dX12_lentOn_51 : decode cX12_lentOn 51 = .ok (.aload_n 0, 1) := by decide +kernel
theorem dX12_lentOn_52 : decode cX12_lentOn 52 = .ok (.getfield 37, 3) := by decide +kernel
theorem dX12_lentOn_55 : decode cX12_lentOn 55 = .ok (.iload 4, 2) := by decide +kernel
theorem dX12_lentOn_57 : decode cX12_lentOn 57 = .ok (.iaload, 1) := by decide +kernel
theorem dX12_lentOn_58 : decode cX12_lentOn 58 = .ok (.iconst 1, 1) := by decide +kernel
theorem dX12_lentOn_59 : decode cX12_lentOn 59 = .ok (.if_icmp .ne 13, 3) := by decide +kernel
theorem dX12_lentOn_62 : decode cX12_lentOn 62 = .ok (.aload_n 0, 1) := by decide +kernel
theorem dX12_lentOn_63 : decode cX12_lentOn 63 = .ok (.getfield 40, 3) := by decide +kernel
theorem dX12_lentOn_66 : decode cX12_lentOn 66 = .ok (.iload 4, 2) := by decide +kernel
theorem dX12_lentOn_68 : decode cX12_lentOn 68 = .ok (.iaload, 1) := by decide +kernel
theorem dX12_lentOn_69 : decode cX12_lentOn 69 = .ok (.goto 4, 3) := by decide +kernel
theorem dX12_lentOn_72 : decode cX12_lentOn 72 = .ok (.iconst (-1), 1) := by decide +kernel
theorem dX12_lentOn_73 : decode cX12_lentOn 73 = .ok (.istore_n 3, 1) := by decide +kernel
theorem dX12_lentOn_74 : decode cX12_lentOn 74 = .ok (.iinc 4 1, 3) := by decide +kernel
theorem dX12_lentOn_77 : decode cX12_lentOn 77 = .ok (.goto (-72), 3) := by decide +kernel
theorem dX12_lentOn_80 : decode cX12_lentOn 80 = .ok (.iload_n 3, 1) := by decide +kernel
theorem dX12_lentOn_81 : decode cX12_lentOn 81 = .ok (.ireturn, 1) := by decide +kernel
theorem dX12_keptOn_0 : decode cX12_keptOn 0 = .ok (.aload_n 0, 1) := by decide +kernel
theorem dX12_keptOn_1 : decode cX12_keptOn 1 = .ok (.iload_n 1, 1) := by decide +kernel
theorem dX12_keptOn_2 : decode cX12_keptOn 2 = .ok (.iload_n 2, 1) := by decide +kernel
theorem dX12_keptOn_3 : decode cX12_keptOn 3 = .ok (.invokevirtual 113, 3) := by decide +kernel
theorem dX12_keptOn_6 : decode cX12_keptOn 6 = .ok (.istore_n 3, 1) := by decide +kernel
theorem dX12_keptOn_7 : decode cX12_keptOn 7 = .ok (.iload_n 3, 1) := by decide +kernel
theorem dX12_keptOn_8 : decode cX12_keptOn 8 = .ok (.iconst (-1), 1) := by decide +kernel
theorem dX12_keptOn_9 : decode cX12_keptOn 9 = .ok (.if_icmp .ne 12, 3) := by decide +kernel
theorem dX12_keptOn_12 : decode cX12_keptOn 12 = .ok (.aload_n 0, 1) := by decide +kernel
theorem dX12_keptOn_13 : decode cX12_keptOn 13 = .ok (.iload_n 1, 1) := by decide +kernel
theorem dX12_keptOn_14 : decode cX12_keptOn 14 = .ok (.iload_n 2, 1) := by decide +kernel
theorem dX12_keptOn_15 : decode cX12_keptOn 15 = .ok (.invokevirtual 117, 3) := by decide +kernel
theorem dX12_keptOn_18 : decode cX12_keptOn 18 = .ok (.goto 4, 3) := by decide +kernel
theorem dX12_keptOn_21 : decode cX12_keptOn 21 = .ok (.iload_n 3, 1) := by decide +kernel
theorem dX12_keptOn_22 : decode cX12_keptOn 22 = .ok (.ireturn, 1) := by decide +kernel
theorem dX12_pass_0 : decode cX12_pass 0 = .ok (.aload_n 0, 1) := by decide +kernel
theorem dX12_pass_1 : decode cX12_pass 1 = .ok (.iload_n 1, 1) := by decide +kernel
theorem dX12_pass_2 : decode cX12_pass 2 = .ok (.invokevirtual 107, 3) := by decide +kernel
theorem dX12_pass_5 : decode cX12_pass 5 = .ok (.ifCond .eq 50, 3) := by decide +kernel
theorem dX12_pass_8 : decode cX12_pass 8 = .ok (.iload_n 2, 1) := by decide +kernel
theorem dX12_pass_9 : decode cX12_pass 9 = .ok (.invokestatic 100, 3) := by decide +kernel
theorem dX12_pass_12 : decode cX12_pass 12 = .ok (.ifCond .eq 43, 3) := by decide +kernel
theorem dX12_pass_15 : decode cX12_pass 15 = .ok (.aload_n 0, 1) := by decide +kernel
theorem dX12_pass_16 : decode cX12_pass 16 = .ok (.iload_n 1, 1) := by decide +kernel
theorem dX12_pass_17 : decode cX12_pass 17 = .ok (.aload_n 0, 1) := by decide +kernel
theorem dX12_pass_18 : decode cX12_pass 18 = .ok (.getfield 97, 3) := by decide +kernel
theorem dX12_pass_21 : decode cX12_pass 21 = .ok (.invokevirtual 113, 3) := by decide +kernel
theorem dX12_pass_24 : decode cX12_pass 24 = .ok (.iconst (-1), 1) := by decide +kernel
theorem dX12_pass_25 : decode cX12_pass 25 = .ok (.if_icmp .ne 30, 3) := by decide +kernel
theorem dX12_pass_28 : decode cX12_pass 28 = .ok (.aload_n 0, 1) := by decide +kernel
theorem dX12_pass_29 : decode cX12_pass 29 = .ok (.iload_n 1, 1) := by decide +kernel
theorem dX12_pass_30 : decode cX12_pass 30 = .ok (.aload_n 0, 1) := by decide +kernel
theorem dX12_pass_31 : decode cX12_pass 31 = .ok (.getfield 97, 3) := by decide +kernel
theorem dX12_pass_34 : decode cX12_pass 34 = .ok (.invokevirtual 117, 3) := by decide +kernel
theorem dX12_pass_37 : decode cX12_pass 37 = .ok (.iload_n 2, 1) := by decide +kernel
theorem dX12_pass_38 : decode cX12_pass 38 = .ok (.if_icmp .eq 17, 3) := by decide +kernel
theorem dX12_pass_41 : decode cX12_pass 41 = .ok (.aload_n 0, 1) := by decide +kernel
theorem dX12_pass_42 : decode cX12_pass 42 = .ok (.iload_n 1, 1) := by decide +kernel
theorem dX12_pass_43 : decode cX12_pass 43 = .ok (.iconst 0, 1) := by decide +kernel
theorem dX12_pass_44 : decode cX12_pass 44 = .ok (.iload_n 2, 1) := by decide +kernel
theorem dX12_pass_45 : decode cX12_pass 45 = .ok (.invokevirtual 120, 3) := by decide +kernel
theorem dX12_pass_48 : decode cX12_pass 48 = .ok (.ifCond .eq 7, 3) := by decide +kernel
theorem dX12_pass_51 : decode cX12_pass 51 = .ok (.iconst 1, 1) := by decide +kernel
theorem dX12_pass_52 : decode cX12_pass 52 = .ok (.goto 4, 3) := by decide +kernel
theorem dX12_pass_55 : decode cX12_pass 55 = .ok (.iconst 0, 1) := by decide +kernel
theorem dX12_pass_56 : decode cX12_pass 56 = .ok (.ireturn, 1) := by decide +kernel
theorem dX12_lend_0 : decode cX12_lend 0 = .ok (.aload_n 0, 1) := by decide +kernel
theorem dX12_lend_1 : decode cX12_lend 1 = .ok (.iload_n 1, 1) := by decide +kernel
theorem dX12_lend_2 : decode cX12_lend 2 = .ok (.invokevirtual 107, 3) := by decide +kernel
theorem dX12_lend_5 : decode cX12_lend 5 = .ok (.ifCond .eq 50, 3) := by decide +kernel
theorem dX12_lend_8 : decode cX12_lend 8 = .ok (.iload_n 2, 1) := by decide +kernel
theorem dX12_lend_9 : decode cX12_lend 9 = .ok (.invokestatic 100, 3) := by decide +kernel
theorem dX12_lend_12 : decode cX12_lend 12 = .ok (.ifCond .eq 43, 3) := by decide +kernel
theorem dX12_lend_15 : decode cX12_lend 15 = .ok (.aload_n 0, 1) := by decide +kernel
theorem dX12_lend_16 : decode cX12_lend 16 = .ok (.iload_n 1, 1) := by decide +kernel
theorem dX12_lend_17 : decode cX12_lend 17 = .ok (.aload_n 0, 1) := by decide +kernel
theorem dX12_lend_18 : decode cX12_lend 18 = .ok (.getfield 97, 3) := by decide +kernel
theorem dX12_lend_21 : decode cX12_lend 21 = .ok (.invokevirtual 113, 3) := by decide +kernel
theorem dX12_lend_24 : decode cX12_lend 24 = .ok (.iconst (-1), 1) := by decide +kernel
theorem dX12_lend_25 : decode cX12_lend 25 = .ok (.if_icmp .ne 30, 3) := by decide +kernel
theorem dX12_lend_28 : decode cX12_lend 28 = .ok (.aload_n 0, 1) := by decide +kernel
theorem dX12_lend_29 : decode cX12_lend 29 = .ok (.iload_n 1, 1) := by decide +kernel
theorem dX12_lend_30 : decode cX12_lend 30 = .ok (.aload_n 0, 1) := by decide +kernel
theorem dX12_lend_31 : decode cX12_lend 31 = .ok (.getfield 97, 3) := by decide +kernel
theorem dX12_lend_34 : decode cX12_lend 34 = .ok (.invokevirtual 117, 3) := by decide +kernel
theorem dX12_lend_37 : decode cX12_lend 37 = .ok (.iload_n 2, 1) := by decide +kernel
theorem dX12_lend_38 : decode cX12_lend 38 = .ok (.if_icmp .eq 17, 3) := by decide +kernel
theorem dX12_lend_41 : decode cX12_lend 41 = .ok (.aload_n 0, 1) := by decide +kernel
theorem dX12_lend_42 : decode cX12_lend 42 = .ok (.iload_n 1, 1) := by decide +kernel
theorem dX12_lend_43 : decode cX12_lend 43 = .ok (.iconst 1, 1) := by decide +kernel
theorem dX12_lend_44 : decode cX12_lend 44 = .ok (.iload_n 2, 1) := by decide +kernel
theorem dX12_lend_45 : decode cX12_lend 45 = .ok (.invokevirtual 120, 3) := by decide +kernel
theorem dX12_lend_48 : decode cX12_lend 48 = .ok (.ifCond .eq 7, 3) := by decide +kernel
theorem dX12_lend_51 : decode cX12_lend 51 = .ok (.iconst 1, 1) := by decide +kernel
theorem dX12_lend_52 : decode cX12_lend 52 = .ok (.goto 4, 3) := by decide +kernel
theorem dX12_lend_55 : decode cX12_lend 55 = .ok (.iconst 0, 1) := by decide +kernel
theorem dX12_lend_56 : decode cX12_lend 56 = .ok (.ireturn, 1) := by decide +kernel
theorem dX12_back_0 : decode cX12_back 0 = .ok (.aload_n 0, 1) := by decide +kernel
theorem dX12_back_1 : decode cX12_back 1 = .ok (.iload_n 1, 1) := by decide +kernel
theorem dX12_back_2 : decode cX12_back 2 = .ok (.invokevirtual 107, 3) := by decide +kernel
theorem dX12_back_5 : decode cX12_back 5 = .ok (.ifCond .eq 30, 3) := by decide +kernel
theorem dX12_back_8 : decode cX12_back 8 = .ok (.aload_n 0, 1) := by decide +kernel
theorem dX12_back_9 : decode cX12_back 9 = .ok (.iload_n 1, 1) := by decide +kernel
theorem dX12_back_10 : decode cX12_back 10 = .ok (.aload_n 0, 1) := by decide +kernel
theorem dX12_back_11 : decode cX12_back 11 = .ok (.getfield 97, 3) := by decide +kernel
theorem dX12_back_14 : decode cX12_back 14 = .ok (.invokevirtual 113, 3) := by decide +kernel
theorem dX12_back_17 : decode cX12_back 17 = .ok (.iconst (-1), 1) := by decide +kernel
theorem dX12_back_18 : decode cX12_back 18 = .ok (.if_icmp .eq 17, 3) := by decide +kernel
theorem dX12_back_21 : decode cX12_back 21 = .ok (.aload_n 0, 1) := by decide +kernel
theorem dX12_back_22 : decode cX12_back 22 = .ok (.iload_n 1, 1) := by decide +kernel
theorem dX12_back_23 : decode cX12_back 23 = .ok (.iconst 2, 1) := by decide +kernel
theorem dX12_back_24 : decode cX12_back 24 = .ok (.iconst (-1), 1) := by decide +kernel
theorem dX12_back_25 : decode cX12_back 25 = .ok (.invokevirtual 120, 3) := by decide +kernel
theorem dX12_back_28 : decode cX12_back 28 = .ok (.ifCond .eq 7, 3) := by decide +kernel
theorem dX12_back_31 : decode cX12_back 31 = .ok (.iconst 1, 1) := by decide +kernel
theorem dX12_back_32 : decode cX12_back 32 = .ok (.goto 4, 3) := by decide +kernel
theorem dX12_back_35 : decode cX12_back 35 = .ok (.iconst 0, 1) := by decide +kernel
theorem dX12_back_36 : decode cX12_back 36 = .ok (.ireturn, 1) := by decide +kernel
theorem dX12_burn_0 : decode cX12_burn 0 = .ok (.aload_n 0, 1) := by decide +kernel
theorem dX12_burn_1 : decode cX12_burn 1 = .ok (.iload_n 1, 1) := by decide +kernel
theorem dX12_burn_2 : decode cX12_burn 2 = .ok (.invokevirtual 107, 3) := by decide +kernel
theorem dX12_burn_5 : decode cX12_burn 5 = .ok (.ifCond .eq 13, 3) := by decide +kernel
theorem dX12_burn_8 : decode cX12_burn 8 = .ok (.aload_n 0, 1) := by decide +kernel
theorem dX12_burn_9 : decode cX12_burn 9 = .ok (.iload_n 1, 1) := by decide +kernel
theorem dX12_burn_10 : decode cX12_burn 10 = .ok (.iconst 3, 1) := by decide +kernel
theorem dX12_burn_11 : decode cX12_burn 11 = .ok (.iconst (-1), 1) := by decide +kernel
theorem dX12_burn_12 : decode cX12_burn 12 = .ok (.invokevirtual 120, 3) := by decide +kernel
theorem dX12_burn_15 : decode cX12_burn 15 = .ok (.ifCond .ne 5, 3) := by decide +kernel
theorem dX12_burn_18 : decode cX12_burn 18 = .ok (.iconst 0, 1) := by decide +kernel
theorem dX12_burn_19 : decode cX12_burn 19 = .ok (.ireturn, 1) := by decide +kernel
theorem dX12_burn_20 : decode cX12_burn 20 = .ok (.aload_n 0, 1) := by decide +kernel
theorem dX12_burn_21 : decode cX12_burn 21 = .ok (.getfield 31, 3) := by decide +kernel
theorem dX12_burn_24 : decode cX12_burn 24 = .ok (.iload_n 1, 1) := by decide +kernel
theorem dX12_burn_25 : decode cX12_burn 25 = .ok (.aload_n 0, 1) := by decide +kernel
theorem dX12_burn_26 : decode cX12_burn 26 = .ok (.getfield 97, 3) := by decide +kernel
theorem dX12_burn_29 : decode cX12_burn 29 = .ok (.iastore, 1) := by decide +kernel
theorem dX12_burn_30 : decode cX12_burn 30 = .ok (.iconst 1, 1) := by decide +kernel
theorem dX12_burn_31 : decode cX12_burn 31 = .ok (.ireturn, 1) := by decide +kernel
theorem dX12_days_0 : decode cX12_days 0 = .ok (.iload_n 1, 1) := by decide +kernel
theorem dX12_days_1 : decode cX12_days 1 = .ok (.iconst 1, 1) := by decide +kernel
theorem dX12_days_2 : decode cX12_days 2 = .ok (.sipush 1000, 3) := by decide +kernel
theorem dX12_days_5 : decode cX12_days 5 = .ok (.invokestatic 86, 3) := by decide +kernel
theorem dX12_days_8 : decode cX12_days 8 = .ok (.ifCond .eq 15, 3) := by decide +kernel
theorem dX12_days_11 : decode cX12_days 11 = .ok (.aload_n 0, 1) := by decide +kernel
theorem dX12_days_12 : decode cX12_days 12 = .ok (.getfield 97, 3) := by decide +kernel
theorem dX12_days_15 : decode cX12_days 15 = .ok (.sipush 9999, 3) := by decide +kernel
theorem dX12_days_18 : decode cX12_days 18 = .ok (.iload_n 1, 1) := by decide +kernel
theorem dX12_days_19 : decode cX12_days 19 = .ok (.isub, 1) := by decide +kernel
theorem dX12_days_20 : decode cX12_days 20 = .ok (.if_icmp .le 5, 3) := by decide +kernel
theorem dX12_days_23 : decode cX12_days 23 = .ok (.iconst (-1), 1) := by decide +kernel
theorem dX12_days_24 : decode cX12_days 24 = .ok (.ireturn, 1) := by decide +kernel
theorem dX12_days_25 : decode cX12_days 25 = .ok (.aload_n 0, 1) := by decide +kernel
theorem dX12_days_26 : decode cX12_days 26 = .ok (.dup, 1) := by decide +kernel
theorem dX12_days_27 : decode cX12_days 27 = .ok (.getfield 97, 3) := by decide +kernel
theorem dX12_days_30 : decode cX12_days 30 = .ok (.iload_n 1, 1) := by decide +kernel
theorem dX12_days_31 : decode cX12_days 31 = .ok (.iadd, 1) := by decide +kernel
theorem dX12_days_32 : decode cX12_days 32 = .ok (.putfield 97, 3) := by decide +kernel
theorem dX12_days_35 : decode cX12_days 35 = .ok (.aload_n 0, 1) := by decide +kernel
theorem dX12_days_36 : decode cX12_days 36 = .ok (.getfield 97, 3) := by decide +kernel
theorem dX12_days_39 : decode cX12_days 39 = .ok (.ireturn, 1) := by decide +kernel
theorem dX12_rootOf_0 : decode cX12_rootOf 0 = .ok (.iload_n 1, 1) := by decide +kernel
theorem dX12_rootOf_1 : decode cX12_rootOf 1 = .ok (.istore_n 2, 1) := by decide +kernel
theorem dX12_rootOf_2 : decode cX12_rootOf 2 = .ok (.aload_n 0, 1) := by decide +kernel
theorem dX12_rootOf_3 : decode cX12_rootOf 3 = .ok (.getfield 25, 3) := by decide +kernel
theorem dX12_rootOf_6 : decode cX12_rootOf 6 = .ok (.iload_n 2, 1) := by decide +kernel
theorem dX12_rootOf_7 : decode cX12_rootOf 7 = .ok (.iaload, 1) := by decide +kernel
theorem dX12_rootOf_8 : decode cX12_rootOf 8 = .ok (.iconst (-1), 1) := by decide +kernel
theorem dX12_rootOf_9 : decode cX12_rootOf 9 = .ok (.if_icmp .eq 13, 3) := by decide +kernel
theorem dX12_rootOf_12 : decode cX12_rootOf 12 = .ok (.aload_n 0, 1) := by decide +kernel
theorem dX12_rootOf_13 : decode cX12_rootOf 13 = .ok (.getfield 25, 3) := by decide +kernel
theorem dX12_rootOf_16 : decode cX12_rootOf 16 = .ok (.iload_n 2, 1) := by decide +kernel
theorem dX12_rootOf_17 : decode cX12_rootOf 17 = .ok (.iaload, 1) := by decide +kernel
theorem dX12_rootOf_18 : decode cX12_rootOf 18 = .ok (.istore_n 2, 1) := by decide +kernel
theorem dX12_rootOf_19 : decode cX12_rootOf 19 = .ok (.goto (-17), 3) := by decide +kernel
theorem dX12_rootOf_22 : decode cX12_rootOf 22 = .ok (.iload_n 2, 1) := by decide +kernel
theorem dX12_rootOf_23 : decode cX12_rootOf 23 = .ok (.ireturn, 1) := by decide +kernel
theorem dX12_isDoubtful_0 : decode cX12_isDoubtful 0 = .ok (.aload_n 0, 1) := by decide +kernel
theorem dX12_isDoubtful_1 : decode cX12_isDoubtful 1 = .ok (.iload_n 1, 1) := by decide +kernel
theorem dX12_isDoubtful_2 : decode cX12_isDoubtful 2 = .ok (.invokevirtual 107, 3) := by decide +kernel
theorem dX12_isDoubtful_5 : decode cX12_isDoubtful 5 = .ok (.ifCond .ne 5, 3) := by decide +kernel
theorem dX12_isDoubtful_8 : decode cX12_isDoubtful 8 = .ok (.iconst 0, 1) := by decide +kernel
theorem dX12_isDoubtful_9 : decode cX12_isDoubtful 9 = .ok (.ireturn, 1) := by decide +kernel
theorem dX12_isDoubtful_10 : decode cX12_isDoubtful 10 = .ok (.aload_n 0, 1) := by decide +kernel
theorem dX12_isDoubtful_11 : decode cX12_isDoubtful 11 = .ok (.iload_n 1, 1) := by decide +kernel
theorem dX12_isDoubtful_12 : decode cX12_isDoubtful 12 = .ok (.invokevirtual 123, 3) := by decide +kernel
theorem dX12_isDoubtful_15 : decode cX12_isDoubtful 15 = .ok (.istore_n 2, 1) := by decide +kernel
theorem dX12_isDoubtful_16 : decode cX12_isDoubtful 16 = .ok (.iload_n 2, 1) := by decide +kernel
theorem dX12_isDoubtful_17 : decode cX12_isDoubtful 17 = .ok (.iload_n 1, 1) := by decide +kernel
theorem dX12_isDoubtful_18 : decode cX12_isDoubtful 18 = .ok (.if_icmp .eq 15, 3) := by decide +kernel
theorem dX12_isDoubtful_21 : decode cX12_isDoubtful 21 = .ok (.aload_n 0, 1) := by decide +kernel
theorem dX12_isDoubtful_22 : decode cX12_isDoubtful 22 = .ok (.getfield 31, 3) := by decide +kernel
theorem dX12_isDoubtful_25 : decode cX12_isDoubtful 25 = .ok (.iload_n 2, 1) := by decide +kernel
theorem dX12_isDoubtful_26 : decode cX12_isDoubtful 26 = .ok (.iaload, 1) := by decide +kernel
theorem dX12_isDoubtful_27 : decode cX12_isDoubtful 27 = .ok (.iconst (-1), 1) := by decide +kernel
theorem dX12_isDoubtful_28 : decode cX12_isDoubtful 28 = .ok (.if_icmp .eq 5, 3) := by decide +kernel
theorem dX12_isDoubtful_31 : decode cX12_isDoubtful 31 = .ok (.iconst 1, 1) := by decide +kernel
theorem dX12_isDoubtful_32 : decode cX12_isDoubtful 32 = .ok (.ireturn, 1) := by decide +kernel
theorem dX12_isDoubtful_33 : decode cX12_isDoubtful 33 = .ok (.iconst 0, 1) := by decide +kernel
theorem dX12_isDoubtful_34 : decode cX12_isDoubtful 34 = .ok (.istore_n 3, 1) := by decide +kernel
theorem dX12_isDoubtful_35 : decode cX12_isDoubtful 35 = .ok (.iconst 0, 1) := by decide +kernel
theorem dX12_isDoubtful_36 : decode cX12_isDoubtful 36 = .ok (.istore 4, 2) := by decide +kernel
theorem dX12_isDoubtful_38 : decode cX12_isDoubtful 38 = .ok (.iload 4, 2) := by decide +kernel
theorem dX12_isDoubtful_40 : decode cX12_isDoubtful 40 = .ok (.aload_n 0, 1) := by decide +kernel
theorem dX12_isDoubtful_41 : decode cX12_isDoubtful 41 = .ok (.getfield 90, 3) := by decide +kernel
theorem dX12_isDoubtful_44 : decode cX12_isDoubtful 44 = .ok (.if_icmp .ge 66, 3) := by decide +kernel
theorem dX12_isDoubtful_47 : decode cX12_isDoubtful 47 = .ok (.iload_n 3, 1) := by decide +kernel
theorem dX12_isDoubtful_48 : decode cX12_isDoubtful 48 = .ok (.ifCond .ne 50, 3) := by decide +kernel
theorem dX12_isDoubtful_51 : decode cX12_isDoubtful 51 = .ok (.iload 4, 2) := by decide +kernel
theorem dX12_isDoubtful_53 : decode cX12_isDoubtful 53 = .ok (.iload_n 1, 1) := by decide +kernel
theorem dX12_isDoubtful_54 : decode cX12_isDoubtful 54 = .ok (.if_icmp .eq 48, 3) := by decide +kernel
theorem dX12_isDoubtful_57 : decode cX12_isDoubtful 57 = .ok (.aload_n 0, 1) := by decide +kernel
theorem dX12_isDoubtful_58 : decode cX12_isDoubtful 58 = .ok (.iload 4, 2) := by decide +kernel
theorem dX12_isDoubtful_60 : decode cX12_isDoubtful 60 = .ok (.invokevirtual 107, 3) := by decide +kernel
theorem dX12_isDoubtful_63 : decode cX12_isDoubtful 63 = .ok (.ifCond .eq 39, 3) := by decide +kernel
theorem dX12_isDoubtful_66 : decode cX12_isDoubtful 66 = .ok (.aload_n 0, 1) := by decide +kernel
theorem dX12_isDoubtful_67 : decode cX12_isDoubtful 67 = .ok (.iload 4, 2) := by decide +kernel
theorem dX12_isDoubtful_69 : decode cX12_isDoubtful 69 = .ok (.invokevirtual 123, 3) := by decide +kernel
theorem dX12_isDoubtful_72 : decode cX12_isDoubtful 72 = .ok (.iload_n 2, 1) := by decide +kernel
theorem dX12_isDoubtful_73 : decode cX12_isDoubtful 73 = .ok (.if_icmp .ne 29, 3) := by decide +kernel
theorem dX12_isDoubtful_76 : decode cX12_isDoubtful 76 = .ok (.aload_n 0, 1) := by decide +kernel
theorem dX12_isDoubtful_77 : decode cX12_isDoubtful 77 = .ok (.iload 4, 2) := by decide +kernel
theorem dX12_isDoubtful_79 : decode cX12_isDoubtful 79 = .ok (.aload_n 0, 1) := by decide +kernel
theorem dX12_isDoubtful_80 : decode cX12_isDoubtful 80 = .ok (.getfield 97, 3) := by decide +kernel
theorem dX12_isDoubtful_83 : decode cX12_isDoubtful 83 = .ok (.invokevirtual 127, 3) := by decide +kernel
theorem dX12_isDoubtful_86 : decode cX12_isDoubtful 86 = .ok (.aload_n 0, 1) := by decide +kernel
theorem dX12_isDoubtful_87 : decode cX12_isDoubtful 87 = .ok (.iload_n 1, 1) := by decide +kernel
theorem dX12_isDoubtful_88 : decode cX12_isDoubtful 88 = .ok (.aload_n 0, 1) := by decide +kernel
theorem dX12_isDoubtful_89 : decode cX12_isDoubtful 89 = .ok (.getfield 97, 3) := by decide +kernel
theorem dX12_isDoubtful_92 : decode cX12_isDoubtful 92 = .ok (.invokevirtual 127, 3) := by decide +kernel
theorem dX12_isDoubtful_95 : decode cX12_isDoubtful 95 = .ok (.if_icmp .eq 7, 3) := by decide +kernel
theorem dX12_isDoubtful_98 : decode cX12_isDoubtful 98 = .ok (.iconst 1, 1) := by decide +kernel
theorem dX12_isDoubtful_99 : decode cX12_isDoubtful 99 = .ok (.goto 4, 3) := by decide +kernel
theorem dX12_isDoubtful_102 : decode cX12_isDoubtful 102 = .ok (.iconst 0, 1) := by decide +kernel
theorem dX12_isDoubtful_103 : decode cX12_isDoubtful 103 = .ok (.istore_n 3, 1) := by decide +kernel
theorem dX12_isDoubtful_104 : decode cX12_isDoubtful 104 = .ok (.iinc 4 1, 3) := by decide +kernel
theorem dX12_isDoubtful_107 : decode cX12_isDoubtful 107 = .ok (.goto (-69), 3) := by decide +kernel
theorem dX12_isDoubtful_110 : decode cX12_isDoubtful 110 = .ok (.iload_n 3, 1) := by decide +kernel
theorem dX12_isDoubtful_111 : decode cX12_isDoubtful 111 = .ok (.ireturn, 1) := by decide +kernel
theorem dX12_look_0 : decode cX12_look 0 = .ok (.iconst 0, 1) := by decide +kernel
theorem dX12_look_1 : decode cX12_look 1 = .ok (.istore_n 2, 1) := by decide +kernel
theorem dX12_look_2 : decode cX12_look 2 = .ok (.iload_n 1, 1) := by decide +kernel
theorem dX12_look_3 : decode cX12_look 3 = .ok (.tableswitch 87 0 4 #[33, 38, 43, 77, 82], 33) := by decide +kernel
theorem dX12_look_36 : decode cX12_look 36 = .ok (.aload_n 0, 1) := by decide +kernel
theorem dX12_look_37 : decode cX12_look 37 = .ok (.getfield 97, 3) := by decide +kernel
theorem dX12_look_40 : decode cX12_look 40 = .ok (.ireturn, 1) := by decide +kernel
theorem dX12_look_41 : decode cX12_look 41 = .ok (.aload_n 0, 1) := by decide +kernel
theorem dX12_look_42 : decode cX12_look 42 = .ok (.getfield 90, 3) := by decide +kernel
theorem dX12_look_45 : decode cX12_look 45 = .ok (.ireturn, 1) := by decide +kernel
theorem dX12_look_46 : decode cX12_look 46 = .ok (.iconst 0, 1) := by decide +kernel
theorem dX12_look_47 : decode cX12_look 47 = .ok (.istore_n 3, 1) := by decide +kernel
theorem dX12_look_48 : decode cX12_look 48 = .ok (.iload_n 3, 1) := by decide +kernel
theorem dX12_look_49 : decode cX12_look 49 = .ok (.aload_n 0, 1) := by decide +kernel
theorem dX12_look_50 : decode cX12_look 50 = .ok (.getfield 90, 3) := by decide +kernel
theorem dX12_look_53 : decode cX12_look 53 = .ok (.if_icmp .ge 25, 3) := by decide +kernel
theorem dX12_look_56 : decode cX12_look 56 = .ok (.iload_n 2, 1) := by decide +kernel
theorem dX12_look_57 : decode cX12_look 57 = .ok (.aload_n 0, 1) := by decide +kernel
theorem dX12_look_58 : decode cX12_look 58 = .ok (.iload_n 3, 1) := by decide +kernel
theorem dX12_look_59 : decode cX12_look 59 = .ok (.invokevirtual 107, 3) := by decide +kernel
theorem dX12_look_62 : decode cX12_look 62 = .ok (.ifCond .eq 7, 3) := by decide +kernel
theorem dX12_look_65 : decode cX12_look 65 = .ok (.iconst 1, 1) := by decide +kernel
theorem dX12_look_66 : decode cX12_look 66 = .ok (.goto 4, 3) := by decide +kernel
theorem dX12_look_69 : decode cX12_look 69 = .ok (.iconst 0, 1) := by decide +kernel
theorem dX12_look_70 : decode cX12_look 70 = .ok (.iadd, 1) := by decide +kernel
theorem dX12_look_71 : decode cX12_look 71 = .ok (.istore_n 2, 1) := by decide +kernel
theorem dX12_look_72 : decode cX12_look 72 = .ok (.iinc 3 1, 3) := by decide +kernel
theorem dX12_look_75 : decode cX12_look 75 = .ok (.goto (-27), 3) := by decide +kernel
theorem dX12_look_78 : decode cX12_look 78 = .ok (.iload_n 2, 1) := by decide +kernel
theorem dX12_look_79 : decode cX12_look 79 = .ok (.ireturn, 1) := by decide +kernel
theorem dX12_look_80 : decode cX12_look 80 = .ok (.aload_n 0, 1) := by decide +kernel
theorem dX12_look_81 : decode cX12_look 81 = .ok (.getfield 130, 3) := by decide +kernel
theorem dX12_look_84 : decode cX12_look 84 = .ok (.ireturn, 1) := by decide +kernel
theorem dX12_look_85 : decode cX12_look 85 = .ok (.aload_n 0, 1) := by decide +kernel
theorem dX12_look_86 : decode cX12_look 86 = .ok (.getfield 133, 3) := by decide +kernel
theorem dX12_look_89 : decode cX12_look 89 = .ok (.ireturn, 1) := by decide +kernel
theorem dX12_look_90 : decode cX12_look 90 = .ok (.iconst (-1), 1) := by decide +kernel
theorem dX12_look_91 : decode cX12_look 91 = .ok (.ireturn, 1) := by decide +kernel
theorem dX12_of_0 : decode cX12_of 0 = .ok (.aload_n 0, 1) := by decide +kernel
theorem dX12_of_1 : decode cX12_of 1 = .ok (.iload_n 1, 1) := by decide +kernel
theorem dX12_of_2 : decode cX12_of 2 = .ok (.invokevirtual 93, 3) := by decide +kernel
theorem dX12_of_5 : decode cX12_of 5 = .ok (.ifCond .ne 5, 3) := by decide +kernel
theorem dX12_of_8 : decode cX12_of 8 = .ok (.iconst (-1), 1) := by decide +kernel
theorem dX12_of_9 : decode cX12_of 9 = .ok (.ireturn, 1) := by decide +kernel
theorem dX12_of_10 : decode cX12_of 10 = .ok (.iload_n 2, 1) := by decide +kernel
theorem dX12_of_11 : decode cX12_of 11 = .ok (.tableswitch 125 0 8 #[49, 56, 63, 70, 77, 84, 91, 97, 111], 49) := by decide +kernel
theorem dX12_of_60 : decode cX12_of 60 = .ok (.aload_n 0, 1) := by decide +kernel
theorem dX12_of_61 : decode cX12_of 61 = .ok (.getfield 7, 3) := by decide +kernel
theorem dX12_of_64 : decode cX12_of 64 = .ok (.iload_n 1, 1) := by decide +kernel
theorem dX12_of_65 : decode cX12_of 65 = .ok (.iaload, 1) := by decide +kernel
theorem dX12_of_66 : decode cX12_of 66 = .ok (.ireturn, 1) := by decide +kernel
theorem dX12_of_67 : decode cX12_of 67 = .ok (.aload_n 0, 1) := by decide +kernel
theorem dX12_of_68 : decode cX12_of 68 = .ok (.getfield 13, 3) := by decide +kernel
theorem dX12_of_71 : decode cX12_of 71 = .ok (.iload_n 1, 1) := by decide +kernel
theorem dX12_of_72 : decode cX12_of 72 = .ok (.iaload, 1) := by decide +kernel
theorem dX12_of_73 : decode cX12_of 73 = .ok (.ireturn, 1) := by decide +kernel
theorem dX12_of_74 : decode cX12_of 74 = .ok (.aload_n 0, 1) := by decide +kernel
theorem dX12_of_75 : decode cX12_of 75 = .ok (.getfield 16, 3) := by decide +kernel
theorem dX12_of_78 : decode cX12_of 78 = .ok (.iload_n 1, 1) := by decide +kernel
theorem dX12_of_79 : decode cX12_of 79 = .ok (.iaload, 1) := by decide +kernel
theorem dX12_of_80 : decode cX12_of 80 = .ok (.ireturn, 1) := by decide +kernel
theorem dX12_of_81 : decode cX12_of 81 = .ok (.aload_n 0, 1) := by decide +kernel
theorem dX12_of_82 : decode cX12_of 82 = .ok (.getfield 19, 3) := by decide +kernel
theorem dX12_of_85 : decode cX12_of 85 = .ok (.iload_n 1, 1) := by decide +kernel
theorem dX12_of_86 : decode cX12_of 86 = .ok (.iaload, 1) := by decide +kernel
theorem dX12_of_87 : decode cX12_of 87 = .ok (.ireturn, 1) := by decide +kernel
theorem dX12_of_88 : decode cX12_of 88 = .ok (.aload_n 0, 1) := by decide +kernel
theorem dX12_of_89 : decode cX12_of 89 = .ok (.getfield 22, 3) := by decide +kernel
theorem dX12_of_92 : decode cX12_of 92 = .ok (.iload_n 1, 1) := by decide +kernel
theorem dX12_of_93 : decode cX12_of 93 = .ok (.iaload, 1) := by decide +kernel
theorem dX12_of_94 : decode cX12_of 94 = .ok (.ireturn, 1) := by decide +kernel
theorem dX12_of_95 : decode cX12_of 95 = .ok (.aload_n 0, 1) := by decide +kernel
theorem dX12_of_96 : decode cX12_of 96 = .ok (.getfield 25, 3) := by decide +kernel
theorem dX12_of_99 : decode cX12_of 99 = .ok (.iload_n 1, 1) := by decide +kernel
theorem dX12_of_100 : decode cX12_of 100 = .ok (.iaload, 1) := by decide +kernel
theorem dX12_of_101 : decode cX12_of 101 = .ok (.ireturn, 1) := by decide +kernel
theorem dX12_of_102 : decode cX12_of 102 = .ok (.aload_n 0, 1) := by decide +kernel
theorem dX12_of_103 : decode cX12_of 103 = .ok (.iload_n 1, 1) := by decide +kernel
theorem dX12_of_104 : decode cX12_of 104 = .ok (.invokevirtual 123, 3) := by decide +kernel
theorem dX12_of_107 : decode cX12_of 107 = .ok (.ireturn, 1) := by decide +kernel
theorem dX12_of_108 : decode cX12_of 108 = .ok (.aload_n 0, 1) := by decide +kernel
theorem dX12_of_109 : decode cX12_of 109 = .ok (.iload_n 1, 1) := by decide +kernel
theorem dX12_of_110 : decode cX12_of 110 = .ok (.invokevirtual 107, 3) := by decide +kernel
theorem dX12_of_113 : decode cX12_of 113 = .ok (.ifCond .eq 7, 3) := by decide +kernel
theorem dX12_of_116 : decode cX12_of 116 = .ok (.iconst 1, 1) := by decide +kernel
theorem dX12_of_117 : decode cX12_of 117 = .ok (.goto 4, 3) := by decide +kernel
theorem dX12_of_120 : decode cX12_of 120 = .ok (.iconst 0, 1) := by decide +kernel
theorem dX12_of_121 : decode cX12_of 121 = .ok (.ireturn, 1) := by decide +kernel
theorem dX12_of_122 : decode cX12_of 122 = .ok (.aload_n 0, 1) := by decide +kernel
theorem dX12_of_123 : decode cX12_of 123 = .ok (.iload_n 1, 1) := by decide +kernel
theorem dX12_of_124 : decode cX12_of 124 = .ok (.invokevirtual 136, 3) := by decide +kernel
theorem dX12_of_127 : decode cX12_of 127 = .ok (.ifCond .eq 7, 3) := by decide +kernel
theorem dX12_of_130 : decode cX12_of 130 = .ok (.iconst 1, 1) := by decide +kernel
theorem dX12_of_131 : decode cX12_of 131 = .ok (.goto 4, 3) := by decide +kernel
theorem dX12_of_134 : decode cX12_of 134 = .ok (.iconst 0, 1) := by decide +kernel
theorem dX12_of_135 : decode cX12_of 135 = .ok (.ireturn, 1) := by decide +kernel
theorem dX12_of_136 : decode cX12_of 136 = .ok (.iconst (-1), 1) := by decide +kernel
theorem dX12_of_137 : decode cX12_of 137 = .ok (.ireturn, 1) := by decide +kernel
theorem dX12_held_0 : decode cX12_held 0 = .ok (.aload_n 0, 1) := by decide +kernel
theorem dX12_held_1 : decode cX12_held 1 = .ok (.iload_n 1, 1) := by decide +kernel
theorem dX12_held_2 : decode cX12_held 2 = .ok (.invokevirtual 93, 3) := by decide +kernel
theorem dX12_held_5 : decode cX12_held 5 = .ok (.ifCond .eq 49, 3) := by decide +kernel
theorem dX12_held_8 : decode cX12_held 8 = .ok (.iload_n 2, 1) := by decide +kernel
theorem dX12_held_9 : decode cX12_held 9 = .ok (.aload_n 0, 1) := by decide +kernel
theorem dX12_held_10 : decode cX12_held 10 = .ok (.getfield 22, 3) := by decide +kernel
theorem dX12_held_13 : decode cX12_held 13 = .ok (.iload_n 1, 1) := by decide +kernel
theorem dX12_held_14 : decode cX12_held 14 = .ok (.iaload, 1) := by decide +kernel
theorem dX12_held_15 : decode cX12_held 15 = .ok (.aload_n 0, 1) := by decide +kernel
theorem dX12_held_16 : decode cX12_held 16 = .ok (.getfield 97, 3) := by decide +kernel
theorem dX12_held_19 : decode cX12_held 19 = .ok (.invokestatic 86, 3) := by decide +kernel
theorem dX12_held_22 : decode cX12_held 22 = .ok (.ifCond .eq 32, 3) := by decide +kernel
theorem dX12_held_25 : decode cX12_held 25 = .ok (.aload_n 0, 1) := by decide +kernel
theorem dX12_held_26 : decode cX12_held 26 = .ok (.getfield 31, 3) := by decide +kernel
theorem dX12_held_29 : decode cX12_held 29 = .ok (.iload_n 1, 1) := by decide +kernel
theorem dX12_held_30 : decode cX12_held 30 = .ok (.iaload, 1) := by decide +kernel
theorem dX12_held_31 : decode cX12_held 31 = .ok (.iconst (-1), 1) := by decide +kernel
theorem dX12_held_32 : decode cX12_held 32 = .ok (.if_icmp .eq 13, 3) := by decide +kernel
theorem dX12_held_35 : decode cX12_held 35 = .ok (.iload_n 2, 1) := by decide +kernel
theorem dX12_held_36 : decode cX12_held 36 = .ok (.aload_n 0, 1) := by decide +kernel
theorem dX12_held_37 : decode cX12_held 37 = .ok (.getfield 31, 3) := by decide +kernel
theorem dX12_held_40 : decode cX12_held 40 = .ok (.iload_n 1, 1) := by decide +kernel
theorem dX12_held_41 : decode cX12_held 41 = .ok (.iaload, 1) := by decide +kernel
theorem dX12_held_42 : decode cX12_held 42 = .ok (.if_icmp .ge 12, 3) := by decide +kernel
theorem dX12_held_45 : decode cX12_held 45 = .ok (.iload_n 3, 1) := by decide +kernel
theorem dX12_held_46 : decode cX12_held 46 = .ok (.iconst 0, 1) := by decide +kernel
theorem dX12_held_47 : decode cX12_held 47 = .ok (.iconst 1, 1) := by decide +kernel
theorem dX12_held_48 : decode cX12_held 48 = .ok (.invokestatic 86, 3) := by decide +kernel
theorem dX12_held_51 : decode cX12_held 51 = .ok (.ifCond .ne 5, 3) := by decide +kernel
theorem dX12_held_54 : decode cX12_held 54 = .ok (.iconst (-1), 1) := by decide +kernel
theorem dX12_held_55 : decode cX12_held 55 = .ok (.ireturn, 1) := by decide +kernel
theorem dX12_held_56 : decode cX12_held 56 = .ok (.iload_n 3, 1) := by decide +kernel
theorem dX12_held_57 : decode cX12_held 57 = .ok (.ifCond .ne 12, 3) := by decide +kernel
theorem dX12_held_60 : decode cX12_held 60 = .ok (.aload_n 0, 1) := by decide +kernel
theorem dX12_held_61 : decode cX12_held 61 = .ok (.iload_n 1, 1) := by decide +kernel
theorem dX12_held_62 : decode cX12_held 62 = .ok (.iload_n 2, 1) := by decide +kernel
theorem dX12_held_63 : decode cX12_held 63 = .ok (.invokevirtual 117, 3) := by decide +kernel
theorem dX12_held_66 : decode cX12_held 66 = .ok (.goto 9, 3) := by decide +kernel
theorem dX12_held_69 : decode cX12_held 69 = .ok (.aload_n 0, 1) := by decide +kernel
theorem dX12_held_70 : decode cX12_held 70 = .ok (.iload_n 1, 1) := by decide +kernel
theorem dX12_held_71 : decode cX12_held 71 = .ok (.iload_n 2, 1) := by decide +kernel
theorem dX12_held_72 : decode cX12_held 72 = .ok (.invokevirtual 127, 3) := by decide +kernel
theorem dX12_held_75 : decode cX12_held 75 = .ok (.ireturn, 1) := by decide +kernel
theorem dX12_owners_0 : decode cX12_owners 0 = .ok (.aload_n 0, 1) := by decide +kernel
theorem dX12_owners_1 : decode cX12_owners 1 = .ok (.iload_n 1, 1) := by decide +kernel
theorem dX12_owners_2 : decode cX12_owners 2 = .ok (.invokevirtual 93, 3) := by decide +kernel
theorem dX12_owners_5 : decode cX12_owners 5 = .ok (.ifCond .eq 8, 3) := by decide +kernel
theorem dX12_owners_8 : decode cX12_owners 8 = .ok (.iload_n 2, 1) := by decide +kernel
theorem dX12_owners_9 : decode cX12_owners 9 = .ok (.iconst (-1), 1) := by decide +kernel
theorem dX12_owners_10 : decode cX12_owners 10 = .ok (.if_icmp .ge 5, 3) := by decide +kernel
theorem dX12_owners_13 : decode cX12_owners 13 = .ok (.iconst (-1), 1) := by decide +kernel
theorem dX12_owners_14 : decode cX12_owners 14 = .ok (.ireturn, 1) := by decide +kernel
theorem dX12_owners_15 : decode cX12_owners 15 = .ok (.iload_n 2, 1) := by decide +kernel
theorem dX12_owners_16 : decode cX12_owners 16 = .ok (.ifCond .ne 10, 3) := by decide +kernel
theorem dX12_owners_19 : decode cX12_owners 19 = .ok (.aload_n 0, 1) := by decide +kernel
theorem dX12_owners_20 : decode cX12_owners 20 = .ok (.getfield 28, 3) := by decide +kernel
theorem dX12_owners_23 : decode cX12_owners 23 = .ok (.iload_n 1, 1) := by decide +kernel
theorem dX12_owners_24 : decode cX12_owners 24 = .ok (.iaload, 1) := by decide +kernel
theorem dX12_owners_25 : decode cX12_owners 25 = .ok (.ireturn, 1) := by decide +kernel
theorem dX12_owners_26 : decode cX12_owners 26 = .ok (.iconst 1, 1) := by decide +kernel
theorem dX12_owners_27 : decode cX12_owners 27 = .ok (.istore_n 3, 1) := by decide +kernel
theorem dX12_owners_28 : decode cX12_owners 28 = .ok (.iconst 0, 1) := by decide +kernel
theorem dX12_owners_29 : decode cX12_owners 29 = .ok (.istore 4, 2) := by decide +kernel
theorem dX12_owners_31 : decode cX12_owners 31 = .ok (.iload 4, 2) := by decide +kernel
theorem dX12_owners_33 : decode cX12_owners 33 = .ok (.aload_n 0, 1) := by decide +kernel
theorem dX12_owners_34 : decode cX12_owners 34 = .ok (.getfield 110, 3) := by decide +kernel
theorem dX12_owners_37 : decode cX12_owners 37 = .ok (.if_icmp .ge 49, 3) := by decide +kernel
theorem dX12_owners_40 : decode cX12_owners 40 = .ok (.aload_n 0, 1) := by decide +kernel
theorem dX12_owners_41 : decode cX12_owners 41 = .ok (.getfield 34, 3) := by decide +kernel
theorem dX12_owners_44 : decode cX12_owners 44 = .ok (.iload 4, 2) := by decide +kernel
theorem dX12_owners_46 : decode cX12_owners 46 = .ok (.iaload, 1) := by decide +kernel
theorem dX12_owners_47 : decode cX12_owners 47 = .ok (.iload_n 1, 1) := by decide +kernel
theorem dX12_owners_48 : decode cX12_owners 48 = .ok (.if_icmp .ne 32, 3) := by decide +kernel
theorem dX12_owners_51 : decode cX12_owners 51 = .ok (.aload_n 0, 1) := by decide +kernel
theorem dX12_owners_52 : decode cX12_owners 52 = .ok (.getfield 37, 3) := by decide +kernel
theorem dX12_owners_55 : decode cX12_owners 55 = .ok (.iload 4, 2) := by decide +kernel
theorem dX12_owners_57 : decode cX12_owners 57 = .ok (.iaload, 1) := by decide +kernel
theorem dX12_owners_58 : decode cX12_owners 58 = .ok (.ifCond .eq 6, 3) := by decide +kernel
theorem dX12_owners_61 : decode cX12_owners 61 = .ok (.goto 19, 3) := by decide +kernel
theorem dX12_owners_64 : decode cX12_owners 64 = .ok (.iload_n 3, 1) := by decide +kernel
theorem dX12_owners_65 : decode cX12_owners 65 = .ok (.iload_n 2, 1) := by decide +kernel
theorem dX12_owners_66 : decode cX12_owners 66 = .ok (.if_icmp .ne 11, 3) := by decide +kernel
theorem dX12_owners_69 : decode cX12_owners 69 = .ok (.aload_n 0, 1) := by decide +kernel
theorem dX12_owners_70 : decode cX12_owners 70 = .ok (.getfield 40, 3) := by decide +kernel
theorem dX12_owners_73 : decode cX12_owners 73 = .ok (.iload 4, 2) := by decide +kernel
theorem dX12_owners_75 : decode cX12_owners 75 = .ok (.iaload, 1) := by decide +kernel
theorem dX12_owners_76 : decode cX12_owners 76 = .ok (.ireturn, 1) := by decide +kernel
theorem dX12_owners_77 : decode cX12_owners 77 = .ok (.iinc 3 1, 3) := by decide +kernel
theorem dX12_owners_80 : decode cX12_owners 80 = .ok (.iinc 4 1, 3) := by decide +kernel
theorem dX12_owners_83 : decode cX12_owners 83 = .ok (.goto (-52), 3) := by decide +kernel
theorem dX12_owners_86 : decode cX12_owners 86 = .ok (.iload_n 2, 1) := by decide +kernel
theorem dX12_owners_87 : decode cX12_owners 87 = .ok (.iconst (-1), 1) := by decide +kernel
theorem dX12_owners_88 : decode cX12_owners 88 = .ok (.if_icmp .ne 7, 3) := by decide +kernel
theorem dX12_owners_91 : decode cX12_owners 91 = .ok (.iload_n 3, 1) := by decide +kernel
theorem dX12_owners_92 : decode cX12_owners 92 = .ok (.goto 4, 3) := by decide +kernel
theorem dX12_owners_95 : decode cX12_owners 95 = .ok (.iconst (-1), 1) := by decide +kernel
theorem dX12_owners_96 : decode cX12_owners 96 = .ok (.ireturn, 1) := by decide +kernel
theorem dX12_isSet_0 : decode cX12_isSet 0 = .ok (.iload_n 1, 1) := by decide +kernel
theorem dX12_isSet_1 : decode cX12_isSet 1 = .ok (.iconst 1, 1) := by decide +kernel
theorem dX12_isSet_2 : decode cX12_isSet 2 = .ok (.iconst 1, 1) := by decide +kernel
theorem dX12_isSet_3 : decode cX12_isSet 3 = .ok (.aload_n 0, 1) := by decide +kernel
theorem dX12_isSet_4 : decode cX12_isSet 4 = .ok (.getfield 90, 3) := by decide +kernel
theorem dX12_isSet_7 : decode cX12_isSet 7 = .ok (.ishl, 1) := by decide +kernel
theorem dX12_isSet_8 : decode cX12_isSet 8 = .ok (.iconst 1, 1) := by decide +kernel
theorem dX12_isSet_9 : decode cX12_isSet 9 = .ok (.isub, 1) := by decide +kernel
theorem dX12_isSet_10 : decode cX12_isSet 10 = .ok (.invokestatic 86, 3) := by decide +kernel
theorem dX12_isSet_13 : decode cX12_isSet 13 = .ok (.ifCond .ne 5, 3) := by decide +kernel
theorem dX12_isSet_16 : decode cX12_isSet 16 = .ok (.iconst 0, 1) := by decide +kernel
theorem dX12_isSet_17 : decode cX12_isSet 17 = .ok (.ireturn, 1) := by decide +kernel
theorem dX12_isSet_18 : decode cX12_isSet 18 = .ok (.iconst 0, 1) := by decide +kernel
theorem dX12_isSet_19 : decode cX12_isSet 19 = .ok (.istore_n 2, 1) := by decide +kernel
theorem dX12_isSet_20 : decode cX12_isSet 20 = .ok (.iconst 0, 1) := by decide +kernel
theorem dX12_isSet_21 : decode cX12_isSet 21 = .ok (.istore_n 3, 1) := by decide +kernel
theorem dX12_isSet_22 : decode cX12_isSet 22 = .ok (.iload_n 3, 1) := by decide +kernel
theorem dX12_isSet_23 : decode cX12_isSet 23 = .ok (.aload_n 0, 1) := by decide +kernel
theorem dX12_isSet_24 : decode cX12_isSet 24 = .ok (.getfield 90, 3) := by decide +kernel
theorem dX12_isSet_27 : decode cX12_isSet 27 = .ok (.if_icmp .ge 47, 3) := by decide +kernel
theorem dX12_isSet_30 : decode cX12_isSet 30 = .ok (.iload_n 1, 1) := by decide +kernel
theorem dX12_isSet_31 : decode cX12_isSet 31 = .ok (.iload_n 3, 1) := by decide +kernel
theorem dX12_isSet_32 : decode cX12_isSet 32 = .ok (.ishr, 1) := by decide +kernel
theorem dX12_isSet_33 : decode cX12_isSet 33 = .ok (.iconst 1, 1) := by decide +kernel
theorem dX12_isSet_34 : decode cX12_isSet 34 = .ok (.iand, 1) := by decide +kernel
theorem dX12_isSet_35 : decode cX12_isSet 35 = .ok (.ifCond .ne 6, 3) := by decide +kernel
theorem dX12_isSet_38 : decode cX12_isSet 38 = .ok (.goto 30, 3) := by decide +kernel
theorem dX12_isSet_41 : decode cX12_isSet 41 = .ok (.iload_n 2, 1) := by decide +kernel
theorem dX12_isSet_42 : decode cX12_isSet 42 = .ok (.aload_n 0, 1) := by decide +kernel
theorem dX12_isSet_43 : decode cX12_isSet 43 = .ok (.getfield 7, 3) := by decide +kernel
theorem dX12_isSet_46 : decode cX12_isSet 46 = .ok (.iload_n 3, 1) := by decide +kernel
theorem dX12_isSet_47 : decode cX12_isSet 47 = .ok (.iaload, 1) := by decide +kernel
theorem dX12_isSet_48 : decode cX12_isSet 48 = .ok (.ishr, 1) := by decide +kernel
theorem dX12_isSet_49 : decode cX12_isSet 49 = .ok (.iconst 1, 1) := by decide +kernel
theorem dX12_isSet_50 : decode cX12_isSet 50 = .ok (.iand, 1) := by decide +kernel
theorem dX12_isSet_51 : decode cX12_isSet 51 = .ok (.iconst 1, 1) := by decide +kernel
theorem dX12_isSet_52 : decode cX12_isSet 52 = .ok (.if_icmp .ne 5, 3) := by decide +kernel
theorem dX12_isSet_55 : decode cX12_isSet 55 = .ok (.iconst 0, 1) := by decide +kernel
theorem dX12_isSet_56 : decode cX12_isSet 56 = .ok (.ireturn, 1) := by decide +kernel
theorem dX12_isSet_57 : decode cX12_isSet 57 = .ok (.iload_n 2, 1) := by decide +kernel
theorem dX12_isSet_58 : decode cX12_isSet 58 = .ok (.iconst 1, 1) := by decide +kernel
theorem dX12_isSet_59 : decode cX12_isSet 59 = .ok (.aload_n 0, 1) := by decide +kernel
theorem dX12_isSet_60 : decode cX12_isSet 60 = .ok (.getfield 7, 3) := by decide +kernel
theorem dX12_isSet_63 : decode cX12_isSet 63 = .ok (.iload_n 3, 1) := by decide +kernel
theorem dX12_isSet_64 : decode cX12_isSet 64 = .ok (.iaload, 1) := by decide +kernel
theorem dX12_isSet_65 : decode cX12_isSet 65 = .ok (.ishl, 1) := by decide +kernel
theorem dX12_isSet_66 : decode cX12_isSet 66 = .ok (.ior, 1) := by decide +kernel
theorem dX12_isSet_67 : decode cX12_isSet 67 = .ok (.istore_n 2, 1) := by decide +kernel
theorem dX12_isSet_68 : decode cX12_isSet 68 = .ok (.iinc 3 1, 3) := by decide +kernel
theorem dX12_isSet_71 : decode cX12_isSet 71 = .ok (.goto (-49), 3) := by decide +kernel
theorem dX12_isSet_74 : decode cX12_isSet 74 = .ok (.iconst 1, 1) := by decide +kernel
theorem dX12_isSet_75 : decode cX12_isSet 75 = .ok (.ireturn, 1) := by decide +kernel
theorem dX12_areGuests_0 : decode cX12_areGuests 0 = .ok (.iload_n 0, 1) := by decide +kernel
theorem dX12_areGuests_1 : decode cX12_areGuests 1 = .ok (.iconst 1, 1) := by decide +kernel
theorem dX12_areGuests_2 : decode cX12_areGuests 2 = .ok (.sipush 255, 3) := by decide +kernel
theorem dX12_areGuests_5 : decode cX12_areGuests 5 = .ok (.invokestatic 86, 3) := by decide +kernel
theorem dX12_areGuests_8 : decode cX12_areGuests 8 = .ok (.ireturn, 1) := by decide +kernel
theorem dX12_isSeason_0 : decode cX12_isSeason 0 = .ok (.iload_n 0, 1) := by decide +kernel
theorem dX12_isSeason_1 : decode cX12_isSeason 1 = .ok (.iconst 0, 1) := by decide +kernel
theorem dX12_isSeason_2 : decode cX12_isSeason 2 = .ok (.iconst 3, 1) := by decide +kernel
theorem dX12_isSeason_3 : decode cX12_isSeason 3 = .ok (.invokestatic 86, 3) := by decide +kernel
theorem dX12_isSeason_6 : decode cX12_isSeason 6 = .ok (.ireturn, 1) := by decide +kernel
theorem dX12_gather_0 : decode cX12_gather 0 = .ok (.iload_n 1, 1) := by decide +kernel
theorem dX12_gather_1 : decode cX12_gather 1 = .ok (.invokestatic 100, 3) := by decide +kernel
theorem dX12_gather_4 : decode cX12_gather 4 = .ok (.ifCond .eq 35, 3) := by decide +kernel
theorem dX12_gather_7 : decode cX12_gather 7 = .ok (.iload_n 2, 1) := by decide +kernel
theorem dX12_gather_8 : decode cX12_gather 8 = .ok (.invokestatic 139, 3) := by decide +kernel
theorem dX12_gather_11 : decode cX12_gather 11 = .ok (.ifCond .eq 28, 3) := by decide +kernel
theorem dX12_gather_14 : decode cX12_gather 14 = .ok (.iload_n 3, 1) := by decide +kernel
theorem dX12_gather_15 : decode cX12_gather 15 = .ok (.invokestatic 142, 3) := by decide +kernel
theorem dX12_gather_18 : decode cX12_gather 18 = .ok (.ifCond .eq 21, 3) := by decide +kernel
theorem dX12_gather_21 : decode cX12_gather 21 = .ok (.aload_n 0, 1) := by decide +kernel
theorem dX12_gather_22 : decode cX12_gather 22 = .ok (.iload 4, 2) := by decide +kernel
theorem dX12_gather_24 : decode cX12_gather 24 = .ok (.invokevirtual 145, 3) := by decide +kernel
theorem dX12_gather_27 : decode cX12_gather 27 = .ok (.ifCond .eq 12, 3) := by decide +kernel
theorem dX12_gather_30 : decode cX12_gather 30 = .ok (.aload_n 0, 1) := by decide +kernel
theorem dX12_gather_31 : decode cX12_gather 31 = .ok (.getfield 130, 3) := by decide +kernel
theorem dX12_gather_34 : decode cX12_gather 34 = .ok (.bipush 60, 2) := by decide +kernel
theorem dX12_gather_36 : decode cX12_gather 36 = .ok (.if_icmp .ne 5, 3) := by decide +kernel
theorem dX12_gather_39 : decode cX12_gather 39 = .ok (.iconst (-1), 1) := by decide +kernel
theorem dX12_gather_40 : decode cX12_gather 40 = .ok (.ireturn, 1) := by decide +kernel
theorem dX12_gather_41 : decode cX12_gather 41 = .ok (.iconst 0, 1) := by decide +kernel
theorem dX12_gather_42 : decode cX12_gather 42 = .ok (.istore 5, 2) := by decide +kernel
theorem dX12_gather_44 : decode cX12_gather 44 = .ok (.iload 5, 2) := by decide +kernel
theorem dX12_gather_46 : decode cX12_gather 46 = .ok (.aload_n 0, 1) := by decide +kernel
theorem dX12_gather_47 : decode cX12_gather 47 = .ok (.getfield 90, 3) := by decide +kernel
theorem dX12_gather_50 : decode cX12_gather 50 = .ok (.if_icmp .ge 45, 3) := by decide +kernel
theorem dX12_gather_53 : decode cX12_gather 53 = .ok (.iload 4, 2) := by decide +kernel
theorem dX12_gather_55 : decode cX12_gather 55 = .ok (.iload 5, 2) := by decide +kernel
theorem dX12_gather_57 : decode cX12_gather 57 = .ok (.ishr, 1) := by decide +kernel
theorem dX12_gather_58 : decode cX12_gather 58 = .ok (.iconst 1, 1) := by decide +kernel
theorem dX12_gather_59 : decode cX12_gather 59 = .ok (.iand, 1) := by decide +kernel
theorem dX12_gather_60 : decode cX12_gather 60 = .ok (.iconst 1, 1) := by decide +kernel
theorem dX12_gather_61 : decode cX12_gather 61 = .ok (.if_icmp .ne 28, 3) := by decide +kernel
theorem dX12_gather_64 : decode cX12_gather 64 = .ok (.aload_n 0, 1) := by decide +kernel
theorem dX12_gather_65 : decode cX12_gather 65 = .ok (.iload 5, 2) := by decide +kernel
theorem dX12_gather_67 : decode cX12_gather 67 = .ok (.invokevirtual 107, 3) := by decide +kernel
theorem dX12_gather_70 : decode cX12_gather 70 = .ok (.ifCond .eq 17, 3) := by decide +kernel
theorem dX12_gather_73 : decode cX12_gather 73 = .ok (.aload_n 0, 1) := by decide +kernel
theorem dX12_gather_74 : decode cX12_gather 74 = .ok (.iload 5, 2) := by decide +kernel
theorem dX12_gather_76 : decode cX12_gather 76 = .ok (.aload_n 0, 1) := by decide +kernel
theorem dX12_gather_77 : decode cX12_gather 77 = .ok (.getfield 97, 3) := by decide +kernel
theorem dX12_gather_80 : decode cX12_gather 80 = .ok (.invokevirtual 127, 3) := by decide +kernel
theorem dX12_gather_83 : decode cX12_gather 83 = .ok (.iload_n 1, 1) := by decide +kernel
theorem dX12_gather_84 : decode cX12_gather 84 = .ok (.if_icmp .eq 5, 3) := by decide +kernel
theorem dX12_gather_87 : decode cX12_gather 87 = .ok (.iconst (-1), 1) := by decide +kernel
theorem dX12_gather_88 : decode cX12_gather 88 = .ok (.ireturn, 1) := by decide +kernel
theorem dX12_gather_89 : decode cX12_gather 89 = .ok (.iinc 5 1, 3) := by decide +kernel
theorem dX12_gather_92 : decode cX12_gather 92 = .ok (.goto (-48), 3) := by decide +kernel
theorem dX12_gather_95 : decode cX12_gather 95 = .ok (.aload_n 0, 1) := by decide +kernel
theorem dX12_gather_96 : decode cX12_gather 96 = .ok (.getfield 130, 3) := by decide +kernel
theorem dX12_gather_99 : decode cX12_gather 99 = .ok (.istore 5, 2) := by decide +kernel
theorem dX12_gather_101 : decode cX12_gather 101 = .ok (.aload_n 0, 1) := by decide +kernel
theorem dX12_gather_102 : decode cX12_gather 102 = .ok (.dup, 1) := by decide +kernel
theorem dX12_gather_103 : decode cX12_gather 103 = .ok (.getfield 130, 3) := by decide +kernel
theorem dX12_gather_106 : decode cX12_gather 106 = .ok (.iconst 1, 1) := by decide +kernel
theorem dX12_gather_107 : decode cX12_gather 107 = .ok (.iadd, 1) := by decide +kernel
theorem dX12_gather_108 : decode cX12_gather 108 = .ok (.putfield 130, 3) := by decide +kernel
theorem dX12_gather_111 : decode cX12_gather 111 = .ok (.aload_n 0, 1) := by decide +kernel
theorem dX12_gather_112 : decode cX12_gather 112 = .ok (.getfield 46, 3) := by decide +kernel
theorem dX12_gather_115 : decode cX12_gather 115 = .ok (.iload 5, 2) := by decide +kernel
theorem dX12_gather_117 : decode cX12_gather 117 = .ok (.iload_n 1, 1) := by decide +kernel
theorem dX12_gather_118 : decode cX12_gather 118 = .ok (.iastore, 1) := by decide +kernel
theorem dX12_gather_119 : decode cX12_gather 119 = .ok (.aload_n 0, 1) := by decide +kernel
theorem dX12_gather_120 : decode cX12_gather 120 = .ok (.getfield 49, 3) := by decide +kernel
theorem dX12_gather_123 : decode cX12_gather 123 = .ok (.iload 5, 2) := by decide +kernel
theorem dX12_gather_125 : decode cX12_gather 125 = .ok (.aload_n 0, 1) := by decide +kernel
theorem dX12_gather_126 : decode cX12_gather 126 = .ok (.getfield 97, 3) := by decide +kernel
theorem dX12_gather_129 : decode cX12_gather 129 = .ok (.iastore, 1) := by decide +kernel
theorem dX12_gather_130 : decode cX12_gather 130 = .ok (.aload_n 0, 1) := by decide +kernel
theorem dX12_gather_131 : decode cX12_gather 131 = .ok (.getfield 52, 3) := by decide +kernel
theorem dX12_gather_134 : decode cX12_gather 134 = .ok (.iload 5, 2) := by decide +kernel
theorem dX12_gather_136 : decode cX12_gather 136 = .ok (.iload_n 2, 1) := by decide +kernel
theorem dX12_gather_137 : decode cX12_gather 137 = .ok (.iastore, 1) := by decide +kernel
theorem dX12_gather_138 : decode cX12_gather 138 = .ok (.aload_n 0, 1) := by decide +kernel
theorem dX12_gather_139 : decode cX12_gather 139 = .ok (.getfield 55, 3) := by decide +kernel
theorem dX12_gather_142 : decode cX12_gather 142 = .ok (.iload 5, 2) := by decide +kernel
theorem dX12_gather_144 : decode cX12_gather 144 = .ok (.iload_n 3, 1) := by decide +kernel
theorem dX12_gather_145 : decode cX12_gather 145 = .ok (.iastore, 1) := by decide +kernel
theorem dX12_gather_146 : decode cX12_gather 146 = .ok (.aload_n 0, 1) := by decide +kernel
theorem dX12_gather_147 : decode cX12_gather 147 = .ok (.getfield 58, 3) := by decide +kernel
theorem dX12_gather_150 : decode cX12_gather 150 = .ok (.iload 5, 2) := by decide +kernel
theorem dX12_gather_152 : decode cX12_gather 152 = .ok (.iload 4, 2) := by decide +kernel
theorem dX12_gather_154 : decode cX12_gather 154 = .ok (.iastore, 1) := by decide +kernel
theorem dX12_gather_155 : decode cX12_gather 155 = .ok (.iload 5, 2) := by decide +kernel
theorem dX12_gather_157 : decode cX12_gather 157 = .ok (.ireturn, 1) := by decide +kernel
theorem dX12_gathering_0 : decode cX12_gathering 0 = .ok (.iload_n 1, 1) := by decide +kernel
theorem dX12_gathering_1 : decode cX12_gathering 1 = .ok (.iconst 0, 1) := by decide +kernel
theorem dX12_gathering_2 : decode cX12_gathering 2 = .ok (.aload_n 0, 1) := by decide +kernel
theorem dX12_gathering_3 : decode cX12_gathering 3 = .ok (.getfield 130, 3) := by decide +kernel
theorem dX12_gathering_6 : decode cX12_gathering 6 = .ok (.iconst 1, 1) := by decide +kernel
theorem dX12_gathering_7 : decode cX12_gathering 7 = .ok (.isub, 1) := by decide +kernel
theorem dX12_gathering_8 : decode cX12_gathering 8 = .ok (.invokestatic 86, 3) := by decide +kernel
theorem dX12_gathering_11 : decode cX12_gathering 11 = .ok (.ifCond .ne 5, 3) := by decide +kernel
theorem dX12_gathering_14 : decode cX12_gathering 14 = .ok (.iconst (-1), 1) := by decide +kernel
theorem dX12_gathering_15 : decode cX12_gathering 15 = .ok (.ireturn, 1) := by decide +kernel
theorem dX12_gathering_16 : decode cX12_gathering 16 = .ok (.iload_n 2, 1) := by decide +kernel
theorem dX12_gathering_17 : decode cX12_gathering 17 = .ok (.tableswitch 70 0 4 #[35, 42, 49, 56, 63], 35) := by decide +kernel
theorem dX12_gathering_52 : decode cX12_gathering 52 = .ok (.aload_n 0, 1) := by decide +kernel
theorem dX12_gathering_53 : decode cX12_gathering 53 = .ok (.getfield 46, 3) := by decide +kernel
theorem dX12_gathering_56 : decode cX12_gathering 56 = .ok (.iload_n 1, 1) := by decide +kernel
theorem dX12_gathering_57 : decode cX12_gathering 57 = .ok (.iaload, 1) := by decide +kernel
theorem dX12_gathering_58 : decode cX12_gathering 58 = .ok (.ireturn, 1) := by decide +kernel
theorem dX12_gathering_59 : decode cX12_gathering 59 = .ok (.aload_n 0, 1) := by decide +kernel
theorem dX12_gathering_60 : decode cX12_gathering 60 = .ok (.getfield 49, 3) := by decide +kernel
theorem dX12_gathering_63 : decode cX12_gathering 63 = .ok (.iload_n 1, 1) := by decide +kernel
theorem dX12_gathering_64 : decode cX12_gathering 64 = .ok (.iaload, 1) := by decide +kernel
theorem dX12_gathering_65 : decode cX12_gathering 65 = .ok (.ireturn, 1) := by decide +kernel
theorem dX12_gathering_66 : decode cX12_gathering 66 = .ok (.aload_n 0, 1) := by decide +kernel
theorem dX12_gathering_67 : decode cX12_gathering 67 = .ok (.getfield 52, 3) := by decide +kernel
theorem dX12_gathering_70 : decode cX12_gathering 70 = .ok (.iload_n 1, 1) := by decide +kernel
theorem dX12_gathering_71 : decode cX12_gathering 71 = .ok (.iaload, 1) := by decide +kernel
theorem dX12_gathering_72 : decode cX12_gathering 72 = .ok (.ireturn, 1) := by decide +kernel
theorem dX12_gathering_73 : decode cX12_gathering 73 = .ok (.aload_n 0, 1) := by decide +kernel
theorem dX12_gathering_74 : decode cX12_gathering 74 = .ok (.getfield 55, 3) := by decide +kernel
theorem dX12_gathering_77 : decode cX12_gathering 77 = .ok (.iload_n 1, 1) := by decide +kernel
theorem dX12_gathering_78 : decode cX12_gathering 78 = .ok (.iaload, 1) := by decide +kernel
theorem dX12_gathering_79 : decode cX12_gathering 79 = .ok (.ireturn, 1) := by decide +kernel
theorem dX12_gathering_80 : decode cX12_gathering 80 = .ok (.aload_n 0, 1) := by decide +kernel
theorem dX12_gathering_81 : decode cX12_gathering 81 = .ok (.getfield 58, 3) := by decide +kernel
theorem dX12_gathering_84 : decode cX12_gathering 84 = .ok (.iload_n 1, 1) := by decide +kernel
theorem dX12_gathering_85 : decode cX12_gathering 85 = .ok (.iaload, 1) := by decide +kernel
theorem dX12_gathering_86 : decode cX12_gathering 86 = .ok (.ireturn, 1) := by decide +kernel
theorem dX12_gathering_87 : decode cX12_gathering 87 = .ok (.iconst (-1), 1) := by decide +kernel
theorem dX12_gathering_88 : decode cX12_gathering 88 = .ok (.ireturn, 1) := by decide +kernel
theorem dX12_seenOf_0 : decode cX12_seenOf 0 = .ok (.iconst 0, 1) := by decide +kernel
theorem dX12_seenOf_1 : decode cX12_seenOf 1 = .ok (.istore 4, 2) := by decide +kernel
theorem dX12_seenOf_3 : decode cX12_seenOf 3 = .ok (.iconst 0, 1) := by decide +kernel
theorem dX12_seenOf_4 : decode cX12_seenOf 4 = .ok (.istore 5, 2) := by decide +kernel
theorem dX12_seenOf_6 : decode cX12_seenOf 6 = .ok (.iload 5, 2) := by decide +kernel
theorem dX12_seenOf_8 : decode cX12_seenOf 8 = .ok (.aload_n 0, 1) := by decide +kernel
theorem dX12_seenOf_9 : decode cX12_seenOf 9 = .ok (.getfield 130, 3) := by decide +kernel
theorem dX12_seenOf_12 : decode cX12_seenOf 12 = .ok (.if_icmp .ge 64, 3) := by decide +kernel
theorem dX12_seenOf_15 : decode cX12_seenOf 15 = .ok (.iload 4, 2) := by decide +kernel
theorem dX12_seenOf_17 : decode cX12_seenOf 17 = .ok (.aload_n 0, 1) := by decide +kernel
theorem dX12_seenOf_18 : decode cX12_seenOf 18 = .ok (.getfield 55, 3) := by decide +kernel
theorem dX12_seenOf_21 : decode cX12_seenOf 21 = .ok (.iload 5, 2) := by decide +kernel
theorem dX12_seenOf_23 : decode cX12_seenOf 23 = .ok (.iaload, 1) := by decide +kernel
theorem dX12_seenOf_24 : decode cX12_seenOf 24 = .ok (.iload_n 1, 1) := by decide +kernel
theorem dX12_seenOf_25 : decode cX12_seenOf 25 = .ok (.ishr, 1) := by decide +kernel
theorem dX12_seenOf_26 : decode cX12_seenOf 26 = .ok (.iconst 1, 1) := by decide +kernel
theorem dX12_seenOf_27 : decode cX12_seenOf 27 = .ok (.iand, 1) := by decide +kernel
theorem dX12_seenOf_28 : decode cX12_seenOf 28 = .ok (.iconst 1, 1) := by decide +kernel
theorem dX12_seenOf_29 : decode cX12_seenOf 29 = .ok (.if_icmp .ne 37, 3) := by decide +kernel
theorem dX12_seenOf_32 : decode cX12_seenOf 32 = .ok (.aload_n 0, 1) := by decide +kernel
theorem dX12_seenOf_33 : decode cX12_seenOf 33 = .ok (.getfield 58, 3) := by decide +kernel
theorem dX12_seenOf_36 : decode cX12_seenOf 36 = .ok (.iload 5, 2) := by decide +kernel
theorem dX12_seenOf_38 : decode cX12_seenOf 38 = .ok (.iaload, 1) := by decide +kernel
theorem dX12_seenOf_39 : decode cX12_seenOf 39 = .ok (.iload_n 2, 1) := by decide +kernel
theorem dX12_seenOf_40 : decode cX12_seenOf 40 = .ok (.ishr, 1) := by decide +kernel
theorem dX12_seenOf_41 : decode cX12_seenOf 41 = .ok (.iconst 1, 1) := by decide +kernel
theorem dX12_seenOf_42 : decode cX12_seenOf 42 = .ok (.iand, 1) := by decide +kernel
theorem dX12_seenOf_43 : decode cX12_seenOf 43 = .ok (.iconst 1, 1) := by decide +kernel
theorem dX12_seenOf_44 : decode cX12_seenOf 44 = .ok (.if_icmp .ne 22, 3) := by decide +kernel
theorem dX12_seenOf_47 : decode cX12_seenOf 47 = .ok (.aload_n 0, 1) := by decide +kernel
theorem dX12_seenOf_48 : decode cX12_seenOf 48 = .ok (.getfield 58, 3) := by decide +kernel
theorem dX12_seenOf_51 : decode cX12_seenOf 51 = .ok (.iload 5, 2) := by decide +kernel
theorem dX12_seenOf_53 : decode cX12_seenOf 53 = .ok (.iaload, 1) := by decide +kernel
theorem dX12_seenOf_54 : decode cX12_seenOf 54 = .ok (.iload_n 3, 1) := by decide +kernel
theorem dX12_seenOf_55 : decode cX12_seenOf 55 = .ok (.ishr, 1) := by decide +kernel
theorem dX12_seenOf_56 : decode cX12_seenOf 56 = .ok (.iconst 1, 1) := by decide +kernel
theorem dX12_seenOf_57 : decode cX12_seenOf 57 = .ok (.iand, 1) := by decide +kernel
theorem dX12_seenOf_58 : decode cX12_seenOf 58 = .ok (.iconst 1, 1) := by decide +kernel
theorem dX12_seenOf_59 : decode cX12_seenOf 59 = .ok (.if_icmp .ne 7, 3) := by decide +kernel
theorem dX12_seenOf_62 : decode cX12_seenOf 62 = .ok (.iconst 1, 1) := by decide +kernel
theorem dX12_seenOf_63 : decode cX12_seenOf 63 = .ok (.goto 4, 3) := by decide +kernel
theorem dX12_seenOf_66 : decode cX12_seenOf 66 = .ok (.iconst 0, 1) := by decide +kernel
theorem dX12_seenOf_67 : decode cX12_seenOf 67 = .ok (.iadd, 1) := by decide +kernel
theorem dX12_seenOf_68 : decode cX12_seenOf 68 = .ok (.istore 4, 2) := by decide +kernel
theorem dX12_seenOf_70 : decode cX12_seenOf 70 = .ok (.iinc 5 1, 3) := by decide +kernel
theorem dX12_seenOf_73 : decode cX12_seenOf 73 = .ok (.goto (-67), 3) := by decide +kernel
theorem dX12_seenOf_76 : decode cX12_seenOf 76 = .ok (.iload 4, 2) := by decide +kernel
theorem dX12_seenOf_78 : decode cX12_seenOf 78 = .ok (.ireturn, 1) := by decide +kernel
theorem dX12_seen_0 : decode cX12_seen 0 = .ok (.iload_n 1, 1) := by decide +kernel
theorem dX12_seen_1 : decode cX12_seen 1 = .ok (.iconst 0, 1) := by decide +kernel
theorem dX12_seen_2 : decode cX12_seen 2 = .ok (.bipush 7, 2) := by decide +kernel
theorem dX12_seen_4 : decode cX12_seen 4 = .ok (.invokestatic 86, 3) := by decide +kernel
theorem dX12_seen_7 : decode cX12_seen 7 = .ok (.ifCond .eq 29, 3) := by decide +kernel
theorem dX12_seen_10 : decode cX12_seen 10 = .ok (.aload_n 0, 1) := by decide +kernel
theorem dX12_seen_11 : decode cX12_seen 11 = .ok (.iload_n 2, 1) := by decide +kernel
theorem dX12_seen_12 : decode cX12_seen 12 = .ok (.invokevirtual 93, 3) := by decide +kernel
theorem dX12_seen_15 : decode cX12_seen 15 = .ok (.ifCond .eq 21, 3) := by decide +kernel
theorem dX12_seen_18 : decode cX12_seen 18 = .ok (.aload_n 0, 1) := by decide +kernel
theorem dX12_seen_19 : decode cX12_seen 19 = .ok (.iload_n 3, 1) := by decide +kernel
theorem dX12_seen_20 : decode cX12_seen 20 = .ok (.invokevirtual 93, 3) := by decide +kernel
theorem dX12_seen_23 : decode cX12_seen 23 = .ok (.ifCond .eq 13, 3) := by decide +kernel
theorem dX12_seen_26 : decode cX12_seen 26 = .ok (.aload_n 0, 1) := by decide +kernel
theorem dX12_seen_27 : decode cX12_seen 27 = .ok (.iload_n 1, 1) := by decide +kernel
theorem dX12_seen_28 : decode cX12_seen 28 = .ok (.iload_n 2, 1) := by decide +kernel
theorem dX12_seen_29 : decode cX12_seen 29 = .ok (.iload_n 3, 1) := by decide +kernel
theorem dX12_seen_30 : decode cX12_seen 30 = .ok (.invokevirtual 148, 3) := by decide +kernel
theorem dX12_seen_33 : decode cX12_seen 33 = .ok (.goto 4, 3) := by decide +kernel
theorem dX12_seen_36 : decode cX12_seen 36 = .ok (.iconst (-1), 1) := by decide +kernel
theorem dX12_seen_37 : decode cX12_seen 37 = .ok (.ireturn, 1) := by decide +kernel
theorem dX12_againOf_0 : decode cX12_againOf 0 = .ok (.iconst 0, 1) := by decide +kernel
theorem dX12_againOf_1 : decode cX12_againOf 1 = .ok (.istore_n 3, 1) := by decide +kernel
theorem dX12_againOf_2 : decode cX12_againOf 2 = .ok (.iconst 0, 1) := by decide +kernel
theorem dX12_againOf_3 : decode cX12_againOf 3 = .ok (.istore 4, 2) := by decide +kernel
theorem dX12_againOf_5 : decode cX12_againOf 5 = .ok (.iload 4, 2) := by decide +kernel
theorem dX12_againOf_7 : decode cX12_againOf 7 = .ok (.bipush 8, 2) := by decide +kernel
theorem dX12_againOf_9 : decode cX12_againOf 9 = .ok (.if_icmp .ge 150, 3) := by decide +kernel
theorem dX12_againOf_12 : decode cX12_againOf 12 = .ok (.iload_n 1, 1) := by decide +kernel
theorem dX12_againOf_13 : decode cX12_againOf 13 = .ok (.iload 4, 2) := by decide +kernel
theorem dX12_againOf_15 : decode cX12_againOf 15 = .ok (.ishr, 1) := by decide +kernel
theorem dX12_againOf_16 : decode cX12_againOf 16 = .ok (.iconst 1, 1) := by decide +kernel
theorem dX12_againOf_17 : decode cX12_againOf 17 = .ok (.iand, 1) := by decide +kernel
theorem dX12_againOf_18 : decode cX12_againOf 18 = .ok (.ifCond .ne 6, 3) := by decide +kernel
theorem dX12_againOf_21 : decode cX12_againOf 21 = .ok (.goto 132, 3) := by decide +kernel
theorem dX12_againOf_24 : decode cX12_againOf 24 = .ok (.iconst 0, 1) := by decide +kernel
theorem dX12_againOf_25 : decode cX12_againOf 25 = .ok (.istore 5, 2) := by decide +kernel
theorem dX12_againOf_27 : decode cX12_againOf 27 = .ok (.iload 5, 2) := by decide +kernel
theorem dX12_againOf_29 : decode cX12_againOf 29 = .ok (.aload_n 0, 1) := by decide +kernel
theorem dX12_againOf_30 : decode cX12_againOf 30 = .ok (.getfield 90, 3) := by decide +kernel
theorem dX12_againOf_33 : decode cX12_againOf 33 = .ok (.if_icmp .ge 66, 3) := by decide +kernel
theorem dX12_againOf_36 : decode cX12_againOf 36 = .ok (.iload 5, 2) := by decide +kernel
theorem dX12_againOf_38 : decode cX12_againOf 38 = .ok (.iconst 1, 1) := by decide +kernel
theorem dX12_againOf_39 : decode cX12_againOf 39 = .ok (.iadd, 1) := by decide +kernel
theorem dX12_againOf_40 : decode cX12_againOf 40 = .ok (.istore 6, 2) := by decide +kernel
theorem dX12_againOf_42 : decode cX12_againOf 42 = .ok (.iload 6, 2) := by decide +kernel
theorem dX12_againOf_44 : decode cX12_againOf 44 = .ok (.aload_n 0, 1) := by decide +kernel
theorem dX12_againOf_45 : decode cX12_againOf 45 = .ok (.getfield 90, 3) := by decide +kernel
theorem dX12_againOf_48 : decode cX12_againOf 48 = .ok (.if_icmp .ge 45, 3) := by decide +kernel
theorem dX12_againOf_51 : decode cX12_againOf 51 = .ok (.iload_n 2, 1) := by decide +kernel
theorem dX12_againOf_52 : decode cX12_againOf 52 = .ok (.iload 5, 2) := by decide +kernel
theorem dX12_againOf_54 : decode cX12_againOf 54 = .ok (.ishr, 1) := by decide +kernel
theorem dX12_againOf_55 : decode cX12_againOf 55 = .ok (.iconst 1, 1) := by decide +kernel
theorem dX12_againOf_56 : decode cX12_againOf 56 = .ok (.iand, 1) := by decide +kernel
theorem dX12_againOf_57 : decode cX12_againOf 57 = .ok (.iconst 1, 1) := by decide +kernel
theorem dX12_againOf_58 : decode cX12_againOf 58 = .ok (.if_icmp .ne 29, 3) := by decide +kernel
theorem dX12_againOf_61 : decode cX12_againOf 61 = .ok (.iload_n 2, 1) := by decide +kernel
theorem dX12_againOf_62 : decode cX12_againOf 62 = .ok (.iload 6, 2) := by decide +kernel
theorem dX12_againOf_64 : decode cX12_againOf 64 = .ok (.ishr, 1) := by decide +kernel
theorem dX12_againOf_65 : decode cX12_againOf 65 = .ok (.iconst 1, 1) := by decide +kernel
theorem dX12_againOf_66 : decode cX12_againOf 66 = .ok (.iand, 1) := by decide +kernel
theorem dX12_againOf_67 : decode cX12_againOf 67 = .ok (.iconst 1, 1) := by decide +kernel
theorem dX12_againOf_68 : decode cX12_againOf 68 = .ok (.if_icmp .ne 19, 3) := by decide +kernel
theorem dX12_againOf_71 : decode cX12_againOf 71 = .ok (.aload_n 0, 1) := by decide +kernel
theorem dX12_againOf_72 : decode cX12_againOf 72 = .ok (.iload 4, 2) := by decide +kernel
theorem dX12_againOf_74 : decode cX12_againOf 74 = .ok (.iload 5, 2) := by decide +kernel
theorem dX12_againOf_76 : decode cX12_againOf 76 = .ok (.iload 6, 2) := by decide +kernel
theorem dX12_againOf_78 : decode cX12_againOf 78 = .ok (.invokevirtual 148, 3) := by decide +kernel
theorem dX12_againOf_81 : decode cX12_againOf 81 = .ok (.ifCond .le 6, 3) := by decide +kernel
theorem dX12_againOf_84 : decode cX12_againOf 84 = .ok (.iinc 3 1, 3) := by decide +kernel
theorem dX12_againOf_87 : decode cX12_againOf 87 = .ok (.iinc 6 1, 3) := by decide +kernel
theorem dX12_againOf_90 : decode cX12_againOf 90 = .ok (.goto (-48), 3) := by decide +kernel
theorem dX12_againOf_93 : decode cX12_againOf 93 = .ok (.iinc 5 1, 3) := by decide +kernel
theorem dX12_againOf_96 : decode cX12_againOf 96 = .ok (.goto (-69), 3) := by decide +kernel
theorem dX12_againOf_99 : decode cX12_againOf 99 = .ok (.iconst 0, 1) := by decide +kernel
theorem dX12_againOf_100 : decode cX12_againOf 100 = .ok (.istore 5, 2) := by decide +kernel
theorem dX12_againOf_102 : decode cX12_againOf 102 = .ok (.iload 5, 2) := by decide +kernel
theorem dX12_againOf_104 : decode cX12_againOf 104 = .ok (.aload_n 0, 1) := by decide +kernel
theorem dX12_againOf_105 : decode cX12_againOf 105 = .ok (.getfield 130, 3) := by decide +kernel
theorem dX12_againOf_108 : decode cX12_againOf 108 = .ok (.if_icmp .ge 45, 3) := by decide +kernel
theorem dX12_againOf_111 : decode cX12_againOf 111 = .ok (.iload_n 3, 1) := by decide +kernel
theorem dX12_againOf_112 : decode cX12_againOf 112 = .ok (.aload_n 0, 1) := by decide +kernel
theorem dX12_againOf_113 : decode cX12_againOf 113 = .ok (.getfield 55, 3) := by decide +kernel
theorem dX12_againOf_116 : decode cX12_againOf 116 = .ok (.iload 5, 2) := by decide +kernel
theorem dX12_againOf_118 : decode cX12_againOf 118 = .ok (.iaload, 1) := by decide +kernel
theorem dX12_againOf_119 : decode cX12_againOf 119 = .ok (.iload 4, 2) := by decide +kernel
theorem dX12_againOf_121 : decode cX12_againOf 121 = .ok (.ishr, 1) := by decide +kernel
theorem dX12_againOf_122 : decode cX12_againOf 122 = .ok (.iconst 1, 1) := by decide +kernel
theorem dX12_againOf_123 : decode cX12_againOf 123 = .ok (.iand, 1) := by decide +kernel
theorem dX12_againOf_124 : decode cX12_againOf 124 = .ok (.iconst 1, 1) := by decide +kernel
theorem dX12_againOf_125 : decode cX12_againOf 125 = .ok (.if_icmp .ne 19, 3) := by decide +kernel
theorem dX12_againOf_128 : decode cX12_againOf 128 = .ok (.aload_n 0, 1) := by decide +kernel
theorem dX12_againOf_129 : decode cX12_againOf 129 = .ok (.getfield 58, 3) := by decide +kernel
theorem dX12_againOf_132 : decode cX12_againOf 132 = .ok (.iload 5, 2) := by decide +kernel
theorem dX12_againOf_134 : decode cX12_againOf 134 = .ok (.iaload, 1) := by decide +kernel
theorem dX12_againOf_135 : decode cX12_againOf 135 = .ok (.iload_n 2, 1) := by decide +kernel
theorem dX12_againOf_136 : decode cX12_againOf 136 = .ok (.if_icmp .ne 8, 3) := by decide +kernel
theorem dX12_againOf_139 : decode cX12_againOf 139 = .ok (.bipush 10, 2) := by decide +kernel
theorem dX12_againOf_141 : decode cX12_againOf 141 = .ok (.goto 4, 3) := by decide +kernel
theorem dX12_againOf_144 : decode cX12_againOf 144 = .ok (.iconst 0, 1) := by decide +kernel
theorem dX12_againOf_145 : decode cX12_againOf 145 = .ok (.iadd, 1) := by decide +kernel
theorem dX12_againOf_146 : decode cX12_againOf 146 = .ok (.istore_n 3, 1) := by decide +kernel
theorem dX12_againOf_147 : decode cX12_againOf 147 = .ok (.iinc 5 1, 3) := by decide +kernel
theorem dX12_againOf_150 : decode cX12_againOf 150 = .ok (.goto (-48), 3) := by decide +kernel
theorem dX12_againOf_153 : decode cX12_againOf 153 = .ok (.iinc 4 1, 3) := by decide +kernel
theorem dX12_againOf_156 : decode cX12_againOf 156 = .ok (.goto (-151), 3) := by decide +kernel
theorem dX12_againOf_159 : decode cX12_againOf 159 = .ok (.iload_n 3, 1) := by decide +kernel
theorem dX12_againOf_160 : decode cX12_againOf 160 = .ok (.ireturn, 1) := by decide +kernel
theorem dX12_again_0 : decode cX12_again 0 = .ok (.iload_n 1, 1) := by decide +kernel
theorem dX12_again_1 : decode cX12_again 1 = .ok (.invokestatic 142, 3) := by decide +kernel
theorem dX12_again_4 : decode cX12_again 4 = .ok (.ifCond .eq 20, 3) := by decide +kernel
theorem dX12_again_7 : decode cX12_again 7 = .ok (.aload_n 0, 1) := by decide +kernel
theorem dX12_again_8 : decode cX12_again 8 = .ok (.iload_n 2, 1) := by decide +kernel
theorem dX12_again_9 : decode cX12_again 9 = .ok (.invokevirtual 145, 3) := by decide +kernel
theorem dX12_again_12 : decode cX12_again 12 = .ok (.ifCond .eq 12, 3) := by decide +kernel
theorem dX12_again_15 : decode cX12_again 15 = .ok (.aload_n 0, 1) := by decide +kernel
theorem dX12_again_16 : decode cX12_again 16 = .ok (.iload_n 1, 1) := by decide +kernel
theorem dX12_again_17 : decode cX12_again 17 = .ok (.iload_n 2, 1) := by decide +kernel
theorem dX12_again_18 : decode cX12_again 18 = .ok (.invokevirtual 152, 3) := by decide +kernel
theorem dX12_again_21 : decode cX12_again 21 = .ok (.goto 4, 3) := by decide +kernel
theorem dX12_again_24 : decode cX12_again 24 = .ok (.iconst (-1), 1) := by decide +kernel
theorem dX12_again_25 : decode cX12_again 25 = .ok (.ireturn, 1) := by decide +kernel
theorem dX12_feed_0 : decode cX12_feed 0 = .ok (.aload_n 0, 1) := by decide +kernel
theorem dX12_feed_1 : decode cX12_feed 1 = .ok (.getfield 155, 3) := by decide +kernel
theorem dX12_feed_4 : decode cX12_feed 4 = .ok (.bipush 20, 2) := by decide +kernel
theorem dX12_feed_6 : decode cX12_feed 6 = .ok (.iadd, 1) := by decide +kernel
theorem dX12_feed_7 : decode cX12_feed 7 = .ok (.sipush 600, 3) := by decide +kernel
theorem dX12_feed_10 : decode cX12_feed 10 = .ok (.if_icmp .le 5, 3) := by decide +kernel
theorem dX12_feed_13 : decode cX12_feed 13 = .ok (.iconst (-1), 1) := by decide +kernel
theorem dX12_feed_14 : decode cX12_feed 14 = .ok (.ireturn, 1) := by decide +kernel
theorem dX12_feed_15 : decode cX12_feed 15 = .ok (.iconst 0, 1) := by decide +kernel
theorem dX12_feed_16 : decode cX12_feed 16 = .ok (.istore 6, 2) := by decide +kernel
theorem dX12_feed_18 : decode cX12_feed 18 = .ok (.iload 6, 2) := by decide +kernel
theorem dX12_feed_20 : decode cX12_feed 20 = .ok (.bipush 20, 2) := by decide +kernel
theorem dX12_feed_22 : decode cX12_feed 22 = .ok (.if_icmp .ge 93, 3) := by decide +kernel
theorem dX12_feed_25 : decode cX12_feed 25 = .ok (.iload 6, 2) := by decide +kernel
theorem dX12_feed_27 : decode cX12_feed 27 = .ok (.iconst 4, 1) := by decide +kernel
theorem dX12_feed_28 : decode cX12_feed 28 = .ok (.if_icmp .ge 7, 3) := by decide +kernel
theorem dX12_feed_31 : decode cX12_feed 31 = .ok (.iload_n 1, 1) := by decide +kernel
theorem dX12_feed_32 : decode cX12_feed 32 = .ok (.goto 39, 3) := by decide +kernel
theorem dX12_feed_35 : decode cX12_feed 35 = .ok (.iload 6, 2) := by decide +kernel
theorem dX12_feed_37 : decode cX12_feed 37 = .ok (.bipush 8, 2) := by decide +kernel
theorem dX12_feed_39 : decode cX12_feed 39 = .ok (.if_icmp .ge 7, 3) := by decide +kernel
theorem dX12_feed_42 : decode cX12_feed 42 = .ok (.iload_n 2, 1) := by decide +kernel
theorem dX12_feed_43 : decode cX12_feed 43 = .ok (.goto 28, 3) := by decide +kernel
theorem dX12_feed_46 : decode cX12_feed 46 = .ok (.iload 6, 2) := by decide +kernel
theorem dX12_feed_48 : decode cX12_feed 48 = .ok (.bipush 12, 2) := by decide +kernel
theorem dX12_feed_50 : decode cX12_feed 50 = .ok (.if_icmp .ge 7, 3) := by decide +kernel
theorem dX12_feed_53 : decode cX12_feed 53 = .ok (.iload_n 3, 1) := by decide +kernel
theorem dX12_feed_54 : decode cX12_feed 54 = .ok (.goto 17, 3) := by decide +kernel
theorem dX12_feed_57 : decode cX12_feed 57 = .ok (.iload 6, 2) := by decide +kernel
theorem dX12_feed_59 : decode cX12_feed 59 = .ok (.bipush 16, 2) := by decide +kernel
theorem dX12_feed_61 : decode cX12_feed 61 = .ok (.if_icmp .ge 8, 3) := by decide +kernel
theorem dX12_feed_64 : decode cX12_feed 64 = .ok (.iload 4, 2) := by decide +kernel
theorem dX12_feed_66 : decode cX12_feed 66 = .ok (.goto 5, 3) := by decide +kernel
theorem dX12_feed_69 : decode cX12_feed 69 = .ok (.iload 5, 2) := by decide +kernel
theorem dX12_feed_71 : decode cX12_feed 71 = .ok (.istore 7, 2) := by decide +kernel
theorem dX12_feed_73 : decode cX12_feed 73 = .ok (.aload_n 0, 1) := by decide +kernel
theorem dX12_feed_74 : decode cX12_feed 74 = .ok (.getfield 76, 3) := by decide +kernel
theorem dX12_feed_77 : decode cX12_feed 77 = .ok (.aload_n 0, 1) := by decide +kernel
theorem dX12_feed_78 : decode cX12_feed 78 = .ok (.getfield 155, 3) := by decide +kernel
theorem dX12_feed_81 : decode cX12_feed 81 = .ok (.iload 7, 2) := by decide +kernel
theorem dX12_feed_83 : decode cX12_feed 83 = .ok (.bipush 24, 2) := by decide +kernel
theorem dX12_feed_85 : decode cX12_feed 85 = .ok (.bipush 8, 2) := by decide +kernel
theorem dX12_feed_87 : decode cX12_feed 87 = .ok (.iload 6, 2) := by decide +kernel
theorem dX12_feed_89 : decode cX12_feed 89 = .ok (.iconst 4, 1) := by decide +kernel
theorem dX12_feed_90 : decode cX12_feed 90 = .ok (.irem, 1) := by decide +kernel
theorem dX12_feed_91 : decode cX12_feed 91 = .ok (.imul, 1) := by decide +kernel
theorem dX12_feed_92 : decode cX12_feed 92 = .ok (.isub, 1) := by decide +kernel
theorem dX12_feed_93 : decode cX12_feed 93 = .ok (.ishr, 1) := by decide +kernel
theorem dX12_feed_94 : decode cX12_feed 94 = .ok (.sipush 255, 3) := by decide +kernel
theorem dX12_feed_97 : decode cX12_feed 97 = .ok (.iand, 1) := by decide +kernel
theorem dX12_feed_98 : decode cX12_feed 98 = .ok (.iastore, 1) := by decide +kernel
theorem dX12_feed_99 : decode cX12_feed 99 = .ok (.aload_n 0, 1) := by decide +kernel
theorem dX12_feed_100 : decode cX12_feed 100 = .ok (.dup, 1) := by decide +kernel
theorem dX12_feed_101 : decode cX12_feed 101 = .ok (.getfield 155, 3) := by decide +kernel
theorem dX12_feed_104 : decode cX12_feed 104 = .ok (.iconst 1, 1) := by decide +kernel
theorem dX12_feed_105 : decode cX12_feed 105 = .ok (.iadd, 1) := by decide +kernel
theorem dX12_feed_106 : decode cX12_feed 106 = .ok (.putfield 155, 3) := by decide +kernel
theorem dX12_feed_109 : decode cX12_feed 109 = .ok (.iinc 6 1, 3) := by decide +kernel
theorem dX12_feed_112 : decode cX12_feed 112 = .ok (.goto (-94), 3) := by decide +kernel
theorem dX12_feed_115 : decode cX12_feed 115 = .ok (.aload_n 0, 1) := by decide +kernel
theorem dX12_feed_116 : decode cX12_feed 116 = .ok (.getfield 155, 3) := by decide +kernel
theorem dX12_feed_119 : decode cX12_feed 119 = .ok (.ireturn, 1) := by decide +kernel
theorem dX12_end_0 : decode cX12_end 0 = .ok (.iload_n 1, 1) := by decide +kernel
theorem dX12_end_1 : decode cX12_end 1 = .ok (.iconst 0, 1) := by decide +kernel
theorem dX12_end_2 : decode cX12_end 2 = .ok (.aload_n 0, 1) := by decide +kernel
theorem dX12_end_3 : decode cX12_end 3 = .ok (.getfield 155, 3) := by decide +kernel
theorem dX12_end_6 : decode cX12_end 6 = .ok (.invokestatic 86, 3) := by decide +kernel
theorem dX12_end_9 : decode cX12_end 9 = .ok (.ifCond .ne 5, 3) := by decide +kernel
theorem dX12_end_12 : decode cX12_end 12 = .ok (.iconst 0, 1) := by decide +kernel
theorem dX12_end_13 : decode cX12_end 13 = .ok (.ireturn, 1) := by decide +kernel
theorem dX12_end_14 : decode cX12_end 14 = .ok (.aload_n 0, 1) := by decide +kernel
theorem dX12_end_15 : decode cX12_end 15 = .ok (.iload_n 1, 1) := by decide +kernel
theorem dX12_end_16 : decode cX12_end 16 = .ok (.putfield 155, 3) := by decide +kernel
theorem dX12_end_19 : decode cX12_end 19 = .ok (.iconst 1, 1) := by decide +kernel
theorem dX12_end_20 : decode cX12_end 20 = .ok (.ireturn, 1) := by decide +kernel
theorem dX12_see_0 : decode cX12_see 0 = .ok (.iload_n 1, 1) := by decide +kernel
theorem dX12_see_1 : decode cX12_see 1 = .ok (.aload_n 0, 1) := by decide +kernel
theorem dX12_see_2 : decode cX12_see 2 = .ok (.getfield 155, 3) := by decide +kernel
theorem dX12_see_5 : decode cX12_see 5 = .ok (.if_icmp .ge 12, 3) := by decide +kernel
theorem dX12_see_8 : decode cX12_see 8 = .ok (.aload_n 0, 1) := by decide +kernel
theorem dX12_see_9 : decode cX12_see 9 = .ok (.getfield 76, 3) := by decide +kernel
theorem dX12_see_12 : decode cX12_see 12 = .ok (.iload_n 1, 1) := by decide +kernel
theorem dX12_see_13 : decode cX12_see 13 = .ok (.iaload, 1) := by decide +kernel
theorem dX12_see_14 : decode cX12_see 14 = .ok (.goto 4, 3) := by decide +kernel
theorem dX12_see_17 : decode cX12_see 17 = .ok (.iconst (-1), 1) := by decide +kernel
theorem dX12_see_18 : decode cX12_see 18 = .ok (.ireturn, 1) := by decide +kernel
theorem dX12_isLetter_0 : decode cX12_isLetter 0 = .ok (.iload_n 0, 1) := by decide +kernel
theorem dX12_isLetter_1 : decode cX12_isLetter 1 = .ok (.bipush 97, 2) := by decide +kernel
theorem dX12_isLetter_3 : decode cX12_isLetter 3 = .ok (.bipush 122, 2) := by decide +kernel
theorem dX12_isLetter_5 : decode cX12_isLetter 5 = .ok (.invokestatic 86, 3) := by decide +kernel
theorem dX12_isLetter_8 : decode cX12_isLetter 8 = .ok (.ifCond .ne 14, 3) := by decide +kernel
theorem dX12_isLetter_11 : decode cX12_isLetter 11 = .ok (.iload_n 0, 1) := by decide +kernel
theorem dX12_isLetter_12 : decode cX12_isLetter 12 = .ok (.bipush 65, 2) := by decide +kernel
theorem dX12_isLetter_14 : decode cX12_isLetter 14 = .ok (.bipush 90, 2) := by decide +kernel
theorem dX12_isLetter_16 : decode cX12_isLetter 16 = .ok (.invokestatic 86, 3) := by decide +kernel
theorem dX12_isLetter_19 : decode cX12_isLetter 19 = .ok (.ifCond .eq 7, 3) := by decide +kernel
theorem dX12_isLetter_22 : decode cX12_isLetter 22 = .ok (.iconst 1, 1) := by decide +kernel
theorem dX12_isLetter_23 : decode cX12_isLetter 23 = .ok (.goto 4, 3) := by decide +kernel
theorem dX12_isLetter_26 : decode cX12_isLetter 26 = .ok (.iconst 0, 1) := by decide +kernel
theorem dX12_isLetter_27 : decode cX12_isLetter 27 = .ok (.ireturn, 1) := by decide +kernel
theorem dX12_isDigit_0 : decode cX12_isDigit 0 = .ok (.iload_n 0, 1) := by decide +kernel
theorem dX12_isDigit_1 : decode cX12_isDigit 1 = .ok (.bipush 48, 2) := by decide +kernel
theorem dX12_isDigit_3 : decode cX12_isDigit 3 = .ok (.bipush 57, 2) := by decide +kernel
theorem dX12_isDigit_5 : decode cX12_isDigit 5 = .ok (.invokestatic 86, 3) := by decide +kernel
theorem dX12_isDigit_8 : decode cX12_isDigit 8 = .ok (.ireturn, 1) := by decide +kernel
theorem dX12_word_0 : decode cX12_word 0 = .ok (.lload_n 0, 1) := by decide +kernel
theorem dX12_word_1 : decode cX12_word 1 = .ok (.ldc2_w 158, 3) := by decide +kernel
theorem dX12_word_4 : decode cX12_word 4 = .ok (.lcmp, 1) := by decide +kernel
theorem dX12_word_5 : decode cX12_word 5 = .ok (.ifCond .ne 5, 3) := by decide +kernel
theorem dX12_word_8 : decode cX12_word 8 = .ok (.iconst 3, 1) := by decide +kernel
theorem dX12_word_9 : decode cX12_word 9 = .ok (.ireturn, 1) := by decide +kernel
theorem dX12_word_10 : decode cX12_word 10 = .ok (.lload_n 0, 1) := by decide +kernel
theorem dX12_word_11 : decode cX12_word 11 = .ok (.ldc2_w 160, 3) := by decide +kernel
theorem dX12_word_14 : decode cX12_word 14 = .ok (.lcmp, 1) := by decide +kernel
theorem dX12_word_15 : decode cX12_word 15 = .ok (.ifCond .ne 5, 3) := by decide +kernel
theorem dX12_word_18 : decode cX12_word 18 = .ok (.iconst 4, 1) := by decide +kernel
theorem dX12_word_19 : decode cX12_word 19 = .ok (.ireturn, 1) := by decide +kernel
theorem dX12_word_20 : decode cX12_word 20 = .ok (.lload_n 0, 1) := by decide +kernel
theorem dX12_word_21 : decode cX12_word 21 = .ok (.ldc2_w 162, 3) := by decide +kernel
theorem dX12_word_24 : decode cX12_word 24 = .ok (.lcmp, 1) := by decide +kernel
theorem dX12_word_25 : decode cX12_word 25 = .ok (.ifCond .ne 5, 3) := by decide +kernel
theorem dX12_word_28 : decode cX12_word 28 = .ok (.iconst 5, 1) := by decide +kernel
theorem dX12_word_29 : decode cX12_word 29 = .ok (.ireturn, 1) := by decide +kernel
theorem dX12_word_30 : decode cX12_word 30 = .ok (.lload_n 0, 1) := by decide +kernel
theorem dX12_word_31 : decode cX12_word 31 = .ok (.ldc2_w 164, 3) := by decide +kernel
theorem dX12_word_34 : decode cX12_word 34 = .ok (.lcmp, 1) := by decide +kernel
theorem dX12_word_35 : decode cX12_word 35 = .ok (.ifCond .ne 6, 3) := by decide +kernel
theorem dX12_word_38 : decode cX12_word 38 = .ok (.bipush 6, 2) := by decide +kernel
theorem dX12_word_40 : decode cX12_word 40 = .ok (.ireturn, 1) := by decide +kernel
theorem dX12_word_41 : decode cX12_word 41 = .ok (.lload_n 0, 1) := by decide +kernel
theorem dX12_word_42 : decode cX12_word 42 = .ok (.ldc2_w 166, 3) := by decide +kernel
theorem dX12_word_45 : decode cX12_word 45 = .ok (.lcmp, 1) := by decide +kernel
theorem dX12_word_46 : decode cX12_word 46 = .ok (.ifCond .ne 6, 3) := by decide +kernel
theorem dX12_word_49 : decode cX12_word 49 = .ok (.bipush 7, 2) := by decide +kernel
theorem dX12_word_51 : decode cX12_word 51 = .ok (.ireturn, 1) := by decide +kernel
theorem dX12_word_52 : decode cX12_word 52 = .ok (.lload_n 0, 1) := by decide +kernel
theorem dX12_word_53 : decode cX12_word 53 = .ok (.ldc2_w 168, 3) := by decide +kernel
theorem dX12_word_56 : decode cX12_word 56 = .ok (.lcmp, 1) := by decide +kernel
theorem dX12_word_57 : decode cX12_word 57 = .ok (.ifCond .ne 6, 3) := by decide +kernel
theorem dX12_word_60 : decode cX12_word 60 = .ok (.bipush 8, 2) := by decide +kernel
theorem dX12_word_62 : decode cX12_word 62 = .ok (.ireturn, 1) := by decide +kernel
theorem dX12_word_63 : decode cX12_word 63 = .ok (.lload_n 0, 1) := by decide +kernel
theorem dX12_word_64 : decode cX12_word 64 = .ok (.ldc2_w 170, 3) := by decide +kernel
theorem dX12_word_67 : decode cX12_word 67 = .ok (.lcmp, 1) := by decide +kernel
theorem dX12_word_68 : decode cX12_word 68 = .ok (.ifCond .ne 7, 3) := by decide +kernel
theorem dX12_word_71 : decode cX12_word 71 = .ok (.sipush 410, 3) := by decide +kernel
theorem dX12_word_74 : decode cX12_word 74 = .ok (.ireturn, 1) := by decide +kernel
theorem dX12_word_75 : decode cX12_word 75 = .ok (.lload_n 0, 1) := by decide +kernel
theorem dX12_word_76 : decode cX12_word 76 = .ok (.ldc2_w 172, 3) := by decide +kernel
theorem dX12_word_79 : decode cX12_word 79 = .ok (.lcmp, 1) := by decide +kernel
theorem dX12_word_80 : decode cX12_word 80 = .ok (.ifCond .ne 7, 3) := by decide +kernel
theorem dX12_word_83 : decode cX12_word 83 = .ok (.sipush 420, 3) := by decide +kernel
theorem dX12_word_86 : decode cX12_word 86 = .ok (.ireturn, 1) := by decide +kernel
theorem dX12_word_87 : decode cX12_word 87 = .ok (.lload_n 0, 1) := by decide +kernel
theorem dX12_word_88 : decode cX12_word 88 = .ok (.ldc2_w 174, 3) := by decide +kernel
theorem dX12_word_91 : decode cX12_word 91 = .ok (.lcmp, 1) := by decide +kernel
theorem dX12_word_92 : decode cX12_word 92 = .ok (.ifCond .ne 7, 3) := by decide +kernel
theorem dX12_word_95 : decode cX12_word 95 = .ok (.sipush 430, 3) := by decide +kernel
theorem dX12_word_98 : decode cX12_word 98 = .ok (.ireturn, 1) := by decide +kernel
theorem dX12_word_99 : decode cX12_word 99 = .ok (.lload_n 0, 1) := by decide +kernel
theorem dX12_word_100 : decode cX12_word 100 = .ok (.ldc2_w 176, 3) := by decide +kernel
theorem dX12_word_103 : decode cX12_word 103 = .ok (.lcmp, 1) := by decide +kernel
theorem dX12_word_104 : decode cX12_word 104 = .ok (.ifCond .ne 7, 3) := by decide +kernel
theorem dX12_word_107 : decode cX12_word 107 = .ok (.sipush 440, 3) := by decide +kernel
theorem dX12_word_110 : decode cX12_word 110 = .ok (.ireturn, 1) := by decide +kernel
theorem dX12_word_111 : decode cX12_word 111 = .ok (.lload_n 0, 1) := by decide +kernel
theorem dX12_word_112 : decode cX12_word 112 = .ok (.ldc2_w 178, 3) := by decide +kernel
theorem dX12_word_115 : decode cX12_word 115 = .ok (.lcmp, 1) := by decide +kernel
theorem dX12_word_116 : decode cX12_word 116 = .ok (.ifCond .ne 7, 3) := by decide +kernel
theorem dX12_word_119 : decode cX12_word 119 = .ok (.sipush 300, 3) := by decide +kernel
theorem dX12_word_122 : decode cX12_word 122 = .ok (.ireturn, 1) := by decide +kernel
theorem dX12_word_123 : decode cX12_word 123 = .ok (.lload_n 0, 1) := by decide +kernel
theorem dX12_word_124 : decode cX12_word 124 = .ok (.ldc2_w 180, 3) := by decide +kernel
theorem dX12_word_127 : decode cX12_word 127 = .ok (.lcmp, 1) := by decide +kernel
theorem dX12_word_128 : decode cX12_word 128 = .ok (.ifCond .ne 7, 3) := by decide +kernel
theorem dX12_word_131 : decode cX12_word 131 = .ok (.sipush 301, 3) := by decide +kernel
theorem dX12_word_134 : decode cX12_word 134 = .ok (.ireturn, 1) := by decide +kernel
theorem dX12_word_135 : decode cX12_word 135 = .ok (.lload_n 0, 1) := by decide +kernel
theorem dX12_word_136 : decode cX12_word 136 = .ok (.ldc2_w 182, 3) := by decide +kernel
theorem dX12_word_139 : decode cX12_word 139 = .ok (.lcmp, 1) := by decide +kernel
theorem dX12_word_140 : decode cX12_word 140 = .ok (.ifCond .ne 7, 3) := by decide +kernel
theorem dX12_word_143 : decode cX12_word 143 = .ok (.sipush 302, 3) := by decide +kernel
theorem dX12_word_146 : decode cX12_word 146 = .ok (.ireturn, 1) := by decide +kernel
theorem dX12_word_147 : decode cX12_word 147 = .ok (.lload_n 0, 1) := by decide +kernel
theorem dX12_word_148 : decode cX12_word 148 = .ok (.ldc2_w 184, 3) := by decide +kernel
theorem dX12_word_151 : decode cX12_word 151 = .ok (.lcmp, 1) := by decide +kernel
theorem dX12_word_152 : decode cX12_word 152 = .ok (.ifCond .ne 7, 3) := by decide +kernel
theorem dX12_word_155 : decode cX12_word 155 = .ok (.sipush 303, 3) := by decide +kernel
theorem dX12_word_158 : decode cX12_word 158 = .ok (.ireturn, 1) := by decide +kernel
theorem dX12_word_159 : decode cX12_word 159 = .ok (.lload_n 0, 1) := by decide +kernel
theorem dX12_word_160 : decode cX12_word 160 = .ok (.ldc2_w 186, 3) := by decide +kernel
theorem dX12_word_163 : decode cX12_word 163 = .ok (.lcmp, 1) := by decide +kernel
theorem dX12_word_164 : decode cX12_word 164 = .ok (.ifCond .ne 9, 3) := by decide +kernel
theorem dX12_word_167 : decode cX12_word 167 = .ok (.sipush 304, 3) := by decide +kernel
theorem dX12_word_170 : decode cX12_word 170 = .ok (.goto 4, 3) := by decide +kernel
theorem dX12_word_173 : decode cX12_word 173 = .ok (.iconst 1, 1) := by decide +kernel
theorem dX12_word_174 : decode cX12_word 174 = .ok (.ireturn, 1) := by decide +kernel
theorem dX12_next0_0 : decode cX12_next0 0 = .ok (.aload_n 0, 1) := by decide +kernel
theorem dX12_next0_1 : decode cX12_next0 1 = .ok (.aload_n 0, 1) := by decide +kernel
theorem dX12_next0_2 : decode cX12_next0 2 = .ok (.getfield 188, 3) := by decide +kernel
theorem dX12_next0_5 : decode cX12_next0 5 = .ok (.invokevirtual 191, 3) := by decide +kernel
theorem dX12_next0_8 : decode cX12_next0 8 = .ok (.bipush 32, 2) := by decide +kernel
theorem dX12_next0_10 : decode cX12_next0 10 = .ok (.if_icmp .eq 16, 3) := by decide +kernel
theorem dX12_next0_13 : decode cX12_next0 13 = .ok (.aload_n 0, 1) := by decide +kernel
theorem dX12_next0_14 : decode cX12_next0 14 = .ok (.aload_n 0, 1) := by decide +kernel
theorem dX12_next0_15 : decode cX12_next0 15 = .ok (.getfield 188, 3) := by decide +kernel
theorem dX12_next0_18 : decode cX12_next0 18 = .ok (.invokevirtual 191, 3) := by decide +kernel
theorem dX12_next0_21 : decode cX12_next0 21 = .ok (.bipush 10, 2) := by decide +kernel
theorem dX12_next0_23 : decode cX12_next0 23 = .ok (.if_icmp .ne 16, 3) := by decide +kernel
theorem dX12_next0_26 : decode cX12_next0 26 = .ok (.aload_n 0, 1) := by decide +kernel
theorem dX12_next0_27 : decode cX12_next0 27 = .ok (.dup, 1) := by decide +kernel
theorem dX12_next0_28 : decode cX12_next0 28 = .ok (.getfield 188, 3) := by decide +kernel
theorem dX12_next0_31 : decode cX12_next0 31 = .ok (.iconst 1, 1) := by decide +kernel
theorem dX12_next0_32 : decode cX12_next0 32 = .ok (.iadd, 1) := by decide +kernel
theorem dX12_next0_33 : decode cX12_next0 33 = .ok (.putfield 188, 3) := by decide +kernel
theorem dX12_next0_36 : decode cX12_next0 36 = .ok (.goto (-36), 3) := by decide +kernel
theorem dX12_next0_39 : decode cX12_next0 39 = .ok (.aload_n 0, 1) := by decide +kernel
theorem dX12_next0_40 : decode cX12_next0 40 = .ok (.aload_n 0, 1) := by decide +kernel
theorem dX12_next0_41 : decode cX12_next0 41 = .ok (.getfield 188, 3) := by decide +kernel
theorem dX12_next0_44 : decode cX12_next0 44 = .ok (.putfield 194, 3) := by decide +kernel
theorem dX12_next0_47 : decode cX12_next0 47 = .ok (.aload_n 0, 1) := by decide +kernel
theorem dX12_next0_48 : decode cX12_next0 48 = .ok (.aload_n 0, 1) := by decide +kernel
theorem dX12_next0_49 : decode cX12_next0 49 = .ok (.getfield 188, 3) := by decide +kernel
theorem dX12_next0_52 : decode cX12_next0 52 = .ok (.invokevirtual 191, 3) := by decide +kernel
theorem dX12_next0_55 : decode cX12_next0 55 = .ok (.istore_n 1, 1) := by decide +kernel
theorem dX12_next0_56 : decode cX12_next0 56 = .ok (.iconst 0, 1) := by decide +kernel
theorem dX12_next0_57 : decode cX12_next0 57 = .ok (.istore_n 2, 1) := by decide +kernel
theorem dX12_next0_58 : decode cX12_next0 58 = .ok (.iload_n 1, 1) := by decide +kernel
theorem dX12_next0_59 : decode cX12_next0 59 = .ok (.iconst (-1), 1) := by decide +kernel
theorem dX12_next0_60 : decode cX12_next0 60 = .ok (.if_icmp .ne 11, 3) := by decide +kernel
theorem dX12_next0_63 : decode cX12_next0 63 = .ok (.aload_n 0, 1) := by decide +kernel
theorem dX12_next0_64 : decode cX12_next0 64 = .ok (.iconst 0, 1) := by decide +kernel
theorem dX12_next0_65 : decode cX12_next0 65 = .ok (.putfield 197, 3) := by decide +kernel
theorem dX12_next0_68 : decode cX12_next0 68 = .ok (.goto 226, 3) := by decide +kernel
theorem dX12_next0_71 : decode cX12_next0 71 = .ok (.iload_n 1, 1) := by decide +kernel
theorem dX12_next0_72 : decode cX12_next0 72 = .ok (.invokestatic 200, 3) := by decide +kernel
theorem dX12_next0_75 : decode cX12_next0 75 = .ok (.ifCond .eq 77, 3) := by decide +kernel
theorem dX12_next0_78 : decode cX12_next0 78 = .ok (.lconst 0, 1) := by decide +kernel
theorem dX12_next0_79 : decode cX12_next0 79 = .ok (.lstore_n 3, 1) := by decide +kernel
theorem dX12_next0_80 : decode cX12_next0 80 = .ok (.aload_n 0, 1) := by decide +kernel
theorem dX12_next0_81 : decode cX12_next0 81 = .ok (.aload_n 0, 1) := by decide +kernel
theorem dX12_next0_82 : decode cX12_next0 82 = .ok (.getfield 188, 3) := by decide +kernel
theorem dX12_next0_85 : decode cX12_next0 85 = .ok (.invokevirtual 191, 3) := by decide +kernel
theorem dX12_next0_88 : decode cX12_next0 88 = .ok (.invokestatic 200, 3) := by decide +kernel
theorem dX12_next0_91 : decode cX12_next0 91 = .ok (.ifCond .eq 40, 3) := by decide +kernel
theorem dX12_next0_94 : decode cX12_next0 94 = .ok (.iload_n 2, 1) := by decide +kernel
theorem dX12_next0_95 : decode cX12_next0 95 = .ok (.bipush 7, 2) := by decide +kernel
theorem dX12_next0_97 : decode cX12_next0 97 = .ok (.if_icmp .ge 18, 3) := by decide +kernel
theorem dX12_next0_100 : decode cX12_next0 100 = .ok (.lload_n 3, 1) := by decide +kernel
theorem dX12_next0_101 : decode cX12_next0 101 = .ok (.bipush 8, 2) := by decide +kernel
theorem dX12_next0_103 : decode cX12_next0 103 = .ok (.lshl, 1) := by decide +kernel
theorem dX12_next0_104 : decode cX12_next0 104 = .ok (.aload_n 0, 1) := by decide +kernel
theorem dX12_next0_105 : decode cX12_next0 105 = .ok (.aload_n 0, 1) := by decide +kernel
theorem dX12_next0_106 : decode cX12_next0 106 = .ok (.getfield 188, 3) := by decide +kernel
theorem dX12_next0_109 : decode cX12_next0 109 = .ok (.invokevirtual 191, 3) := by decide +kernel
theorem dX12_next0_112 : decode cX12_next0 112 = .ok (.i2l, 1) := by decide +kernel
theorem dX12_next0_113 : decode cX12_next0 113 = .ok (.lor, 1) := by decide +kernel
theorem dX12_next0_114 : decode cX12_next0 114 = .ok (.lstore_n 3, 1) := by decide +kernel
theorem dX12_next0_115 : decode cX12_next0 115 = .ok (.iinc 2 1, 3) := by decide +kernel
theorem dX12_next0_118 : decode cX12_next0 118 = .ok (.aload_n 0, 1) := by decide +kernel
theorem dX12_next0_119 : decode cX12_next0 119 = .ok (.dup, 1) := by decide +kernel
theorem dX12_next0_120 : decode cX12_next0 120 = .ok (.getfield 188, 3) := by decide +kernel
theorem dX12_next0_123 : decode cX12_next0 123 = .ok (.iconst 1, 1) := by decide +kernel
theorem dX12_next0_124 : decode cX12_next0 124 = .ok (.iadd, 1) := by decide +kernel
theorem dX12_next0_125 : decode cX12_next0 125 = .ok (.putfield 188, 3) := by decide +kernel
theorem dX12_next0_128 : decode cX12_next0 128 = .ok (.goto (-48), 3) := by decide +kernel
theorem dX12_next0_131 : decode cX12_next0 131 = .ok (.aload_n 0, 1) := by decide +kernel
theorem dX12_next0_132 : decode cX12_next0 132 = .ok (.iload_n 2, 1) := by decide +kernel
theorem dX12_next0_133 : decode cX12_next0 133 = .ok (.bipush 7, 2) := by decide +kernel
theorem dX12_next0_135 : decode cX12_next0 135 = .ok (.if_icmp .ge 10, 3) := by decide +kernel
theorem dX12_next0_138 : decode cX12_next0 138 = .ok (.lload_n 3, 1) := by decide +kernel
theorem dX12_next0_139 : decode cX12_next0 139 = .ok (.invokestatic 203, 3) := by decide +kernel
theorem dX12_next0_142 : decode cX12_next0 142 = .ok (.goto 4, 3) := by decide +kernel
theorem dX12_next0_145 : decode cX12_next0 145 = .ok (.iconst 1, 1) := by decide +kernel
theorem dX12_next0_146 : decode cX12_next0 146 = .ok (.putfield 197, 3) := by decide +kernel
theorem dX12_next0_149 : decode cX12_next0 149 = .ok (.goto 145, 3) := by decide +kernel
theorem dX12_next0_152 : decode cX12_next0 152 = .ok (.iload_n 1, 1) := by decide +kernel
theorem dX12_next0_153 : decode cX12_next0 153 = .ok (.invokestatic 207, 3) := by decide +kernel
theorem dX12_next0_156 : decode cX12_next0 156 = .ok (.ifCond .eq 83, 3) := by decide +kernel
theorem dX12_next0_159 : decode cX12_next0 159 = .ok (.aload_n 0, 1) := by decide +kernel
theorem dX12_next0_160 : decode cX12_next0 160 = .ok (.iconst 0, 1) := by decide +kernel
theorem dX12_next0_161 : decode cX12_next0 161 = .ok (.putfield 210, 3) := by decide +kernel
theorem dX12_next0_164 : decode cX12_next0 164 = .ok (.aload_n 0, 1) := by decide +kernel
theorem dX12_next0_165 : decode cX12_next0 165 = .ok (.aload_n 0, 1) := by decide +kernel
theorem dX12_next0_166 : decode cX12_next0 166 = .ok (.getfield 188, 3) := by decide +kernel
theorem dX12_next0_169 : decode cX12_next0 169 = .ok (.invokevirtual 191, 3) := by decide +kernel
theorem dX12_next0_172 : decode cX12_next0 172 = .ok (.invokestatic 207, 3) := by decide +kernel
theorem dX12_next0_175 : decode cX12_next0 175 = .ok (.ifCond .eq 47, 3) := by decide +kernel
theorem dX12_next0_178 : decode cX12_next0 178 = .ok (.iload_n 2, 1) := by decide +kernel
theorem dX12_next0_179 : decode cX12_next0 179 = .ok (.iconst 4, 1) := by decide +kernel
theorem dX12_next0_180 : decode cX12_next0 180 = .ok (.if_icmp .ge 26, 3) := by decide +kernel
theorem dX12_next0_183 : decode cX12_next0 183 = .ok (.aload_n 0, 1) := by decide +kernel
theorem dX12_next0_184 : decode cX12_next0 184 = .ok (.bipush 10, 2) := by decide +kernel
theorem dX12_next0_186 : decode cX12_next0 186 = .ok (.aload_n 0, 1) := by decide +kernel
theorem dX12_next0_187 : decode cX12_next0 187 = .ok (.getfield 210, 3) := by decide +kernel
theorem dX12_next0_190 : decode cX12_next0 190 = .ok (.imul, 1) := by decide +kernel
theorem dX12_next0_191 : decode cX12_next0 191 = .ok (.aload_n 0, 1) := by decide +kernel
theorem dX12_next0_192 : decode cX12_next0 192 = .ok (.aload_n 0, 1) := by decide +kernel
theorem dX12_next0_193 : decode cX12_next0 193 = .ok (.getfield 188, 3) := by decide +kernel
theorem dX12_next0_196 : decode cX12_next0 196 = .ok (.invokevirtual 191, 3) := by decide +kernel
theorem dX12_next0_199 : decode cX12_next0 199 = .ok (.iadd, 1) := by decide +kernel
theorem dX12_next0_200 : decode cX12_next0 200 = .ok (.bipush 48, 2) := by decide +kernel
theorem dX12_next0_202 : decode cX12_next0 202 = .ok (.isub, 1) := by decide +kernel
theorem dX12_next0_203 : decode cX12_next0 203 = .ok (.putfield 210, 3) := by decide +kernel
theorem dX12_next0_206 : decode cX12_next0 206 = .ok (.iinc 2 1, 3) := by decide +kernel
theorem dX12_next0_209 : decode cX12_next0 209 = .ok (.aload_n 0, 1) := by decide +kernel
theorem dX12_next0_210 : decode cX12_next0 210 = .ok (.dup, 1) := by decide +kernel
theorem dX12_next0_211 : decode cX12_next0 211 = .ok (.getfield 188, 3) := by decide +kernel
theorem dX12_next0_214 : decode cX12_next0 214 = .ok (.iconst 1, 1) := by decide +kernel
theorem dX12_next0_215 : decode cX12_next0 215 = .ok (.iadd, 1) := by decide +kernel
theorem dX12_next0_216 : decode cX12_next0 216 = .ok (.putfield 188, 3) := by decide +kernel
theorem dX12_next0_219 : decode cX12_next0 219 = .ok (.goto (-55), 3) := by decide +kernel
theorem dX12_next0_222 : decode cX12_next0 222 = .ok (.aload_n 0, 1) := by decide +kernel
theorem dX12_next0_223 : decode cX12_next0 223 = .ok (.iload_n 2, 1) := by decide +kernel
theorem dX12_next0_224 : decode cX12_next0 224 = .ok (.iconst 5, 1) := by decide +kernel
theorem dX12_next0_225 : decode cX12_next0 225 = .ok (.if_icmp .ge 7, 3) := by decide +kernel
theorem dX12_next0_228 : decode cX12_next0 228 = .ok (.iconst 2, 1) := by decide +kernel
theorem dX12_next0_229 : decode cX12_next0 229 = .ok (.goto 4, 3) := by decide +kernel
theorem dX12_next0_232 : decode cX12_next0 232 = .ok (.iconst 1, 1) := by decide +kernel
theorem dX12_next0_233 : decode cX12_next0 233 = .ok (.putfield 197, 3) := by decide +kernel
theorem dX12_next0_236 : decode cX12_next0 236 = .ok (.goto 58, 3) := by decide +kernel
theorem dX12_next0_239 : decode cX12_next0 239 = .ok (.aload_n 0, 1) := by decide +kernel
theorem dX12_next0_240 : decode cX12_next0 240 = .ok (.dup, 1) := by decide +kernel
theorem dX12_next0_241 : decode cX12_next0 241 = .ok (.getfield 188, 3) := by decide +kernel
theorem dX12_next0_244 : decode cX12_next0 244 = .ok (.iconst 1, 1) := by decide +kernel
theorem dX12_next0_245 : decode cX12_next0 245 = .ok (.iadd, 1) := by decide +kernel
theorem dX12_next0_246 : decode cX12_next0 246 = .ok (.putfield 188, 3) := by decide +kernel
theorem dX12_next0_249 : decode cX12_next0 249 = .ok (.aload_n 0, 1) := by decide +kernel
theorem dX12_next0_250 : decode cX12_next0 250 = .ok (.iload_n 1, 1) := by decide +kernel
theorem dX12_next0_251 : decode cX12_next0 251 = .ok (.bipush 59, 2) := by decide +kernel
theorem dX12_next0_253 : decode cX12_next0 253 = .ok (.if_icmp .eq 33, 3) := by decide +kernel
theorem dX12_next0_256 : decode cX12_next0 256 = .ok (.iload_n 1, 1) := by decide +kernel
theorem dX12_next0_257 : decode cX12_next0 257 = .ok (.bipush 40, 2) := by decide +kernel
theorem dX12_next0_259 : decode cX12_next0 259 = .ok (.if_icmp .eq 27, 3) := by decide +kernel
theorem dX12_next0_262 : decode cX12_next0 262 = .ok (.iload_n 1, 1) := by decide +kernel
theorem dX12_next0_263 : decode cX12_next0 263 = .ok (.bipush 41, 2) := by decide +kernel
theorem dX12_next0_265 : decode cX12_next0 265 = .ok (.if_icmp .eq 21, 3) := by decide +kernel
theorem dX12_next0_268 : decode cX12_next0 268 = .ok (.iload_n 1, 1) := by decide +kernel
theorem dX12_next0_269 : decode cX12_next0 269 = .ok (.bipush 60, 2) := by decide +kernel
theorem dX12_next0_271 : decode cX12_next0 271 = .ok (.if_icmp .eq 15, 3) := by decide +kernel
theorem dX12_next0_274 : decode cX12_next0 274 = .ok (.iload_n 1, 1) := by decide +kernel
theorem dX12_next0_275 : decode cX12_next0 275 = .ok (.bipush 61, 2) := by decide +kernel
theorem dX12_next0_277 : decode cX12_next0 277 = .ok (.if_icmp .eq 9, 3) := by decide +kernel
theorem dX12_next0_280 : decode cX12_next0 280 = .ok (.iload_n 1, 1) := by decide +kernel
theorem dX12_next0_281 : decode cX12_next0 281 = .ok (.bipush 62, 2) := by decide +kernel
theorem dX12_next0_283 : decode cX12_next0 283 = .ok (.if_icmp .ne 7, 3) := by decide +kernel
theorem dX12_next0_286 : decode cX12_next0 286 = .ok (.iload_n 1, 1) := by decide +kernel
theorem dX12_next0_287 : decode cX12_next0 287 = .ok (.goto 4, 3) := by decide +kernel
theorem dX12_next0_290 : decode cX12_next0 290 = .ok (.iconst 1, 1) := by decide +kernel
theorem dX12_next0_291 : decode cX12_next0 291 = .ok (.putfield 197, 3) := by decide +kernel
theorem dX12_next0_294 : decode cX12_next0 294 = .ok (.return_, 1) := by decide +kernel
theorem dX12_bad_0 : decode cX12_bad 0 = .ok (.aload_n 0, 1) := by decide +kernel
theorem dX12_bad_1 : decode cX12_bad 1 = .ok (.iload_n 1, 1) := by decide +kernel
theorem dX12_bad_2 : decode cX12_bad 2 = .ok (.putfield 213, 3) := by decide +kernel
theorem dX12_bad_5 : decode cX12_bad 5 = .ok (.aload_n 0, 1) := by decide +kernel
theorem dX12_bad_6 : decode cX12_bad 6 = .ok (.aload_n 0, 1) := by decide +kernel
theorem dX12_bad_7 : decode cX12_bad 7 = .ok (.getfield 194, 3) := by decide +kernel
theorem dX12_bad_10 : decode cX12_bad 10 = .ok (.putfield 216, 3) := by decide +kernel
theorem dX12_bad_13 : decode cX12_bad 13 = .ok (.iconst 0, 1) := by decide +kernel
theorem dX12_bad_14 : decode cX12_bad 14 = .ok (.ireturn, 1) := by decide +kernel
theorem dX12_need_0 : decode cX12_need 0 = .ok (.aload_n 0, 1) := by decide +kernel
theorem dX12_need_1 : decode cX12_need 1 = .ok (.getfield 197, 3) := by decide +kernel
theorem dX12_need_4 : decode cX12_need 4 = .ok (.iload_n 1, 1) := by decide +kernel
theorem dX12_need_5 : decode cX12_need 5 = .ok (.if_icmp .eq 9, 3) := by decide +kernel
theorem dX12_need_8 : decode cX12_need 8 = .ok (.aload_n 0, 1) := by decide +kernel
theorem dX12_need_9 : decode cX12_need 9 = .ok (.iconst 1, 1) := by decide +kernel
theorem dX12_need_10 : decode cX12_need 10 = .ok (.invokevirtual 219, 3) := by decide +kernel
theorem dX12_need_13 : decode cX12_need 13 = .ok (.ireturn, 1) := by decide +kernel
theorem dX12_need_14 : decode cX12_need 14 = .ok (.aload_n 0, 1) := by decide +kernel
theorem dX12_need_15 : decode cX12_need 15 = .ok (.invokevirtual 222, 3) := by decide +kernel
theorem dX12_need_18 : decode cX12_need 18 = .ok (.iconst 1, 1) := by decide +kernel
theorem dX12_need_19 : decode cX12_need 19 = .ok (.ireturn, 1) := by decide +kernel
theorem dX12_lay_0 : decode cX12_lay 0 = .ok (.aload_n 0, 1) := by decide +kernel
theorem dX12_lay_1 : decode cX12_lay 1 = .ok (.getfield 70, 3) := by decide +kernel
theorem dX12_lay_4 : decode cX12_lay 4 = .ok (.aload_n 0, 1) := by decide +kernel
theorem dX12_lay_5 : decode cX12_lay 5 = .ok (.getfield 225, 3) := by decide +kernel
theorem dX12_lay_8 : decode cX12_lay 8 = .ok (.iload_n 1, 1) := by decide +kernel
theorem dX12_lay_9 : decode cX12_lay 9 = .ok (.iastore, 1) := by decide +kernel
theorem dX12_lay_10 : decode cX12_lay 10 = .ok (.aload_n 0, 1) := by decide +kernel
theorem dX12_lay_11 : decode cX12_lay 11 = .ok (.dup, 1) := by decide +kernel
theorem dX12_lay_12 : decode cX12_lay 12 = .ok (.getfield 225, 3) := by decide +kernel
theorem dX12_lay_15 : decode cX12_lay 15 = .ok (.iconst 1, 1) := by decide +kernel
theorem dX12_lay_16 : decode cX12_lay 16 = .ok (.iadd, 1) := by decide +kernel
theorem dX12_lay_17 : decode cX12_lay 17 = .ok (.putfield 225, 3) := by decide +kernel
theorem dX12_lay_20 : decode cX12_lay 20 = .ok (.return_, 1) := by decide +kernel
theorem dX12_opens_0 : decode cX12_opens 0 = .ok (.aload_n 0, 1) := by decide +kernel
theorem dX12_opens_1 : decode cX12_opens 1 = .ok (.getfield 228, 3) := by decide +kernel
theorem dX12_opens_4 : decode cX12_opens 4 = .ok (.bipush 8, 2) := by decide +kernel
theorem dX12_opens_6 : decode cX12_opens 6 = .ok (.if_icmp .ne 9, 3) := by decide +kernel
theorem dX12_opens_9 : decode cX12_opens 9 = .ok (.aload_n 0, 1) := by decide +kernel
theorem dX12_opens_10 : decode cX12_opens 10 = .ok (.iconst 2, 1) := by decide +kernel
theorem dX12_opens_11 : decode cX12_opens 11 = .ok (.invokevirtual 219, 3) := by decide +kernel
theorem dX12_opens_14 : decode cX12_opens 14 = .ok (.ireturn, 1) := by decide +kernel
theorem dX12_opens_15 : decode cX12_opens 15 = .ok (.aload_n 0, 1) := by decide +kernel
theorem dX12_opens_16 : decode cX12_opens 16 = .ok (.dup, 1) := by decide +kernel
theorem dX12_opens_17 : decode cX12_opens 17 = .ok (.getfield 228, 3) := by decide +kernel
theorem dX12_opens_20 : decode cX12_opens 20 = .ok (.iconst 1, 1) := by decide +kernel
theorem dX12_opens_21 : decode cX12_opens 21 = .ok (.iadd, 1) := by decide +kernel
theorem dX12_opens_22 : decode cX12_opens 22 = .ok (.putfield 228, 3) := by decide +kernel
theorem dX12_opens_25 : decode cX12_opens 25 = .ok (.aload_n 0, 1) := by decide +kernel
theorem dX12_opens_26 : decode cX12_opens 26 = .ok (.invokevirtual 222, 3) := by decide +kernel
theorem dX12_opens_29 : decode cX12_opens 29 = .ok (.iconst 1, 1) := by decide +kernel
theorem dX12_opens_30 : decode cX12_opens 30 = .ok (.ireturn, 1) := by decide +kernel
theorem dX12_any_0 : decode cX12_any 0 = .ok (.aload_n 0, 1) := by decide +kernel
theorem dX12_any_1 : decode cX12_any 1 = .ok (.invokevirtual 231, 3) := by decide +kernel
theorem dX12_any_4 : decode cX12_any 4 = .ok (.ifCond .ne 5, 3) := by decide +kernel
theorem dX12_any_7 : decode cX12_any 7 = .ok (.iconst 0, 1) := by decide +kernel
theorem dX12_any_8 : decode cX12_any 8 = .ok (.ireturn, 1) := by decide +kernel
theorem dX12_any_9 : decode cX12_any 9 = .ok (.aload_n 0, 1) := by decide +kernel
theorem dX12_any_10 : decode cX12_any 10 = .ok (.getfield 197, 3) := by decide +kernel
theorem dX12_any_13 : decode cX12_any 13 = .ok (.iconst 4, 1) := by decide +kernel
theorem dX12_any_14 : decode cX12_any 14 = .ok (.if_icmp .ne 26, 3) := by decide +kernel
theorem dX12_any_17 : decode cX12_any 17 = .ok (.aload_n 0, 1) := by decide +kernel
theorem dX12_any_18 : decode cX12_any 18 = .ok (.invokevirtual 222, 3) := by decide +kernel
theorem dX12_any_21 : decode cX12_any 21 = .ok (.aload_n 0, 1) := by decide +kernel
theorem dX12_any_22 : decode cX12_any 22 = .ok (.invokevirtual 231, 3) := by decide +kernel
theorem dX12_any_25 : decode cX12_any 25 = .ok (.ifCond .ne 5, 3) := by decide +kernel
theorem dX12_any_28 : decode cX12_any 28 = .ok (.iconst 0, 1) := by decide +kernel
theorem dX12_any_29 : decode cX12_any 29 = .ok (.ireturn, 1) := by decide +kernel
theorem dX12_any_30 : decode cX12_any 30 = .ok (.aload_n 0, 1) := by decide +kernel
theorem dX12_any_31 : decode cX12_any 31 = .ok (.sipush 20005, 3) := by decide +kernel
theorem dX12_any_34 : decode cX12_any 34 = .ok (.invokevirtual 235, 3) := by decide +kernel
theorem dX12_any_37 : decode cX12_any 37 = .ok (.goto (-28), 3) := by decide +kernel
theorem dX12_any_40 : decode cX12_any 40 = .ok (.iconst 1, 1) := by decide +kernel
theorem dX12_any_41 : decode cX12_any 41 = .ok (.ireturn, 1) := by decide +kernel
theorem dX12_all_0 : decode cX12_all 0 = .ok (.aload_n 0, 1) := by decide +kernel
theorem dX12_all_1 : decode cX12_all 1 = .ok (.invokevirtual 239, 3) := by decide +kernel
theorem dX12_all_4 : decode cX12_all 4 = .ok (.ifCond .ne 5, 3) := by decide +kernel
theorem dX12_all_7 : decode cX12_all 7 = .ok (.iconst 0, 1) := by decide +kernel
theorem dX12_all_8 : decode cX12_all 8 = .ok (.ireturn, 1) := by decide +kernel
theorem dX12_all_9 : decode cX12_all 9 = .ok (.aload_n 0, 1) := by decide +kernel
theorem dX12_all_10 : decode cX12_all 10 = .ok (.getfield 197, 3) := by decide +kernel
theorem dX12_all_13 : decode cX12_all 13 = .ok (.iconst 5, 1) := by decide +kernel
theorem dX12_all_14 : decode cX12_all 14 = .ok (.if_icmp .ne 26, 3) := by decide +kernel
theorem dX12_all_17 : decode cX12_all 17 = .ok (.aload_n 0, 1) := by decide +kernel
theorem dX12_all_18 : decode cX12_all 18 = .ok (.invokevirtual 222, 3) := by decide +kernel
theorem dX12_all_21 : decode cX12_all 21 = .ok (.aload_n 0, 1) := by decide +kernel
theorem dX12_all_22 : decode cX12_all 22 = .ok (.invokevirtual 239, 3) := by decide +kernel
theorem dX12_all_25 : decode cX12_all 25 = .ok (.ifCond .ne 5, 3) := by decide +kernel
theorem dX12_all_28 : decode cX12_all 28 = .ok (.iconst 0, 1) := by decide +kernel
theorem dX12_all_29 : decode cX12_all 29 = .ok (.ireturn, 1) := by decide +kernel
theorem dX12_all_30 : decode cX12_all 30 = .ok (.aload_n 0, 1) := by decide +kernel
theorem dX12_all_31 : decode cX12_all 31 = .ok (.sipush 20004, 3) := by decide +kernel
theorem dX12_all_34 : decode cX12_all 34 = .ok (.invokevirtual 235, 3) := by decide +kernel
theorem dX12_all_37 : decode cX12_all 37 = .ok (.goto (-28), 3) := by decide +kernel
theorem dX12_all_40 : decode cX12_all 40 = .ok (.iconst 1, 1) := by decide +kernel
theorem dX12_all_41 : decode cX12_all 41 = .ok (.ireturn, 1) := by decide +kernel
theorem dX12_one_0 : decode cX12_one 0 = .ok (.aload_n 0, 1) := by decide +kernel
theorem dX12_one_1 : decode cX12_one 1 = .ok (.getfield 197, 3) := by decide +kernel
theorem dX12_one_4 : decode cX12_one 4 = .ok (.bipush 6, 2) := by decide +kernel
theorem dX12_one_6 : decode cX12_one 6 = .ok (.if_icmp .ne 38, 3) := by decide +kernel
theorem dX12_one_9 : decode cX12_one 9 = .ok (.aload_n 0, 1) := by decide +kernel
theorem dX12_one_10 : decode cX12_one 10 = .ok (.invokevirtual 242, 3) := by decide +kernel
theorem dX12_one_13 : decode cX12_one 13 = .ok (.ifCond .eq 10, 3) := by decide +kernel
theorem dX12_one_16 : decode cX12_one 16 = .ok (.aload_n 0, 1) := by decide +kernel
theorem dX12_one_17 : decode cX12_one 17 = .ok (.invokevirtual 239, 3) := by decide +kernel
theorem dX12_one_20 : decode cX12_one 20 = .ok (.ifCond .ne 5, 3) := by decide +kernel
theorem dX12_one_23 : decode cX12_one 23 = .ok (.iconst 0, 1) := by decide +kernel
theorem dX12_one_24 : decode cX12_one 24 = .ok (.ireturn, 1) := by decide +kernel
theorem dX12_one_25 : decode cX12_one 25 = .ok (.aload_n 0, 1) := by decide +kernel
theorem dX12_one_26 : decode cX12_one 26 = .ok (.dup, 1) := by decide +kernel
theorem dX12_one_27 : decode cX12_one 27 = .ok (.getfield 228, 3) := by decide +kernel
theorem dX12_one_30 : decode cX12_one 30 = .ok (.iconst 1, 1) := by decide +kernel
theorem dX12_one_31 : decode cX12_one 31 = .ok (.isub, 1) := by decide +kernel
theorem dX12_one_32 : decode cX12_one 32 = .ok (.putfield 228, 3) := by decide +kernel
theorem dX12_one_35 : decode cX12_one 35 = .ok (.aload_n 0, 1) := by decide +kernel
theorem dX12_one_36 : decode cX12_one 36 = .ok (.sipush 20003, 3) := by decide +kernel
theorem dX12_one_39 : decode cX12_one 39 = .ok (.invokevirtual 235, 3) := by decide +kernel
theorem dX12_one_42 : decode cX12_one 42 = .ok (.iconst 1, 1) := by decide +kernel
theorem dX12_one_43 : decode cX12_one 43 = .ok (.ireturn, 1) := by decide +kernel
theorem dX12_one_44 : decode cX12_one 44 = .ok (.aload_n 0, 1) := by decide +kernel
theorem dX12_one_45 : decode cX12_one 45 = .ok (.getfield 197, 3) := by decide +kernel
theorem dX12_one_48 : decode cX12_one 48 = .ok (.bipush 40, 2) := by decide +kernel
theorem dX12_one_50 : decode cX12_one 50 = .ok (.if_icmp .ne 40, 3) := by decide +kernel
theorem dX12_one_53 : decode cX12_one 53 = .ok (.aload_n 0, 1) := by decide +kernel
theorem dX12_one_54 : decode cX12_one 54 = .ok (.invokevirtual 242, 3) := by decide +kernel
theorem dX12_one_57 : decode cX12_one 57 = .ok (.ifCond .eq 19, 3) := by decide +kernel
theorem dX12_one_60 : decode cX12_one 60 = .ok (.aload_n 0, 1) := by decide +kernel
theorem dX12_one_61 : decode cX12_one 61 = .ok (.invokevirtual 245, 3) := by decide +kernel
theorem dX12_one_64 : decode cX12_one 64 = .ok (.ifCond .eq 12, 3) := by decide +kernel
theorem dX12_one_67 : decode cX12_one 67 = .ok (.aload_n 0, 1) := by decide +kernel
theorem dX12_one_68 : decode cX12_one 68 = .ok (.bipush 41, 2) := by decide +kernel
theorem dX12_one_70 : decode cX12_one 70 = .ok (.invokevirtual 248, 3) := by decide +kernel
theorem dX12_one_73 : decode cX12_one 73 = .ok (.ifCond .ne 5, 3) := by decide +kernel
theorem dX12_one_76 : decode cX12_one 76 = .ok (.iconst 0, 1) := by decide +kernel
theorem dX12_one_77 : decode cX12_one 77 = .ok (.ireturn, 1) := by decide +kernel
theorem dX12_one_78 : decode cX12_one 78 = .ok (.aload_n 0, 1) := by decide +kernel
theorem dX12_one_79 : decode cX12_one 79 = .ok (.dup, 1) := by decide +kernel
theorem dX12_one_80 : decode cX12_one 80 = .ok (.getfield 228, 3) := by decide +kernel
theorem dX12_one_83 : decode cX12_one 83 = .ok (.iconst 1, 1) := by decide +kernel
theorem dX12_one_84 : decode cX12_one 84 = .ok (.isub, 1) := by decide +kernel
theorem dX12_one_85 : decode cX12_one 85 = .ok (.putfield 228, 3) := by decide +kernel
theorem dX12_one_88 : decode cX12_one 88 = .ok (.iconst 1, 1) := by decide +kernel
theorem dX12_one_89 : decode cX12_one 89 = .ok (.ireturn, 1) := by decide +kernel
theorem dX12_one_90 : decode cX12_one 90 = .ok (.aload_n 0, 1) := by decide +kernel
theorem dX12_one_91 : decode cX12_one 91 = .ok (.invokevirtual 251, 3) := by decide +kernel
theorem dX12_one_94 : decode cX12_one 94 = .ok (.ifCond .ne 5, 3) := by decide +kernel
theorem dX12_one_97 : decode cX12_one 97 = .ok (.iconst 0, 1) := by decide +kernel
theorem dX12_one_98 : decode cX12_one 98 = .ok (.ireturn, 1) := by decide +kernel
theorem dX12_one_99 : decode cX12_one 99 = .ok (.aload_n 0, 1) := by decide +kernel
theorem dX12_one_100 : decode cX12_one 100 = .ok (.getfield 197, 3) := by decide +kernel
theorem dX12_one_103 : decode cX12_one 103 = .ok (.bipush 60, 2) := by decide +kernel
theorem dX12_one_105 : decode cX12_one 105 = .ok (.if_icmp .ne 9, 3) := by decide +kernel
theorem dX12_one_108 : decode cX12_one 108 = .ok (.sipush 20000, 3) := by decide +kernel
theorem dX12_one_111 : decode cX12_one 111 = .ok (.goto 34, 3) := by decide +kernel
theorem dX12_one_114 : decode cX12_one 114 = .ok (.aload_n 0, 1) := by decide +kernel
theorem dX12_one_115 : decode cX12_one 115 = .ok (.getfield 197, 3) := by decide +kernel
theorem dX12_one_118 : decode cX12_one 118 = .ok (.bipush 61, 2) := by decide +kernel
theorem dX12_one_120 : decode cX12_one 120 = .ok (.if_icmp .ne 9, 3) := by decide +kernel
theorem dX12_one_123 : decode cX12_one 123 = .ok (.sipush 20001, 3) := by decide +kernel
theorem dX12_one_126 : decode cX12_one 126 = .ok (.goto 19, 3) := by decide +kernel
theorem dX12_one_129 : decode cX12_one 129 = .ok (.aload_n 0, 1) := by decide +kernel
theorem dX12_one_130 : decode cX12_one 130 = .ok (.getfield 197, 3) := by decide +kernel
theorem dX12_one_133 : decode cX12_one 133 = .ok (.bipush 62, 2) := by decide +kernel
theorem dX12_one_135 : decode cX12_one 135 = .ok (.if_icmp .ne 9, 3) := by decide +kernel
theorem dX12_one_138 : decode cX12_one 138 = .ok (.sipush 20002, 3) := by decide +kernel
theorem dX12_one_141 : decode cX12_one 141 = .ok (.goto 4, 3) := by decide +kernel
theorem dX12_one_144 : decode cX12_one 144 = .ok (.iconst (-1), 1) := by decide +kernel
theorem dX12_one_145 : decode cX12_one 145 = .ok (.istore_n 1, 1) := by decide +kernel
theorem dX12_one_146 : decode cX12_one 146 = .ok (.iload_n 1, 1) := by decide +kernel
theorem dX12_one_147 : decode cX12_one 147 = .ok (.iconst (-1), 1) := by decide +kernel
theorem dX12_one_148 : decode cX12_one 148 = .ok (.if_icmp .ne 9, 3) := by decide +kernel
theorem dX12_one_151 : decode cX12_one 151 = .ok (.aload_n 0, 1) := by decide +kernel
theorem dX12_one_152 : decode cX12_one 152 = .ok (.iconst 1, 1) := by decide +kernel
theorem dX12_one_153 : decode cX12_one 153 = .ok (.invokevirtual 219, 3) := by decide +kernel
theorem dX12_one_156 : decode cX12_one 156 = .ok (.ireturn, 1) := by decide +kernel
theorem dX12_one_157 : decode cX12_one 157 = .ok (.aload_n 0, 1) := by decide +kernel
theorem dX12_one_158 : decode cX12_one 158 = .ok (.invokevirtual 222, 3) := by decide +kernel
theorem dX12_one_161 : decode cX12_one 161 = .ok (.aload_n 0, 1) := by decide +kernel
theorem dX12_one_162 : decode cX12_one 162 = .ok (.invokevirtual 251, 3) := by decide +kernel
theorem dX12_one_165 : decode cX12_one 165 = .ok (.ifCond .ne 5, 3) := by decide +kernel
theorem dX12_one_168 : decode cX12_one 168 = .ok (.iconst 0, 1) := by decide +kernel
theorem dX12_one_169 : decode cX12_one 169 = .ok (.ireturn, 1) := by decide +kernel
theorem dX12_one_170 : decode cX12_one 170 = .ok (.aload_n 0, 1) := by decide +kernel
theorem dX12_one_171 : decode cX12_one 171 = .ok (.iload_n 1, 1) := by decide +kernel
theorem dX12_one_172 : decode cX12_one 172 = .ok (.invokevirtual 235, 3) := by decide +kernel
theorem dX12_one_175 : decode cX12_one 175 = .ok (.iconst 1, 1) := by decide +kernel
theorem dX12_one_176 : decode cX12_one 176 = .ok (.ireturn, 1) := by decide +kernel
theorem dX12_term_0 : decode cX12_term 0 = .ok (.aload_n 0, 1) := by decide +kernel
theorem dX12_term_1 : decode cX12_term 1 = .ok (.getfield 197, 3) := by decide +kernel
theorem dX12_term_4 : decode cX12_term 4 = .ok (.istore_n 1, 1) := by decide +kernel
theorem dX12_term_5 : decode cX12_term 5 = .ok (.iload_n 1, 1) := by decide +kernel
theorem dX12_term_6 : decode cX12_term 6 = .ok (.iconst 2, 1) := by decide +kernel
theorem dX12_term_7 : decode cX12_term 7 = .ok (.if_icmp .ne 14, 3) := by decide +kernel
theorem dX12_term_10 : decode cX12_term 10 = .ok (.aload_n 0, 1) := by decide +kernel
theorem dX12_term_11 : decode cX12_term 11 = .ok (.aload_n 0, 1) := by decide +kernel
theorem dX12_term_12 : decode cX12_term 12 = .ok (.getfield 210, 3) := by decide +kernel
theorem dX12_term_15 : decode cX12_term 15 = .ok (.invokevirtual 235, 3) := by decide +kernel
theorem dX12_term_18 : decode cX12_term 18 = .ok (.goto 48, 3) := by decide +kernel
theorem dX12_term_21 : decode cX12_term 21 = .ok (.iload_n 1, 1) := by decide +kernel
theorem dX12_term_22 : decode cX12_term 22 = .ok (.bipush 7, 2) := by decide +kernel
theorem dX12_term_24 : decode cX12_term 24 = .ok (.if_icmp .ne 13, 3) := by decide +kernel
theorem dX12_term_27 : decode cX12_term 27 = .ok (.aload_n 0, 1) := by decide +kernel
theorem dX12_term_28 : decode cX12_term 28 = .ok (.sipush 10001, 3) := by decide +kernel
theorem dX12_term_31 : decode cX12_term 31 = .ok (.invokevirtual 235, 3) := by decide +kernel
theorem dX12_term_34 : decode cX12_term 34 = .ok (.goto 32, 3) := by decide +kernel
theorem dX12_term_37 : decode cX12_term 37 = .ok (.iload_n 1, 1) := by decide +kernel
theorem dX12_term_38 : decode cX12_term 38 = .ok (.bipush 8, 2) := by decide +kernel
theorem dX12_term_40 : decode cX12_term 40 = .ok (.if_icmp .ne 13, 3) := by decide +kernel
theorem dX12_term_43 : decode cX12_term 43 = .ok (.aload_n 0, 1) := by decide +kernel
theorem dX12_term_44 : decode cX12_term 44 = .ok (.sipush 10002, 3) := by decide +kernel
theorem dX12_term_47 : decode cX12_term 47 = .ok (.invokevirtual 235, 3) := by decide +kernel
theorem dX12_term_50 : decode cX12_term 50 = .ok (.goto 16, 3) := by decide +kernel
theorem dX12_term_53 : decode cX12_term 53 = .ok (.iload_n 1, 1) := by decide +kernel
theorem dX12_term_54 : decode cX12_term 54 = .ok (.sipush 400, 3) := by decide +kernel
theorem dX12_term_57 : decode cX12_term 57 = .ok (.if_icmp .ge 9, 3) := by decide +kernel
theorem dX12_term_60 : decode cX12_term 60 = .ok (.aload_n 0, 1) := by decide +kernel
theorem dX12_term_61 : decode cX12_term 61 = .ok (.iconst 1, 1) := by decide +kernel
theorem dX12_term_62 : decode cX12_term 62 = .ok (.invokevirtual 219, 3) := by decide +kernel
theorem dX12_term_65 : decode cX12_term 65 = .ok (.ireturn, 1) := by decide +kernel
theorem dX12_term_66 : decode cX12_term 66 = .ok (.aload_n 0, 1) := by decide +kernel
theorem dX12_term_67 : decode cX12_term 67 = .ok (.invokevirtual 222, 3) := by decide +kernel
theorem dX12_term_70 : decode cX12_term 70 = .ok (.iload_n 1, 1) := by decide +kernel
theorem dX12_term_71 : decode cX12_term 71 = .ok (.sipush 400, 3) := by decide +kernel
theorem dX12_term_74 : decode cX12_term 74 = .ok (.if_icmp .ge 5, 3) := by decide +kernel
theorem dX12_term_77 : decode cX12_term 77 = .ok (.iconst 1, 1) := by decide +kernel
theorem dX12_term_78 : decode cX12_term 78 = .ok (.ireturn, 1) := by decide +kernel
theorem dX12_term_79 : decode cX12_term 79 = .ok (.aload_n 0, 1) := by decide +kernel
theorem dX12_term_80 : decode cX12_term 80 = .ok (.getfield 197, 3) := by decide +kernel
theorem dX12_term_83 : decode cX12_term 83 = .ok (.sipush 300, 3) := by decide +kernel
theorem dX12_term_86 : decode cX12_term 86 = .ok (.sipush 304, 3) := by decide +kernel
theorem dX12_term_89 : decode cX12_term 89 = .ok (.invokestatic 86, 3) := by decide +kernel
theorem dX12_term_92 : decode cX12_term 92 = .ok (.ifCond .ne 9, 3) := by decide +kernel
theorem dX12_term_95 : decode cX12_term 95 = .ok (.aload_n 0, 1) := by decide +kernel
theorem dX12_term_96 : decode cX12_term 96 = .ok (.iconst 1, 1) := by decide +kernel
theorem dX12_term_97 : decode cX12_term 97 = .ok (.invokevirtual 219, 3) := by decide +kernel
theorem dX12_term_100 : decode cX12_term 100 = .ok (.ireturn, 1) := by decide +kernel
theorem dX12_term_101 : decode cX12_term 101 = .ok (.aload_n 0, 1) := by decide +kernel
theorem dX12_term_102 : decode cX12_term 102 = .ok (.sipush 10000, 3) := by decide +kernel
theorem dX12_term_105 : decode cX12_term 105 = .ok (.iload_n 1, 1) := by decide +kernel
theorem dX12_term_106 : decode cX12_term 106 = .ok (.iadd, 1) := by decide +kernel
theorem dX12_term_107 : decode cX12_term 107 = .ok (.sipush 400, 3) := by decide +kernel
theorem dX12_term_110 : decode cX12_term 110 = .ok (.isub, 1) := by decide +kernel
theorem dX12_term_111 : decode cX12_term 111 = .ok (.aload_n 0, 1) := by decide +kernel
theorem dX12_term_112 : decode cX12_term 112 = .ok (.getfield 197, 3) := by decide +kernel
theorem dX12_term_115 : decode cX12_term 115 = .ok (.iadd, 1) := by decide +kernel
theorem dX12_term_116 : decode cX12_term 116 = .ok (.sipush 300, 3) := by decide +kernel
theorem dX12_term_119 : decode cX12_term 119 = .ok (.isub, 1) := by decide +kernel
theorem dX12_term_120 : decode cX12_term 120 = .ok (.invokevirtual 235, 3) := by decide +kernel
theorem dX12_term_123 : decode cX12_term 123 = .ok (.aload_n 0, 1) := by decide +kernel
theorem dX12_term_124 : decode cX12_term 124 = .ok (.invokevirtual 222, 3) := by decide +kernel
theorem dX12_term_127 : decode cX12_term 127 = .ok (.iconst 1, 1) := by decide +kernel
theorem dX12_term_128 : decode cX12_term 128 = .ok (.ireturn, 1) := by decide +kernel
theorem dX12_aRule_0 : decode cX12_aRule 0 = .ok (.aload_n 0, 1) := by decide +kernel
theorem dX12_aRule_1 : decode cX12_aRule 1 = .ok (.getfield 197, 3) := by decide +kernel
theorem dX12_aRule_4 : decode cX12_aRule 4 = .ok (.iconst 3, 1) := by decide +kernel
theorem dX12_aRule_5 : decode cX12_aRule 5 = .ok (.if_icmp .eq 9, 3) := by decide +kernel
theorem dX12_aRule_8 : decode cX12_aRule 8 = .ok (.aload_n 0, 1) := by decide +kernel
theorem dX12_aRule_9 : decode cX12_aRule 9 = .ok (.iconst 1, 1) := by decide +kernel
theorem dX12_aRule_10 : decode cX12_aRule 10 = .ok (.invokevirtual 219, 3) := by decide +kernel
theorem dX12_aRule_13 : decode cX12_aRule 13 = .ok (.ireturn, 1) := by decide +kernel
theorem dX12_aRule_14 : decode cX12_aRule 14 = .ok (.aload_n 0, 1) := by decide +kernel
theorem dX12_aRule_15 : decode cX12_aRule 15 = .ok (.getfield 254, 3) := by decide +kernel
theorem dX12_aRule_18 : decode cX12_aRule 18 = .ok (.bipush 12, 2) := by decide +kernel
theorem dX12_aRule_20 : decode cX12_aRule 20 = .ok (.if_icmp .ne 9, 3) := by decide +kernel
theorem dX12_aRule_23 : decode cX12_aRule 23 = .ok (.aload_n 0, 1) := by decide +kernel
theorem dX12_aRule_24 : decode cX12_aRule 24 = .ok (.iconst 2, 1) := by decide +kernel
theorem dX12_aRule_25 : decode cX12_aRule 25 = .ok (.invokevirtual 219, 3) := by decide +kernel
theorem dX12_aRule_28 : decode cX12_aRule 28 = .ok (.ireturn, 1) := by decide +kernel
theorem dX12_aRule_29 : decode cX12_aRule 29 = .ok (.aload_n 0, 1) := by decide +kernel
theorem dX12_aRule_30 : decode cX12_aRule 30 = .ok (.invokevirtual 222, 3) := by decide +kernel
theorem dX12_aRule_33 : decode cX12_aRule 33 = .ok (.aload_n 0, 1) := by decide +kernel
theorem dX12_aRule_34 : decode cX12_aRule 34 = .ok (.getfield 67, 3) := by decide +kernel
theorem dX12_aRule_37 : decode cX12_aRule 37 = .ok (.aload_n 0, 1) := by decide +kernel
theorem dX12_aRule_38 : decode cX12_aRule 38 = .ok (.getfield 254, 3) := by decide +kernel
theorem dX12_aRule_41 : decode cX12_aRule 41 = .ok (.aload_n 0, 1) := by decide +kernel
theorem dX12_aRule_42 : decode cX12_aRule 42 = .ok (.getfield 225, 3) := by decide +kernel
theorem dX12_aRule_45 : decode cX12_aRule 45 = .ok (.iastore, 1) := by decide +kernel
theorem dX12_aRule_46 : decode cX12_aRule 46 = .ok (.aload_n 0, 1) := by decide +kernel
theorem dX12_aRule_47 : decode cX12_aRule 47 = .ok (.dup, 1) := by decide +kernel
theorem dX12_aRule_48 : decode cX12_aRule 48 = .ok (.getfield 254, 3) := by decide +kernel
theorem dX12_aRule_51 : decode cX12_aRule 51 = .ok (.iconst 1, 1) := by decide +kernel
theorem dX12_aRule_52 : decode cX12_aRule 52 = .ok (.iadd, 1) := by decide +kernel
theorem dX12_aRule_53 : decode cX12_aRule 53 = .ok (.putfield 254, 3) := by decide +kernel
theorem dX12_aRule_56 : decode cX12_aRule 56 = .ok (.aload_n 0, 1) := by decide +kernel
theorem dX12_aRule_57 : decode cX12_aRule 57 = .ok (.iconst 0, 1) := by decide +kernel
theorem dX12_aRule_58 : decode cX12_aRule 58 = .ok (.putfield 228, 3) := by decide +kernel
theorem dX12_aRule_61 : decode cX12_aRule 61 = .ok (.aload_n 0, 1) := by decide +kernel
theorem dX12_aRule_62 : decode cX12_aRule 62 = .ok (.invokevirtual 245, 3) := by decide +kernel
theorem dX12_aRule_65 : decode cX12_aRule 65 = .ok (.ifCond .eq 16, 3) := by decide +kernel
theorem dX12_aRule_68 : decode cX12_aRule 68 = .ok (.aload_n 0, 1) := by decide +kernel
theorem dX12_aRule_69 : decode cX12_aRule 69 = .ok (.bipush 59, 2) := by decide +kernel
theorem dX12_aRule_71 : decode cX12_aRule 71 = .ok (.invokevirtual 248, 3) := by decide +kernel
theorem dX12_aRule_74 : decode cX12_aRule 74 = .ok (.ifCond .eq 7, 3) := by decide +kernel
theorem dX12_aRule_77 : decode cX12_aRule 77 = .ok (.iconst 1, 1) := by decide +kernel
theorem dX12_aRule_78 : decode cX12_aRule 78 = .ok (.goto 4, 3) := by decide +kernel
theorem dX12_aRule_81 : decode cX12_aRule 81 = .ok (.iconst 0, 1) := by decide +kernel
theorem dX12_aRule_82 : decode cX12_aRule 82 = .ok (.ireturn, 1) := by decide +kernel
theorem dX12_rules_0 : decode cX12_rules 0 = .ok (.aload_n 0, 1) := by decide +kernel
theorem dX12_rules_1 : decode cX12_rules 1 = .ok (.iconst 0, 1) := by decide +kernel
theorem dX12_rules_2 : decode cX12_rules 2 = .ok (.putfield 213, 3) := by decide +kernel
theorem dX12_rules_5 : decode cX12_rules 5 = .ok (.aload_n 0, 1) := by decide +kernel
theorem dX12_rules_6 : decode cX12_rules 6 = .ok (.iconst 0, 1) := by decide +kernel
theorem dX12_rules_7 : decode cX12_rules 7 = .ok (.putfield 188, 3) := by decide +kernel
theorem dX12_rules_10 : decode cX12_rules 10 = .ok (.aload_n 0, 1) := by decide +kernel
theorem dX12_rules_11 : decode cX12_rules 11 = .ok (.iconst 0, 1) := by decide +kernel
theorem dX12_rules_12 : decode cX12_rules 12 = .ok (.putfield 254, 3) := by decide +kernel
theorem dX12_rules_15 : decode cX12_rules 15 = .ok (.aload_n 0, 1) := by decide +kernel
theorem dX12_rules_16 : decode cX12_rules 16 = .ok (.iconst 0, 1) := by decide +kernel
theorem dX12_rules_17 : decode cX12_rules 17 = .ok (.putfield 225, 3) := by decide +kernel
theorem dX12_rules_20 : decode cX12_rules 20 = .ok (.aload_n 0, 1) := by decide +kernel
theorem dX12_rules_21 : decode cX12_rules 21 = .ok (.invokevirtual 222, 3) := by decide +kernel
theorem dX12_rules_24 : decode cX12_rules 24 = .ok (.iconst 1, 1) := by decide +kernel
theorem dX12_rules_25 : decode cX12_rules 25 = .ok (.istore_n 1, 1) := by decide +kernel
theorem dX12_rules_26 : decode cX12_rules 26 = .ok (.iload_n 1, 1) := by decide +kernel
theorem dX12_rules_27 : decode cX12_rules 27 = .ok (.ifCond .eq 18, 3) := by decide +kernel
theorem dX12_rules_30 : decode cX12_rules 30 = .ok (.aload_n 0, 1) := by decide +kernel
theorem dX12_rules_31 : decode cX12_rules 31 = .ok (.getfield 197, 3) := by decide +kernel
theorem dX12_rules_34 : decode cX12_rules 34 = .ok (.ifCond .eq 11, 3) := by decide +kernel
theorem dX12_rules_37 : decode cX12_rules 37 = .ok (.aload_n 0, 1) := by decide +kernel
theorem dX12_rules_38 : decode cX12_rules 38 = .ok (.invokevirtual 257, 3) := by decide +kernel
theorem dX12_rules_41 : decode cX12_rules 41 = .ok (.istore_n 1, 1) := by decide +kernel
theorem dX12_rules_42 : decode cX12_rules 42 = .ok (.goto (-16), 3) := by decide +kernel
theorem dX12_rules_45 : decode cX12_rules 45 = .ok (.aload_n 0, 1) := by decide +kernel
theorem dX12_rules_46 : decode cX12_rules 46 = .ok (.iconst 0, 1) := by decide +kernel
theorem dX12_rules_47 : decode cX12_rules 47 = .ok (.putfield 155, 3) := by decide +kernel
theorem dX12_rules_50 : decode cX12_rules 50 = .ok (.aload_n 0, 1) := by decide +kernel
theorem dX12_rules_51 : decode cX12_rules 51 = .ok (.aload_n 0, 1) := by decide +kernel
theorem dX12_rules_52 : decode cX12_rules 52 = .ok (.getfield 213, 3) := by decide +kernel
theorem dX12_rules_55 : decode cX12_rules 55 = .ok (.putfield 260, 3) := by decide +kernel
theorem dX12_rules_58 : decode cX12_rules 58 = .ok (.aload_n 0, 1) := by decide +kernel
theorem dX12_rules_59 : decode cX12_rules 59 = .ok (.iload_n 1, 1) := by decide +kernel
theorem dX12_rules_60 : decode cX12_rules 60 = .ok (.ifCond .eq 7, 3) := by decide +kernel
theorem dX12_rules_63 : decode cX12_rules 63 = .ok (.iconst (-1), 1) := by decide +kernel
theorem dX12_rules_64 : decode cX12_rules 64 = .ok (.goto 7, 3) := by decide +kernel
theorem dX12_rules_67 : decode cX12_rules 67 = .ok (.aload_n 0, 1) := by decide +kernel
theorem dX12_rules_68 : decode cX12_rules 68 = .ok (.getfield 216, 3) := by decide +kernel
theorem dX12_rules_71 : decode cX12_rules 71 = .ok (.putfield 79, 3) := by decide +kernel
theorem dX12_rules_74 : decode cX12_rules 74 = .ok (.iload_n 1, 1) := by decide +kernel
theorem dX12_rules_75 : decode cX12_rules 75 = .ok (.ifCond .ne 5, 3) := by decide +kernel
theorem dX12_rules_78 : decode cX12_rules 78 = .ok (.iconst (-1), 1) := by decide +kernel
theorem dX12_rules_79 : decode cX12_rules 79 = .ok (.ireturn, 1) := by decide +kernel
theorem dX12_rules_80 : decode cX12_rules 80 = .ok (.aload_n 0, 1) := by decide +kernel
theorem dX12_rules_81 : decode cX12_rules 81 = .ok (.aload_n 0, 1) := by decide +kernel
theorem dX12_rules_82 : decode cX12_rules 82 = .ok (.getfield 254, 3) := by decide +kernel
theorem dX12_rules_85 : decode cX12_rules 85 = .ok (.putfield 133, 3) := by decide +kernel
theorem dX12_rules_88 : decode cX12_rules 88 = .ok (.iconst 0, 1) := by decide +kernel
theorem dX12_rules_89 : decode cX12_rules 89 = .ok (.istore_n 2, 1) := by decide +kernel
theorem dX12_rules_90 : decode cX12_rules 90 = .ok (.iload_n 2, 1) := by decide +kernel
theorem dX12_rules_91 : decode cX12_rules 91 = .ok (.aload_n 0, 1) := by decide +kernel
theorem dX12_rules_92 : decode cX12_rules 92 = .ok (.getfield 133, 3) := by decide +kernel
theorem dX12_rules_95 : decode cX12_rules 95 = .ok (.if_icmp .ge 21, 3) := by decide +kernel
theorem dX12_rules_98 : decode cX12_rules 98 = .ok (.aload_n 0, 1) := by decide +kernel
theorem dX12_rules_99 : decode cX12_rules 99 = .ok (.getfield 61, 3) := by decide +kernel
theorem dX12_rules_102 : decode cX12_rules 102 = .ok (.iload_n 2, 1) := by decide +kernel
theorem dX12_rules_103 : decode cX12_rules 103 = .ok (.aload_n 0, 1) := by decide +kernel
theorem dX12_rules_104 : decode cX12_rules 104 = .ok (.getfield 67, 3) := by decide +kernel
theorem dX12_rules_107 : decode cX12_rules 107 = .ok (.iload_n 2, 1) := by decide +kernel
theorem dX12_rules_108 : decode cX12_rules 108 = .ok (.iaload, 1) := by decide +kernel
theorem dX12_rules_109 : decode cX12_rules 109 = .ok (.iastore, 1) := by decide +kernel
theorem dX12_rules_110 : decode cX12_rules 110 = .ok (.iinc 2 1, 3) := by decide +kernel
theorem dX12_rules_113 : decode cX12_rules 113 = .ok (.goto (-23), 3) := by decide +kernel
theorem dX12_rules_116 : decode cX12_rules 116 = .ok (.aload_n 0, 1) := by decide +kernel
theorem dX12_rules_117 : decode cX12_rules 117 = .ok (.getfield 61, 3) := by decide +kernel
theorem dX12_rules_120 : decode cX12_rules 120 = .ok (.aload_n 0, 1) := by decide +kernel
theorem dX12_rules_121 : decode cX12_rules 121 = .ok (.getfield 133, 3) := by decide +kernel
theorem dX12_rules_124 : decode cX12_rules 124 = .ok (.aload_n 0, 1) := by decide +kernel
theorem dX12_rules_125 : decode cX12_rules 125 = .ok (.getfield 225, 3) := by decide +kernel
theorem dX12_rules_128 : decode cX12_rules 128 = .ok (.iastore, 1) := by decide +kernel
theorem dX12_rules_129 : decode cX12_rules 129 = .ok (.iconst 0, 1) := by decide +kernel
theorem dX12_rules_130 : decode cX12_rules 130 = .ok (.istore_n 2, 1) := by decide +kernel
theorem dX12_rules_131 : decode cX12_rules 131 = .ok (.iload_n 2, 1) := by decide +kernel
theorem dX12_rules_132 : decode cX12_rules 132 = .ok (.aload_n 0, 1) := by decide +kernel
theorem dX12_rules_133 : decode cX12_rules 133 = .ok (.getfield 225, 3) := by decide +kernel
theorem dX12_rules_136 : decode cX12_rules 136 = .ok (.if_icmp .ge 21, 3) := by decide +kernel
theorem dX12_rules_139 : decode cX12_rules 139 = .ok (.aload_n 0, 1) := by decide +kernel
theorem dX12_rules_140 : decode cX12_rules 140 = .ok (.getfield 64, 3) := by decide +kernel
theorem dX12_rules_143 : decode cX12_rules 143 = .ok (.iload_n 2, 1) := by decide +kernel
theorem dX12_rules_144 : decode cX12_rules 144 = .ok (.aload_n 0, 1) := by decide +kernel
theorem dX12_rules_145 : decode cX12_rules 145 = .ok (.getfield 70, 3) := by decide +kernel
theorem dX12_rules_148 : decode cX12_rules 148 = .ok (.iload_n 2, 1) := by decide +kernel
theorem dX12_rules_149 : decode cX12_rules 149 = .ok (.iaload, 1) := by decide +kernel
theorem dX12_rules_150 : decode cX12_rules 150 = .ok (.iastore, 1) := by decide +kernel
theorem dX12_rules_151 : decode cX12_rules 151 = .ok (.iinc 2 1, 3) := by decide +kernel
theorem dX12_rules_154 : decode cX12_rules 154 = .ok (.goto (-23), 3) := by decide +kernel
theorem dX12_rules_157 : decode cX12_rules 157 = .ok (.aload_n 0, 1) := by decide +kernel
theorem dX12_rules_158 : decode cX12_rules 158 = .ok (.getfield 133, 3) := by decide +kernel
theorem dX12_rules_161 : decode cX12_rules 161 = .ok (.ireturn, 1) := by decide +kernel
theorem dX12_fault_0 : decode cX12_fault 0 = .ok (.iload_n 1, 1) := by decide +kernel
theorem dX12_fault_1 : decode cX12_fault 1 = .ok (.ifCond .ne 10, 3) := by decide +kernel
theorem dX12_fault_4 : decode cX12_fault 4 = .ok (.aload_n 0, 1) := by decide +kernel
theorem dX12_fault_5 : decode cX12_fault 5 = .ok (.getfield 260, 3) := by decide +kernel
theorem dX12_fault_8 : decode cX12_fault 8 = .ok (.goto 16, 3) := by decide +kernel
theorem dX12_fault_11 : decode cX12_fault 11 = .ok (.iload_n 1, 1) := by decide +kernel
theorem dX12_fault_12 : decode cX12_fault 12 = .ok (.iconst 1, 1) := by decide +kernel
theorem dX12_fault_13 : decode cX12_fault 13 = .ok (.if_icmp .ne 10, 3) := by decide +kernel
theorem dX12_fault_16 : decode cX12_fault 16 = .ok (.aload_n 0, 1) := by decide +kernel
theorem dX12_fault_17 : decode cX12_fault 17 = .ok (.getfield 79, 3) := by decide +kernel
theorem dX12_fault_20 : decode cX12_fault 20 = .ok (.goto 4, 3) := by decide +kernel
theorem dX12_fault_23 : decode cX12_fault 23 = .ok (.iconst (-1), 1) := by decide +kernel
theorem dX12_fault_24 : decode cX12_fault 24 = .ok (.ireturn, 1) := by decide +kernel
theorem dX12_bits_0 : decode cX12_bits 0 = .ok (.iconst 0, 1) := by decide +kernel
theorem dX12_bits_1 : decode cX12_bits 1 = .ok (.istore_n 1, 1) := by decide +kernel
theorem dX12_bits_2 : decode cX12_bits 2 = .ok (.iconst 0, 1) := by decide +kernel
theorem dX12_bits_3 : decode cX12_bits 3 = .ok (.istore_n 2, 1) := by decide +kernel
theorem dX12_bits_4 : decode cX12_bits 4 = .ok (.iload_n 2, 1) := by decide +kernel
theorem dX12_bits_5 : decode cX12_bits 5 = .ok (.bipush 20, 2) := by decide +kernel
theorem dX12_bits_7 : decode cX12_bits 7 = .ok (.if_icmp .ge 17, 3) := by decide +kernel
theorem dX12_bits_10 : decode cX12_bits 10 = .ok (.iload_n 1, 1) := by decide +kernel
theorem dX12_bits_11 : decode cX12_bits 11 = .ok (.iload_n 0, 1) := by decide +kernel
theorem dX12_bits_12 : decode cX12_bits 12 = .ok (.iload_n 2, 1) := by decide +kernel
theorem dX12_bits_13 : decode cX12_bits 13 = .ok (.ishr, 1) := by decide +kernel
theorem dX12_bits_14 : decode cX12_bits 14 = .ok (.iconst 1, 1) := by decide +kernel
theorem dX12_bits_15 : decode cX12_bits 15 = .ok (.iand, 1) := by decide +kernel
theorem dX12_bits_16 : decode cX12_bits 16 = .ok (.iadd, 1) := by decide +kernel
theorem dX12_bits_17 : decode cX12_bits 17 = .ok (.istore_n 1, 1) := by decide +kernel
theorem dX12_bits_18 : decode cX12_bits 18 = .ok (.iinc 2 1, 3) := by decide +kernel
theorem dX12_bits_21 : decode cX12_bits 21 = .ok (.goto (-17), 3) := by decide +kernel
theorem dX12_bits_24 : decode cX12_bits 24 = .ok (.iload_n 1, 1) := by decide +kernel
theorem dX12_bits_25 : decode cX12_bits 25 = .ok (.ireturn, 1) := by decide +kernel
theorem dX12_known_0 : decode cX12_known 0 = .ok (.iload_n 1, 1) := by decide +kernel
theorem dX12_known_1 : decode cX12_known 1 = .ok (.sipush 10001, 3) := by decide +kernel
theorem dX12_known_4 : decode cX12_known 4 = .ok (.if_icmp .ne 5, 3) := by decide +kernel
theorem dX12_known_7 : decode cX12_known 7 = .ok (.iload_n 2, 1) := by decide +kernel
theorem dX12_known_8 : decode cX12_known 8 = .ok (.ireturn, 1) := by decide +kernel
theorem dX12_known_9 : decode cX12_known 9 = .ok (.iload_n 1, 1) := by decide +kernel
theorem dX12_known_10 : decode cX12_known 10 = .ok (.sipush 10002, 3) := by decide +kernel
theorem dX12_known_13 : decode cX12_known 13 = .ok (.if_icmp .ne 8, 3) := by decide +kernel
theorem dX12_known_16 : decode cX12_known 16 = .ok (.iload_n 3, 1) := by decide +kernel
theorem dX12_known_17 : decode cX12_known 17 = .ok (.invokestatic 263, 3) := by decide +kernel
theorem dX12_known_20 : decode cX12_known 20 = .ok (.ireturn, 1) := by decide +kernel
theorem dX12_known_21 : decode cX12_known 21 = .ok (.iconst 0, 1) := by decide +kernel
theorem dX12_known_22 : decode cX12_known 22 = .ok (.istore 5, 2) := by decide +kernel
theorem dX12_known_24 : decode cX12_known 24 = .ok (.iload 5, 2) := by decide +kernel
theorem dX12_known_26 : decode cX12_known 26 = .ok (.aload_n 0, 1) := by decide +kernel
theorem dX12_known_27 : decode cX12_known 27 = .ok (.getfield 90, 3) := by decide +kernel
theorem dX12_known_30 : decode cX12_known 30 = .ok (.if_icmp .ge 37, 3) := by decide +kernel
theorem dX12_known_33 : decode cX12_known 33 = .ok (.iload 4, 2) := by decide +kernel
theorem dX12_known_35 : decode cX12_known 35 = .ok (.iload 5, 2) := by decide +kernel
theorem dX12_known_37 : decode cX12_known 37 = .ok (.ishr, 1) := by decide +kernel
theorem dX12_known_38 : decode cX12_known 38 = .ok (.iconst 1, 1) := by decide +kernel
theorem dX12_known_39 : decode cX12_known 39 = .ok (.iand, 1) := by decide +kernel
theorem dX12_known_40 : decode cX12_known 40 = .ok (.ifCond .eq 21, 3) := by decide +kernel
theorem dX12_known_43 : decode cX12_known 43 = .ok (.aload_n 0, 1) := by decide +kernel
theorem dX12_known_44 : decode cX12_known 44 = .ok (.getfield 7, 3) := by decide +kernel
theorem dX12_known_47 : decode cX12_known 47 = .ok (.iload 5, 2) := by decide +kernel
theorem dX12_known_49 : decode cX12_known 49 = .ok (.iaload, 1) := by decide +kernel
theorem dX12_known_50 : decode cX12_known 50 = .ok (.iload_n 1, 1) := by decide +kernel
theorem dX12_known_51 : decode cX12_known 51 = .ok (.sipush 10010, 3) := by decide +kernel
theorem dX12_known_54 : decode cX12_known 54 = .ok (.isub, 1) := by decide +kernel
theorem dX12_known_55 : decode cX12_known 55 = .ok (.bipush 10, 2) := by decide +kernel
theorem dX12_known_57 : decode cX12_known 57 = .ok (.irem, 1) := by decide +kernel
theorem dX12_known_58 : decode cX12_known 58 = .ok (.if_icmp .eq 9, 3) := by decide +kernel
theorem dX12_known_61 : decode cX12_known 61 = .ok (.iinc 5 1, 3) := by decide +kernel
theorem dX12_known_64 : decode cX12_known 64 = .ok (.goto (-40), 3) := by decide +kernel
theorem dX12_known_67 : decode cX12_known 67 = .ok (.iload 5, 2) := by decide +kernel
theorem dX12_known_69 : decode cX12_known 69 = .ok (.aload_n 0, 1) := by decide +kernel
theorem dX12_known_70 : decode cX12_known 70 = .ok (.getfield 90, 3) := by decide +kernel
theorem dX12_known_73 : decode cX12_known 73 = .ok (.if_icmp .ne 5, 3) := by decide +kernel
theorem dX12_known_76 : decode cX12_known 76 = .ok (.iconst 0, 1) := by decide +kernel
theorem dX12_known_77 : decode cX12_known 77 = .ok (.ireturn, 1) := by decide +kernel
theorem dX12_known_78 : decode cX12_known 78 = .ok (.iload_n 1, 1) := by decide +kernel
theorem dX12_known_79 : decode cX12_known 79 = .ok (.sipush 10020, 3) := by decide +kernel
theorem dX12_known_82 : decode cX12_known 82 = .ok (.if_icmp .ge 13, 3) := by decide +kernel
theorem dX12_known_85 : decode cX12_known 85 = .ok (.aload_n 0, 1) := by decide +kernel
theorem dX12_known_86 : decode cX12_known 86 = .ok (.getfield 13, 3) := by decide +kernel
theorem dX12_known_89 : decode cX12_known 89 = .ok (.iload 5, 2) := by decide +kernel
theorem dX12_known_91 : decode cX12_known 91 = .ok (.iaload, 1) := by decide +kernel
theorem dX12_known_92 : decode cX12_known 92 = .ok (.goto 43, 3) := by decide +kernel
theorem dX12_known_95 : decode cX12_known 95 = .ok (.iload_n 1, 1) := by decide +kernel
theorem dX12_known_96 : decode cX12_known 96 = .ok (.sipush 10030, 3) := by decide +kernel
theorem dX12_known_99 : decode cX12_known 99 = .ok (.if_icmp .ge 13, 3) := by decide +kernel
theorem dX12_known_102 : decode cX12_known 102 = .ok (.aload_n 0, 1) := by decide +kernel
theorem dX12_known_103 : decode cX12_known 103 = .ok (.getfield 16, 3) := by decide +kernel
theorem dX12_known_106 : decode cX12_known 106 = .ok (.iload 5, 2) := by decide +kernel
theorem dX12_known_108 : decode cX12_known 108 = .ok (.iaload, 1) := by decide +kernel
theorem dX12_known_109 : decode cX12_known 109 = .ok (.goto 26, 3) := by decide +kernel
theorem dX12_known_112 : decode cX12_known 112 = .ok (.iload_n 1, 1) := by decide +kernel
theorem dX12_known_113 : decode cX12_known 113 = .ok (.sipush 10040, 3) := by decide +kernel
theorem dX12_known_116 : decode cX12_known 116 = .ok (.if_icmp .ge 18, 3) := by decide +kernel
theorem dX12_known_119 : decode cX12_known 119 = .ok (.aload_n 0, 1) := by decide +kernel
theorem dX12_known_120 : decode cX12_known 120 = .ok (.getfield 97, 3) := by decide +kernel
theorem dX12_known_123 : decode cX12_known 123 = .ok (.aload_n 0, 1) := by decide +kernel
theorem dX12_known_124 : decode cX12_known 124 = .ok (.getfield 22, 3) := by decide +kernel
theorem dX12_known_127 : decode cX12_known 127 = .ok (.iload 5, 2) := by decide +kernel
theorem dX12_known_129 : decode cX12_known 129 = .ok (.iaload, 1) := by decide +kernel
theorem dX12_known_130 : decode cX12_known 130 = .ok (.isub, 1) := by decide +kernel
theorem dX12_known_131 : decode cX12_known 131 = .ok (.goto 4, 3) := by decide +kernel
theorem dX12_known_134 : decode cX12_known 134 = .ok (.iconst 1, 1) := by decide +kernel
theorem dX12_known_135 : decode cX12_known 135 = .ok (.ireturn, 1) := by decide +kernel
theorem dX12_both_0 : decode cX12_both 0 = .ok (.iload_n 0, 1) := by decide +kernel
theorem dX12_both_1 : decode cX12_both 1 = .ok (.tableswitch 72 20000 20004 #[35, 46, 57, 72, 68], 35) := by decide +kernel
theorem dX12_both_36 : decode cX12_both 36 = .ok (.iload_n 1, 1) := by decide +kernel
theorem dX12_both_37 : decode cX12_both 37 = .ok (.iload_n 2, 1) := by decide +kernel
theorem dX12_both_38 : decode cX12_both 38 = .ok (.if_icmp .ge 7, 3) := by decide +kernel
theorem dX12_both_41 : decode cX12_both 41 = .ok (.iconst 1, 1) := by decide +kernel
theorem dX12_both_42 : decode cX12_both 42 = .ok (.goto 4, 3) := by decide +kernel
theorem dX12_both_45 : decode cX12_both 45 = .ok (.iconst 0, 1) := by decide +kernel
theorem dX12_both_46 : decode cX12_both 46 = .ok (.ireturn, 1) := by decide +kernel
theorem dX12_both_47 : decode cX12_both 47 = .ok (.iload_n 1, 1) := by decide +kernel
theorem dX12_both_48 : decode cX12_both 48 = .ok (.iload_n 2, 1) := by decide +kernel
theorem dX12_both_49 : decode cX12_both 49 = .ok (.if_icmp .ne 7, 3) := by decide +kernel
theorem dX12_both_52 : decode cX12_both 52 = .ok (.iconst 1, 1) := by decide +kernel
theorem dX12_both_53 : decode cX12_both 53 = .ok (.goto 4, 3) := by decide +kernel
theorem dX12_both_56 : decode cX12_both 56 = .ok (.iconst 0, 1) := by decide +kernel
theorem dX12_both_57 : decode cX12_both 57 = .ok (.ireturn, 1) := by decide +kernel
theorem dX12_both_58 : decode cX12_both 58 = .ok (.iload_n 1, 1) := by decide +kernel
theorem dX12_both_59 : decode cX12_both 59 = .ok (.iload_n 2, 1) := by decide +kernel
theorem dX12_both_60 : decode cX12_both 60 = .ok (.if_icmp .le 7, 3) := by decide +kernel
theorem dX12_both_63 : decode cX12_both 63 = .ok (.iconst 1, 1) := by decide +kernel
theorem dX12_both_64 : decode cX12_both 64 = .ok (.goto 4, 3) := by decide +kernel
theorem dX12_both_67 : decode cX12_both 67 = .ok (.iconst 0, 1) := by decide +kernel
theorem dX12_both_68 : decode cX12_both 68 = .ok (.ireturn, 1) := by decide +kernel
theorem dX12_both_69 : decode cX12_both 69 = .ok (.iload_n 1, 1) := by decide +kernel
theorem dX12_both_70 : decode cX12_both 70 = .ok (.iload_n 2, 1) := by decide +kernel
theorem dX12_both_71 : decode cX12_both 71 = .ok (.iand, 1) := by decide +kernel
theorem dX12_both_72 : decode cX12_both 72 = .ok (.ireturn, 1) := by decide +kernel
theorem dX12_both_73 : decode cX12_both 73 = .ok (.iload_n 1, 1) := by decide +kernel
theorem dX12_both_74 : decode cX12_both 74 = .ok (.iload_n 2, 1) := by decide +kernel
theorem dX12_both_75 : decode cX12_both 75 = .ok (.ior, 1) := by decide +kernel
theorem dX12_both_76 : decode cX12_both 76 = .ok (.ireturn, 1) := by decide +kernel
theorem dX12_isSo_0 : decode cX12_isSo 0 = .ok (.iconst 0, 1) := by decide +kernel
theorem dX12_isSo_1 : decode cX12_isSo 1 = .ok (.istore 5, 2) := by decide +kernel
theorem dX12_isSo_3 : decode cX12_isSo 3 = .ok (.aload_n 0, 1) := by decide +kernel
theorem dX12_isSo_4 : decode cX12_isSo 4 = .ok (.getfield 61, 3) := by decide +kernel
theorem dX12_isSo_7 : decode cX12_isSo 7 = .ok (.iload_n 1, 1) := by decide +kernel
theorem dX12_isSo_8 : decode cX12_isSo 8 = .ok (.iaload, 1) := by decide +kernel
theorem dX12_isSo_9 : decode cX12_isSo 9 = .ok (.istore 6, 2) := by decide +kernel
theorem dX12_isSo_11 : decode cX12_isSo 11 = .ok (.iload 6, 2) := by decide +kernel
theorem dX12_isSo_13 : decode cX12_isSo 13 = .ok (.aload_n 0, 1) := by decide +kernel
theorem dX12_isSo_14 : decode cX12_isSo 14 = .ok (.getfield 61, 3) := by decide +kernel
theorem dX12_isSo_17 : decode cX12_isSo 17 = .ok (.iload_n 1, 1) := by decide +kernel
theorem dX12_isSo_18 : decode cX12_isSo 18 = .ok (.iconst 1, 1) := by decide +kernel
theorem dX12_isSo_19 : decode cX12_isSo 19 = .ok (.iadd, 1) := by decide +kernel
theorem dX12_isSo_20 : decode cX12_isSo 20 = .ok (.iaload, 1) := by decide +kernel
theorem dX12_isSo_21 : decode cX12_isSo 21 = .ok (.if_icmp .ge 126, 3) := by decide +kernel
theorem dX12_isSo_24 : decode cX12_isSo 24 = .ok (.aload_n 0, 1) := by decide +kernel
theorem dX12_isSo_25 : decode cX12_isSo 25 = .ok (.getfield 64, 3) := by decide +kernel
theorem dX12_isSo_28 : decode cX12_isSo 28 = .ok (.iload 6, 2) := by decide +kernel
theorem dX12_isSo_30 : decode cX12_isSo 30 = .ok (.iaload, 1) := by decide +kernel
theorem dX12_isSo_31 : decode cX12_isSo 31 = .ok (.istore 7, 2) := by decide +kernel
theorem dX12_isSo_33 : decode cX12_isSo 33 = .ok (.iload 7, 2) := by decide +kernel
theorem dX12_isSo_35 : decode cX12_isSo 35 = .ok (.sipush 20000, 3) := by decide +kernel
theorem dX12_isSo_38 : decode cX12_isSo 38 = .ok (.if_icmp .ge 39, 3) := by decide +kernel
theorem dX12_isSo_41 : decode cX12_isSo 41 = .ok (.aload_n 0, 1) := by decide +kernel
theorem dX12_isSo_42 : decode cX12_isSo 42 = .ok (.getfield 73, 3) := by decide +kernel
theorem dX12_isSo_45 : decode cX12_isSo 45 = .ok (.iload 5, 2) := by decide +kernel
theorem dX12_isSo_47 : decode cX12_isSo 47 = .ok (.iload 7, 2) := by decide +kernel
theorem dX12_isSo_49 : decode cX12_isSo 49 = .ok (.sipush 10001, 3) := by decide +kernel
theorem dX12_isSo_52 : decode cX12_isSo 52 = .ok (.if_icmp .ge 8, 3) := by decide +kernel
theorem dX12_isSo_55 : decode cX12_isSo 55 = .ok (.iload 7, 2) := by decide +kernel
theorem dX12_isSo_57 : decode cX12_isSo 57 = .ok (.goto 13, 3) := by decide +kernel
theorem dX12_isSo_60 : decode cX12_isSo 60 = .ok (.aload_n 0, 1) := by decide +kernel
theorem dX12_isSo_61 : decode cX12_isSo 61 = .ok (.iload 7, 2) := by decide +kernel
theorem dX12_isSo_63 : decode cX12_isSo 63 = .ok (.iload_n 2, 1) := by decide +kernel
theorem dX12_isSo_64 : decode cX12_isSo 64 = .ok (.iload_n 3, 1) := by decide +kernel
theorem dX12_isSo_65 : decode cX12_isSo 65 = .ok (.iload 4, 2) := by decide +kernel
theorem dX12_isSo_67 : decode cX12_isSo 67 = .ok (.invokevirtual 266, 3) := by decide +kernel
theorem dX12_isSo_70 : decode cX12_isSo 70 = .ok (.iastore, 1) := by decide +kernel
theorem dX12_isSo_71 : decode cX12_isSo 71 = .ok (.iinc 5 1, 3) := by decide +kernel
theorem dX12_isSo_74 : decode cX12_isSo 74 = .ok (.goto 67, 3) := by decide +kernel
theorem dX12_isSo_77 : decode cX12_isSo 77 = .ok (.iload 7, 2) := by decide +kernel
theorem dX12_isSo_79 : decode cX12_isSo 79 = .ok (.sipush 20003, 3) := by decide +kernel
theorem dX12_isSo_82 : decode cX12_isSo 82 = .ok (.if_icmp .ne 26, 3) := by decide +kernel
theorem dX12_isSo_85 : decode cX12_isSo 85 = .ok (.aload_n 0, 1) := by decide +kernel
theorem dX12_isSo_86 : decode cX12_isSo 86 = .ok (.getfield 73, 3) := by decide +kernel
theorem dX12_isSo_89 : decode cX12_isSo 89 = .ok (.iload 5, 2) := by decide +kernel
theorem dX12_isSo_91 : decode cX12_isSo 91 = .ok (.iconst 1, 1) := by decide +kernel
theorem dX12_isSo_92 : decode cX12_isSo 92 = .ok (.isub, 1) := by decide +kernel
theorem dX12_isSo_93 : decode cX12_isSo 93 = .ok (.iconst 1, 1) := by decide +kernel
theorem dX12_isSo_94 : decode cX12_isSo 94 = .ok (.aload_n 0, 1) := by decide +kernel
theorem dX12_isSo_95 : decode cX12_isSo 95 = .ok (.getfield 73, 3) := by decide +kernel
theorem dX12_isSo_98 : decode cX12_isSo 98 = .ok (.iload 5, 2) := by decide +kernel
theorem dX12_isSo_100 : decode cX12_isSo 100 = .ok (.iconst 1, 1) := by decide +kernel
theorem dX12_isSo_101 : decode cX12_isSo 101 = .ok (.isub, 1) := by decide +kernel
theorem dX12_isSo_102 : decode cX12_isSo 102 = .ok (.iaload, 1) := by decide +kernel
theorem dX12_isSo_103 : decode cX12_isSo 103 = .ok (.isub, 1) := by decide +kernel
theorem dX12_isSo_104 : decode cX12_isSo 104 = .ok (.iastore, 1) := by decide +kernel
theorem dX12_isSo_105 : decode cX12_isSo 105 = .ok (.goto 36, 3) := by decide +kernel
theorem dX12_isSo_108 : decode cX12_isSo 108 = .ok (.iinc 5 (-1), 3) := by decide +kernel
theorem dX12_isSo_111 : decode cX12_isSo 111 = .ok (.aload_n 0, 1) := by decide +kernel
theorem dX12_isSo_112 : decode cX12_isSo 112 = .ok (.getfield 73, 3) := by decide +kernel
theorem dX12_isSo_115 : decode cX12_isSo 115 = .ok (.iload 5, 2) := by decide +kernel
theorem dX12_isSo_117 : decode cX12_isSo 117 = .ok (.iconst 1, 1) := by decide +kernel
theorem dX12_isSo_118 : decode cX12_isSo 118 = .ok (.isub, 1) := by decide +kernel
theorem dX12_isSo_119 : decode cX12_isSo 119 = .ok (.iload 7, 2) := by decide +kernel
theorem dX12_isSo_121 : decode cX12_isSo 121 = .ok (.aload_n 0, 1) := by decide +kernel
theorem dX12_isSo_122 : decode cX12_isSo 122 = .ok (.getfield 73, 3) := by decide +kernel
theorem dX12_isSo_125 : decode cX12_isSo 125 = .ok (.iload 5, 2) := by decide +kernel
theorem dX12_isSo_127 : decode cX12_isSo 127 = .ok (.iconst 1, 1) := by decide +kernel
theorem dX12_isSo_128 : decode cX12_isSo 128 = .ok (.isub, 1) := by decide +kernel
theorem dX12_isSo_129 : decode cX12_isSo 129 = .ok (.iaload, 1) := by decide +kernel
theorem dX12_isSo_130 : decode cX12_isSo 130 = .ok (.aload_n 0, 1) := by decide +kernel
theorem dX12_isSo_131 : decode cX12_isSo 131 = .ok (.getfield 73, 3) := by decide +kernel
theorem dX12_isSo_134 : decode cX12_isSo 134 = .ok (.iload 5, 2) := by decide +kernel
theorem dX12_isSo_136 : decode cX12_isSo 136 = .ok (.iaload, 1) := by decide +kernel
theorem dX12_isSo_137 : decode cX12_isSo 137 = .ok (.invokestatic 270, 3) := by decide +kernel
theorem dX12_isSo_140 : decode cX12_isSo 140 = .ok (.iastore, 1) := by decide +kernel
theorem dX12_isSo_141 : decode cX12_isSo 141 = .ok (.iinc 6 1, 3) := by decide +kernel
theorem dX12_isSo_144 : decode cX12_isSo 144 = .ok (.goto (-133), 3) := by decide +kernel
theorem dX12_isSo_147 : decode cX12_isSo 147 = .ok (.aload_n 0, 1) := by decide +kernel
theorem dX12_isSo_148 : decode cX12_isSo 148 = .ok (.getfield 73, 3) := by decide +kernel
theorem dX12_isSo_151 : decode cX12_isSo 151 = .ok (.iconst 0, 1) := by decide +kernel
theorem dX12_isSo_152 : decode cX12_isSo 152 = .ok (.iaload, 1) := by decide +kernel
theorem dX12_isSo_153 : decode cX12_isSo 153 = .ok (.iconst 1, 1) := by decide +kernel
theorem dX12_isSo_154 : decode cX12_isSo 154 = .ok (.if_icmp .ne 7, 3) := by decide +kernel
theorem dX12_isSo_157 : decode cX12_isSo 157 = .ok (.iconst 1, 1) := by decide +kernel
theorem dX12_isSo_158 : decode cX12_isSo 158 = .ok (.goto 4, 3) := by decide +kernel
theorem dX12_isSo_161 : decode cX12_isSo 161 = .ok (.iconst 0, 1) := by decide +kernel
theorem dX12_isSo_162 : decode cX12_isSo 162 = .ok (.ireturn, 1) := by decide +kernel
theorem dX12_barredBy_0 : decode cX12_barredBy 0 = .ok (.iconst 0, 1) := by decide +kernel
theorem dX12_barredBy_1 : decode cX12_barredBy 1 = .ok (.istore 4, 2) := by decide +kernel
theorem dX12_barredBy_3 : decode cX12_barredBy 3 = .ok (.iload 4, 2) := by decide +kernel
theorem dX12_barredBy_5 : decode cX12_barredBy 5 = .ok (.aload_n 0, 1) := by decide +kernel
theorem dX12_barredBy_6 : decode cX12_barredBy 6 = .ok (.getfield 133, 3) := by decide +kernel
theorem dX12_barredBy_9 : decode cX12_barredBy 9 = .ok (.if_icmp .ge 24, 3) := by decide +kernel
theorem dX12_barredBy_12 : decode cX12_barredBy 12 = .ok (.aload_n 0, 1) := by decide +kernel
theorem dX12_barredBy_13 : decode cX12_barredBy 13 = .ok (.iload 4, 2) := by decide +kernel
theorem dX12_barredBy_15 : decode cX12_barredBy 15 = .ok (.iload_n 1, 1) := by decide +kernel
theorem dX12_barredBy_16 : decode cX12_barredBy 16 = .ok (.iload_n 2, 1) := by decide +kernel
theorem dX12_barredBy_17 : decode cX12_barredBy 17 = .ok (.iload_n 3, 1) := by decide +kernel
theorem dX12_barredBy_18 : decode cX12_barredBy 18 = .ok (.invokevirtual 273, 3) := by decide +kernel
theorem dX12_barredBy_21 : decode cX12_barredBy 21 = .ok (.ifCond .eq 6, 3) := by decide +kernel
theorem dX12_barredBy_24 : decode cX12_barredBy 24 = .ok (.iload 4, 2) := by decide +kernel
theorem dX12_barredBy_26 : decode cX12_barredBy 26 = .ok (.ireturn, 1) := by decide +kernel
theorem dX12_barredBy_27 : decode cX12_barredBy 27 = .ok (.iinc 4 1, 3) := by decide +kernel
theorem dX12_barredBy_30 : decode cX12_barredBy 30 = .ok (.goto (-27), 3) := by decide +kernel
theorem dX12_barredBy_33 : decode cX12_barredBy 33 = .ok (.iconst (-1), 1) := by decide +kernel
theorem dX12_barredBy_34 : decode cX12_barredBy 34 = .ok (.ireturn, 1) := by decide +kernel
theorem dX12_barred_0 : decode cX12_barred 0 = .ok (.iload_n 1, 1) := by decide +kernel
theorem dX12_barred_1 : decode cX12_barred 1 = .ok (.invokestatic 139, 3) := by decide +kernel
theorem dX12_barred_4 : decode cX12_barred 4 = .ok (.ifCond .eq 28, 3) := by decide +kernel
theorem dX12_barred_7 : decode cX12_barred 7 = .ok (.iload_n 2, 1) := by decide +kernel
theorem dX12_barred_8 : decode cX12_barred 8 = .ok (.invokestatic 142, 3) := by decide +kernel
theorem dX12_barred_11 : decode cX12_barred 11 = .ok (.ifCond .eq 21, 3) := by decide +kernel
theorem dX12_barred_14 : decode cX12_barred 14 = .ok (.aload_n 0, 1) := by decide +kernel
theorem dX12_barred_15 : decode cX12_barred 15 = .ok (.iload_n 3, 1) := by decide +kernel
theorem dX12_barred_16 : decode cX12_barred 16 = .ok (.invokevirtual 145, 3) := by decide +kernel
theorem dX12_barred_19 : decode cX12_barred 19 = .ok (.ifCond .eq 13, 3) := by decide +kernel
theorem dX12_barred_22 : decode cX12_barred 22 = .ok (.aload_n 0, 1) := by decide +kernel
theorem dX12_barred_23 : decode cX12_barred 23 = .ok (.iload_n 1, 1) := by decide +kernel
theorem dX12_barred_24 : decode cX12_barred 24 = .ok (.iload_n 2, 1) := by decide +kernel
theorem dX12_barred_25 : decode cX12_barred 25 = .ok (.iload_n 3, 1) := by decide +kernel
theorem dX12_barred_26 : decode cX12_barred 26 = .ok (.invokevirtual 277, 3) := by decide +kernel
theorem dX12_barred_29 : decode cX12_barred 29 = .ok (.goto 5, 3) := by decide +kernel
theorem dX12_barred_32 : decode cX12_barred 32 = .ok (.bipush (-2), 2) := by decide +kernel
theorem dX12_barred_34 : decode cX12_barred 34 = .ok (.ireturn, 1) := by decide +kernel
theorem dX12_isFit_0 : decode cX12_isFit 0 = .ok (.aload_n 0, 1) := by decide +kernel
theorem dX12_isFit_1 : decode cX12_isFit 1 = .ok (.iload_n 1, 1) := by decide +kernel
theorem dX12_isFit_2 : decode cX12_isFit 2 = .ok (.invokevirtual 107, 3) := by decide +kernel
theorem dX12_isFit_5 : decode cX12_isFit 5 = .ok (.ifCond .eq 45, 3) := by decide +kernel
theorem dX12_isFit_8 : decode cX12_isFit 8 = .ok (.aload_n 0, 1) := by decide +kernel
theorem dX12_isFit_9 : decode cX12_isFit 9 = .ok (.getfield 7, 3) := by decide +kernel
theorem dX12_isFit_12 : decode cX12_isFit 12 = .ok (.iload_n 1, 1) := by decide +kernel
theorem dX12_isFit_13 : decode cX12_isFit 13 = .ok (.iaload, 1) := by decide +kernel
theorem dX12_isFit_14 : decode cX12_isFit 14 = .ok (.iload_n 2, 1) := by decide +kernel
theorem dX12_isFit_15 : decode cX12_isFit 15 = .ok (.if_icmp .ne 35, 3) := by decide +kernel
theorem dX12_isFit_18 : decode cX12_isFit 18 = .ok (.aload_n 0, 1) := by decide +kernel
theorem dX12_isFit_19 : decode cX12_isFit 19 = .ok (.iload_n 1, 1) := by decide +kernel
theorem dX12_isFit_20 : decode cX12_isFit 20 = .ok (.aload_n 0, 1) := by decide +kernel
theorem dX12_isFit_21 : decode cX12_isFit 21 = .ok (.getfield 97, 3) := by decide +kernel
theorem dX12_isFit_24 : decode cX12_isFit 24 = .ok (.invokevirtual 127, 3) := by decide +kernel
theorem dX12_isFit_27 : decode cX12_isFit 27 = .ok (.iload_n 3, 1) := by decide +kernel
theorem dX12_isFit_28 : decode cX12_isFit 28 = .ok (.if_icmp .ne 22, 3) := by decide +kernel
theorem dX12_isFit_31 : decode cX12_isFit 31 = .ok (.aload_n 0, 1) := by decide +kernel
theorem dX12_isFit_32 : decode cX12_isFit 32 = .ok (.getfield 19, 3) := by decide +kernel
theorem dX12_isFit_35 : decode cX12_isFit 35 = .ok (.iload_n 1, 1) := by decide +kernel
theorem dX12_isFit_36 : decode cX12_isFit 36 = .ok (.iaload, 1) := by decide +kernel
theorem dX12_isFit_37 : decode cX12_isFit 37 = .ok (.iload 4, 2) := by decide +kernel
theorem dX12_isFit_39 : decode cX12_isFit 39 = .ok (.ishr, 1) := by decide +kernel
theorem dX12_isFit_40 : decode cX12_isFit 40 = .ok (.iconst 1, 1) := by decide +kernel
theorem dX12_isFit_41 : decode cX12_isFit 41 = .ok (.iand, 1) := by decide +kernel
theorem dX12_isFit_42 : decode cX12_isFit 42 = .ok (.iconst 1, 1) := by decide +kernel
theorem dX12_isFit_43 : decode cX12_isFit 43 = .ok (.if_icmp .ne 7, 3) := by decide +kernel
theorem dX12_isFit_46 : decode cX12_isFit 46 = .ok (.iconst 1, 1) := by decide +kernel
theorem dX12_isFit_47 : decode cX12_isFit 47 = .ok (.goto 4, 3) := by decide +kernel
theorem dX12_isFit_50 : decode cX12_isFit 50 = .ok (.iconst 0, 1) := by decide +kernel
theorem dX12_isFit_51 : decode cX12_isFit 51 = .ok (.ireturn, 1) := by decide +kernel
theorem dX12_next_0 : decode cX12_next 0 = .ok (.iload_n 1, 1) := by decide +kernel
theorem dX12_next_1 : decode cX12_next 1 = .ok (.istore 5, 2) := by decide +kernel
theorem dX12_next_3 : decode cX12_next 3 = .ok (.iload 5, 2) := by decide +kernel
theorem dX12_next_5 : decode cX12_next 5 = .ok (.aload_n 0, 1) := by decide +kernel
theorem dX12_next_6 : decode cX12_next 6 = .ok (.getfield 90, 3) := by decide +kernel
theorem dX12_next_9 : decode cX12_next 9 = .ok (.if_icmp .ge 22, 3) := by decide +kernel
theorem dX12_next_12 : decode cX12_next 12 = .ok (.aload_n 0, 1) := by decide +kernel
theorem dX12_next_13 : decode cX12_next 13 = .ok (.iload 5, 2) := by decide +kernel
theorem dX12_next_15 : decode cX12_next 15 = .ok (.iload_n 2, 1) := by decide +kernel
theorem dX12_next_16 : decode cX12_next 16 = .ok (.iload_n 3, 1) := by decide +kernel
theorem dX12_next_17 : decode cX12_next 17 = .ok (.iload 4, 2) := by decide +kernel
theorem dX12_next_19 : decode cX12_next 19 = .ok (.invokevirtual 280, 3) := by decide +kernel
theorem dX12_next_22 : decode cX12_next 22 = .ok (.ifCond .ne 9, 3) := by decide +kernel
theorem dX12_next_25 : decode cX12_next 25 = .ok (.iinc 5 1, 3) := by decide +kernel
theorem dX12_next_28 : decode cX12_next 28 = .ok (.goto (-25), 3) := by decide +kernel
theorem dX12_next_31 : decode cX12_next 31 = .ok (.iload 5, 2) := by decide +kernel
theorem dX12_next_33 : decode cX12_next 33 = .ok (.aload_n 0, 1) := by decide +kernel
theorem dX12_next_34 : decode cX12_next 34 = .ok (.getfield 90, 3) := by decide +kernel
theorem dX12_next_37 : decode cX12_next 37 = .ok (.if_icmp .ge 8, 3) := by decide +kernel
theorem dX12_next_40 : decode cX12_next 40 = .ok (.iload 5, 2) := by decide +kernel
theorem dX12_next_42 : decode cX12_next 42 = .ok (.goto 4, 3) := by decide +kernel
theorem dX12_next_45 : decode cX12_next 45 = .ok (.iconst (-1), 1) := by decide +kernel
theorem dX12_next_46 : decode cX12_next 46 = .ok (.ireturn, 1) := by decide +kernel
theorem dX12_tries_0 : decode cX12_tries 0 = .ok (.iconst 0, 1) := by decide +kernel
theorem dX12_tries_1 : decode cX12_tries 1 = .ok (.istore_n 3, 1) := by decide +kernel
theorem dX12_tries_2 : decode cX12_tries 2 = .ok (.iconst 0, 1) := by decide +kernel
theorem dX12_tries_3 : decode cX12_tries 3 = .ok (.istore 4, 2) := by decide +kernel
theorem dX12_tries_5 : decode cX12_tries 5 = .ok (.iconst 0, 1) := by decide +kernel
theorem dX12_tries_6 : decode cX12_tries 6 = .ok (.istore 5, 2) := by decide +kernel
theorem dX12_tries_8 : decode cX12_tries 8 = .ok (.iload 5, 2) := by decide +kernel
theorem dX12_tries_10 : decode cX12_tries 10 = .ok (.iconst 5, 1) := by decide +kernel
theorem dX12_tries_11 : decode cX12_tries 11 = .ok (.if_icmp .ge 52, 3) := by decide +kernel
theorem dX12_tries_14 : decode cX12_tries 14 = .ok (.aload_n 0, 1) := by decide +kernel
theorem dX12_tries_15 : decode cX12_tries 15 = .ok (.getfield 83, 3) := by decide +kernel
theorem dX12_tries_18 : decode cX12_tries 18 = .ok (.iload 5, 2) := by decide +kernel
theorem dX12_tries_20 : decode cX12_tries 20 = .ok (.iaload, 1) := by decide +kernel
theorem dX12_tries_21 : decode cX12_tries 21 = .ok (.iconst (-1), 1) := by decide +kernel
theorem dX12_tries_22 : decode cX12_tries 22 = .ok (.if_icmp .ne 6, 3) := by decide +kernel
theorem dX12_tries_25 : decode cX12_tries 25 = .ok (.goto 32, 3) := by decide +kernel
theorem dX12_tries_28 : decode cX12_tries 28 = .ok (.iload_n 3, 1) := by decide +kernel
theorem dX12_tries_29 : decode cX12_tries 29 = .ok (.iconst 1, 1) := by decide +kernel
theorem dX12_tries_30 : decode cX12_tries 30 = .ok (.aload_n 0, 1) := by decide +kernel
theorem dX12_tries_31 : decode cX12_tries 31 = .ok (.getfield 83, 3) := by decide +kernel
theorem dX12_tries_34 : decode cX12_tries 34 = .ok (.iload 5, 2) := by decide +kernel
theorem dX12_tries_36 : decode cX12_tries 36 = .ok (.iaload, 1) := by decide +kernel
theorem dX12_tries_37 : decode cX12_tries 37 = .ok (.ishl, 1) := by decide +kernel
theorem dX12_tries_38 : decode cX12_tries 38 = .ok (.ior, 1) := by decide +kernel
theorem dX12_tries_39 : decode cX12_tries 39 = .ok (.istore_n 3, 1) := by decide +kernel
theorem dX12_tries_40 : decode cX12_tries 40 = .ok (.iload 4, 2) := by decide +kernel
theorem dX12_tries_42 : decode cX12_tries 42 = .ok (.aload_n 0, 1) := by decide +kernel
theorem dX12_tries_43 : decode cX12_tries 43 = .ok (.getfield 13, 3) := by decide +kernel
theorem dX12_tries_46 : decode cX12_tries 46 = .ok (.aload_n 0, 1) := by decide +kernel
theorem dX12_tries_47 : decode cX12_tries 47 = .ok (.getfield 83, 3) := by decide +kernel
theorem dX12_tries_50 : decode cX12_tries 50 = .ok (.iload 5, 2) := by decide +kernel
theorem dX12_tries_52 : decode cX12_tries 52 = .ok (.iaload, 1) := by decide +kernel
theorem dX12_tries_53 : decode cX12_tries 53 = .ok (.iaload, 1) := by decide +kernel
theorem dX12_tries_54 : decode cX12_tries 54 = .ok (.iadd, 1) := by decide +kernel
theorem dX12_tries_55 : decode cX12_tries 55 = .ok (.istore 4, 2) := by decide +kernel
theorem dX12_tries_57 : decode cX12_tries 57 = .ok (.iinc 5 1, 3) := by decide +kernel
theorem dX12_tries_60 : decode cX12_tries 60 = .ok (.goto (-52), 3) := by decide +kernel
theorem dX12_tries_63 : decode cX12_tries 63 = .ok (.aload_n 0, 1) := by decide +kernel
theorem dX12_tries_64 : decode cX12_tries 64 = .ok (.iload_n 1, 1) := by decide +kernel
theorem dX12_tries_65 : decode cX12_tries 65 = .ok (.iload_n 2, 1) := by decide +kernel
theorem dX12_tries_66 : decode cX12_tries 66 = .ok (.iload_n 3, 1) := by decide +kernel
theorem dX12_tries_67 : decode cX12_tries 67 = .ok (.invokevirtual 277, 3) := by decide +kernel
theorem dX12_tries_70 : decode cX12_tries 70 = .ok (.iconst (-1), 1) := by decide +kernel
theorem dX12_tries_71 : decode cX12_tries 71 = .ok (.if_icmp .eq 4, 3) := by decide +kernel
theorem dX12_tries_74 : decode cX12_tries 74 = .ok (.return_, 1) := by decide +kernel
theorem dX12_tries_75 : decode cX12_tries 75 = .ok (.aload_n 0, 1) := by decide +kernel
theorem dX12_tries_76 : decode cX12_tries 76 = .ok (.dup, 1) := by decide +kernel
theorem dX12_tries_77 : decode cX12_tries 77 = .ok (.getfield 283, 3) := by decide +kernel
theorem dX12_tries_80 : decode cX12_tries 80 = .ok (.iconst 1, 1) := by decide +kernel
theorem dX12_tries_81 : decode cX12_tries 81 = .ok (.iadd, 1) := by decide +kernel
theorem dX12_tries_82 : decode cX12_tries 82 = .ok (.putfield 283, 3) := by decide +kernel
theorem dX12_tries_85 : decode cX12_tries 85 = .ok (.aload_n 0, 1) := by decide +kernel
theorem dX12_tries_86 : decode cX12_tries 86 = .ok (.iload_n 2, 1) := by decide +kernel
theorem dX12_tries_87 : decode cX12_tries 87 = .ok (.iload_n 3, 1) := by decide +kernel
theorem dX12_tries_88 : decode cX12_tries 88 = .ok (.invokevirtual 152, 3) := by decide +kernel
theorem dX12_tries_91 : decode cX12_tries 91 = .ok (.istore 5, 2) := by decide +kernel
theorem dX12_tries_93 : decode cX12_tries 93 = .ok (.aload_n 0, 1) := by decide +kernel
theorem dX12_tries_94 : decode cX12_tries 94 = .ok (.getfield 286, 3) := by decide +kernel
theorem dX12_tries_97 : decode cX12_tries 97 = .ok (.ifCond .eq 31, 3) := by decide +kernel
theorem dX12_tries_100 : decode cX12_tries 100 = .ok (.iload 5, 2) := by decide +kernel
theorem dX12_tries_102 : decode cX12_tries 102 = .ok (.aload_n 0, 1) := by decide +kernel
theorem dX12_tries_103 : decode cX12_tries 103 = .ok (.getfield 289, 3) := by decide +kernel
theorem dX12_tries_106 : decode cX12_tries 106 = .ok (.if_icmp .gt 21, 3) := by decide +kernel
theorem dX12_tries_109 : decode cX12_tries 109 = .ok (.iload 5, 2) := by decide +kernel
theorem dX12_tries_111 : decode cX12_tries 111 = .ok (.aload_n 0, 1) := by decide +kernel
theorem dX12_tries_112 : decode cX12_tries 112 = .ok (.getfield 289, 3) := by decide +kernel
theorem dX12_tries_115 : decode cX12_tries 115 = .ok (.if_icmp .ne 13, 3) := by decide +kernel
theorem dX12_tries_118 : decode cX12_tries 118 = .ok (.iload 4, 2) := by decide +kernel
theorem dX12_tries_120 : decode cX12_tries 120 = .ok (.aload_n 0, 1) := by decide +kernel
theorem dX12_tries_121 : decode cX12_tries 121 = .ok (.getfield 292, 3) := by decide +kernel
theorem dX12_tries_124 : decode cX12_tries 124 = .ok (.if_icmp .gt 4, 3) := by decide +kernel
theorem dX12_tries_127 : decode cX12_tries 127 = .ok (.return_, 1) := by decide +kernel
theorem dX12_tries_128 : decode cX12_tries 128 = .ok (.aload_n 0, 1) := by decide +kernel
theorem dX12_tries_129 : decode cX12_tries 129 = .ok (.iload_n 3, 1) := by decide +kernel
theorem dX12_tries_130 : decode cX12_tries 130 = .ok (.putfield 286, 3) := by decide +kernel
theorem dX12_tries_133 : decode cX12_tries 133 = .ok (.aload_n 0, 1) := by decide +kernel
theorem dX12_tries_134 : decode cX12_tries 134 = .ok (.iload 5, 2) := by decide +kernel
theorem dX12_tries_136 : decode cX12_tries 136 = .ok (.putfield 289, 3) := by decide +kernel
theorem dX12_tries_139 : decode cX12_tries 139 = .ok (.aload_n 0, 1) := by decide +kernel
theorem dX12_tries_140 : decode cX12_tries 140 = .ok (.iload 4, 2) := by decide +kernel
theorem dX12_tries_142 : decode cX12_tries 142 = .ok (.putfield 292, 3) := by decide +kernel
theorem dX12_tries_145 : decode cX12_tries 145 = .ok (.return_, 1) := by decide +kernel
theorem dX12_finds_0 : decode cX12_finds 0 = .ok (.aload_n 0, 1) := by decide +kernel
theorem dX12_finds_1 : decode cX12_finds 1 = .ok (.iconst 0, 1) := by decide +kernel
theorem dX12_finds_2 : decode cX12_finds 2 = .ok (.putfield 286, 3) := by decide +kernel
theorem dX12_finds_5 : decode cX12_finds 5 = .ok (.aload_n 0, 1) := by decide +kernel
theorem dX12_finds_6 : decode cX12_finds 6 = .ok (.iconst 0, 1) := by decide +kernel
theorem dX12_finds_7 : decode cX12_finds 7 = .ok (.putfield 283, 3) := by decide +kernel
theorem dX12_finds_10 : decode cX12_finds 10 = .ok (.iconst 0, 1) := by decide +kernel
theorem dX12_finds_11 : decode cX12_finds 11 = .ok (.istore 5, 2) := by decide +kernel
theorem dX12_finds_13 : decode cX12_finds 13 = .ok (.iload 5, 2) := by decide +kernel
theorem dX12_finds_15 : decode cX12_finds 15 = .ok (.iconst 5, 1) := by decide +kernel
theorem dX12_finds_16 : decode cX12_finds 16 = .ok (.if_icmp .ge 62, 3) := by decide +kernel
theorem dX12_finds_19 : decode cX12_finds 19 = .ok (.aload_n 0, 1) := by decide +kernel
theorem dX12_finds_20 : decode cX12_finds 20 = .ok (.getfield 83, 3) := by decide +kernel
theorem dX12_finds_23 : decode cX12_finds 23 = .ok (.iload 5, 2) := by decide +kernel
theorem dX12_finds_25 : decode cX12_finds 25 = .ok (.iload 4, 2) := by decide +kernel
theorem dX12_finds_27 : decode cX12_finds 27 = .ok (.iload 5, 2) := by decide +kernel
theorem dX12_finds_29 : decode cX12_finds 29 = .ok (.ishr, 1) := by decide +kernel
theorem dX12_finds_30 : decode cX12_finds 30 = .ok (.iconst 1, 1) := by decide +kernel
theorem dX12_finds_31 : decode cX12_finds 31 = .ok (.iand, 1) := by decide +kernel
theorem dX12_finds_32 : decode cX12_finds 32 = .ok (.ifCond .ne 7, 3) := by decide +kernel
theorem dX12_finds_35 : decode cX12_finds 35 = .ok (.iconst (-1), 1) := by decide +kernel
theorem dX12_finds_36 : decode cX12_finds 36 = .ok (.goto 12, 3) := by decide +kernel
theorem dX12_finds_39 : decode cX12_finds 39 = .ok (.aload_n 0, 1) := by decide +kernel
theorem dX12_finds_40 : decode cX12_finds 40 = .ok (.iconst 0, 1) := by decide +kernel
theorem dX12_finds_41 : decode cX12_finds 41 = .ok (.iload 5, 2) := by decide +kernel
theorem dX12_finds_43 : decode cX12_finds 43 = .ok (.iload_n 1, 1) := by decide +kernel
theorem dX12_finds_44 : decode cX12_finds 44 = .ok (.iload_n 2, 1) := by decide +kernel
theorem dX12_finds_45 : decode cX12_finds 45 = .ok (.invokevirtual 295, 3) := by decide +kernel
theorem dX12_finds_48 : decode cX12_finds 48 = .ok (.iastore, 1) := by decide +kernel
theorem dX12_finds_49 : decode cX12_finds 49 = .ok (.iload 4, 2) := by decide +kernel
theorem dX12_finds_51 : decode cX12_finds 51 = .ok (.iload 5, 2) := by decide +kernel
theorem dX12_finds_53 : decode cX12_finds 53 = .ok (.ishr, 1) := by decide +kernel
theorem dX12_finds_54 : decode cX12_finds 54 = .ok (.iconst 1, 1) := by decide +kernel
theorem dX12_finds_55 : decode cX12_finds 55 = .ok (.iand, 1) := by decide +kernel
theorem dX12_finds_56 : decode cX12_finds 56 = .ok (.iconst 1, 1) := by decide +kernel
theorem dX12_finds_57 : decode cX12_finds 57 = .ok (.if_icmp .ne 15, 3) := by decide +kernel
theorem dX12_finds_60 : decode cX12_finds 60 = .ok (.aload_n 0, 1) := by decide +kernel
theorem dX12_finds_61 : decode cX12_finds 61 = .ok (.getfield 83, 3) := by decide +kernel
theorem dX12_finds_64 : decode cX12_finds 64 = .ok (.iload 5, 2) := by decide +kernel
theorem dX12_finds_66 : decode cX12_finds 66 = .ok (.iaload, 1) := by decide +kernel
theorem dX12_finds_67 : decode cX12_finds 67 = .ok (.iconst (-1), 1) := by decide +kernel
theorem dX12_finds_68 : decode cX12_finds 68 = .ok (.if_icmp .ne 4, 3) := by decide +kernel
theorem dX12_finds_71 : decode cX12_finds 71 = .ok (.return_, 1) := by decide +kernel
theorem dX12_finds_72 : decode cX12_finds 72 = .ok (.iinc 5 1, 3) := by decide +kernel
theorem dX12_finds_75 : decode cX12_finds 75 = .ok (.goto (-62), 3) := by decide +kernel
theorem dX12_finds_78 : decode cX12_finds 78 = .ok (.iconst 1, 1) := by decide +kernel
theorem dX12_finds_79 : decode cX12_finds 79 = .ok (.istore 5, 2) := by decide +kernel
theorem dX12_finds_81 : decode cX12_finds 81 = .ok (.iload 5, 2) := by decide +kernel
theorem dX12_finds_83 : decode cX12_finds 83 = .ok (.ifCond .eq 125, 3) := by decide +kernel
theorem dX12_finds_86 : decode cX12_finds 86 = .ok (.aload_n 0, 1) := by decide +kernel
theorem dX12_finds_87 : decode cX12_finds 87 = .ok (.iload_n 2, 1) := by decide +kernel
theorem dX12_finds_88 : decode cX12_finds 88 = .ok (.iload_n 3, 1) := by decide +kernel
theorem dX12_finds_89 : decode cX12_finds 89 = .ok (.invokevirtual 298, 3) := by decide +kernel
theorem dX12_finds_92 : decode cX12_finds 92 = .ok (.iconst 4, 1) := by decide +kernel
theorem dX12_finds_93 : decode cX12_finds 93 = .ok (.istore 6, 2) := by decide +kernel
theorem dX12_finds_95 : decode cX12_finds 95 = .ok (.iconst 0, 1) := by decide +kernel
theorem dX12_finds_96 : decode cX12_finds 96 = .ok (.istore 5, 2) := by decide +kernel
theorem dX12_finds_98 : decode cX12_finds 98 = .ok (.iload 6, 2) := by decide +kernel
theorem dX12_finds_100 : decode cX12_finds 100 = .ok (.ifCond .lt 105, 3) := by decide +kernel
theorem dX12_finds_103 : decode cX12_finds 103 = .ok (.iload 5, 2) := by decide +kernel
theorem dX12_finds_105 : decode cX12_finds 105 = .ok (.ifCond .ne 100, 3) := by decide +kernel
theorem dX12_finds_108 : decode cX12_finds 108 = .ok (.aload_n 0, 1) := by decide +kernel
theorem dX12_finds_109 : decode cX12_finds 109 = .ok (.getfield 83, 3) := by decide +kernel
theorem dX12_finds_112 : decode cX12_finds 112 = .ok (.iload 6, 2) := by decide +kernel
theorem dX12_finds_114 : decode cX12_finds 114 = .ok (.iaload, 1) := by decide +kernel
theorem dX12_finds_115 : decode cX12_finds 115 = .ok (.iconst (-1), 1) := by decide +kernel
theorem dX12_finds_116 : decode cX12_finds 116 = .ok (.if_icmp .ne 7, 3) := by decide +kernel
theorem dX12_finds_119 : decode cX12_finds 119 = .ok (.iconst (-1), 1) := by decide +kernel
theorem dX12_finds_120 : decode cX12_finds 120 = .ok (.goto 20, 3) := by decide +kernel
theorem dX12_finds_123 : decode cX12_finds 123 = .ok (.aload_n 0, 1) := by decide +kernel
theorem dX12_finds_124 : decode cX12_finds 124 = .ok (.aload_n 0, 1) := by decide +kernel
theorem dX12_finds_125 : decode cX12_finds 125 = .ok (.getfield 83, 3) := by decide +kernel
theorem dX12_finds_128 : decode cX12_finds 128 = .ok (.iload 6, 2) := by decide +kernel
theorem dX12_finds_130 : decode cX12_finds 130 = .ok (.iaload, 1) := by decide +kernel
theorem dX12_finds_131 : decode cX12_finds 131 = .ok (.iconst 1, 1) := by decide +kernel
theorem dX12_finds_132 : decode cX12_finds 132 = .ok (.iadd, 1) := by decide +kernel
theorem dX12_finds_133 : decode cX12_finds 133 = .ok (.iload 6, 2) := by decide +kernel
theorem dX12_finds_135 : decode cX12_finds 135 = .ok (.iload_n 1, 1) := by decide +kernel
theorem dX12_finds_136 : decode cX12_finds 136 = .ok (.iload_n 2, 1) := by decide +kernel
theorem dX12_finds_137 : decode cX12_finds 137 = .ok (.invokevirtual 295, 3) := by decide +kernel
theorem dX12_finds_140 : decode cX12_finds 140 = .ok (.istore 7, 2) := by decide +kernel
theorem dX12_finds_142 : decode cX12_finds 142 = .ok (.iload 7, 2) := by decide +kernel
theorem dX12_finds_144 : decode cX12_finds 144 = .ok (.iconst (-1), 1) := by decide +kernel
theorem dX12_finds_145 : decode cX12_finds 145 = .ok (.if_icmp .eq 7, 3) := by decide +kernel
theorem dX12_finds_148 : decode cX12_finds 148 = .ok (.iconst 1, 1) := by decide +kernel
theorem dX12_finds_149 : decode cX12_finds 149 = .ok (.goto 4, 3) := by decide +kernel
theorem dX12_finds_152 : decode cX12_finds 152 = .ok (.iconst 0, 1) := by decide +kernel
theorem dX12_finds_153 : decode cX12_finds 153 = .ok (.istore 5, 2) := by decide +kernel
theorem dX12_finds_155 : decode cX12_finds 155 = .ok (.iload 5, 2) := by decide +kernel
theorem dX12_finds_157 : decode cX12_finds 157 = .ok (.ifCond .eq 15, 3) := by decide +kernel
theorem dX12_finds_160 : decode cX12_finds 160 = .ok (.aload_n 0, 1) := by decide +kernel
theorem dX12_finds_161 : decode cX12_finds 161 = .ok (.getfield 83, 3) := by decide +kernel
theorem dX12_finds_164 : decode cX12_finds 164 = .ok (.iload 6, 2) := by decide +kernel
theorem dX12_finds_166 : decode cX12_finds 166 = .ok (.iload 7, 2) := by decide +kernel
theorem dX12_finds_168 : decode cX12_finds 168 = .ok (.iastore, 1) := by decide +kernel
theorem dX12_finds_169 : decode cX12_finds 169 = .ok (.goto 30, 3) := by decide +kernel
theorem dX12_finds_172 : decode cX12_finds 172 = .ok (.aload_n 0, 1) := by decide +kernel
theorem dX12_finds_173 : decode cX12_finds 173 = .ok (.getfield 83, 3) := by decide +kernel
theorem dX12_finds_176 : decode cX12_finds 176 = .ok (.iload 6, 2) := by decide +kernel
theorem dX12_finds_178 : decode cX12_finds 178 = .ok (.iaload, 1) := by decide +kernel
theorem dX12_finds_179 : decode cX12_finds 179 = .ok (.iconst (-1), 1) := by decide +kernel
theorem dX12_finds_180 : decode cX12_finds 180 = .ok (.if_icmp .eq 19, 3) := by decide +kernel
theorem dX12_finds_183 : decode cX12_finds 183 = .ok (.aload_n 0, 1) := by decide +kernel
theorem dX12_finds_184 : decode cX12_finds 184 = .ok (.getfield 83, 3) := by decide +kernel
theorem dX12_finds_187 : decode cX12_finds 187 = .ok (.iload 6, 2) := by decide +kernel
theorem dX12_finds_189 : decode cX12_finds 189 = .ok (.aload_n 0, 1) := by decide +kernel
theorem dX12_finds_190 : decode cX12_finds 190 = .ok (.iconst 0, 1) := by decide +kernel
theorem dX12_finds_191 : decode cX12_finds 191 = .ok (.iload 6, 2) := by decide +kernel
theorem dX12_finds_193 : decode cX12_finds 193 = .ok (.iload_n 1, 1) := by decide +kernel
theorem dX12_finds_194 : decode cX12_finds 194 = .ok (.iload_n 2, 1) := by decide +kernel
theorem dX12_finds_195 : decode cX12_finds 195 = .ok (.invokevirtual 295, 3) := by decide +kernel
theorem dX12_finds_198 : decode cX12_finds 198 = .ok (.iastore, 1) := by decide +kernel
theorem dX12_finds_199 : decode cX12_finds 199 = .ok (.iinc 6 (-1), 3) := by decide +kernel
theorem dX12_finds_202 : decode cX12_finds 202 = .ok (.goto (-104), 3) := by decide +kernel
theorem dX12_finds_205 : decode cX12_finds 205 = .ok (.goto (-124), 3) := by decide +kernel
theorem dX12_finds_208 : decode cX12_finds 208 = .ok (.return_, 1) := by decide +kernel
theorem dX12_best_0 : decode cX12_best 0 = .ok (.iload_n 1, 1) := by decide +kernel
theorem dX12_best_1 : decode cX12_best 1 = .ok (.invokestatic 100, 3) := by decide +kernel
theorem dX12_best_4 : decode cX12_best 4 = .ok (.ifCond .eq 38, 3) := by decide +kernel
theorem dX12_best_7 : decode cX12_best 7 = .ok (.iload_n 2, 1) := by decide +kernel
theorem dX12_best_8 : decode cX12_best 8 = .ok (.invokestatic 139, 3) := by decide +kernel
theorem dX12_best_11 : decode cX12_best 11 = .ok (.ifCond .eq 31, 3) := by decide +kernel
theorem dX12_best_14 : decode cX12_best 14 = .ok (.iload_n 3, 1) := by decide +kernel
theorem dX12_best_15 : decode cX12_best 15 = .ok (.invokestatic 142, 3) := by decide +kernel
theorem dX12_best_18 : decode cX12_best 18 = .ok (.ifCond .eq 24, 3) := by decide +kernel
theorem dX12_best_21 : decode cX12_best 21 = .ok (.iload 4, 2) := by decide +kernel
theorem dX12_best_23 : decode cX12_best 23 = .ok (.iconst 1, 1) := by decide +kernel
theorem dX12_best_24 : decode cX12_best 24 = .ok (.bipush 31, 2) := by decide +kernel
theorem dX12_best_26 : decode cX12_best 26 = .ok (.invokestatic 86, 3) := by decide +kernel
theorem dX12_best_29 : decode cX12_best 29 = .ok (.ifCond .eq 13, 3) := by decide +kernel
theorem dX12_best_32 : decode cX12_best 32 = .ok (.iload 5, 2) := by decide +kernel
theorem dX12_best_34 : decode cX12_best 34 = .ok (.iconst 0, 1) := by decide +kernel
theorem dX12_best_35 : decode cX12_best 35 = .ok (.iconst 3, 1) := by decide +kernel
theorem dX12_best_36 : decode cX12_best 36 = .ok (.invokestatic 86, 3) := by decide +kernel
theorem dX12_best_39 : decode cX12_best 39 = .ok (.ifCond .ne 5, 3) := by decide +kernel
theorem dX12_best_42 : decode cX12_best 42 = .ok (.iconst (-1), 1) := by decide +kernel
theorem dX12_best_43 : decode cX12_best 43 = .ok (.ireturn, 1) := by decide +kernel
theorem dX12_best_44 : decode cX12_best 44 = .ok (.aload_n 0, 1) := by decide +kernel
theorem dX12_best_45 : decode cX12_best 45 = .ok (.iload_n 1, 1) := by decide +kernel
theorem dX12_best_46 : decode cX12_best 46 = .ok (.iload_n 2, 1) := by decide +kernel
theorem dX12_best_47 : decode cX12_best 47 = .ok (.iload_n 3, 1) := by decide +kernel
theorem dX12_best_48 : decode cX12_best 48 = .ok (.iload 4, 2) := by decide +kernel
theorem dX12_best_50 : decode cX12_best 50 = .ok (.invokevirtual 302, 3) := by decide +kernel
theorem dX12_best_53 : decode cX12_best 53 = .ok (.aload_n 0, 1) := by decide +kernel
theorem dX12_best_54 : decode cX12_best 54 = .ok (.getfield 286, 3) := by decide +kernel
theorem dX12_best_57 : decode cX12_best 57 = .ok (.ifCond .ne 5, 3) := by decide +kernel
theorem dX12_best_60 : decode cX12_best 60 = .ok (.iconst (-1), 1) := by decide +kernel
theorem dX12_best_61 : decode cX12_best 61 = .ok (.ireturn, 1) := by decide +kernel
theorem dX12_best_62 : decode cX12_best 62 = .ok (.iload 5, 2) := by decide +kernel
theorem dX12_best_64 : decode cX12_best 64 = .ok (.ifCond .ne 10, 3) := by decide +kernel
theorem dX12_best_67 : decode cX12_best 67 = .ok (.aload_n 0, 1) := by decide +kernel
theorem dX12_best_68 : decode cX12_best 68 = .ok (.getfield 286, 3) := by decide +kernel
theorem dX12_best_71 : decode cX12_best 71 = .ok (.goto 33, 3) := by decide +kernel
theorem dX12_best_74 : decode cX12_best 74 = .ok (.iload 5, 2) := by decide +kernel
theorem dX12_best_76 : decode cX12_best 76 = .ok (.iconst 1, 1) := by decide +kernel
theorem dX12_best_77 : decode cX12_best 77 = .ok (.if_icmp .ne 10, 3) := by decide +kernel
theorem dX12_best_80 : decode cX12_best 80 = .ok (.aload_n 0, 1) := by decide +kernel
theorem dX12_best_81 : decode cX12_best 81 = .ok (.getfield 289, 3) := by decide +kernel
theorem dX12_best_84 : decode cX12_best 84 = .ok (.goto 20, 3) := by decide +kernel
theorem dX12_best_87 : decode cX12_best 87 = .ok (.iload 5, 2) := by decide +kernel
theorem dX12_best_89 : decode cX12_best 89 = .ok (.iconst 2, 1) := by decide +kernel
theorem dX12_best_90 : decode cX12_best 90 = .ok (.if_icmp .ne 10, 3) := by decide +kernel
theorem dX12_best_93 : decode cX12_best 93 = .ok (.aload_n 0, 1) := by decide +kernel
theorem dX12_best_94 : decode cX12_best 94 = .ok (.getfield 292, 3) := by decide +kernel
theorem dX12_best_97 : decode cX12_best 97 = .ok (.goto 7, 3) := by decide +kernel
theorem dX12_best_100 : decode cX12_best 100 = .ok (.aload_n 0, 1) := by decide +kernel
theorem dX12_best_101 : decode cX12_best 101 = .ok (.getfield 283, 3) := by decide +kernel
theorem dX12_best_104 : decode cX12_best 104 = .ok (.ireturn, 1) := by decide +kernel
end
section
theorem dL_law_0 : decode cL_law 0 = .ok (.new 7, 3) := by decide +kernel
theorem dL_law_3 : decode cL_law 3 = .ok (.dup, 1) := by decide +kernel
theorem dL_law_4 : decode cL_law 4 = .ok (.invokespecial 9, 3) := by decide +kernel
theorem dL_law_7 : decode cL_law 7 = .ok (.astore_n 1, 1) := by decide +kernel
theorem dL_law_8 : decode cL_law 8 = .ok (.new 10, 3) := by decide +kernel
theorem dL_law_11 : decode cL_law 11 = .ok (.dup, 1) := by decide +kernel
theorem dL_law_12 : decode cL_law 12 = .ok (.invokespecial 12, 3) := by decide +kernel
theorem dL_law_15 : decode cL_law 15 = .ok (.astore_n 2, 1) := by decide +kernel
theorem dL_law_16 : decode cL_law 16 = .ok (.iconst 0, 1) := by decide +kernel
theorem dL_law_17 : decode cL_law 17 = .ok (.istore_n 3, 1) := by decide +kernel
theorem dL_law_18 : decode cL_law 18 = .ok (.iload_n 3, 1) := by decide +kernel
theorem dL_law_19 : decode cL_law 19 = .ok (.aload_n 0, 1) := by decide +kernel
theorem dL_law_20 : decode cL_law 20 = .ok (.arraylength, 1) := by decide +kernel
theorem dL_law_21 : decode cL_law 21 = .ok (.bipush 6, 2) := by decide +kernel
theorem dL_law_23 : decode cL_law 23 = .ok (.isub, 1) := by decide +kernel
theorem dL_law_24 : decode cL_law 24 = .ok (.if_icmp .gt 877, 3) := by decide +kernel
theorem dL_law_27 : decode cL_law 27 = .ok (.aload_n 0, 1) := by decide +kernel
theorem dL_law_28 : decode cL_law 28 = .ok (.iload_n 3, 1) := by decide +kernel
theorem dL_law_29 : decode cL_law 29 = .ok (.iaload, 1) := by decide +kernel
theorem dL_law_30 : decode cL_law 30 = .ok (.bipush 31, 2) := by decide +kernel
theorem dL_law_32 : decode cL_law 32 = .ok (.iand, 1) := by decide +kernel
theorem dL_law_33 : decode cL_law 33 = .ok (.tableswitch 862 0 20 #[99, 162, 205, 238, 271, 294, 317, 340, 363, 396, 439, 472, 525, 558, 601, 634, 697, 720, 733, 756, 799], 99) := by decide +kernel
theorem dL_law_132 : decode cL_law 132 = .ok (.aload_n 1, 1) := by decide +kernel
theorem dL_law_133 : decode cL_law 133 = .ok (.aload_n 0, 1) := by decide +kernel
theorem dL_law_134 : decode cL_law 134 = .ok (.iload_n 3, 1) := by decide +kernel
theorem dL_law_135 : decode cL_law 135 = .ok (.iconst 1, 1) := by decide +kernel
theorem dL_law_136 : decode cL_law 136 = .ok (.iadd, 1) := by decide +kernel
theorem dL_law_137 : decode cL_law 137 = .ok (.iaload, 1) := by decide +kernel
theorem dL_law_138 : decode cL_law 138 = .ok (.aload_n 0, 1) := by decide +kernel
theorem dL_law_139 : decode cL_law 139 = .ok (.iload_n 3, 1) := by decide +kernel
theorem dL_law_140 : decode cL_law 140 = .ok (.iconst 2, 1) := by decide +kernel
theorem dL_law_141 : decode cL_law 141 = .ok (.iadd, 1) := by decide +kernel
theorem dL_law_142 : decode cL_law 142 = .ok (.iaload, 1) := by decide +kernel
theorem dL_law_143 : decode cL_law 143 = .ok (.aload_n 0, 1) := by decide +kernel
theorem dL_law_144 : decode cL_law 144 = .ok (.iload_n 3, 1) := by decide +kernel
theorem dL_law_145 : decode cL_law 145 = .ok (.iconst 3, 1) := by decide +kernel
theorem dL_law_146 : decode cL_law 146 = .ok (.iadd, 1) := by decide +kernel
theorem dL_law_147 : decode cL_law 147 = .ok (.iaload, 1) := by decide +kernel
theorem dL_law_148 : decode cL_law 148 = .ok (.aload_n 0, 1) := by decide +kernel
theorem dL_law_149 : decode cL_law 149 = .ok (.iload_n 3, 1) := by decide +kernel
theorem dL_law_150 : decode cL_law 150 = .ok (.iconst 4, 1) := by decide +kernel
theorem dL_law_151 : decode cL_law 151 = .ok (.iadd, 1) := by decide +kernel
theorem dL_law_152 : decode cL_law 152 = .ok (.iaload, 1) := by decide +kernel
theorem dL_law_153 : decode cL_law 153 = .ok (.aload_n 0, 1) := by decide +kernel
theorem dL_law_154 : decode cL_law 154 = .ok (.iload_n 3, 1) := by decide +kernel
theorem dL_law_155 : decode cL_law 155 = .ok (.iconst 5, 1) := by decide +kernel
theorem dL_law_156 : decode cL_law 156 = .ok (.iadd, 1) := by decide +kernel
theorem dL_law_157 : decode cL_law 157 = .ok (.iaload, 1) := by decide +kernel
theorem dL_law_158 : decode cL_law 158 = .ok (.invokevirtual 13, 3) := by decide +kernel
theorem dL_law_161 : decode cL_law 161 = .ok (.aload_n 2, 1) := by decide +kernel
theorem dL_law_162 : decode cL_law 162 = .ok (.aload_n 0, 1) := by decide +kernel
theorem dL_law_163 : decode cL_law 163 = .ok (.iload_n 3, 1) := by decide +kernel
theorem dL_law_164 : decode cL_law 164 = .ok (.iconst 1, 1) := by decide +kernel
theorem dL_law_165 : decode cL_law 165 = .ok (.iadd, 1) := by decide +kernel
theorem dL_law_166 : decode cL_law 166 = .ok (.iaload, 1) := by decide +kernel
theorem dL_law_167 : decode cL_law 167 = .ok (.aload_n 0, 1) := by decide +kernel
theorem dL_law_168 : decode cL_law 168 = .ok (.iload_n 3, 1) := by decide +kernel
theorem dL_law_169 : decode cL_law 169 = .ok (.iconst 2, 1) := by decide +kernel
theorem dL_law_170 : decode cL_law 170 = .ok (.iadd, 1) := by decide +kernel
theorem dL_law_171 : decode cL_law 171 = .ok (.iaload, 1) := by decide +kernel
theorem dL_law_172 : decode cL_law 172 = .ok (.aload_n 0, 1) := by decide +kernel
theorem dL_law_173 : decode cL_law 173 = .ok (.iload_n 3, 1) := by decide +kernel
theorem dL_law_174 : decode cL_law 174 = .ok (.iconst 3, 1) := by decide +kernel
theorem dL_law_175 : decode cL_law 175 = .ok (.iadd, 1) := by decide +kernel
theorem dL_law_176 : decode cL_law 176 = .ok (.iaload, 1) := by decide +kernel
theorem dL_law_177 : decode cL_law 177 = .ok (.aload_n 0, 1) := by decide +kernel
theorem dL_law_178 : decode cL_law 178 = .ok (.iload_n 3, 1) := by decide +kernel
theorem dL_law_179 : decode cL_law 179 = .ok (.iconst 4, 1) := by decide +kernel
theorem dL_law_180 : decode cL_law 180 = .ok (.iadd, 1) := by decide +kernel
theorem dL_law_181 : decode cL_law 181 = .ok (.iaload, 1) := by decide +kernel
theorem dL_law_182 : decode cL_law 182 = .ok (.aload_n 0, 1) := by decide +kernel
theorem dL_law_183 : decode cL_law 183 = .ok (.iload_n 3, 1) := by decide +kernel
theorem dL_law_184 : decode cL_law 184 = .ok (.iconst 5, 1) := by decide +kernel
theorem dL_law_185 : decode cL_law 185 = .ok (.iadd, 1) := by decide +kernel
theorem dL_law_186 : decode cL_law 186 = .ok (.iaload, 1) := by decide +kernel
theorem dL_law_187 : decode cL_law 187 = .ok (.invokevirtual 17, 3) := by decide +kernel
theorem dL_law_190 : decode cL_law 190 = .ok (.if_icmp .eq 705, 3) := by decide +kernel
theorem dL_law_193 : decode cL_law 193 = .ok (.iconst 0, 1) := by decide +kernel
theorem dL_law_194 : decode cL_law 194 = .ok (.ireturn, 1) := by decide +kernel
theorem dL_law_195 : decode cL_law 195 = .ok (.aload_n 1, 1) := by decide +kernel
theorem dL_law_196 : decode cL_law 196 = .ok (.aload_n 0, 1) := by decide +kernel
theorem dL_law_197 : decode cL_law 197 = .ok (.iload_n 3, 1) := by decide +kernel
theorem dL_law_198 : decode cL_law 198 = .ok (.iconst 1, 1) := by decide +kernel
theorem dL_law_199 : decode cL_law 199 = .ok (.iadd, 1) := by decide +kernel
theorem dL_law_200 : decode cL_law 200 = .ok (.iaload, 1) := by decide +kernel
theorem dL_law_201 : decode cL_law 201 = .ok (.aload_n 0, 1) := by decide +kernel
theorem dL_law_202 : decode cL_law 202 = .ok (.iload_n 3, 1) := by decide +kernel
theorem dL_law_203 : decode cL_law 203 = .ok (.iconst 2, 1) := by decide +kernel
theorem dL_law_204 : decode cL_law 204 = .ok (.iadd, 1) := by decide +kernel
theorem dL_law_205 : decode cL_law 205 = .ok (.iaload, 1) := by decide +kernel
theorem dL_law_206 : decode cL_law 206 = .ok (.aload_n 0, 1) := by decide +kernel
theorem dL_law_207 : decode cL_law 207 = .ok (.iload_n 3, 1) := by decide +kernel
theorem dL_law_208 : decode cL_law 208 = .ok (.iconst 3, 1) := by decide +kernel
theorem dL_law_209 : decode cL_law 209 = .ok (.iadd, 1) := by decide +kernel
theorem dL_law_210 : decode cL_law 210 = .ok (.iaload, 1) := by decide +kernel
theorem dL_law_211 : decode cL_law 211 = .ok (.invokevirtual 18, 3) := by decide +kernel
theorem dL_law_214 : decode cL_law 214 = .ok (.aload_n 2, 1) := by decide +kernel
theorem dL_law_215 : decode cL_law 215 = .ok (.aload_n 0, 1) := by decide +kernel
theorem dL_law_216 : decode cL_law 216 = .ok (.iload_n 3, 1) := by decide +kernel
theorem dL_law_217 : decode cL_law 217 = .ok (.iconst 1, 1) := by decide +kernel
theorem dL_law_218 : decode cL_law 218 = .ok (.iadd, 1) := by decide +kernel
theorem dL_law_219 : decode cL_law 219 = .ok (.iaload, 1) := by decide +kernel
theorem dL_law_220 : decode cL_law 220 = .ok (.aload_n 0, 1) := by decide +kernel
theorem dL_law_221 : decode cL_law 221 = .ok (.iload_n 3, 1) := by decide +kernel
theorem dL_law_222 : decode cL_law 222 = .ok (.iconst 2, 1) := by decide +kernel
theorem dL_law_223 : decode cL_law 223 = .ok (.iadd, 1) := by decide +kernel
theorem dL_law_224 : decode cL_law 224 = .ok (.iaload, 1) := by decide +kernel
theorem dL_law_225 : decode cL_law 225 = .ok (.aload_n 0, 1) := by decide +kernel
theorem dL_law_226 : decode cL_law 226 = .ok (.iload_n 3, 1) := by decide +kernel
theorem dL_law_227 : decode cL_law 227 = .ok (.iconst 3, 1) := by decide +kernel
theorem dL_law_228 : decode cL_law 228 = .ok (.iadd, 1) := by decide +kernel
theorem dL_law_229 : decode cL_law 229 = .ok (.iaload, 1) := by decide +kernel
theorem dL_law_230 : decode cL_law 230 = .ok (.invokevirtual 22, 3) := by decide +kernel
theorem dL_law_233 : decode cL_law 233 = .ok (.if_icmp .eq 662, 3) := by decide +kernel
theorem dL_law_236 : decode cL_law 236 = .ok (.iconst 0, 1) := by decide +kernel
theorem dL_law_237 : decode cL_law 237 = .ok (.ireturn, 1) := by decide +kernel
theorem dL_law_238 : decode cL_law 238 = .ok (.aload_n 1, 1) := by decide +kernel
theorem dL_law_239 : decode cL_law 239 = .ok (.aload_n 0, 1) := by decide +kernel
theorem dL_law_240 : decode cL_law 240 = .ok (.iload_n 3, 1) := by decide +kernel
theorem dL_law_241 : decode cL_law 241 = .ok (.iconst 1, 1) := by decide +kernel
theorem dL_law_242 : decode cL_law 242 = .ok (.iadd, 1) := by decide +kernel
theorem dL_law_243 : decode cL_law 243 = .ok (.iaload, 1) := by decide +kernel
theorem dL_law_244 : decode cL_law 244 = .ok (.aload_n 0, 1) := by decide +kernel
theorem dL_law_245 : decode cL_law 245 = .ok (.iload_n 3, 1) := by decide +kernel
theorem dL_law_246 : decode cL_law 246 = .ok (.iconst 2, 1) := by decide +kernel
theorem dL_law_247 : decode cL_law 247 = .ok (.iadd, 1) := by decide +kernel
theorem dL_law_248 : decode cL_law 248 = .ok (.iaload, 1) := by decide +kernel
theorem dL_law_249 : decode cL_law 249 = .ok (.invokevirtual 23, 3) := by decide +kernel
theorem dL_law_252 : decode cL_law 252 = .ok (.aload_n 2, 1) := by decide +kernel
theorem dL_law_253 : decode cL_law 253 = .ok (.aload_n 0, 1) := by decide +kernel
theorem dL_law_254 : decode cL_law 254 = .ok (.iload_n 3, 1) := by decide +kernel
theorem dL_law_255 : decode cL_law 255 = .ok (.iconst 1, 1) := by decide +kernel
theorem dL_law_256 : decode cL_law 256 = .ok (.iadd, 1) := by decide +kernel
theorem dL_law_257 : decode cL_law 257 = .ok (.iaload, 1) := by decide +kernel
theorem dL_law_258 : decode cL_law 258 = .ok (.aload_n 0, 1) := by decide +kernel
theorem dL_law_259 : decode cL_law 259 = .ok (.iload_n 3, 1) := by decide +kernel
theorem dL_law_260 : decode cL_law 260 = .ok (.iconst 2, 1) := by decide +kernel
theorem dL_law_261 : decode cL_law 261 = .ok (.iadd, 1) := by decide +kernel
theorem dL_law_262 : decode cL_law 262 = .ok (.iaload, 1) := by decide +kernel
theorem dL_law_263 : decode cL_law 263 = .ok (.invokevirtual 27, 3) := by decide +kernel
theorem dL_law_266 : decode cL_law 266 = .ok (.if_icmp .eq 629, 3) := by decide +kernel
theorem dL_law_269 : decode cL_law 269 = .ok (.iconst 0, 1) := by decide +kernel
theorem dL_law_270 : decode cL_law 270 = .ok (.ireturn, 1) := by decide +kernel
theorem dL_law_271 : decode cL_law 271 = .ok (.aload_n 1, 1) := by decide +kernel
theorem dL_law_272 : decode cL_law 272 = .ok (.aload_n 0, 1) := by decide +kernel
theorem dL_law_273 : decode cL_law 273 = .ok (.iload_n 3, 1) := by decide +kernel
theorem dL_law_274 : decode cL_law 274 = .ok (.iconst 1, 1) := by decide +kernel
theorem dL_law_275 : decode cL_law 275 = .ok (.iadd, 1) := by decide +kernel
theorem dL_law_276 : decode cL_law 276 = .ok (.iaload, 1) := by decide +kernel
theorem dL_law_277 : decode cL_law 277 = .ok (.aload_n 0, 1) := by decide +kernel
theorem dL_law_278 : decode cL_law 278 = .ok (.iload_n 3, 1) := by decide +kernel
theorem dL_law_279 : decode cL_law 279 = .ok (.iconst 2, 1) := by decide +kernel
theorem dL_law_280 : decode cL_law 280 = .ok (.iadd, 1) := by decide +kernel
theorem dL_law_281 : decode cL_law 281 = .ok (.iaload, 1) := by decide +kernel
theorem dL_law_282 : decode cL_law 282 = .ok (.invokevirtual 28, 3) := by decide +kernel
theorem dL_law_285 : decode cL_law 285 = .ok (.aload_n 2, 1) := by decide +kernel
theorem dL_law_286 : decode cL_law 286 = .ok (.aload_n 0, 1) := by decide +kernel
theorem dL_law_287 : decode cL_law 287 = .ok (.iload_n 3, 1) := by decide +kernel
theorem dL_law_288 : decode cL_law 288 = .ok (.iconst 1, 1) := by decide +kernel
theorem dL_law_289 : decode cL_law 289 = .ok (.iadd, 1) := by decide +kernel
theorem dL_law_290 : decode cL_law 290 = .ok (.iaload, 1) := by decide +kernel
theorem dL_law_291 : decode cL_law 291 = .ok (.aload_n 0, 1) := by decide +kernel
theorem dL_law_292 : decode cL_law 292 = .ok (.iload_n 3, 1) := by decide +kernel
theorem dL_law_293 : decode cL_law 293 = .ok (.iconst 2, 1) := by decide +kernel
theorem dL_law_294 : decode cL_law 294 = .ok (.iadd, 1) := by decide +kernel
theorem dL_law_295 : decode cL_law 295 = .ok (.iaload, 1) := by decide +kernel
theorem dL_law_296 : decode cL_law 296 = .ok (.invokevirtual 31, 3) := by decide +kernel
theorem dL_law_299 : decode cL_law 299 = .ok (.if_icmp .eq 596, 3) := by decide +kernel
theorem dL_law_302 : decode cL_law 302 = .ok (.iconst 0, 1) := by decide +kernel
theorem dL_law_303 : decode cL_law 303 = .ok (.ireturn, 1) := by decide +kernel
theorem dL_law_304 : decode cL_law 304 = .ok (.aload_n 1, 1) := by decide +kernel
theorem dL_law_305 : decode cL_law 305 = .ok (.aload_n 0, 1) := by decide +kernel
theorem dL_law_306 : decode cL_law 306 = .ok (.iload_n 3, 1) := by decide +kernel
theorem dL_law_307 : decode cL_law 307 = .ok (.iconst 1, 1) := by decide +kernel
theorem dL_law_308 : decode cL_law 308 = .ok (.iadd, 1) := by decide +kernel
theorem dL_law_309 : decode cL_law 309 = .ok (.iaload, 1) := by decide +kernel
theorem dL_law_310 : decode cL_law 310 = .ok (.invokevirtual 32, 3) := by decide +kernel
theorem dL_law_313 : decode cL_law 313 = .ok (.aload_n 2, 1) := by decide +kernel
theorem dL_law_314 : decode cL_law 314 = .ok (.aload_n 0, 1) := by decide +kernel
theorem dL_law_315 : decode cL_law 315 = .ok (.iload_n 3, 1) := by decide +kernel
theorem dL_law_316 : decode cL_law 316 = .ok (.iconst 1, 1) := by decide +kernel
theorem dL_law_317 : decode cL_law 317 = .ok (.iadd, 1) := by decide +kernel
theorem dL_law_318 : decode cL_law 318 = .ok (.iaload, 1) := by decide +kernel
theorem dL_law_319 : decode cL_law 319 = .ok (.invokevirtual 36, 3) := by decide +kernel
theorem dL_law_322 : decode cL_law 322 = .ok (.if_icmp .eq 573, 3) := by decide +kernel
theorem dL_law_325 : decode cL_law 325 = .ok (.iconst 0, 1) := by decide +kernel
theorem dL_law_326 : decode cL_law 326 = .ok (.ireturn, 1) := by decide +kernel
theorem dL_law_327 : decode cL_law 327 = .ok (.aload_n 1, 1) := by decide +kernel
theorem dL_law_328 : decode cL_law 328 = .ok (.aload_n 0, 1) := by decide +kernel
theorem dL_law_329 : decode cL_law 329 = .ok (.iload_n 3, 1) := by decide +kernel
theorem dL_law_330 : decode cL_law 330 = .ok (.iconst 1, 1) := by decide +kernel
theorem dL_law_331 : decode cL_law 331 = .ok (.iadd, 1) := by decide +kernel
theorem dL_law_332 : decode cL_law 332 = .ok (.iaload, 1) := by decide +kernel
theorem dL_law_333 : decode cL_law 333 = .ok (.invokevirtual 37, 3) := by decide +kernel
theorem dL_law_336 : decode cL_law 336 = .ok (.aload_n 2, 1) := by decide +kernel
theorem dL_law_337 : decode cL_law 337 = .ok (.aload_n 0, 1) := by decide +kernel
theorem dL_law_338 : decode cL_law 338 = .ok (.iload_n 3, 1) := by decide +kernel
theorem dL_law_339 : decode cL_law 339 = .ok (.iconst 1, 1) := by decide +kernel
theorem dL_law_340 : decode cL_law 340 = .ok (.iadd, 1) := by decide +kernel
theorem dL_law_341 : decode cL_law 341 = .ok (.iaload, 1) := by decide +kernel
theorem dL_law_342 : decode cL_law 342 = .ok (.invokevirtual 40, 3) := by decide +kernel
theorem dL_law_345 : decode cL_law 345 = .ok (.if_icmp .eq 550, 3) := by decide +kernel
theorem dL_law_348 : decode cL_law 348 = .ok (.iconst 0, 1) := by decide +kernel
theorem dL_law_349 : decode cL_law 349 = .ok (.ireturn, 1) := by decide +kernel
theorem dL_law_350 : decode cL_law 350 = .ok (.aload_n 1, 1) := by decide +kernel
theorem dL_law_351 : decode cL_law 351 = .ok (.aload_n 0, 1) := by decide +kernel
theorem dL_law_352 : decode cL_law 352 = .ok (.iload_n 3, 1) := by decide +kernel
theorem dL_law_353 : decode cL_law 353 = .ok (.iconst 1, 1) := by decide +kernel
theorem dL_law_354 : decode cL_law 354 = .ok (.iadd, 1) := by decide +kernel
theorem dL_law_355 : decode cL_law 355 = .ok (.iaload, 1) := by decide +kernel
theorem dL_law_356 : decode cL_law 356 = .ok (.invokevirtual 41, 3) := by decide +kernel
theorem dL_law_359 : decode cL_law 359 = .ok (.aload_n 2, 1) := by decide +kernel
theorem dL_law_360 : decode cL_law 360 = .ok (.aload_n 0, 1) := by decide +kernel
theorem dL_law_361 : decode cL_law 361 = .ok (.iload_n 3, 1) := by decide +kernel
theorem dL_law_362 : decode cL_law 362 = .ok (.iconst 1, 1) := by decide +kernel
theorem dL_law_363 : decode cL_law 363 = .ok (.iadd, 1) := by decide +kernel
theorem dL_law_364 : decode cL_law 364 = .ok (.iaload, 1) := by decide +kernel
theorem dL_law_365 : decode cL_law 365 = .ok (.invokevirtual 45, 3) := by decide +kernel
theorem dL_law_368 : decode cL_law 368 = .ok (.if_icmp .eq 527, 3) := by decide +kernel
theorem dL_law_371 : decode cL_law 371 = .ok (.iconst 0, 1) := by decide +kernel
theorem dL_law_372 : decode cL_law 372 = .ok (.ireturn, 1) := by decide +kernel
theorem dL_law_373 : decode cL_law 373 = .ok (.aload_n 1, 1) := by decide +kernel
theorem dL_law_374 : decode cL_law 374 = .ok (.aload_n 0, 1) := by decide +kernel
theorem dL_law_375 : decode cL_law 375 = .ok (.iload_n 3, 1) := by decide +kernel
theorem dL_law_376 : decode cL_law 376 = .ok (.iconst 1, 1) := by decide +kernel
theorem dL_law_377 : decode cL_law 377 = .ok (.iadd, 1) := by decide +kernel
theorem dL_law_378 : decode cL_law 378 = .ok (.iaload, 1) := by decide +kernel
theorem dL_law_379 : decode cL_law 379 = .ok (.invokevirtual 46, 3) := by decide +kernel
theorem dL_law_382 : decode cL_law 382 = .ok (.aload_n 2, 1) := by decide +kernel
theorem dL_law_383 : decode cL_law 383 = .ok (.aload_n 0, 1) := by decide +kernel
theorem dL_law_384 : decode cL_law 384 = .ok (.iload_n 3, 1) := by decide +kernel
theorem dL_law_385 : decode cL_law 385 = .ok (.iconst 1, 1) := by decide +kernel
theorem dL_law_386 : decode cL_law 386 = .ok (.iadd, 1) := by decide +kernel
theorem dL_law_387 : decode cL_law 387 = .ok (.iaload, 1) := by decide +kernel
theorem dL_law_388 : decode cL_law 388 = .ok (.invokevirtual 49, 3) := by decide +kernel
theorem dL_law_391 : decode cL_law 391 = .ok (.if_icmp .eq 504, 3) := by decide +kernel
theorem dL_law_394 : decode cL_law 394 = .ok (.iconst 0, 1) := by decide +kernel
theorem dL_law_395 : decode cL_law 395 = .ok (.ireturn, 1) := by decide +kernel
theorem dL_law_396 : decode cL_law 396 = .ok (.aload_n 1, 1) := by decide +kernel
theorem dL_law_397 : decode cL_law 397 = .ok (.aload_n 0, 1) := by decide +kernel
theorem dL_law_398 : decode cL_law 398 = .ok (.iload_n 3, 1) := by decide +kernel
theorem dL_law_399 : decode cL_law 399 = .ok (.iconst 1, 1) := by decide +kernel
theorem dL_law_400 : decode cL_law 400 = .ok (.iadd, 1) := by decide +kernel
theorem dL_law_401 : decode cL_law 401 = .ok (.iaload, 1) := by decide +kernel
theorem dL_law_402 : decode cL_law 402 = .ok (.aload_n 0, 1) := by decide +kernel
theorem dL_law_403 : decode cL_law 403 = .ok (.iload_n 3, 1) := by decide +kernel
theorem dL_law_404 : decode cL_law 404 = .ok (.iconst 2, 1) := by decide +kernel
theorem dL_law_405 : decode cL_law 405 = .ok (.iadd, 1) := by decide +kernel
theorem dL_law_406 : decode cL_law 406 = .ok (.iaload, 1) := by decide +kernel
theorem dL_law_407 : decode cL_law 407 = .ok (.invokevirtual 50, 3) := by decide +kernel
theorem dL_law_410 : decode cL_law 410 = .ok (.aload_n 2, 1) := by decide +kernel
theorem dL_law_411 : decode cL_law 411 = .ok (.aload_n 0, 1) := by decide +kernel
theorem dL_law_412 : decode cL_law 412 = .ok (.iload_n 3, 1) := by decide +kernel
theorem dL_law_413 : decode cL_law 413 = .ok (.iconst 1, 1) := by decide +kernel
theorem dL_law_414 : decode cL_law 414 = .ok (.iadd, 1) := by decide +kernel
theorem dL_law_415 : decode cL_law 415 = .ok (.iaload, 1) := by decide +kernel
theorem dL_law_416 : decode cL_law 416 = .ok (.aload_n 0, 1) := by decide +kernel
theorem dL_law_417 : decode cL_law 417 = .ok (.iload_n 3, 1) := by decide +kernel
theorem dL_law_418 : decode cL_law 418 = .ok (.iconst 2, 1) := by decide +kernel
theorem dL_law_419 : decode cL_law 419 = .ok (.iadd, 1) := by decide +kernel
theorem dL_law_420 : decode cL_law 420 = .ok (.iaload, 1) := by decide +kernel
theorem dL_law_421 : decode cL_law 421 = .ok (.invokevirtual 54, 3) := by decide +kernel
theorem dL_law_424 : decode cL_law 424 = .ok (.if_icmp .eq 471, 3) := by decide +kernel
theorem dL_law_427 : decode cL_law 427 = .ok (.iconst 0, 1) := by decide +kernel
theorem dL_law_428 : decode cL_law 428 = .ok (.ireturn, 1) := by decide +kernel
theorem dL_law_429 : decode cL_law 429 = .ok (.aload_n 1, 1) := by decide +kernel
theorem dL_law_430 : decode cL_law 430 = .ok (.aload_n 0, 1) := by decide +kernel
theorem dL_law_431 : decode cL_law 431 = .ok (.iload_n 3, 1) := by decide +kernel
theorem dL_law_432 : decode cL_law 432 = .ok (.iconst 1, 1) := by decide +kernel
theorem dL_law_433 : decode cL_law 433 = .ok (.iadd, 1) := by decide +kernel
theorem dL_law_434 : decode cL_law 434 = .ok (.iaload, 1) := by decide +kernel
theorem dL_law_435 : decode cL_law 435 = .ok (.aload_n 0, 1) := by decide +kernel
theorem dL_law_436 : decode cL_law 436 = .ok (.iload_n 3, 1) := by decide +kernel
theorem dL_law_437 : decode cL_law 437 = .ok (.iconst 2, 1) := by decide +kernel
theorem dL_law_438 : decode cL_law 438 = .ok (.iadd, 1) := by decide +kernel
theorem dL_law_439 : decode cL_law 439 = .ok (.iaload, 1) := by decide +kernel
theorem dL_law_440 : decode cL_law 440 = .ok (.aload_n 0, 1) := by decide +kernel
theorem dL_law_441 : decode cL_law 441 = .ok (.iload_n 3, 1) := by decide +kernel
theorem dL_law_442 : decode cL_law 442 = .ok (.iconst 3, 1) := by decide +kernel
theorem dL_law_443 : decode cL_law 443 = .ok (.iadd, 1) := by decide +kernel
theorem dL_law_444 : decode cL_law 444 = .ok (.iaload, 1) := by decide +kernel
theorem dL_law_445 : decode cL_law 445 = .ok (.invokevirtual 55, 3) := by decide +kernel
theorem dL_law_448 : decode cL_law 448 = .ok (.aload_n 2, 1) := by decide +kernel
theorem dL_law_449 : decode cL_law 449 = .ok (.aload_n 0, 1) := by decide +kernel
theorem dL_law_450 : decode cL_law 450 = .ok (.iload_n 3, 1) := by decide +kernel
theorem dL_law_451 : decode cL_law 451 = .ok (.iconst 1, 1) := by decide +kernel
theorem dL_law_452 : decode cL_law 452 = .ok (.iadd, 1) := by decide +kernel
theorem dL_law_453 : decode cL_law 453 = .ok (.iaload, 1) := by decide +kernel
theorem dL_law_454 : decode cL_law 454 = .ok (.aload_n 0, 1) := by decide +kernel
theorem dL_law_455 : decode cL_law 455 = .ok (.iload_n 3, 1) := by decide +kernel
theorem dL_law_456 : decode cL_law 456 = .ok (.iconst 2, 1) := by decide +kernel
theorem dL_law_457 : decode cL_law 457 = .ok (.iadd, 1) := by decide +kernel
theorem dL_law_458 : decode cL_law 458 = .ok (.iaload, 1) := by decide +kernel
theorem dL_law_459 : decode cL_law 459 = .ok (.aload_n 0, 1) := by decide +kernel
theorem dL_law_460 : decode cL_law 460 = .ok (.iload_n 3, 1) := by decide +kernel
theorem dL_law_461 : decode cL_law 461 = .ok (.iconst 3, 1) := by decide +kernel
theorem dL_law_462 : decode cL_law 462 = .ok (.iadd, 1) := by decide +kernel
theorem dL_law_463 : decode cL_law 463 = .ok (.iaload, 1) := by decide +kernel
theorem dL_law_464 : decode cL_law 464 = .ok (.invokevirtual 58, 3) := by decide +kernel
theorem dL_law_467 : decode cL_law 467 = .ok (.if_icmp .eq 428, 3) := by decide +kernel
theorem dL_law_470 : decode cL_law 470 = .ok (.iconst 0, 1) := by decide +kernel
theorem dL_law_471 : decode cL_law 471 = .ok (.ireturn, 1) := by decide +kernel
theorem dL_law_472 : decode cL_law 472 = .ok (.aload_n 1, 1) := by decide +kernel
theorem dL_law_473 : decode cL_law 473 = .ok (.aload_n 0, 1) := by decide +kernel
theorem dL_law_474 : decode cL_law 474 = .ok (.iload_n 3, 1) := by decide +kernel
theorem dL_law_475 : decode cL_law 475 = .ok (.iconst 1, 1) := by decide +kernel
theorem dL_law_476 : decode cL_law 476 = .ok (.iadd, 1) := by decide +kernel
theorem dL_law_477 : decode cL_law 477 = .ok (.iaload, 1) := by decide +kernel
theorem dL_law_478 : decode cL_law 478 = .ok (.aload_n 0, 1) := by decide +kernel
theorem dL_law_479 : decode cL_law 479 = .ok (.iload_n 3, 1) := by decide +kernel
theorem dL_law_480 : decode cL_law 480 = .ok (.iconst 2, 1) := by decide +kernel
theorem dL_law_481 : decode cL_law 481 = .ok (.iadd, 1) := by decide +kernel
theorem dL_law_482 : decode cL_law 482 = .ok (.iaload, 1) := by decide +kernel
theorem dL_law_483 : decode cL_law 483 = .ok (.invokevirtual 59, 3) := by decide +kernel
theorem dL_law_486 : decode cL_law 486 = .ok (.aload_n 2, 1) := by decide +kernel
theorem dL_law_487 : decode cL_law 487 = .ok (.aload_n 0, 1) := by decide +kernel
theorem dL_law_488 : decode cL_law 488 = .ok (.iload_n 3, 1) := by decide +kernel
theorem dL_law_489 : decode cL_law 489 = .ok (.iconst 1, 1) := by decide +kernel
theorem dL_law_490 : decode cL_law 490 = .ok (.iadd, 1) := by decide +kernel
theorem dL_law_491 : decode cL_law 491 = .ok (.iaload, 1) := by decide +kernel
theorem dL_law_492 : decode cL_law 492 = .ok (.aload_n 0, 1) := by decide +kernel
theorem dL_law_493 : decode cL_law 493 = .ok (.iload_n 3, 1) := by decide +kernel
theorem dL_law_494 : decode cL_law 494 = .ok (.iconst 2, 1) := by decide +kernel
theorem dL_law_495 : decode cL_law 495 = .ok (.iadd, 1) := by decide +kernel
theorem dL_law_496 : decode cL_law 496 = .ok (.iaload, 1) := by decide +kernel
theorem dL_law_497 : decode cL_law 497 = .ok (.invokevirtual 62, 3) := by decide +kernel
theorem dL_law_500 : decode cL_law 500 = .ok (.if_icmp .eq 395, 3) := by decide +kernel
theorem dL_law_503 : decode cL_law 503 = .ok (.iconst 0, 1) := by decide +kernel
theorem dL_law_504 : decode cL_law 504 = .ok (.ireturn, 1) := by decide +kernel
theorem dL_law_505 : decode cL_law 505 = .ok (.aload_n 1, 1) := by decide +kernel
theorem dL_law_506 : decode cL_law 506 = .ok (.aload_n 0, 1) := by decide +kernel
theorem dL_law_507 : decode cL_law 507 = .ok (.iload_n 3, 1) := by decide +kernel
theorem dL_law_508 : decode cL_law 508 = .ok (.iconst 1, 1) := by decide +kernel
theorem dL_law_509 : decode cL_law 509 = .ok (.iadd, 1) := by decide +kernel
theorem dL_law_510 : decode cL_law 510 = .ok (.iaload, 1) := by decide +kernel
theorem dL_law_511 : decode cL_law 511 = .ok (.aload_n 0, 1) := by decide +kernel
theorem dL_law_512 : decode cL_law 512 = .ok (.iload_n 3, 1) := by decide +kernel
theorem dL_law_513 : decode cL_law 513 = .ok (.iconst 2, 1) := by decide +kernel
theorem dL_law_514 : decode cL_law 514 = .ok (.iadd, 1) := by decide +kernel
theorem dL_law_515 : decode cL_law 515 = .ok (.iaload, 1) := by decide +kernel
theorem dL_law_516 : decode cL_law 516 = .ok (.aload_n 0, 1) := by decide +kernel
theorem dL_law_517 : decode cL_law 517 = .ok (.iload_n 3, 1) := by decide +kernel
theorem dL_law_518 : decode cL_law 518 = .ok (.iconst 3, 1) := by decide +kernel
theorem dL_law_519 : decode cL_law 519 = .ok (.iadd, 1) := by decide +kernel
theorem dL_law_520 : decode cL_law 520 = .ok (.iaload, 1) := by decide +kernel
theorem dL_law_521 : decode cL_law 521 = .ok (.aload_n 0, 1) := by decide +kernel
theorem dL_law_522 : decode cL_law 522 = .ok (.iload_n 3, 1) := by decide +kernel
theorem dL_law_523 : decode cL_law 523 = .ok (.iconst 4, 1) := by decide +kernel
theorem dL_law_524 : decode cL_law 524 = .ok (.iadd, 1) := by decide +kernel
theorem dL_law_525 : decode cL_law 525 = .ok (.iaload, 1) := by decide +kernel
theorem dL_law_526 : decode cL_law 526 = .ok (.invokevirtual 63, 3) := by decide +kernel
theorem dL_law_529 : decode cL_law 529 = .ok (.aload_n 2, 1) := by decide +kernel
theorem dL_law_530 : decode cL_law 530 = .ok (.aload_n 0, 1) := by decide +kernel
theorem dL_law_531 : decode cL_law 531 = .ok (.iload_n 3, 1) := by decide +kernel
theorem dL_law_532 : decode cL_law 532 = .ok (.iconst 1, 1) := by decide +kernel
theorem dL_law_533 : decode cL_law 533 = .ok (.iadd, 1) := by decide +kernel
theorem dL_law_534 : decode cL_law 534 = .ok (.iaload, 1) := by decide +kernel
theorem dL_law_535 : decode cL_law 535 = .ok (.aload_n 0, 1) := by decide +kernel
theorem dL_law_536 : decode cL_law 536 = .ok (.iload_n 3, 1) := by decide +kernel
theorem dL_law_537 : decode cL_law 537 = .ok (.iconst 2, 1) := by decide +kernel
theorem dL_law_538 : decode cL_law 538 = .ok (.iadd, 1) := by decide +kernel
theorem dL_law_539 : decode cL_law 539 = .ok (.iaload, 1) := by decide +kernel
theorem dL_law_540 : decode cL_law 540 = .ok (.aload_n 0, 1) := by decide +kernel
theorem dL_law_541 : decode cL_law 541 = .ok (.iload_n 3, 1) := by decide +kernel
theorem dL_law_542 : decode cL_law 542 = .ok (.iconst 3, 1) := by decide +kernel
theorem dL_law_543 : decode cL_law 543 = .ok (.iadd, 1) := by decide +kernel
theorem dL_law_544 : decode cL_law 544 = .ok (.iaload, 1) := by decide +kernel
theorem dL_law_545 : decode cL_law 545 = .ok (.aload_n 0, 1) := by decide +kernel
theorem dL_law_546 : decode cL_law 546 = .ok (.iload_n 3, 1) := by decide +kernel
theorem dL_law_547 : decode cL_law 547 = .ok (.iconst 4, 1) := by decide +kernel
theorem dL_law_548 : decode cL_law 548 = .ok (.iadd, 1) := by decide +kernel
theorem dL_law_549 : decode cL_law 549 = .ok (.iaload, 1) := by decide +kernel
theorem dL_law_550 : decode cL_law 550 = .ok (.invokevirtual 67, 3) := by decide +kernel
theorem dL_law_553 : decode cL_law 553 = .ok (.if_icmp .eq 342, 3) := by decide +kernel
theorem dL_law_556 : decode cL_law 556 = .ok (.iconst 0, 1) := by decide +kernel
theorem dL_law_557 : decode cL_law 557 = .ok (.ireturn, 1) := by decide +kernel
theorem dL_law_558 : decode cL_law 558 = .ok (.aload_n 1, 1) := by decide +kernel
theorem dL_law_559 : decode cL_law 559 = .ok (.aload_n 0, 1) := by decide +kernel
theorem dL_law_560 : decode cL_law 560 = .ok (.iload_n 3, 1) := by decide +kernel
theorem dL_law_561 : decode cL_law 561 = .ok (.iconst 1, 1) := by decide +kernel
theorem dL_law_562 : decode cL_law 562 = .ok (.iadd, 1) := by decide +kernel
theorem dL_law_563 : decode cL_law 563 = .ok (.iaload, 1) := by decide +kernel
theorem dL_law_564 : decode cL_law 564 = .ok (.aload_n 0, 1) := by decide +kernel
theorem dL_law_565 : decode cL_law 565 = .ok (.iload_n 3, 1) := by decide +kernel
theorem dL_law_566 : decode cL_law 566 = .ok (.iconst 2, 1) := by decide +kernel
theorem dL_law_567 : decode cL_law 567 = .ok (.iadd, 1) := by decide +kernel
theorem dL_law_568 : decode cL_law 568 = .ok (.iaload, 1) := by decide +kernel
theorem dL_law_569 : decode cL_law 569 = .ok (.invokevirtual 68, 3) := by decide +kernel
theorem dL_law_572 : decode cL_law 572 = .ok (.aload_n 2, 1) := by decide +kernel
theorem dL_law_573 : decode cL_law 573 = .ok (.aload_n 0, 1) := by decide +kernel
theorem dL_law_574 : decode cL_law 574 = .ok (.iload_n 3, 1) := by decide +kernel
theorem dL_law_575 : decode cL_law 575 = .ok (.iconst 1, 1) := by decide +kernel
theorem dL_law_576 : decode cL_law 576 = .ok (.iadd, 1) := by decide +kernel
theorem dL_law_577 : decode cL_law 577 = .ok (.iaload, 1) := by decide +kernel
theorem dL_law_578 : decode cL_law 578 = .ok (.aload_n 0, 1) := by decide +kernel
theorem dL_law_579 : decode cL_law 579 = .ok (.iload_n 3, 1) := by decide +kernel
theorem dL_law_580 : decode cL_law 580 = .ok (.iconst 2, 1) := by decide +kernel
theorem dL_law_581 : decode cL_law 581 = .ok (.iadd, 1) := by decide +kernel
theorem dL_law_582 : decode cL_law 582 = .ok (.iaload, 1) := by decide +kernel
theorem dL_law_583 : decode cL_law 583 = .ok (.invokevirtual 71, 3) := by decide +kernel
theorem dL_law_586 : decode cL_law 586 = .ok (.if_icmp .eq 309, 3) := by decide +kernel
theorem dL_law_589 : decode cL_law 589 = .ok (.iconst 0, 1) := by decide +kernel
theorem dL_law_590 : decode cL_law 590 = .ok (.ireturn, 1) := by decide +kernel
theorem dL_law_591 : decode cL_law 591 = .ok (.aload_n 1, 1) := by decide +kernel
theorem dL_law_592 : decode cL_law 592 = .ok (.aload_n 0, 1) := by decide +kernel
theorem dL_law_593 : decode cL_law 593 = .ok (.iload_n 3, 1) := by decide +kernel
theorem dL_law_594 : decode cL_law 594 = .ok (.iconst 1, 1) := by decide +kernel
theorem dL_law_595 : decode cL_law 595 = .ok (.iadd, 1) := by decide +kernel
theorem dL_law_596 : decode cL_law 596 = .ok (.iaload, 1) := by decide +kernel
theorem dL_law_597 : decode cL_law 597 = .ok (.aload_n 0, 1) := by decide +kernel
theorem dL_law_598 : decode cL_law 598 = .ok (.iload_n 3, 1) := by decide +kernel
theorem dL_law_599 : decode cL_law 599 = .ok (.iconst 2, 1) := by decide +kernel
theorem dL_law_600 : decode cL_law 600 = .ok (.iadd, 1) := by decide +kernel
theorem dL_law_601 : decode cL_law 601 = .ok (.iaload, 1) := by decide +kernel
theorem dL_law_602 : decode cL_law 602 = .ok (.aload_n 0, 1) := by decide +kernel
theorem dL_law_603 : decode cL_law 603 = .ok (.iload_n 3, 1) := by decide +kernel
theorem dL_law_604 : decode cL_law 604 = .ok (.iconst 3, 1) := by decide +kernel
theorem dL_law_605 : decode cL_law 605 = .ok (.iadd, 1) := by decide +kernel
theorem dL_law_606 : decode cL_law 606 = .ok (.iaload, 1) := by decide +kernel
theorem dL_law_607 : decode cL_law 607 = .ok (.invokevirtual 72, 3) := by decide +kernel
theorem dL_law_610 : decode cL_law 610 = .ok (.aload_n 2, 1) := by decide +kernel
theorem dL_law_611 : decode cL_law 611 = .ok (.aload_n 0, 1) := by decide +kernel
theorem dL_law_612 : decode cL_law 612 = .ok (.iload_n 3, 1) := by decide +kernel
theorem dL_law_613 : decode cL_law 613 = .ok (.iconst 1, 1) := by decide +kernel
theorem dL_law_614 : decode cL_law 614 = .ok (.iadd, 1) := by decide +kernel
theorem dL_law_615 : decode cL_law 615 = .ok (.iaload, 1) := by decide +kernel
theorem dL_law_616 : decode cL_law 616 = .ok (.aload_n 0, 1) := by decide +kernel
theorem dL_law_617 : decode cL_law 617 = .ok (.iload_n 3, 1) := by decide +kernel
theorem dL_law_618 : decode cL_law 618 = .ok (.iconst 2, 1) := by decide +kernel
theorem dL_law_619 : decode cL_law 619 = .ok (.iadd, 1) := by decide +kernel
theorem dL_law_620 : decode cL_law 620 = .ok (.iaload, 1) := by decide +kernel
theorem dL_law_621 : decode cL_law 621 = .ok (.aload_n 0, 1) := by decide +kernel
theorem dL_law_622 : decode cL_law 622 = .ok (.iload_n 3, 1) := by decide +kernel
theorem dL_law_623 : decode cL_law 623 = .ok (.iconst 3, 1) := by decide +kernel
theorem dL_law_624 : decode cL_law 624 = .ok (.iadd, 1) := by decide +kernel
theorem dL_law_625 : decode cL_law 625 = .ok (.iaload, 1) := by decide +kernel
theorem dL_law_626 : decode cL_law 626 = .ok (.invokevirtual 75, 3) := by decide +kernel
theorem dL_law_629 : decode cL_law 629 = .ok (.if_icmp .eq 266, 3) := by decide +kernel
theorem dL_law_632 : decode cL_law 632 = .ok (.iconst 0, 1) := by decide +kernel
theorem dL_law_633 : decode cL_law 633 = .ok (.ireturn, 1) := by decide +kernel
theorem dL_law_634 : decode cL_law 634 = .ok (.aload_n 1, 1) := by decide +kernel
theorem dL_law_635 : decode cL_law 635 = .ok (.aload_n 0, 1) := by decide +kernel
theorem dL_law_636 : decode cL_law 636 = .ok (.iload_n 3, 1) := by decide +kernel
theorem dL_law_637 : decode cL_law 637 = .ok (.iconst 1, 1) := by decide +kernel
theorem dL_law_638 : decode cL_law 638 = .ok (.iadd, 1) := by decide +kernel
theorem dL_law_639 : decode cL_law 639 = .ok (.iaload, 1) := by decide +kernel
theorem dL_law_640 : decode cL_law 640 = .ok (.aload_n 0, 1) := by decide +kernel
theorem dL_law_641 : decode cL_law 641 = .ok (.iload_n 3, 1) := by decide +kernel
theorem dL_law_642 : decode cL_law 642 = .ok (.iconst 2, 1) := by decide +kernel
theorem dL_law_643 : decode cL_law 643 = .ok (.iadd, 1) := by decide +kernel
theorem dL_law_644 : decode cL_law 644 = .ok (.iaload, 1) := by decide +kernel
theorem dL_law_645 : decode cL_law 645 = .ok (.invokevirtual 76, 3) := by decide +kernel
theorem dL_law_648 : decode cL_law 648 = .ok (.aload_n 2, 1) := by decide +kernel
theorem dL_law_649 : decode cL_law 649 = .ok (.aload_n 0, 1) := by decide +kernel
theorem dL_law_650 : decode cL_law 650 = .ok (.iload_n 3, 1) := by decide +kernel
theorem dL_law_651 : decode cL_law 651 = .ok (.iconst 1, 1) := by decide +kernel
theorem dL_law_652 : decode cL_law 652 = .ok (.iadd, 1) := by decide +kernel
theorem dL_law_653 : decode cL_law 653 = .ok (.iaload, 1) := by decide +kernel
theorem dL_law_654 : decode cL_law 654 = .ok (.aload_n 0, 1) := by decide +kernel
theorem dL_law_655 : decode cL_law 655 = .ok (.iload_n 3, 1) := by decide +kernel
theorem dL_law_656 : decode cL_law 656 = .ok (.iconst 2, 1) := by decide +kernel
theorem dL_law_657 : decode cL_law 657 = .ok (.iadd, 1) := by decide +kernel
theorem dL_law_658 : decode cL_law 658 = .ok (.iaload, 1) := by decide +kernel
theorem dL_law_659 : decode cL_law 659 = .ok (.invokevirtual 79, 3) := by decide +kernel
theorem dL_law_662 : decode cL_law 662 = .ok (.if_icmp .eq 233, 3) := by decide +kernel
theorem dL_law_665 : decode cL_law 665 = .ok (.iconst 0, 1) := by decide +kernel
theorem dL_law_666 : decode cL_law 666 = .ok (.ireturn, 1) := by decide +kernel
theorem dL_law_667 : decode cL_law 667 = .ok (.aload_n 1, 1) := by decide +kernel
theorem dL_law_668 : decode cL_law 668 = .ok (.aload_n 0, 1) := by decide +kernel
theorem dL_law_669 : decode cL_law 669 = .ok (.iload_n 3, 1) := by decide +kernel
theorem dL_law_670 : decode cL_law 670 = .ok (.iconst 1, 1) := by decide +kernel
theorem dL_law_671 : decode cL_law 671 = .ok (.iadd, 1) := by decide +kernel
theorem dL_law_672 : decode cL_law 672 = .ok (.iaload, 1) := by decide +kernel
theorem dL_law_673 : decode cL_law 673 = .ok (.aload_n 0, 1) := by decide +kernel
theorem dL_law_674 : decode cL_law 674 = .ok (.iload_n 3, 1) := by decide +kernel
theorem dL_law_675 : decode cL_law 675 = .ok (.iconst 2, 1) := by decide +kernel
theorem dL_law_676 : decode cL_law 676 = .ok (.iadd, 1) := by decide +kernel
theorem dL_law_677 : decode cL_law 677 = .ok (.iaload, 1) := by decide +kernel
theorem dL_law_678 : decode cL_law 678 = .ok (.aload_n 0, 1) := by decide +kernel
theorem dL_law_679 : decode cL_law 679 = .ok (.iload_n 3, 1) := by decide +kernel
theorem dL_law_680 : decode cL_law 680 = .ok (.iconst 3, 1) := by decide +kernel
theorem dL_law_681 : decode cL_law 681 = .ok (.iadd, 1) := by decide +kernel
theorem dL_law_682 : decode cL_law 682 = .ok (.iaload, 1) := by decide +kernel
theorem dL_law_683 : decode cL_law 683 = .ok (.aload_n 0, 1) := by decide +kernel
theorem dL_law_684 : decode cL_law 684 = .ok (.iload_n 3, 1) := by decide +kernel
theorem dL_law_685 : decode cL_law 685 = .ok (.iconst 4, 1) := by decide +kernel
theorem dL_law_686 : decode cL_law 686 = .ok (.iadd, 1) := by decide +kernel
theorem dL_law_687 : decode cL_law 687 = .ok (.iaload, 1) := by decide +kernel
theorem dL_law_688 : decode cL_law 688 = .ok (.aload_n 0, 1) := by decide +kernel
theorem dL_law_689 : decode cL_law 689 = .ok (.iload_n 3, 1) := by decide +kernel
theorem dL_law_690 : decode cL_law 690 = .ok (.iconst 5, 1) := by decide +kernel
theorem dL_law_691 : decode cL_law 691 = .ok (.iadd, 1) := by decide +kernel
theorem dL_law_692 : decode cL_law 692 = .ok (.iaload, 1) := by decide +kernel
theorem dL_law_693 : decode cL_law 693 = .ok (.invokevirtual 80, 3) := by decide +kernel
theorem dL_law_696 : decode cL_law 696 = .ok (.aload_n 2, 1) := by decide +kernel
theorem dL_law_697 : decode cL_law 697 = .ok (.aload_n 0, 1) := by decide +kernel
theorem dL_law_698 : decode cL_law 698 = .ok (.iload_n 3, 1) := by decide +kernel
theorem dL_law_699 : decode cL_law 699 = .ok (.iconst 1, 1) := by decide +kernel
theorem dL_law_700 : decode cL_law 700 = .ok (.iadd, 1) := by decide +kernel
theorem dL_law_701 : decode cL_law 701 = .ok (.iaload, 1) := by decide +kernel
theorem dL_law_702 : decode cL_law 702 = .ok (.aload_n 0, 1) := by decide +kernel
theorem dL_law_703 : decode cL_law 703 = .ok (.iload_n 3, 1) := by decide +kernel
theorem dL_law_704 : decode cL_law 704 = .ok (.iconst 2, 1) := by decide +kernel
theorem dL_law_705 : decode cL_law 705 = .ok (.iadd, 1) := by decide +kernel
theorem dL_law_706 : decode cL_law 706 = .ok (.iaload, 1) := by decide +kernel
theorem dL_law_707 : decode cL_law 707 = .ok (.aload_n 0, 1) := by decide +kernel
theorem dL_law_708 : decode cL_law 708 = .ok (.iload_n 3, 1) := by decide +kernel
theorem dL_law_709 : decode cL_law 709 = .ok (.iconst 3, 1) := by decide +kernel
theorem dL_law_710 : decode cL_law 710 = .ok (.iadd, 1) := by decide +kernel
theorem dL_law_711 : decode cL_law 711 = .ok (.iaload, 1) := by decide +kernel
theorem dL_law_712 : decode cL_law 712 = .ok (.aload_n 0, 1) := by decide +kernel
theorem dL_law_713 : decode cL_law 713 = .ok (.iload_n 3, 1) := by decide +kernel
theorem dL_law_714 : decode cL_law 714 = .ok (.iconst 4, 1) := by decide +kernel
theorem dL_law_715 : decode cL_law 715 = .ok (.iadd, 1) := by decide +kernel
theorem dL_law_716 : decode cL_law 716 = .ok (.iaload, 1) := by decide +kernel
theorem dL_law_717 : decode cL_law 717 = .ok (.aload_n 0, 1) := by decide +kernel
theorem dL_law_718 : decode cL_law 718 = .ok (.iload_n 3, 1) := by decide +kernel
theorem dL_law_719 : decode cL_law 719 = .ok (.iconst 5, 1) := by decide +kernel
theorem dL_law_720 : decode cL_law 720 = .ok (.iadd, 1) := by decide +kernel
theorem dL_law_721 : decode cL_law 721 = .ok (.iaload, 1) := by decide +kernel
theorem dL_law_722 : decode cL_law 722 = .ok (.invokevirtual 83, 3) := by decide +kernel
theorem dL_law_725 : decode cL_law 725 = .ok (.if_icmp .eq 170, 3) := by decide +kernel
theorem dL_law_728 : decode cL_law 728 = .ok (.iconst 0, 1) := by decide +kernel
theorem dL_law_729 : decode cL_law 729 = .ok (.ireturn, 1) := by decide +kernel
theorem dL_law_730 : decode cL_law 730 = .ok (.aload_n 1, 1) := by decide +kernel
theorem dL_law_731 : decode cL_law 731 = .ok (.aload_n 0, 1) := by decide +kernel
theorem dL_law_732 : decode cL_law 732 = .ok (.iload_n 3, 1) := by decide +kernel
theorem dL_law_733 : decode cL_law 733 = .ok (.iconst 1, 1) := by decide +kernel
theorem dL_law_734 : decode cL_law 734 = .ok (.iadd, 1) := by decide +kernel
theorem dL_law_735 : decode cL_law 735 = .ok (.iaload, 1) := by decide +kernel
theorem dL_law_736 : decode cL_law 736 = .ok (.invokevirtual 84, 3) := by decide +kernel
theorem dL_law_739 : decode cL_law 739 = .ok (.aload_n 2, 1) := by decide +kernel
theorem dL_law_740 : decode cL_law 740 = .ok (.aload_n 0, 1) := by decide +kernel
theorem dL_law_741 : decode cL_law 741 = .ok (.iload_n 3, 1) := by decide +kernel
theorem dL_law_742 : decode cL_law 742 = .ok (.iconst 1, 1) := by decide +kernel
theorem dL_law_743 : decode cL_law 743 = .ok (.iadd, 1) := by decide +kernel
theorem dL_law_744 : decode cL_law 744 = .ok (.iaload, 1) := by decide +kernel
theorem dL_law_745 : decode cL_law 745 = .ok (.invokevirtual 87, 3) := by decide +kernel
theorem dL_law_748 : decode cL_law 748 = .ok (.if_icmp .eq 147, 3) := by decide +kernel
theorem dL_law_751 : decode cL_law 751 = .ok (.iconst 0, 1) := by decide +kernel
theorem dL_law_752 : decode cL_law 752 = .ok (.ireturn, 1) := by decide +kernel
theorem dL_law_753 : decode cL_law 753 = .ok (.aload_n 1, 1) := by decide +kernel
theorem dL_law_754 : decode cL_law 754 = .ok (.invokevirtual 88, 3) := by decide +kernel
theorem dL_law_757 : decode cL_law 757 = .ok (.aload_n 2, 1) := by decide +kernel
theorem dL_law_758 : decode cL_law 758 = .ok (.invokevirtual 92, 3) := by decide +kernel
theorem dL_law_761 : decode cL_law 761 = .ok (.if_icmp .eq 134, 3) := by decide +kernel
theorem dL_law_764 : decode cL_law 764 = .ok (.iconst 0, 1) := by decide +kernel
theorem dL_law_765 : decode cL_law 765 = .ok (.ireturn, 1) := by decide +kernel
theorem dL_law_766 : decode cL_law 766 = .ok (.aload_n 1, 1) := by decide +kernel
theorem dL_law_767 : decode cL_law 767 = .ok (.aload_n 0, 1) := by decide +kernel
theorem dL_law_768 : decode cL_law 768 = .ok (.iload_n 3, 1) := by decide +kernel
theorem dL_law_769 : decode cL_law 769 = .ok (.iconst 1, 1) := by decide +kernel
theorem dL_law_770 : decode cL_law 770 = .ok (.iadd, 1) := by decide +kernel
theorem dL_law_771 : decode cL_law 771 = .ok (.iaload, 1) := by decide +kernel
theorem dL_law_772 : decode cL_law 772 = .ok (.invokevirtual 93, 3) := by decide +kernel
theorem dL_law_775 : decode cL_law 775 = .ok (.aload_n 2, 1) := by decide +kernel
theorem dL_law_776 : decode cL_law 776 = .ok (.aload_n 0, 1) := by decide +kernel
theorem dL_law_777 : decode cL_law 777 = .ok (.iload_n 3, 1) := by decide +kernel
theorem dL_law_778 : decode cL_law 778 = .ok (.iconst 1, 1) := by decide +kernel
theorem dL_law_779 : decode cL_law 779 = .ok (.iadd, 1) := by decide +kernel
theorem dL_law_780 : decode cL_law 780 = .ok (.iaload, 1) := by decide +kernel
theorem dL_law_781 : decode cL_law 781 = .ok (.invokevirtual 96, 3) := by decide +kernel
theorem dL_law_784 : decode cL_law 784 = .ok (.if_icmp .eq 111, 3) := by decide +kernel
theorem dL_law_787 : decode cL_law 787 = .ok (.iconst 0, 1) := by decide +kernel
theorem dL_law_788 : decode cL_law 788 = .ok (.ireturn, 1) := by decide +kernel
theorem dL_law_789 : decode cL_law 789 = .ok (.aload_n 1, 1) := by decide +kernel
theorem dL_law_790 : decode cL_law 790 = .ok (.aload_n 0, 1) := by decide +kernel
theorem dL_law_791 : decode cL_law 791 = .ok (.iload_n 3, 1) := by decide +kernel
theorem dL_law_792 : decode cL_law 792 = .ok (.iconst 1, 1) := by decide +kernel
theorem dL_law_793 : decode cL_law 793 = .ok (.iadd, 1) := by decide +kernel
theorem dL_law_794 : decode cL_law 794 = .ok (.iaload, 1) := by decide +kernel
theorem dL_law_795 : decode cL_law 795 = .ok (.aload_n 0, 1) := by decide +kernel
theorem dL_law_796 : decode cL_law 796 = .ok (.iload_n 3, 1) := by decide +kernel
theorem dL_law_797 : decode cL_law 797 = .ok (.iconst 2, 1) := by decide +kernel
theorem dL_law_798 : decode cL_law 798 = .ok (.iadd, 1) := by decide +kernel
theorem dL_law_799 : decode cL_law 799 = .ok (.iaload, 1) := by decide +kernel
theorem dL_law_800 : decode cL_law 800 = .ok (.aload_n 0, 1) := by decide +kernel
theorem dL_law_801 : decode cL_law 801 = .ok (.iload_n 3, 1) := by decide +kernel
theorem dL_law_802 : decode cL_law 802 = .ok (.iconst 3, 1) := by decide +kernel
theorem dL_law_803 : decode cL_law 803 = .ok (.iadd, 1) := by decide +kernel
theorem dL_law_804 : decode cL_law 804 = .ok (.iaload, 1) := by decide +kernel
theorem dL_law_805 : decode cL_law 805 = .ok (.invokevirtual 97, 3) := by decide +kernel
theorem dL_law_808 : decode cL_law 808 = .ok (.aload_n 2, 1) := by decide +kernel
theorem dL_law_809 : decode cL_law 809 = .ok (.aload_n 0, 1) := by decide +kernel
theorem dL_law_810 : decode cL_law 810 = .ok (.iload_n 3, 1) := by decide +kernel
theorem dL_law_811 : decode cL_law 811 = .ok (.iconst 1, 1) := by decide +kernel
theorem dL_law_812 : decode cL_law 812 = .ok (.iadd, 1) := by decide +kernel
theorem dL_law_813 : decode cL_law 813 = .ok (.iaload, 1) := by decide +kernel
theorem dL_law_814 : decode cL_law 814 = .ok (.aload_n 0, 1) := by decide +kernel
theorem dL_law_815 : decode cL_law 815 = .ok (.iload_n 3, 1) := by decide +kernel
theorem dL_law_816 : decode cL_law 816 = .ok (.iconst 2, 1) := by decide +kernel
theorem dL_law_817 : decode cL_law 817 = .ok (.iadd, 1) := by decide +kernel
theorem dL_law_818 : decode cL_law 818 = .ok (.iaload, 1) := by decide +kernel
theorem dL_law_819 : decode cL_law 819 = .ok (.aload_n 0, 1) := by decide +kernel
theorem dL_law_820 : decode cL_law 820 = .ok (.iload_n 3, 1) := by decide +kernel
theorem dL_law_821 : decode cL_law 821 = .ok (.iconst 3, 1) := by decide +kernel
theorem dL_law_822 : decode cL_law 822 = .ok (.iadd, 1) := by decide +kernel
theorem dL_law_823 : decode cL_law 823 = .ok (.iaload, 1) := by decide +kernel
theorem dL_law_824 : decode cL_law 824 = .ok (.invokevirtual 100, 3) := by decide +kernel
theorem dL_law_827 : decode cL_law 827 = .ok (.if_icmp .eq 68, 3) := by decide +kernel
theorem dL_law_830 : decode cL_law 830 = .ok (.iconst 0, 1) := by decide +kernel
theorem dL_law_831 : decode cL_law 831 = .ok (.ireturn, 1) := by decide +kernel
theorem dL_law_832 : decode cL_law 832 = .ok (.aload_n 1, 1) := by decide +kernel
theorem dL_law_833 : decode cL_law 833 = .ok (.aload_n 0, 1) := by decide +kernel
theorem dL_law_834 : decode cL_law 834 = .ok (.iload_n 3, 1) := by decide +kernel
theorem dL_law_835 : decode cL_law 835 = .ok (.iconst 1, 1) := by decide +kernel
theorem dL_law_836 : decode cL_law 836 = .ok (.iadd, 1) := by decide +kernel
theorem dL_law_837 : decode cL_law 837 = .ok (.iaload, 1) := by decide +kernel
theorem dL_law_838 : decode cL_law 838 = .ok (.aload_n 0, 1) := by decide +kernel
theorem dL_law_839 : decode cL_law 839 = .ok (.iload_n 3, 1) := by decide +kernel
theorem dL_law_840 : decode cL_law 840 = .ok (.iconst 2, 1) := by decide +kernel
theorem dL_law_841 : decode cL_law 841 = .ok (.iadd, 1) := by decide +kernel
theorem dL_law_842 : decode cL_law 842 = .ok (.iaload, 1) := by decide +kernel
theorem dL_law_843 : decode cL_law 843 = .ok (.aload_n 0, 1) := by decide +kernel
theorem dL_law_844 : decode cL_law 844 = .ok (.iload_n 3, 1) := by decide +kernel
theorem dL_law_845 : decode cL_law 845 = .ok (.iconst 3, 1) := by decide +kernel
theorem dL_law_846 : decode cL_law 846 = .ok (.iadd, 1) := by decide +kernel
theorem dL_law_847 : decode cL_law 847 = .ok (.iaload, 1) := by decide +kernel
theorem dL_law_848 : decode cL_law 848 = .ok (.aload_n 0, 1) := by decide +kernel
theorem dL_law_849 : decode cL_law 849 = .ok (.iload_n 3, 1) := by decide +kernel
theorem dL_law_850 : decode cL_law 850 = .ok (.iconst 4, 1) := by decide +kernel
theorem dL_law_851 : decode cL_law 851 = .ok (.iadd, 1) := by decide +kernel
theorem dL_law_852 : decode cL_law 852 = .ok (.iaload, 1) := by decide +kernel
theorem dL_law_853 : decode cL_law 853 = .ok (.aload_n 0, 1) := by decide +kernel
theorem dL_law_854 : decode cL_law 854 = .ok (.iload_n 3, 1) := by decide +kernel
theorem dL_law_855 : decode cL_law 855 = .ok (.iconst 5, 1) := by decide +kernel
theorem dL_law_856 : decode cL_law 856 = .ok (.iadd, 1) := by decide +kernel
theorem dL_law_857 : decode cL_law 857 = .ok (.iaload, 1) := by decide +kernel
theorem dL_law_858 : decode cL_law 858 = .ok (.invokevirtual 101, 3) := by decide +kernel
theorem dL_law_861 : decode cL_law 861 = .ok (.aload_n 2, 1) := by decide +kernel
theorem dL_law_862 : decode cL_law 862 = .ok (.aload_n 0, 1) := by decide +kernel
theorem dL_law_863 : decode cL_law 863 = .ok (.iload_n 3, 1) := by decide +kernel
theorem dL_law_864 : decode cL_law 864 = .ok (.iconst 1, 1) := by decide +kernel
theorem dL_law_865 : decode cL_law 865 = .ok (.iadd, 1) := by decide +kernel
theorem dL_law_866 : decode cL_law 866 = .ok (.iaload, 1) := by decide +kernel
theorem dL_law_867 : decode cL_law 867 = .ok (.aload_n 0, 1) := by decide +kernel
theorem dL_law_868 : decode cL_law 868 = .ok (.iload_n 3, 1) := by decide +kernel
theorem dL_law_869 : decode cL_law 869 = .ok (.iconst 2, 1) := by decide +kernel
theorem dL_law_870 : decode cL_law 870 = .ok (.iadd, 1) := by decide +kernel
theorem dL_law_871 : decode cL_law 871 = .ok (.iaload, 1) := by decide +kernel
theorem dL_law_872 : decode cL_law 872 = .ok (.aload_n 0, 1) := by decide +kernel
theorem dL_law_873 : decode cL_law 873 = .ok (.iload_n 3, 1) := by decide +kernel
theorem dL_law_874 : decode cL_law 874 = .ok (.iconst 3, 1) := by decide +kernel
theorem dL_law_875 : decode cL_law 875 = .ok (.iadd, 1) := by decide +kernel
theorem dL_law_876 : decode cL_law 876 = .ok (.iaload, 1) := by decide +kernel
theorem dL_law_877 : decode cL_law 877 = .ok (.aload_n 0, 1) := by decide +kernel
theorem dL_law_878 : decode cL_law 878 = .ok (.iload_n 3, 1) := by decide +kernel
theorem dL_law_879 : decode cL_law 879 = .ok (.iconst 4, 1) := by decide +kernel
theorem dL_law_880 : decode cL_law 880 = .ok (.iadd, 1) := by decide +kernel
theorem dL_law_881 : decode cL_law 881 = .ok (.iaload, 1) := by decide +kernel
theorem dL_law_882 : decode cL_law 882 = .ok (.aload_n 0, 1) := by decide +kernel
theorem dL_law_883 : decode cL_law 883 = .ok (.iload_n 3, 1) := by decide +kernel
theorem dL_law_884 : decode cL_law 884 = .ok (.iconst 5, 1) := by decide +kernel
theorem dL_law_885 : decode cL_law 885 = .ok (.iadd, 1) := by decide +kernel
theorem dL_law_886 : decode cL_law 886 = .ok (.iaload, 1) := by decide +kernel
theorem dL_law_887 : decode cL_law 887 = .ok (.invokevirtual 104, 3) := by decide +kernel
theorem dL_law_890 : decode cL_law 890 = .ok (.if_icmp .eq 5, 3) := by decide +kernel
theorem dL_law_893 : decode cL_law 893 = .ok (.iconst 0, 1) := by decide +kernel
theorem dL_law_894 : decode cL_law 894 = .ok (.ireturn, 1) := by decide +kernel
theorem dL_law_895 : decode cL_law 895 = .ok (.iinc 3 6, 3) := by decide +kernel
theorem dL_law_898 : decode cL_law 898 = .ok (.goto (-880), 3) := by decide +kernel
theorem dL_law_901 : decode cL_law 901 = .ok (.iconst 1, 1) := by decide +kernel
theorem dL_law_902 : decode cL_law 902 = .ok (.ireturn, 1) := by decide +kernel
end
section
/-! ===== THE PURE MACHINE: its state; cells are numbered from 1 on, 0 is null ===== -/
/-- ints by cell and slot, references by cell and slot, the tag of a cell, the length of an array, how many numbers are used -/
abbrev pm_S : Type := (Nat → Nat → Int32) × (Nat → Nat → Nat) × (Nat → Nat) × (Nat → Nat) × Nat
def qI (σ : pm_S) : Nat → Nat → Int32 := σ.1
def qR (σ : pm_S) : Nat → Nat → Nat := σ.2.1
def qT (σ : pm_S) : Nat → Nat := σ.2.2.1
def qL (σ : pm_S) : Nat → Nat := σ.2.2.2.1
def qN (σ : pm_S) : Nat := σ.2.2.2.2
def pm_sI (σ : pm_S) (a k : Nat) (x : Int32) : pm_S := (fun b j => if b = a ∧ j = k then x else σ.1 b j, σ.2)
def pm_sR (σ : pm_S) (a k : Nat) (x : Nat) : pm_S := (σ.1, fun b j => if b = a ∧ j = k then x else σ.2.1 b j, σ.2.2)
def pm_nw (σ : pm_S) (t n : Nat) : pm_S := (fun b j => if b = qN σ then 0 else σ.1 b j, fun b j => if b = qN σ then 0 else σ.2.1 b j, fun b => if b = qN σ then t else σ.2.2.1 b, fun b => if b = qN σ then n else σ.2.2.2.1 b, qN σ + 1)
/-- a cell that is there, of a tag -/
def pm_is (σ : pm_S) (a t : Nat) : Prop := 0 < a ∧ a < qN σ ∧ qT σ a = t
/-! the tags: 0 .. 12 the classes, 13 String; 20 int[], 21 byte[], 22 Thing[], 23 int[][] -/
def pm_cl : List vw_C := [(RX0, TX0, 6), (RX1, TX1, 14), (RX2, TX2, 1), (RX3, TX3, 3), (RX4, TX4, 6), (RX5, TX5, 6), (RX6, TX6, 2), (RX7, TX7, 2), (RX8, TX8, 1), (RX9, TX9, 9), (RX10, TX10, 5), (RX11, TX11, 11), (RX12, TX12, 45)]
def pm_nf (t : Nat) : Nat := match t with
  | 0 => 6
  | 1 => 14
  | 2 => 1
  | 3 => 3
  | 4 => 6
  | 5 => 6
  | 6 => 2
  | 7 => 2
  | 8 => 1
  | 9 => 9
  | 10 => 5
  | 11 => 11
  | 12 => 45
  | 13 => 2
  | _ => 0
def pm_fty (t k : Nat) : FieldType := match t with
  | 0 => tyX0 k
  | 1 => tyX1 k
  | 2 => tyX2 k
  | 3 => tyX3 k
  | 4 => tyX4 k
  | 5 => tyX5 k
  | 6 => tyX6 k
  | 7 => tyX7 k
  | 8 => tyX8 k
  | 9 => tyX9 k
  | 10 => tyX10 k
  | 11 => tyX11 k
  | 12 => tyX12 k
  | 13 => if k = 0 then .array .byte else .byte
  | 20 => .int
  | 21 => .byte
  | 22 => .object RX9
  | 23 => .array .int
  | _ => .int
def pm_isr : FieldType → Bool
  | .object _ => true
  | .array _ => true
  | _ => false
def pm_rf (t k : Nat) : Bool := pm_isr (pm_fty t k)
/-! ===== the real machine beside it: addresses, class ids, slots, the old cells' classes, the first new address, the heap at the start ===== -/
abbrev pm_G : Type := (Nat → Nat) × (Nat → ClassId) × (Nat → Nat → Nat) × (Nat → ClassId) × Nat × Heap
def pm_rv (g : pm_G) (n : Nat) : Value := if n = 0 then .null else .ref (g.1 n)
def pm_tr (g : pm_G) (v : Value) : Value := match v with
  | .ref n => pm_rv g n
  | w => w
def pm_val (g : pm_G) (σ : pm_S) (a k : Nat) : Value := if pm_rf (qT σ a) k = true then pm_rv g (qR σ a k) else .int (qI σ a k)
def pm_gc (g : pm_G) (a t : Nat) : ClassId := if a < 6 then g.2.2.2.1 a else g.2.1 t
def pm_cell (g : pm_G) (σ : pm_S) (a : Nat) (H : Heap) : Prop := ∃ cell : Cell, H[g.1 a]? = some cell ∧ cell.cls = pm_gc g a (qT σ a) ∧ cell.vm.isStatics = false ∧ cell.vm ≠ .unknown ∧ (6 ≤ a → cell.vm = .none) ∧
  (qT σ a < 20 → ∀ k, k < pm_nf (qT σ a) → cell.slots[g.2.2.1 (qT σ a) k]? = some (pm_val g σ a k)) ∧
  (20 ≤ qT σ a → (qL σ a ≤ cell.slots.size ∧ cell.slots.size.toInt32 = nI (qL σ a)) ∧ ∀ j, j < qL σ a → cell.slots[j]? = some (pm_val g σ a j))
def pm_Rl (g : pm_G) (σ : pm_S) (H : Heap) : Prop := 6 ≤ qN σ ∧ H.size = g.1 (qN σ) ∧ (∀ a, 0 < a → a < qN σ → pm_cell g σ a H) ∧ (∀ q, q < g.2.2.2.2.1 → H[q]? = g.2.2.2.2.2[q]?) ∧ (qT σ 1 = 20 ∧ qT σ 2 = 13 ∧ qT σ 3 = 13 ∧ qT σ 4 = 21 ∧ qT σ 5 = 21)
def pm_Gk (g : pm_G) : Prop := (∀ a b, 0 < b → 6 ≤ a → g.1 b = g.1 a → b = a) ∧ (∀ n, 6 ≤ n → g.1 (n + 1) = g.1 n + 1) ∧ ∀ n, 6 ≤ n → g.2.2.2.2.1 ≤ g.1 n
/-- the words of the tables that every method may use -/
def pm_T : List Cond := lw_tbl.filter goodWord
theorem pm_T_good : ∀ w ∈ pm_T, goodWord w = true := fun w h => (List.mem_filter.mp h).2
theorem pm_T_in {w : Cond} (h : w ∈ lw_tbl) (hg : goodWord w = true) : w ∈ pm_T := List.mem_filter.mpr ⟨h, hg⟩
/-- the two text constants, by the entries of the class's file -/
def pm_tx1 : Nat := 68
def pm_tx2 : Nat := 53
def pm_s1 : String := "bar   or    and   not   seasonguestsrank  tone  age   has   bowl  scrollkettlevase  scoop "
def pm_s2 : String := ";()<=>"
/-- what is known of the classes at a method's start -/
def pm_K1 (g : pm_G) (U : State) : Prop := va_K (g.2.1, g.2.2.1) pm_cl [] U ∧ (∀ t, 20 ≤ t → t ≤ 23 → ArrOfT U (g.2.1 t) (pm_fty t 0) ∧ va_RA U (g.2.1 t) (pm_fty t 0)) ∧ ArrOfT U (g.2.2.2.1 1) .int ∧ ArrOfT U (g.2.2.2.1 4) .byte ∧ ArrOfT U (g.2.2.2.1 5) .byte
/-- of the text constants, of the statics that are read -/
def pm_K2 (g : pm_G) (U : State) : Prop := (U.vm.findClass "java/lang/String" = some (g.2.2.2.1 2) ∧ U.vm.findClass "java/lang/String" = some (g.2.2.2.1 3)) ∧ (∃ (cf : ClassId) (k : Class) (i : Nat) (f : Field), U.fieldFound? "java/lang/String" "value" "[B" = some (cf, k, i, f) ∧ f.isStatic = false ∧ f.slot = g.2.2.1 13 0) ∧ (∃ (cf : ClassId) (k : Class) (i : Nat) (f : Field), U.fieldFound? "java/lang/String" "coder" "B" = some (cf, k, i, f) ∧ f.isStatic = false ∧ f.slot = g.2.2.1 13 1) ∧
  vk_R RX10 pm_tx1 pm_s1 (g.1 2) U ∧ vk_R RX10 pm_tx2 pm_s2 (g.1 3) U
/-- of the links to private constructors of nest mates -/
def pm_ne : List (String × Nat × MethodName × String) := [("TeaBook", 18, ⟨"TeaBook$Shelf", "<init>", "()V"⟩, "TeaBook"), ("TeaBook", 25, ⟨"TeaBook$Meetings", "<init>", "()V"⟩, "TeaBook"), ("TeaBook", 32, ⟨"TeaBook$Tape", "<init>", "()V"⟩, "TeaBook"), ("TeaBook", 39, ⟨"TeaBook$RuleList", "<init>", "()V"⟩, "TeaBook"), ("TeaBook", 58, ⟨"TeaBook$TeaSet", "<init>", "()V"⟩, "TeaBook"), ("TeaBook", 65, ⟨"TeaBook$Facts", "<init>", "()V"⟩, "TeaBook"), ("TeaBook$Chooser", 25, ⟨"TeaBook$TeaSet", "<init>", "()V"⟩, "TeaBook"), ("TeaBook$Chooser", 32, ⟨"TeaBook$Facts", "<init>", "()V"⟩, "TeaBook")]
def pm_K3 (U : State) : Prop := (∀ q ∈ pm_ne, va_Nw (.methodLinkNest q.1 q.2.1 q.2.2.1 q.2.2.2) U) ∧ va_AO RX9 U ∧ (Cond.arrayOver (.array .int)).before #[] U = true
/-- of the statics of the JDK: where they stand at the start -/
def pm_K4 (g : pm_G) (U : State) : Prop := va_Z "java/lang/String" "COMPACT_STRINGS" "Z" (.int 1) (fun q => g.2.2.2.2.1 ≤ q) U g.2.2.2.2.2 ∧ ∃ v, (v = .null ∨ ∃ q, v = .ref q) ∧ va_Z "jdk/internal/util/Preconditions" "SIOOBE_FORMATTER" "Ljava/util/function/BiFunction;" v (fun q => g.2.2.2.2.1 ≤ q) U g.2.2.2.2.2
def pm_K (g : pm_G) (U : State) : Prop := pm_K1 g U ∧ pm_K2 g U ∧ pm_K3 U ∧ pm_K4 g U
/-! ===== methods, and the judgement ===== -/
/-- a method: its name, its bytes, its locals, what it answers -/
abbrev pm_M : Type := MethodName × ByteArray × Nat × Option FieldType
def pm_Cx (M : pm_M) (p : Program) (s : State) (m : MethodId) (args : Array Value) (meth : Method) (c : Code) (g : pm_G) : Prop :=
  p.tables.exec = Jvm.exec ∧ c.code = M.2.1 ∧ meth.sig.returnType = M.2.2.2 ∧ meth.locks = false ∧ c.maxLocals = M.2.2.1 ∧ s.vm.findClass M.1.cls = some m.cls ∧ (∀ w ∈ pm_T, w.before args s = true) ∧ (M.1.name = "<init>" → meth.name = "<init>") ∧ pm_K g s
/-- the last instruction and the answer -/
def pm_rOk (ret : Option FieldType) (ins : Instr) (r : Option Value) : Prop :=
  (ret = none ∧ ins = .return_ ∧ r = none) ∨ (∃ (ty : FieldType) (x : Int32), ret = some ty ∧ ins = .ireturn ∧ r = some (.int x) ∧ narrow ty (.int x) = .int x) ∨ (∃ (ty : FieldType) (a : Nat), ret = some ty ∧ ins = .areturn ∧ r = some (.ref a) ∧ ((∃ n, ty = .object n) ∨ ∃ t, ty = .array t))
def pm_End (M : pm_M) (Q : Option Value → pm_S → Prop) (p : Program) (l : Launch) (e : Env) (R : Room) (s : State) (m : MethodId) (args : Array Value) (below : List Frame) (meth : Method) (c : Code) (g : pm_G) (Z : State → Prop) (mc ms : Nat) : Prop :=
  ∀ (r : Option Value) (σ : pm_S) (H : Heap) (locs : List Loc) (lr : Array Slot) (pc : Nat) (ins : Instr), Q r σ → pm_Rl g σ H → (∀ q ∈ locs, g.2.2.2.2.1 ≤ q.base) → decode M.2.1 pc = .ok (ins, 1) → pm_rOk M.2.2.2 ins r → W p l e R s m args below meth c H locs mc ms Z (F0 m pc lr (r.toList.map (pm_tr g)))
def pm_Fx (d : Nat) (M : pm_M) (Q : Option Value → pm_S → Prop) (p : Program) (l : Launch) (e : Env) (R : Room) (s : State) (m : MethodId) (args : Array Value) (below : List Frame) (meth : Method) (c : Code) (g : pm_G) (Z : State → Prop) (mc ms : Nat) : Prop :=
  pm_Cx M p s m args meth c g ∧ pm_Gk g ∧ d ≤ R.frames ∧ 100 * d ≤ R.locals ∧ mc ≤ R.cells ∧ ms ≤ R.slots ∧ pm_End M Q p l e R s m args below meth c g Z mc ms
/-- a local that holds nothing (a retAddr stands for it) -/
def pm_un : Value → Bool
  | .retAddr _ => true
  | _ => false
def pm_prs (g : pm_G) : Nat → List Value → List (Nat × Value)
  | _, [] => []
  | i, v :: vs => if pm_un v = true then pm_prs g (i + 1) vs else (i, pm_tr g v) :: pm_prs g (i + 1) vs
def pm_Vr (al : Nat) (M : pm_M) (σ : pm_S) (ls : List Value) (g : pm_G) (mc ms : Nat) (H : Heap) (locs : List Loc) (cells slots : Nat) (lr : Array Slot) : Prop :=
  cells + al ≤ mc ∧ slots + 700 * al ≤ ms ∧ pm_Rl g σ H ∧ (∀ q ∈ locs, g.2.2.2.2.1 ≤ q.base) ∧ lv_has lr M.2.2.1 (pm_prs g 0 ls)
/-- from pc on, with these locals and this stack, in the state σ, the method comes to its end with Q; d frames at most, al new cells at most -/
def PW (d al : Nat) (M : pm_M) (pc : Nat) (ls st : List Value) (σ : pm_S) (Q : Option Value → pm_S → Prop) : Prop :=
  ∀ (p : Program) (l : Launch) (e : Env) (R : Room) (s : State) (m : MethodId) (args : Array Value) (below : List Frame) (meth : Method) (c : Code) (g : pm_G) (Z : State → Prop) (mc ms : Nat) (H : Heap) (locs : List Loc) (cells slots : Nat) (lr : Array Slot),
    pm_Fx d M Q p l e R s m args below meth c g Z mc ms → pm_Vr al M σ ls g mc ms H locs cells slots lr → W p l e R s m args below meth c H locs cells slots Z (F0 m pc lr (st.map (pm_tr g)))
def pm_ent (n : Nat) (av : List Value) : List Value := (av.flatMap fun v => if v.category = 2 then [v, .retAddr 0] else [v]) ++ List.replicate (n - (av.flatMap fun v => if v.category = 2 then [v, .retAddr 0] else [v]).length) (.retAddr 0)
/-- a method's whole run -/
def PM (d al : Nat) (M : pm_M) (av : List Value) (σ : pm_S) (Q : Option Value → pm_S → Prop) : Prop := PW d al M 0 (pm_ent M.2.2.1 av) [] σ Q
/-! ===== small facts ===== -/
theorem pm_tr_cat (g : pm_G) (v : Value) : (pm_tr g v).category = v.category := by
  cases v <;> first | rfl | (rename_i a; show (pm_rv g a).category = 1; unfold pm_rv; split <;> rfl)
theorem pm_tr_ref {g : pm_G} {a : Nat} (h : 0 < a) : pm_tr g (.ref a) = .ref (g.1 a) := if_neg (Nat.ne_of_gt h)
theorem pm_tr_null (g : pm_G) : pm_tr g (.ref 0) = .null := rfl
theorem pm_prs_mem {g : pm_G} {q : Nat × Value} : ∀ {ls : List Value} {i : Nat}, q ∈ pm_prs g i ls ↔ ∃ (k : Nat) (v : Value), ls[k]? = some v ∧ pm_un v = false ∧ q = (i + k, pm_tr g v)
  | [], i => by simp [pm_prs]
  | v :: vs, i => by
    have ih := pm_prs_mem (g := g) (q := q) (ls := vs) (i := i + 1)
    unfold pm_prs
    constructor
    · intro h
      by_cases hu : pm_un v = true
      · rw [if_pos hu] at h
        obtain ⟨k, w, h1, h2, h3⟩ := ih.mp h
        exact ⟨k + 1, w, by simpa using h1, h2, by rw [h3]; congr 1; omega⟩
      · rw [if_neg hu] at h
        rcases List.mem_cons.mp h with h | h
        · exact ⟨0, v, rfl, by simpa using hu, h⟩
        · obtain ⟨k, w, h1, h2, h3⟩ := ih.mp h
          exact ⟨k + 1, w, by simpa using h1, h2, by rw [h3]; congr 1; omega⟩
    · rintro ⟨k, w, h1, h2, h3⟩
      cases k with
      | zero =>
        have hw : v = w := by simpa using h1
        subst hw
        rw [if_neg (by rw [h2]; decide)]
        exact List.mem_cons.mpr (Or.inl h3)
      | succ k =>
        have hm : q ∈ pm_prs g (i + 1) vs := ih.mpr ⟨k, w, by simpa using h1, h2, by rw [h3]; congr 1; omega⟩
        split
        · exact hm
        · exact List.mem_cons_of_mem _ hm
/-- no long stands just below this local -/
def pm_nl (ls : List Value) (i : Nat) : Bool := match i with
  | 0 => true
  | j + 1 => match ls[j]? with
    | some w => w.category != 2
    | none => true
theorem pm_put1 {g : pm_G} {n i : Nat} {ls : List Value} {v : Value} {lr' : Array Slot} (hi : i < ls.length) (hnl : pm_nl ls i = true)
    (h : lv_has lr' n ((i, pm_tr g v) :: (pm_prs g 0 ls).filter (fun q => !(q.1 == i) && !(q.1 + 1 == i && q.2.category == 2)))) : lv_has lr' n (pm_prs g 0 (ls.set i v)) := by
  obtain ⟨h1, h2, h3⟩ := h
  refine ⟨h1, h2, fun q hq => ?_⟩
  obtain ⟨k, w, e1, e2, e3⟩ := pm_prs_mem.mp hq
  rw [Nat.zero_add] at e3
  by_cases hk : k = i
  · subst hk
    rw [List.getElem?_set_self hi] at e1
    cases e1
    exact h3 q (List.mem_cons.mpr (Or.inl e3))
  · rw [List.getElem?_set_ne (Ne.symm hk)] at e1
    refine h3 q (List.mem_cons_of_mem _ (List.mem_filter.mpr ⟨pm_prs_mem.mpr ⟨k, w, e1, e2, by rw [e3, Nat.zero_add]⟩, ?_⟩))
    rw [e3]
    simp only [Bool.and_eq_true, Bool.not_eq_true', beq_eq_false_iff_ne, ne_eq, Bool.and_eq_false_iff]
    refine ⟨hk, ?_⟩
    by_cases hki : k + 1 = i
    · right
      subst hki
      have h5 : (match ls[k]? with | some w => w.category != 2 | none => true) = true := hnl
      rw [e1] at h5
      rw [pm_tr_cat]
      simpa using h5
    · exact Or.inl hki
theorem pm_put2 {g : pm_G} {n i : Nat} {ls : List Value} {x : Int64} {lr' : Array Slot} (hi : i + 1 < ls.length) (hnl : pm_nl ls i = true)
    (h : lv_has lr' n ((i, Value.long x) :: (pm_prs g 0 ls).filter (fun q => !(q.1 == i) && (!(q.1 == i + 1) && !(q.1 + 1 == i && q.2.category == 2))))) : lv_has lr' n (pm_prs g 0 ((ls.set i (.long x)).set (i + 1) (.retAddr 0))) := by
  obtain ⟨h1, h2, h3⟩ := h
  refine ⟨h1, h2, fun q hq => ?_⟩
  obtain ⟨k, w, e1, e2, e3⟩ := pm_prs_mem.mp hq
  rw [Nat.zero_add] at e3
  by_cases hk1 : k = i + 1
  · subst hk1
    rw [List.getElem?_set_self (by rw [List.length_set]; exact hi)] at e1
    cases e1
    cases e2
  · rw [List.getElem?_set_ne (Ne.symm hk1)] at e1
    by_cases hk : k = i
    · subst hk
      rw [List.getElem?_set_self (by omega)] at e1
      cases e1
      exact h3 q (List.mem_cons.mpr (Or.inl e3))
    · rw [List.getElem?_set_ne (Ne.symm hk)] at e1
      refine h3 q (List.mem_cons_of_mem _ (List.mem_filter.mpr ⟨pm_prs_mem.mpr ⟨k, w, e1, e2, by rw [e3, Nat.zero_add]⟩, ?_⟩))
      rw [e3]
      simp only [Bool.and_eq_true, Bool.not_eq_true', beq_eq_false_iff_ne, ne_eq, Bool.and_eq_false_iff]
      refine ⟨hk, hk1, ?_⟩
      by_cases hki : k + 1 = i
      · right
        subst hki
        have h5 : (match ls[k]? with | some w => w.category != 2 | none => true) = true := hnl
        rw [e1] at h5
        rw [pm_tr_cat]
        simpa using h5
      · exact Or.inl hki
theorem pm_lat {g : pm_G} {n i : Nat} {ls : List Value} {v : Value} {lr : Array Slot} (h : lv_has lr n (pm_prs g 0 ls)) (hi : ls[i]? = some v) (hu : pm_un v = false) : lr[i]? = some (.val (pm_tr g v)) :=
  h.2.2 (i, pm_tr g v) (pm_prs_mem.mpr ⟨i, v, hi, hu, by rw [Nat.zero_add]⟩)
/-! ===== rows that leave the heap as it is ===== -/
section PMR
variable {d al : Nat} {M : pm_M} {pc : Nat} {ls st : List Value} {σ : pm_S} {Q : Option Value → pm_S → Prop}
theorem pw_iconst {n : Int} {v : Int32} (hd : decode M.2.1 pc = .ok (.iconst n, 1)) (hv : Int32.ofInt n = v) (k : PW d al M (pc + 1) ls (.int v :: st) σ Q) : PW d al M pc ls st σ Q :=
  fun p l e R s m args below meth c g Z mc ms H locs cells slots lr hF hV => lv_iconst hF.1.1 hF.1.2.1 hd hv (k p l e R s m args below meth c g Z mc ms H locs cells slots lr hF hV)
theorem pw_bipush {n : Int} {v : Int32} (hd : decode M.2.1 pc = .ok (.bipush n, 2)) (hv : (Int8.ofInt n).toInt32 = v) (k : PW d al M (pc + 2) ls (.int v :: st) σ Q) : PW d al M pc ls st σ Q :=
  fun p l e R s m args below meth c g Z mc ms H locs cells slots lr hF hV => lv_bipush hF.1.1 hF.1.2.1 hd hv (k p l e R s m args below meth c g Z mc ms H locs cells slots lr hF hV)
theorem pw_sipush {n : Int} {v : Int32} (hd : decode M.2.1 pc = .ok (.sipush n, 3)) (hv : (Int16.ofInt n).toInt32 = v) (k : PW d al M (pc + 3) ls (.int v :: st) σ Q) : PW d al M pc ls st σ Q :=
  fun p l e R s m args below meth c g Z mc ms H locs cells slots lr hF hV => lv_sipush hF.1.1 hF.1.2.1 hd hv (k p l e R s m args below meth c g Z mc ms H locs cells slots lr hF hV)
theorem pw_lconst {n : Fin 2} {v : Int64} (hd : decode M.2.1 pc = .ok (.lconst n, 1)) (hv : Int64.ofNat (n : Nat) = v) (k : PW d al M (pc + 1) ls (.long v :: st) σ Q) : PW d al M pc ls st σ Q :=
  fun p l e R s m args below meth c g Z mc ms H locs cells slots lr hF hV => lv_lconst hF.1.1 hF.1.2.1 hd hv (k p l e R s m args below meth c g Z mc ms H locs cells slots lr hF hV)
theorem pw_iload_n {j : Fin 4} {x : Int32} (hd : decode M.2.1 pc = .ok (.iload_n j, 1)) (hl : ls[(j : Nat)]? = some (.int x)) (k : PW d al M (pc + 1) ls (.int x :: st) σ Q) : PW d al M pc ls st σ Q :=
  fun p l e R s m args below meth c g Z mc ms H locs cells slots lr hF hV => lv_iload_n hF.1.1 hF.1.2.1 hd rfl (pm_lat hV.2.2.2.2 hl rfl) (k p l e R s m args below meth c g Z mc ms H locs cells slots lr hF hV)
theorem pw_iload {i : Nat} {x : Int32} (hd : decode M.2.1 pc = .ok (.iload i, 2)) (hl : ls[i]? = some (.int x)) (k : PW d al M (pc + 2) ls (.int x :: st) σ Q) : PW d al M pc ls st σ Q :=
  fun p l e R s m args below meth c g Z mc ms H locs cells slots lr hF hV => lv_iload hF.1.1 hF.1.2.1 hd (pm_lat hV.2.2.2.2 hl rfl) (k p l e R s m args below meth c g Z mc ms H locs cells slots lr hF hV)
theorem pw_lload_n {j : Fin 4} {x : Int64} (hd : decode M.2.1 pc = .ok (.lload_n j, 1)) (hl : ls[(j : Nat)]? = some (.long x)) (k : PW d al M (pc + 1) ls (.long x :: st) σ Q) : PW d al M pc ls st σ Q :=
  fun p l e R s m args below meth c g Z mc ms H locs cells slots lr hF hV => lv_lload_n hF.1.1 hF.1.2.1 hd rfl (pm_lat hV.2.2.2.2 hl rfl) (k p l e R s m args below meth c g Z mc ms H locs cells slots lr hF hV)
theorem pw_lload {i : Nat} {x : Int64} (hd : decode M.2.1 pc = .ok (.lload i, 2)) (hl : ls[i]? = some (.long x)) (k : PW d al M (pc + 2) ls (.long x :: st) σ Q) : PW d al M pc ls st σ Q :=
  fun p l e R s m args below meth c g Z mc ms H locs cells slots lr hF hV => lv_lload hF.1.1 hF.1.2.1 hd (pm_lat hV.2.2.2.2 hl rfl) (k p l e R s m args below meth c g Z mc ms H locs cells slots lr hF hV)
theorem pw_aload_n {j : Fin 4} {a : Nat} (hd : decode M.2.1 pc = .ok (.aload_n j, 1)) (hl : ls[(j : Nat)]? = some (.ref a)) (k : PW d al M (pc + 1) ls (.ref a :: st) σ Q) : PW d al M pc ls st σ Q := by
  intro p l e R s m args below meth c g Z mc ms H locs cells slots lr hF hV
  have h1 := pm_lat hV.2.2.2.2 hl rfl
  have h2 := (k p l e R s m args below meth c g Z mc ms H locs cells slots lr hF hV)
  have e2 : List.map (pm_tr g) (Value.ref a :: st) = pm_tr g (.ref a) :: st.map (pm_tr g) := rfl
  rw [e2] at h2
  rcases Nat.eq_zero_or_pos a with h0 | h0
  · subst h0
    rw [pm_tr_null] at h1 h2
    exact lv_aload_nN hF.1.1 hF.1.2.1 hd rfl h1 h2
  · rw [pm_tr_ref h0] at h1 h2
    exact lv_aload_n hF.1.1 hF.1.2.1 hd rfl h1 h2
theorem pw_istore_n {j : Fin 4} {x : Int32} (hd : decode M.2.1 pc = .ok (.istore_n j, 1)) (hn : (j : Nat) < M.2.2.1) (hi : (j : Nat) < ls.length) (hnl : pm_nl ls (j : Nat) = true) (k : PW d al M (pc + 1) (ls.set (j : Nat) (.int x)) st σ Q) : PW d al M pc ls (.int x :: st) σ Q :=
  fun p l e R s m args below meth c g Z mc ms H locs cells slots lr hF hV => lv_istore_n hF.1.1 hF.1.2.1 hd rfl hV.2.2.2.2 hn rfl (fun lr' h' => k p l e R s m args below meth c g Z mc ms H locs cells slots lr' hF ⟨hV.1, hV.2.1, hV.2.2.1, hV.2.2.2.1, pm_put1 (v := .int x) hi hnl h'⟩)
theorem pw_lstore_n {j : Fin 4} {x : Int64} (hd : decode M.2.1 pc = .ok (.lstore_n j, 1)) (hn : (j : Nat) + 1 < M.2.2.1) (hi : (j : Nat) + 1 < ls.length) (hnl : pm_nl ls (j : Nat) = true) (k : PW d al M (pc + 1) ((ls.set (j : Nat) (.long x)).set ((j : Nat) + 1) (.retAddr 0)) st σ Q) : PW d al M pc ls (.long x :: st) σ Q :=
  fun p l e R s m args below meth c g Z mc ms H locs cells slots lr hF hV => lv_lstore_n hF.1.1 hF.1.2.1 hd rfl hV.2.2.2.2 hn rfl (fun lr' h' => k p l e R s m args below meth c g Z mc ms H locs cells slots lr' hF ⟨hV.1, hV.2.1, hV.2.2.1, hV.2.2.2.1, pm_put2 hi hnl h'⟩)
theorem pw_astore_n {j : Fin 4} {a : Nat} (hd : decode M.2.1 pc = .ok (.astore_n j, 1)) (hn : (j : Nat) < M.2.2.1) (hi : (j : Nat) < ls.length) (hnl : pm_nl ls (j : Nat) = true) (k : PW d al M (pc + 1) (ls.set (j : Nat) (.ref a)) st σ Q) : PW d al M pc ls (.ref a :: st) σ Q := by
  intro p l e R s m args below meth c g Z mc ms H locs cells slots lr hF hV
  have e2 : List.map (pm_tr g) (Value.ref a :: st) = pm_tr g (.ref a) :: st.map (pm_tr g) := rfl
  rw [e2]
  have key : ∀ lr' : Array Slot, lv_has lr' M.2.2.1 (((j : Nat), pm_tr g (.ref a)) :: (pm_prs g 0 ls).filter (fun q => !(q.1 == (j : Nat)) && !(q.1 + 1 == (j : Nat) && q.2.category == 2))) → W p l e R s m args below meth c H locs cells slots Z (F0 m (pc + 1) lr' (st.map (pm_tr g))) := fun lr' h' => k p l e R s m args below meth c g Z mc ms H locs cells slots lr' hF ⟨hV.1, hV.2.1, hV.2.2.1, hV.2.2.2.1, pm_put1 hi hnl h'⟩
  rcases Nat.eq_zero_or_pos a with h0 | h0
  · subst h0
    rw [pm_tr_null] at key ⊢
    exact lv_astore_nN hF.1.1 hF.1.2.1 hd rfl hV.2.2.2.2 hn rfl key
  · rw [pm_tr_ref h0] at key ⊢
    exact lv_astore_n hF.1.1 hF.1.2.1 hd rfl hV.2.2.2.2 hn rfl key
theorem pw_aload {i : Nat} {a : Nat} (hd : decode M.2.1 pc = .ok (.aload i, 2)) (hl : ls[i]? = some (.ref a)) (k : PW d al M (pc + 2) ls (.ref a :: st) σ Q) : PW d al M pc ls st σ Q := by
  intro p l e R s m args below meth c g Z mc ms H locs cells slots lr hF hV
  have h1 := pm_lat hV.2.2.2.2 hl rfl
  have h2 := (k p l e R s m args below meth c g Z mc ms H locs cells slots lr hF hV)
  have e2 : List.map (pm_tr g) (Value.ref a :: st) = pm_tr g (.ref a) :: st.map (pm_tr g) := rfl
  rw [e2] at h2
  rcases Nat.eq_zero_or_pos a with h0 | h0
  · subst h0
    rw [pm_tr_null] at h1 h2
    exact lv_aloadN hF.1.1 hF.1.2.1 hd h1 h2
  · rw [pm_tr_ref h0] at h1 h2
    exact lv_aload hF.1.1 hF.1.2.1 hd h1 h2
theorem pw_istore {i : Nat} {x : Int32} (hd : decode M.2.1 pc = .ok (.istore i, 2)) (hn : i < M.2.2.1) (hi : i < ls.length) (hnl : pm_nl ls i = true) (k : PW d al M (pc + 2) (ls.set i (.int x)) st σ Q) : PW d al M pc ls (.int x :: st) σ Q :=
  fun p l e R s m args below meth c g Z mc ms H locs cells slots lr hF hV => lv_istore hF.1.1 hF.1.2.1 hd hV.2.2.2.2 hn rfl (fun lr' h' => k p l e R s m args below meth c g Z mc ms H locs cells slots lr' hF ⟨hV.1, hV.2.1, hV.2.2.1, hV.2.2.2.1, pm_put1 (v := .int x) hi hnl h'⟩)
theorem pw_lstore {i : Nat} {x : Int64} (hd : decode M.2.1 pc = .ok (.lstore i, 2)) (hn : i + 1 < M.2.2.1) (hi : i + 1 < ls.length) (hnl : pm_nl ls i = true) (k : PW d al M (pc + 2) ((ls.set i (.long x)).set (i + 1) (.retAddr 0)) st σ Q) : PW d al M pc ls (.long x :: st) σ Q :=
  fun p l e R s m args below meth c g Z mc ms H locs cells slots lr hF hV => lv_lstore hF.1.1 hF.1.2.1 hd hV.2.2.2.2 hn rfl (fun lr' h' => k p l e R s m args below meth c g Z mc ms H locs cells slots lr' hF ⟨hV.1, hV.2.1, hV.2.2.1, hV.2.2.2.1, pm_put2 hi hnl h'⟩)
theorem pw_astore {i : Nat} {a : Nat} (hd : decode M.2.1 pc = .ok (.astore i, 2)) (hn : i < M.2.2.1) (hi : i < ls.length) (hnl : pm_nl ls i = true) (k : PW d al M (pc + 2) (ls.set i (.ref a)) st σ Q) : PW d al M pc ls (.ref a :: st) σ Q := by
  intro p l e R s m args below meth c g Z mc ms H locs cells slots lr hF hV
  have e2 : List.map (pm_tr g) (Value.ref a :: st) = pm_tr g (.ref a) :: st.map (pm_tr g) := rfl
  rw [e2]
  have key : ∀ lr' : Array Slot, lv_has lr' M.2.2.1 ((i, pm_tr g (.ref a)) :: (pm_prs g 0 ls).filter (fun q => !(q.1 == i) && !(q.1 + 1 == i && q.2.category == 2))) → W p l e R s m args below meth c H locs cells slots Z (F0 m (pc + 2) lr' (st.map (pm_tr g))) := fun lr' h' => k p l e R s m args below meth c g Z mc ms H locs cells slots lr' hF ⟨hV.1, hV.2.1, hV.2.2.1, hV.2.2.2.1, pm_put1 hi hnl h'⟩
  rcases Nat.eq_zero_or_pos a with h0 | h0
  · subst h0
    rw [pm_tr_null] at key ⊢
    exact lv_astoreN hF.1.1 hF.1.2.1 hd hV.2.2.2.2 hn rfl key
  · rw [pm_tr_ref h0] at key ⊢
    exact lv_astore hF.1.1 hF.1.2.1 hd hV.2.2.2.2 hn rfl key
theorem pw_iinc {i : Nat} {n : Int} {x : Int32} (hd : decode M.2.1 pc = .ok (.iinc i n, 3)) (hl : ls[i]? = some (.int x)) (hn : i < M.2.2.1) (hi : i < ls.length) (hnl : pm_nl ls i = true) (k : PW d al M (pc + 3) (ls.set i (.int (x + Int32.ofInt n))) st σ Q) : PW d al M pc ls st σ Q := by
  intro p l e R s m args below meth c g Z mc ms H locs cells slots lr hF hV
  obtain ⟨j, hj⟩ := List.getElem?_of_mem (pm_prs_mem (g := g) (i := 0).mpr ⟨i, .int x, hl, rfl, by rw [Nat.zero_add]⟩ : (i, pm_tr g (.int x)) ∈ pm_prs g 0 ls)
  exact lv_iinc hF.1.1 hF.1.2.1 hd hV.2.2.2.2 hj rfl hn rfl (fun lr' h' => k p l e R s m args below meth c g Z mc ms H locs cells slots lr' hF ⟨hV.1, hV.2.1, hV.2.2.1, hV.2.2.2.1, pm_put1 (v := .int (x + Int32.ofInt n)) hi hnl h'⟩)
theorem pw_iadd {x y : Int32} (hd : decode M.2.1 pc = .ok (.iadd, 1))  (k : PW d al M (pc + 1) ls (.int (x + y) :: st) σ Q) : PW d al M pc ls (.int y :: .int x :: st) σ Q :=
  fun p l e R s m args below meth c g Z mc ms H locs cells slots lr hF hV => lv_iadd hF.1.1 hF.1.2.1 hd  (k p l e R s m args below meth c g Z mc ms H locs cells slots lr hF hV)
theorem pw_isub {x y : Int32} (hd : decode M.2.1 pc = .ok (.isub, 1))  (k : PW d al M (pc + 1) ls (.int (x - y) :: st) σ Q) : PW d al M pc ls (.int y :: .int x :: st) σ Q :=
  fun p l e R s m args below meth c g Z mc ms H locs cells slots lr hF hV => lv_isub hF.1.1 hF.1.2.1 hd  (k p l e R s m args below meth c g Z mc ms H locs cells slots lr hF hV)
theorem pw_imul {x y : Int32} (hd : decode M.2.1 pc = .ok (.imul, 1))  (k : PW d al M (pc + 1) ls (.int (x * y) :: st) σ Q) : PW d al M pc ls (.int y :: .int x :: st) σ Q :=
  fun p l e R s m args below meth c g Z mc ms H locs cells slots lr hF hV => lv_imul hF.1.1 hF.1.2.1 hd  (k p l e R s m args below meth c g Z mc ms H locs cells slots lr hF hV)
theorem pw_iand {x y : Int32} (hd : decode M.2.1 pc = .ok (.iand, 1))  (k : PW d al M (pc + 1) ls (.int (x &&& y) :: st) σ Q) : PW d al M pc ls (.int y :: .int x :: st) σ Q :=
  fun p l e R s m args below meth c g Z mc ms H locs cells slots lr hF hV => lv_iand hF.1.1 hF.1.2.1 hd  (k p l e R s m args below meth c g Z mc ms H locs cells slots lr hF hV)
theorem pw_ior {x y : Int32} (hd : decode M.2.1 pc = .ok (.ior, 1))  (k : PW d al M (pc + 1) ls (.int (x ||| y) :: st) σ Q) : PW d al M pc ls (.int y :: .int x :: st) σ Q :=
  fun p l e R s m args below meth c g Z mc ms H locs cells slots lr hF hV => lv_ior hF.1.1 hF.1.2.1 hd  (k p l e R s m args below meth c g Z mc ms H locs cells slots lr hF hV)
theorem pw_ixor {x y : Int32} (hd : decode M.2.1 pc = .ok (.ixor, 1))  (k : PW d al M (pc + 1) ls (.int (x ^^^ y) :: st) σ Q) : PW d al M pc ls (.int y :: .int x :: st) σ Q :=
  fun p l e R s m args below meth c g Z mc ms H locs cells slots lr hF hV => lv_ixor hF.1.1 hF.1.2.1 hd  (k p l e R s m args below meth c g Z mc ms H locs cells slots lr hF hV)
theorem pw_ishl {x y : Int32} (hd : decode M.2.1 pc = .ok (.ishl, 1))  (k : PW d al M (pc + 1) ls (.int (x <<< (y &&& 31)) :: st) σ Q) : PW d al M pc ls (.int y :: .int x :: st) σ Q :=
  fun p l e R s m args below meth c g Z mc ms H locs cells slots lr hF hV => lv_ishl hF.1.1 hF.1.2.1 hd  (k p l e R s m args below meth c g Z mc ms H locs cells slots lr hF hV)
theorem pw_ishr {x y : Int32} (hd : decode M.2.1 pc = .ok (.ishr, 1))  (k : PW d al M (pc + 1) ls (.int (x >>> (y &&& 31)) :: st) σ Q) : PW d al M pc ls (.int y :: .int x :: st) σ Q :=
  fun p l e R s m args below meth c g Z mc ms H locs cells slots lr hF hV => lv_ishr hF.1.1 hF.1.2.1 hd  (k p l e R s m args below meth c g Z mc ms H locs cells slots lr hF hV)
theorem pw_iushr {x y : Int32} (hd : decode M.2.1 pc = .ok (.iushr, 1))  (k : PW d al M (pc + 1) ls (.int ((x.toUInt32 >>> (y.toUInt32 &&& Int32.toUInt32 31)).toInt32) :: st) σ Q) : PW d al M pc ls (.int y :: .int x :: st) σ Q :=
  fun p l e R s m args below meth c g Z mc ms H locs cells slots lr hF hV => lv_iushr hF.1.1 hF.1.2.1 hd rfl (k p l e R s m args below meth c g Z mc ms H locs cells slots lr hF hV)
theorem pw_irem {x y : Int32} (hd : decode M.2.1 pc = .ok (.irem, 1)) (hne : ¬ y = 0) (k : PW d al M (pc + 1) ls (.int (x - x / y * y) :: st) σ Q) : PW d al M pc ls (.int y :: .int x :: st) σ Q :=
  fun p l e R s m args below meth c g Z mc ms H locs cells slots lr hF hV => lv_irem hF.1.1 hF.1.2.1 hd hne (k p l e R s m args below meth c g Z mc ms H locs cells slots lr hF hV)
theorem pw_lshl {x : Int64} {y : Int32} (hd : decode M.2.1 pc = .ok (.lshl, 1))  (k : PW d al M (pc + 1) ls (.long (x <<< (y.toInt64 &&& 63)) :: st) σ Q) : PW d al M pc ls (.int y :: .long x :: st) σ Q :=
  fun p l e R s m args below meth c g Z mc ms H locs cells slots lr hF hV => lv_lshl hF.1.1 hF.1.2.1 hd rfl (k p l e R s m args below meth c g Z mc ms H locs cells slots lr hF hV)
theorem pw_lor {x y : Int64} (hd : decode M.2.1 pc = .ok (.lor, 1))  (k : PW d al M (pc + 1) ls (.long (x ||| y) :: st) σ Q) : PW d al M pc ls (.long y :: .long x :: st) σ Q :=
  fun p l e R s m args below meth c g Z mc ms H locs cells slots lr hF hV => lv_lor hF.1.1 hF.1.2.1 hd  (k p l e R s m args below meth c g Z mc ms H locs cells slots lr hF hV)
theorem pw_i2l {x : Int32} (hd : decode M.2.1 pc = .ok (.i2l, 1))  (k : PW d al M (pc + 1) ls (.long x.toInt64 :: st) σ Q) : PW d al M pc ls (.int x :: st) σ Q :=
  fun p l e R s m args below meth c g Z mc ms H locs cells slots lr hF hV => lv_i2l hF.1.1 hF.1.2.1 hd rfl (k p l e R s m args below meth c g Z mc ms H locs cells slots lr hF hV)
theorem pw_i2c {x : Int32} (hd : decode M.2.1 pc = .ok (.i2c, 1))  (k : PW d al M (pc + 1) ls (.int (x.toUInt32 % 65536).toInt32 :: st) σ Q) : PW d al M pc ls (.int x :: st) σ Q :=
  fun p l e R s m args below meth c g Z mc ms H locs cells slots lr hF hV => lv_i2c hF.1.1 hF.1.2.1 hd rfl (k p l e R s m args below meth c g Z mc ms H locs cells slots lr hF hV)
theorem pw_i2b {x : Int32} (hd : decode M.2.1 pc = .ok (.i2b, 1))  (k : PW d al M (pc + 1) ls (.int x.toInt8.toInt32 :: st) σ Q) : PW d al M pc ls (.int x :: st) σ Q :=
  fun p l e R s m args below meth c g Z mc ms H locs cells slots lr hF hV => lv_i2b hF.1.1 hF.1.2.1 hd rfl (k p l e R s m args below meth c g Z mc ms H locs cells slots lr hF hV)
theorem pw_lcmp {x y : Int64} (hd : decode M.2.1 pc = .ok (.lcmp, 1))  (k : PW d al M (pc + 1) ls (.int (lg_cmp x y) :: st) σ Q) : PW d al M pc ls (.long y :: .long x :: st) σ Q :=
  fun p l e R s m args below meth c g Z mc ms H locs cells slots lr hF hV => W.lcmp hF.1.1 hF.1.2.1 hd  (k p l e R s m args below meth c g Z mc ms H locs cells slots lr hF hV)
theorem pw_dup {v : Value} (hd : decode M.2.1 pc = .ok (.dup, 1)) (hc : v.category = 1) (k : PW d al M (pc + 1) ls (v :: v :: st) σ Q) : PW d al M pc ls (v :: st) σ Q :=
  fun p l e R s m args below meth c g Z mc ms H locs cells slots lr hF hV => lv_dup hF.1.1 hF.1.2.1 hd ((pm_tr_cat g v).trans hc) (k p l e R s m args below meth c g Z mc ms H locs cells slots lr hF hV)
theorem pw_dup2 {v u : Value} (hd : decode M.2.1 pc = .ok (.dup2, 1)) (hc : v.category = 1) (hu : u.category = 1) (k : PW d al M (pc + 1) ls (v :: u :: v :: u :: st) σ Q) : PW d al M pc ls (v :: u :: st) σ Q :=
  fun p l e R s m args below meth c g Z mc ms H locs cells slots lr hF hV => lv_dup2_11 hF.1.1 hF.1.2.1 hd ((pm_tr_cat g v).trans hc) ((pm_tr_cat g u).trans hu) (k p l e R s m args below meth c g Z mc ms H locs cells slots lr hF hV)
theorem pw_pop {v : Value} (hd : decode M.2.1 pc = .ok (.pop, 1)) (hc : v.category = 1) (k : PW d al M (pc + 1) ls st σ Q) : PW d al M pc ls (v :: st) σ Q :=
  fun p l e R s m args below meth c g Z mc ms H locs cells slots lr hF hV => lv_pop hF.1.1 hF.1.2.1 hd ((pm_tr_cat g v).trans hc) (k p l e R s m args below meth c g Z mc ms H locs cells slots lr hF hV)
theorem pw_null  (hd : decode M.2.1 pc = .ok (.aconst_null, 1))  (k : PW d al M (pc + 1) ls (.ref 0 :: st) σ Q) : PW d al M pc ls st σ Q :=
  fun p l e R s m args below meth c g Z mc ms H locs cells slots lr hF hV => lv_null hF.1.1 hF.1.2.1 hd  (k p l e R s m args below meth c g Z mc ms H locs cells slots lr hF hV)
theorem pw_goto {off : Int} {tgt : Nat} (hd : decode M.2.1 pc = .ok (.goto off, 3)) (ht : (pc : Int) + off = (tgt : Int)) (k : PW d al M tgt ls st σ Q) : PW d al M pc ls st σ Q :=
  fun p l e R s m args below meth c g Z mc ms H locs cells slots lr hF hV => lv_goto hF.1.1 hF.1.2.1 hd ht (k p l e R s m args below meth c g Z mc ms H locs cells slots lr hF hV)
theorem pw_if_eq {x : Int32} {off : Int} {tgt : Nat} (hd : decode M.2.1 pc = .ok (.ifCond .eq off, 3)) (ht : (pc : Int) + off = (tgt : Int)) (kt : x = 0 → PW d al M tgt ls st σ Q) (kf : ¬ x = 0 → PW d al M (pc + 3) ls st σ Q) : PW d al M pc ls (.int x :: st) σ Q :=
  fun p l e R s m args below meth c g Z mc ms H locs cells slots lr hF hV => lv_if_eq hF.1.1 hF.1.2.1 hd ht (fun h => kt h p l e R s m args below meth c g Z mc ms H locs cells slots lr hF hV) (fun h => kf h p l e R s m args below meth c g Z mc ms H locs cells slots lr hF hV)
theorem pw_if_ne {x : Int32} {off : Int} {tgt : Nat} (hd : decode M.2.1 pc = .ok (.ifCond .ne off, 3)) (ht : (pc : Int) + off = (tgt : Int)) (kt : x ≠ 0 → PW d al M tgt ls st σ Q) (kf : x = 0 → PW d al M (pc + 3) ls st σ Q) : PW d al M pc ls (.int x :: st) σ Q :=
  fun p l e R s m args below meth c g Z mc ms H locs cells slots lr hF hV => lv_if_ne hF.1.1 hF.1.2.1 hd ht (fun h => kt h p l e R s m args below meth c g Z mc ms H locs cells slots lr hF hV) (fun h => kf h p l e R s m args below meth c g Z mc ms H locs cells slots lr hF hV)
theorem pw_if_lt {x : Int32} {off : Int} {tgt : Nat} (hd : decode M.2.1 pc = .ok (.ifCond .lt off, 3)) (ht : (pc : Int) + off = (tgt : Int)) (kt : x < 0 → PW d al M tgt ls st σ Q) (kf : ¬ x < 0 → PW d al M (pc + 3) ls st σ Q) : PW d al M pc ls (.int x :: st) σ Q :=
  fun p l e R s m args below meth c g Z mc ms H locs cells slots lr hF hV => lv_if_lt hF.1.1 hF.1.2.1 hd ht (fun h => kt h p l e R s m args below meth c g Z mc ms H locs cells slots lr hF hV) (fun h => kf h p l e R s m args below meth c g Z mc ms H locs cells slots lr hF hV)
theorem pw_if_ge {x : Int32} {off : Int} {tgt : Nat} (hd : decode M.2.1 pc = .ok (.ifCond .ge off, 3)) (ht : (pc : Int) + off = (tgt : Int)) (kt : 0 ≤ x → PW d al M tgt ls st σ Q) (kf : ¬ 0 ≤ x → PW d al M (pc + 3) ls st σ Q) : PW d al M pc ls (.int x :: st) σ Q :=
  fun p l e R s m args below meth c g Z mc ms H locs cells slots lr hF hV => lv_if_ge hF.1.1 hF.1.2.1 hd ht (fun h => kt h p l e R s m args below meth c g Z mc ms H locs cells slots lr hF hV) (fun h => kf h p l e R s m args below meth c g Z mc ms H locs cells slots lr hF hV)
theorem pw_if_gt {x : Int32} {off : Int} {tgt : Nat} (hd : decode M.2.1 pc = .ok (.ifCond .gt off, 3)) (ht : (pc : Int) + off = (tgt : Int)) (kt : 0 < x → PW d al M tgt ls st σ Q) (kf : ¬ 0 < x → PW d al M (pc + 3) ls st σ Q) : PW d al M pc ls (.int x :: st) σ Q :=
  fun p l e R s m args below meth c g Z mc ms H locs cells slots lr hF hV => lv_if_gt hF.1.1 hF.1.2.1 hd ht (fun h => kt h p l e R s m args below meth c g Z mc ms H locs cells slots lr hF hV) (fun h => kf h p l e R s m args below meth c g Z mc ms H locs cells slots lr hF hV)
theorem pw_if_le {x : Int32} {off : Int} {tgt : Nat} (hd : decode M.2.1 pc = .ok (.ifCond .le off, 3)) (ht : (pc : Int) + off = (tgt : Int)) (kt : x ≤ 0 → PW d al M tgt ls st σ Q) (kf : ¬ x ≤ 0 → PW d al M (pc + 3) ls st σ Q) : PW d al M pc ls (.int x :: st) σ Q :=
  fun p l e R s m args below meth c g Z mc ms H locs cells slots lr hF hV => lv_if_le hF.1.1 hF.1.2.1 hd ht (fun h => kt h p l e R s m args below meth c g Z mc ms H locs cells slots lr hF hV) (fun h => kf h p l e R s m args below meth c g Z mc ms H locs cells slots lr hF hV)
theorem pw_icmp_eq {x y : Int32} {off : Int} {tgt : Nat} (hd : decode M.2.1 pc = .ok (.if_icmp .eq off, 3)) (ht : (pc : Int) + off = (tgt : Int)) (kt : x = y → PW d al M tgt ls st σ Q) (kf : ¬ x = y → PW d al M (pc + 3) ls st σ Q) : PW d al M pc ls (.int y :: .int x :: st) σ Q :=
  fun p l e R s m args below meth c g Z mc ms H locs cells slots lr hF hV => lv_icmp_eq hF.1.1 hF.1.2.1 hd ht (fun h => kt h p l e R s m args below meth c g Z mc ms H locs cells slots lr hF hV) (fun h => kf h p l e R s m args below meth c g Z mc ms H locs cells slots lr hF hV)
theorem pw_icmp_ne {x y : Int32} {off : Int} {tgt : Nat} (hd : decode M.2.1 pc = .ok (.if_icmp .ne off, 3)) (ht : (pc : Int) + off = (tgt : Int)) (kt : x ≠ y → PW d al M tgt ls st σ Q) (kf : x = y → PW d al M (pc + 3) ls st σ Q) : PW d al M pc ls (.int y :: .int x :: st) σ Q :=
  fun p l e R s m args below meth c g Z mc ms H locs cells slots lr hF hV => lv_icmp_ne hF.1.1 hF.1.2.1 hd ht (fun h => kt h p l e R s m args below meth c g Z mc ms H locs cells slots lr hF hV) (fun h => kf h p l e R s m args below meth c g Z mc ms H locs cells slots lr hF hV)
theorem pw_icmp_lt {x y : Int32} {off : Int} {tgt : Nat} (hd : decode M.2.1 pc = .ok (.if_icmp .lt off, 3)) (ht : (pc : Int) + off = (tgt : Int)) (kt : x < y → PW d al M tgt ls st σ Q) (kf : ¬ x < y → PW d al M (pc + 3) ls st σ Q) : PW d al M pc ls (.int y :: .int x :: st) σ Q :=
  fun p l e R s m args below meth c g Z mc ms H locs cells slots lr hF hV => lv_icmp_lt hF.1.1 hF.1.2.1 hd ht (fun h => kt h p l e R s m args below meth c g Z mc ms H locs cells slots lr hF hV) (fun h => kf h p l e R s m args below meth c g Z mc ms H locs cells slots lr hF hV)
theorem pw_icmp_ge {x y : Int32} {off : Int} {tgt : Nat} (hd : decode M.2.1 pc = .ok (.if_icmp .ge off, 3)) (ht : (pc : Int) + off = (tgt : Int)) (kt : y ≤ x → PW d al M tgt ls st σ Q) (kf : ¬ y ≤ x → PW d al M (pc + 3) ls st σ Q) : PW d al M pc ls (.int y :: .int x :: st) σ Q :=
  fun p l e R s m args below meth c g Z mc ms H locs cells slots lr hF hV => lv_icmp_ge hF.1.1 hF.1.2.1 hd ht (fun h => kt h p l e R s m args below meth c g Z mc ms H locs cells slots lr hF hV) (fun h => kf h p l e R s m args below meth c g Z mc ms H locs cells slots lr hF hV)
theorem pw_icmp_gt {x y : Int32} {off : Int} {tgt : Nat} (hd : decode M.2.1 pc = .ok (.if_icmp .gt off, 3)) (ht : (pc : Int) + off = (tgt : Int)) (kt : y < x → PW d al M tgt ls st σ Q) (kf : ¬ y < x → PW d al M (pc + 3) ls st σ Q) : PW d al M pc ls (.int y :: .int x :: st) σ Q :=
  fun p l e R s m args below meth c g Z mc ms H locs cells slots lr hF hV => lv_icmp_gt hF.1.1 hF.1.2.1 hd ht (fun h => kt h p l e R s m args below meth c g Z mc ms H locs cells slots lr hF hV) (fun h => kf h p l e R s m args below meth c g Z mc ms H locs cells slots lr hF hV)
theorem pw_icmp_le {x y : Int32} {off : Int} {tgt : Nat} (hd : decode M.2.1 pc = .ok (.if_icmp .le off, 3)) (ht : (pc : Int) + off = (tgt : Int)) (kt : x ≤ y → PW d al M tgt ls st σ Q) (kf : ¬ x ≤ y → PW d al M (pc + 3) ls st σ Q) : PW d al M pc ls (.int y :: .int x :: st) σ Q :=
  fun p l e R s m args below meth c g Z mc ms H locs cells slots lr hF hV => lv_icmp_le hF.1.1 hF.1.2.1 hd ht (fun h => kt h p l e R s m args below meth c g Z mc ms H locs cells slots lr hF hV) (fun h => kf h p l e R s m args below meth c g Z mc ms H locs cells slots lr hF hV)
theorem pw_ifnull {a : Nat} {off : Int} {tgt : Nat} (hd : decode M.2.1 pc = .ok (.ifnull off, 3)) (ht : (pc : Int) + off = (tgt : Int)) (kt : a = 0 → PW d al M tgt ls st σ Q) (kf : 0 < a → PW d al M (pc + 3) ls st σ Q) : PW d al M pc ls (.ref a :: st) σ Q := by
  intro p l e R s m args below meth c g Z mc ms H locs cells slots lr hF hV
  have e2 : List.map (pm_tr g) (Value.ref a :: st) = pm_tr g (.ref a) :: st.map (pm_tr g) := rfl
  rw [e2]
  rcases Nat.eq_zero_or_pos a with h0 | h0
  · subst h0
    rw [pm_tr_null]
    exact lv_ifnullN hF.1.1 hF.1.2.1 hd ht (kt rfl p l e R s m args below meth c g Z mc ms H locs cells slots lr hF hV)
  · rw [pm_tr_ref h0]
    exact lv_ifnull hF.1.1 hF.1.2.1 hd (kf h0 p l e R s m args below meth c g Z mc ms H locs cells slots lr hF hV)
theorem pw_ifnonnull {a : Nat} {off : Int} {tgt : Nat} (hd : decode M.2.1 pc = .ok (.ifnonnull off, 3)) (ht : (pc : Int) + off = (tgt : Int)) (kt : 0 < a → PW d al M tgt ls st σ Q) (kf : a = 0 → PW d al M (pc + 3) ls st σ Q) : PW d al M pc ls (.ref a :: st) σ Q := by
  intro p l e R s m args below meth c g Z mc ms H locs cells slots lr hF hV
  have e2 : List.map (pm_tr g) (Value.ref a :: st) = pm_tr g (.ref a) :: st.map (pm_tr g) := rfl
  rw [e2]
  rcases Nat.eq_zero_or_pos a with h0 | h0
  · subst h0
    rw [pm_tr_null]
    exact lv_ifnonnullN hF.1.1 hF.1.2.1 hd (kf rfl p l e R s m args below meth c g Z mc ms H locs cells slots lr hF hV)
  · rw [pm_tr_ref h0]
    exact lv_ifnonnull hF.1.1 hF.1.2.1 hd ht (kt h0 p l e R s m args below meth c g Z mc ms H locs cells slots lr hF hV)
theorem pw_tsOut {dflt lo hi : Int} {offs : Array Int} {len : Nat} {x : Int32} {tgt : Nat} (hd : decode M.2.1 pc = .ok (.tableswitch dflt lo hi offs, len)) (h : x.toInt < lo ∨ hi < x.toInt) (ht : (pc : Int) + dflt = (tgt : Int)) (k : PW d al M tgt ls st σ Q) : PW d al M pc ls (.int x :: st) σ Q :=
  fun p l e R s m args below meth c g Z mc ms H locs cells slots lr hF hV => lv_tableOut hF.1.1 hF.1.2.1 hd h ht (k p l e R s m args below meth c g Z mc ms H locs cells slots lr hF hV)
theorem pw_tsIn {dflt lo hi : Int} {offs : Array Int} {len : Nat} {x : Int32} {off : Int} {tgt : Nat} (hd : decode M.2.1 pc = .ok (.tableswitch dflt lo hi offs, len)) (h1 : ¬ x.toInt < lo) (h2 : ¬ hi < x.toInt) (ho : offs[(x.toInt - lo).toNat]? = some off) (ht : (pc : Int) + off = (tgt : Int)) (k : PW d al M tgt ls st σ Q) : PW d al M pc ls (.int x :: st) σ Q :=
  fun p l e R s m args below meth c g Z mc ms H locs cells slots lr hF hV => lv_tableIn hF.1.1 hF.1.2.1 hd h1 h2 ho ht (k p l e R s m args below meth c g Z mc ms H locs cells slots lr hF hV)
theorem pw_lsw {dflt : Int} {ps : Array (Int × Int)} {len : Nat} {x : Int32} {off : Int} {tgt : Nat} (hd : decode M.2.1 pc = .ok (.lookupswitch dflt ps, len)) (hp : (ps.toList.zip (ps.toList.drop 1)).all (fun (a, next) => a.1 < next.1) = true) (ho : Op.lookupswitch.offset ps.toList dflt x.toInt = off) (ht : (pc : Int) + off = (tgt : Int)) (k : PW d al M tgt ls st σ Q) : PW d al M pc ls (.int x :: st) σ Q :=
  fun p l e R s m args below meth c g Z mc ms H locs cells slots lr hF hV => lv_lookup hF.1.1 hF.1.2.1 hd hp ho ht (k p l e R s m args below meth c g Z mc ms H locs cells slots lr hF hV)
theorem pw_ldc {idx : Nat} {v : Int32} (hd : decode M.2.1 pc = .ok (.ldc idx, 2)) (hc : Cond.constant M.1.cls idx v ∈ pm_T) (k : PW d al M (pc + 2) ls (.int v :: st) σ Q) : PW d al M pc ls st σ Q :=
  fun p l e R s m args below meth c g Z mc ms H locs cells slots lr hF hV => lv_ldc hF.1.1 hF.1.2.1 hF.1.2.2.2.2.2.1 (hF.1.2.2.2.2.2.2.1 _ hc) hd (k p l e R s m args below meth c g Z mc ms H locs cells slots lr hF hV)
theorem pw_ldcw {idx : Nat} {v : Int32} (hd : decode M.2.1 pc = .ok (.ldc_w idx, 3)) (hc : Cond.constant M.1.cls idx v ∈ pm_T) (k : PW d al M (pc + 3) ls (.int v :: st) σ Q) : PW d al M pc ls st σ Q :=
  fun p l e R s m args below meth c g Z mc ms H locs cells slots lr hF hV => lv_ldcw hF.1.1 hF.1.2.1 hF.1.2.2.2.2.2.1 (hF.1.2.2.2.2.2.2.1 _ hc) hd (k p l e R s m args below meth c g Z mc ms H locs cells slots lr hF hV)
theorem pw_ldc2 {idx : Nat} {v : Int64} (hd : decode M.2.1 pc = .ok (.ldc2_w idx, 3)) (hc : Cond.constantLong M.1.cls idx v ∈ pm_T) (k : PW d al M (pc + 3) ls (.long v :: st) σ Q) : PW d al M pc ls st σ Q :=
  fun p l e R s m args below meth c g Z mc ms H locs cells slots lr hF hV => lv_ldc2 hF.1.1 hF.1.2.1 hF.1.2.2.2.2.2.1 (hF.1.2.2.2.2.2.2.1 _ hc) hd (k p l e R s m args below meth c g Z mc ms H locs cells slots lr hF hV)
theorem PW.mono {al' : Nat} (h : al ≤ al') (k : PW d al M pc ls st σ Q) : PW d al' M pc ls st σ Q :=
  fun p l e R s m args below meth c g Z mc ms H locs cells slots lr hF hV => k p l e R s m args below meth c g Z mc ms H locs cells slots lr hF ⟨by have := hV.1; omega, by have := hV.2.1; omega, hV.2.2⟩
theorem PW.fr {d' : Nat} (h : d ≤ d') (k : PW d al M pc ls st σ Q) : PW d' al M pc ls st σ Q :=
  fun p l e R s m args below meth c g Z mc ms H locs cells slots lr hF hV => k p l e R s m args below meth c g Z mc ms H locs cells slots lr ⟨hF.1, hF.2.1, Nat.le_trans h hF.2.2.1, by have := hF.2.2.2.1; omega, hF.2.2.2.2⟩ hV
theorem PW.post {Q' : Option Value → pm_S → Prop} (h : ∀ r τ, Q r τ → Q' r τ) (k : PW d al M pc ls st σ Q) : PW d al M pc ls st σ Q' :=
  fun p l e R s m args below meth c g Z mc ms H locs cells slots lr hF hV => k p l e R s m args below meth c g Z mc ms H locs cells slots lr ⟨hF.1, hF.2.1, hF.2.2.1, hF.2.2.2.1, hF.2.2.2.2.1, hF.2.2.2.2.2.1, fun r τ H locs lr pc ins q => hF.2.2.2.2.2.2 r τ H locs lr pc ins (h r τ q)⟩ hV
/-! the end of a method -/
theorem pw_iret {x : Int32} {ty : FieldType} (hd : decode M.2.1 pc = .ok (.ireturn, 1)) (hr : M.2.2.2 = some ty) (hn : narrow ty (.int x) = .int x) (k : Q (some (.int x)) σ) : PW d al M pc ls [.int x] σ Q :=
  fun p l e R s m args below meth c g Z mc ms H locs cells slots lr hF hV => W.widen (by have := hV.1; omega) (by have := hV.2.1; omega) (hF.2.2.2.2.2.2 (some (.int x)) σ H locs lr pc .ireturn k hV.2.2.1 hV.2.2.2.1 hd (Or.inr (Or.inl ⟨ty, x, hr, rfl, rfl, hn⟩)))
theorem pw_vret (hd : decode M.2.1 pc = .ok (.return_, 1)) (hr : M.2.2.2 = none) (k : Q none σ) : PW d al M pc ls [] σ Q :=
  fun p l e R s m args below meth c g Z mc ms H locs cells slots lr hF hV => W.widen (by have := hV.1; omega) (by have := hV.2.1; omega) (hF.2.2.2.2.2.2 none σ H locs lr pc .return_ k hV.2.2.1 hV.2.2.2.1 hd (Or.inl ⟨hr, rfl, rfl⟩))
theorem pw_aret {a : Nat} {ty : FieldType} (hd : decode M.2.1 pc = .ok (.areturn, 1)) (hr : M.2.2.2 = some ty) (ht : (∃ n, ty = .object n) ∨ ∃ t, ty = .array t) (k : Q (some (.ref a)) σ) : PW d al M pc ls [.ref a] σ Q :=
  fun p l e R s m args below meth c g Z mc ms H locs cells slots lr hF hV => W.widen (by have := hV.1; omega) (by have := hV.2.1; omega) (hF.2.2.2.2.2.2 (some (.ref a)) σ H locs lr pc .areturn k hV.2.2.1 hV.2.2.2.1 hd (Or.inr (Or.inr ⟨ty, a, hr, rfl, rfl, ht⟩)))
end PMR
end
section
/-! ===== the classes' words ===== -/
def pm_ok (q : vw_C) (ty : Nat → FieldType) : Prop := (∀ w ∈ u_ws q.1 q.2.1 q.2.2, w ∈ pm_T) ∧ (∀ k, k < q.2.2 → parseFieldDescriptor (q.2.1 k).2.2.1 = some (ty k)) ∧ (∀ a, a < q.2.2 → ∀ b, b < q.2.2 → a ≠ b → (q.2.1 a).2.1 ≠ (q.2.1 b).2.1)
theorem pm_inT {ws : List Cond} (h : ws.all (fun w => decide (w ∈ lw_tbl) && goodWord w) = true) : ∀ w ∈ ws, w ∈ pm_T := fun w hw => by
  have h1 := List.all_eq_true.mp h w hw
  simp only [Bool.and_eq_true, decide_eq_true_eq] at h1
  exact pm_T_in h1.1 h1.2
theorem pm_u0 : ∀ w ∈ u_ws RX0 TX0 6, w ∈ pm_T := pm_inT (by decide +kernel)
theorem pm_u1 : ∀ w ∈ u_ws RX1 TX1 14, w ∈ pm_T := pm_inT (by decide +kernel)
theorem pm_u2 : ∀ w ∈ u_ws RX2 TX2 1, w ∈ pm_T := pm_inT (by decide +kernel)
theorem pm_u3 : ∀ w ∈ u_ws RX3 TX3 3, w ∈ pm_T := pm_inT (by decide +kernel)
theorem pm_u4 : ∀ w ∈ u_ws RX4 TX4 6, w ∈ pm_T := pm_inT (by decide +kernel)
theorem pm_u5 : ∀ w ∈ u_ws RX5 TX5 6, w ∈ pm_T := pm_inT (by decide +kernel)
theorem pm_u6 : ∀ w ∈ u_ws RX6 TX6 2, w ∈ pm_T := pm_inT (by decide +kernel)
theorem pm_u7 : ∀ w ∈ u_ws RX7 TX7 2, w ∈ pm_T := pm_inT (by decide +kernel)
theorem pm_u8 : ∀ w ∈ u_ws RX8 TX8 1, w ∈ pm_T := pm_inT (by decide +kernel)
theorem pm_u9 : ∀ w ∈ u_ws RX9 TX9 9, w ∈ pm_T := pm_inT (by decide +kernel)
theorem pm_u10 : ∀ w ∈ u_ws RX10 TX10 5, w ∈ pm_T := pm_inT (by decide +kernel)
theorem pm_u11 : ∀ w ∈ u_ws RX11 TX11 11, w ∈ pm_T := pm_inT (by decide +kernel)
theorem pm_u12 : ∀ w ∈ u_ws RX12 TX12 45, w ∈ pm_T := pm_inT (by decide +kernel)
theorem pm_cls {t : Nat} {q : vw_C} (h : pm_cl[t]? = some q) : t < 13 ∧ q.2.2 = pm_nf t ∧ pm_ok q (pm_fty t) := by
  match t, h with
  | 0, h => cases h; exact ⟨by decide, rfl, pm_u0, tyX0_ok, nmX0⟩
  | 1, h => cases h; exact ⟨by decide, rfl, pm_u1, tyX1_ok, nmX1⟩
  | 2, h => cases h; exact ⟨by decide, rfl, pm_u2, tyX2_ok, nmX2⟩
  | 3, h => cases h; exact ⟨by decide, rfl, pm_u3, tyX3_ok, nmX3⟩
  | 4, h => cases h; exact ⟨by decide, rfl, pm_u4, tyX4_ok, nmX4⟩
  | 5, h => cases h; exact ⟨by decide, rfl, pm_u5, tyX5_ok, nmX5⟩
  | 6, h => cases h; exact ⟨by decide, rfl, pm_u6, tyX6_ok, nmX6⟩
  | 7, h => cases h; exact ⟨by decide, rfl, pm_u7, tyX7_ok, nmX7⟩
  | 8, h => cases h; exact ⟨by decide, rfl, pm_u8, tyX8_ok, nmX8⟩
  | 9, h => cases h; exact ⟨by decide, rfl, pm_u9, tyX9_ok, nmX9⟩
  | 10, h => cases h; exact ⟨by decide, rfl, pm_u10, tyX10_ok, nmX10⟩
  | 11, h => cases h; exact ⟨by decide, rfl, pm_u11, tyX11_ok, nmX11⟩
  | 12, h => cases h; exact ⟨by decide, rfl, pm_u12, tyX12_ok, nmX12⟩
  | n + 13, h => simp [pm_cl] at h
/-- a field's link, by tag and slot -/
def pm_fl (own : String) (idx t k : Nat) : Prop := ∃ q : vw_C, pm_cl[t]? = some q ∧ k < q.2.2 ∧ Cond.fieldLink own idx (q.2.1 k).1 (q.2.1 k).2.1 (q.2.1 k).2.2.1 ∈ pm_T
/-! ===== the relation kept ===== -/
theorem pm_old {g : pm_G} {σ : pm_S} {H : Heap} {a t : Nat} (hR : pm_Rl g σ H) (ha : pm_is σ a t) (ht : t < 13 ∨ 22 ≤ t) : 6 ≤ a := by
  obtain ⟨h1, h2, h3⟩ := ha
  obtain ⟨-, -, -, -, e1, e2, e3, e4, e5⟩ := hR
  rcases Nat.lt_or_ge a 6 with h | h
  · have : a = 1 ∨ a = 2 ∨ a = 3 ∨ a = 4 ∨ a = 5 := by omega
    rcases this with rfl | rfl | rfl | rfl | rfl <;> omega
  · exact h
theorem pm_isr_int {ty : FieldType} {v : Int32} (h : fits ty (.int v) = true) : pm_isr ty = false := by
  cases ty <;> first | rfl | simp [fits] at h
theorem pm_Rl_upd {g : pm_G} {σ σ' : pm_S} {H H' : Heap} {a : Nat} (hG : pm_Gk g) (hR : pm_Rl g σ H) (hT : qT σ' = qT σ) (hL : qL σ' = qL σ) (hN : qN σ' = qN σ) (hI : ∀ b, b ≠ a → ∀ k, pm_val g σ' b k = pm_val g σ b k) (h6 : 6 ≤ a) (hc : pm_cell g σ' a H') (hs : H'.size = H.size) (ho : ∀ q, q ≠ g.1 a → H'[q]? = H[q]?) : pm_Rl g σ' H' := by
  obtain ⟨r1, r2, r3, r4, r5⟩ := hR
  refine ⟨by rw [hN]; exact r1, by rw [hs, hN]; exact r2, fun b hb0 hbn => ?_, fun q hq => ?_, by rw [hT]; exact r5⟩
  · by_cases hba : b = a
    · subst hba; exact hc
    · rw [hN] at hbn
      obtain ⟨cell, c1, c2, c3, c4, c5, c6, c7⟩ := r3 b hb0 hbn
      refine ⟨cell, by rw [ho _ (fun z => hba (hG.1 a b hb0 h6 z))]; exact c1, by rw [hT]; exact c2, c3, c4, c5, ?_, ?_⟩
      · rw [hT]
        intro ht k hk
        rw [hI b hba k]
        exact c6 ht k hk
      · rw [hT, hL]
        intro ht
        exact ⟨(c7 ht).1, fun j hj => by rw [hI b hba j]; exact (c7 ht).2 j hj⟩
  · have h7 := hG.2.2 a h6
    rw [ho q (by omega)]
    exact r4 q hq
theorem pm_val_sI {g : pm_G} {σ : pm_S} {a k : Nat} {x : Int32} (b j : Nat) : pm_val g (pm_sI σ a k x) b j = if pm_rf (qT σ b) j = true then pm_rv g (qR σ b j) else .int (if b = a ∧ j = k then x else qI σ b j) := rfl
theorem pm_val_sR {g : pm_G} {σ : pm_S} {a k x : Nat} (b j : Nat) : pm_val g (pm_sR σ a k x) b j = if pm_rf (qT σ b) j = true then pm_rv g (if b = a ∧ j = k then x else qR σ b j) else .int (qI σ b j) := rfl
theorem pm_val_sI_ne {g : pm_G} {σ : pm_S} {a k : Nat} {x : Int32} {b : Nat} (h : b ≠ a) (j : Nat) : pm_val g (pm_sI σ a k x) b j = pm_val g σ b j := by
  rw [pm_val_sI]; unfold pm_val; rw [if_neg (c := b = a ∧ j = k) (fun z => h z.1)]
theorem pm_val_sR_ne {g : pm_G} {σ : pm_S} {a k x : Nat} {b : Nat} (h : b ≠ a) (j : Nat) : pm_val g (pm_sR σ a k x) b j = pm_val g σ b j := by
  rw [pm_val_sR]; unfold pm_val; rw [if_neg (c := b = a ∧ j = k) (fun z => h z.1)]
theorem pm_val_sI_eq {g : pm_G} {σ : pm_S} {a k : Nat} {x : Int32} (hr : pm_rf (qT σ a) k = false) (j : Nat) : pm_val g (pm_sI σ a k x) a j = updV (pm_val g σ a) k (.int x) j := by
  rw [pm_val_sI]
  unfold updV
  by_cases h : j = k
  · subst h
    rw [if_pos rfl, if_neg (by rw [hr]; decide), if_pos ⟨rfl, rfl⟩]
  · rw [if_neg h, if_neg (c := a = a ∧ j = k) (fun z => h z.2)]; rfl
theorem pm_val_sR_eq {g : pm_G} {σ : pm_S} {a k x : Nat} (hr : pm_rf (qT σ a) k = true) (j : Nat) : pm_val g (pm_sR σ a k x) a j = updV (pm_val g σ a) k (pm_rv g x) j := by
  rw [pm_val_sR]
  unfold updV
  by_cases h : j = k
  · subst h
    rw [if_pos rfl, if_pos hr, if_pos ⟨rfl, rfl⟩]
  · rw [if_neg h, if_neg (c := a = a ∧ j = k) (fun z => h z.2)]; rfl
theorem pm_val_i {g : pm_G} {σ : pm_S} {a t k : Nat} (ht : qT σ a = t) (h : pm_rf t k = false) : pm_val g σ a k = .int (qI σ a k) := if_neg (by rw [ht, h]; decide)
theorem pm_val_r {g : pm_G} {σ : pm_S} {a t k : Nat} (ht : qT σ a = t) (h : pm_rf t k = true) : pm_val g σ a k = pm_rv g (qR σ a k) := if_pos (by rw [ht]; exact h)
/-- an object's slot is set -/
theorem pm_Rl_obj {g : pm_G} {σ σ' : pm_S} {H H' : Heap} {a t k : Nat} {v : Value} {cell : Cell} (hG : pm_Gk g) (hR : pm_Rl g σ H) (ha : pm_is σ a t) (ht : t < 13) (hcell : H[g.1 a]? = some cell) (hk : k < pm_nf t) (hap : ∀ x y, x < pm_nf t → y < pm_nf t → x ≠ y → g.2.2.1 t x ≠ g.2.2.1 t y)
    (hT : qT σ' = qT σ) (hL : qL σ' = qL σ) (hN : qN σ' = qN σ) (hI : ∀ b, b ≠ a → ∀ k, pm_val g σ' b k = pm_val g σ b k) (hA : ∀ j, pm_val g σ' a j = updV (pm_val g σ a) k v j)
    (e1 : H'[g.1 a]? = some (cell.setSlot (g.2.2.1 t k) v)) (hs : H'.size = H.size) (ho : ∀ q, q ≠ g.1 a → H'[q]? = H[q]?) : pm_Rl g σ' H' := by
  have h6 := pm_old hR ha (Or.inl ht)
  obtain ⟨a1, a2, a3⟩ := ha
  obtain ⟨cell', c1, c2, c3, c4, c5, c6, c7⟩ := hR.2.2.1 a a1 a2
  have hce : cell = cell' := Option.some.inj (hcell.symm.trans c1)
  subst hce
  refine pm_Rl_upd hG hR hT hL hN hI h6 ⟨_, e1, by rw [hT]; exact c2, c3, c4, c5, ?_, ?_⟩ hs ho
  · rw [hT, a3]
    intro _ j hj
    rw [hA j]
    rw [a3] at c6
    exact t_set (c6 (by omega)) hap hk v j hj
  · rw [hT, a3]
    intro h; omega
/-- an array's place is set -/
theorem pm_Rl_arr {g : pm_G} {σ σ' : pm_S} {H H' : Heap} {a t k : Nat} {v : Value} {cell : Cell} (hG : pm_Gk g) (hR : pm_Rl g σ H) (ha : pm_is σ a t) (ht : 20 ≤ t) (h6 : 6 ≤ a) (hcell : H[g.1 a]? = some cell) (hk : k < qL σ a)
    (hT : qT σ' = qT σ) (hL : qL σ' = qL σ) (hN : qN σ' = qN σ) (hI : ∀ b, b ≠ a → ∀ k, pm_val g σ' b k = pm_val g σ b k) (hA : ∀ j, pm_val g σ' a j = updV (pm_val g σ a) k v j)
    (e1 : H'[g.1 a]? = some (cell.setSlot k v)) (hs : H'.size = H.size) (ho : ∀ q, q ≠ g.1 a → H'[q]? = H[q]?) : pm_Rl g σ' H' := by
  obtain ⟨a1, a2, a3⟩ := ha
  obtain ⟨cell', c1, c2, c3, c4, c5, c6, c7⟩ := hR.2.2.1 a a1 a2
  have hce : cell = cell' := Option.some.inj (hcell.symm.trans c1)
  subst hce
  refine pm_Rl_upd hG hR hT hL hN hI h6 ⟨_, e1, by rw [hT]; exact c2, c3, c4, c5, ?_, ?_⟩ hs ho
  · rw [hT, a3]
    intro h; omega
  · rw [hT, hL]
    intro h
    obtain ⟨d1, d2⟩ := c7 h
    refine ⟨by rw [k2_slotsz]; exact d1, fun j hj => ?_⟩
    rw [hA j]
    unfold updV
    show (cell.slots.setIfInBounds k v)[j]? = _
    by_cases hjk : j = k
    · subst hjk
      rw [if_pos rfl]
      rw [Array.getElem?_setIfInBounds_self_of_lt (Nat.lt_of_lt_of_le hk d1.1)]
    · rw [if_neg hjk, Array.getElem?_setIfInBounds_ne (Ne.symm hjk)]
      exact d2 j hj
theorem pm_arrOf {g : pm_G} {σ : pm_S} {H : Heap} {s : State} {a t : Nat} {cell : Cell} (hK : pm_K1 g s) (hR : pm_Rl g σ H) (ha : pm_is σ a t) (ht : 20 ≤ t) (ht' : t ≤ 23) (hc : cell.cls = pm_gc g a t) (hv : cell.vm.isStatics = false) : s.isArrayOf cell (pm_fty t 0) := by
  have hv' : ∀ k, cell.vm ≠ .statics k := fun k h => by rw [h] at hv; cases hv
  have key : ∀ c, ArrOfT s c (pm_fty t 0) → cell.cls = c → s.isArrayOf cell (pm_fty t 0) := fun c h hc => ⟨hv', by rw [hc]; exact (h 0 (fun _ => .null)).2⟩
  unfold pm_gc at hc
  by_cases h6 : a < 6
  · rw [if_pos h6] at hc
    obtain ⟨a1, a2, a3⟩ := ha
    obtain ⟨-, -, -, -, e1, e2, e3, e4, e5⟩ := hR
    have : a = 1 ∨ a = 2 ∨ a = 3 ∨ a = 4 ∨ a = 5 := by omega
    rcases this with rfl | rfl | rfl | rfl | rfl
    · have : t = 20 := by omega
      subst this
      exact key _ hK.2.2.1 hc
    · omega
    · omega
    · have : t = 21 := by omega
      subst this
      exact key _ hK.2.2.2.1 hc
    · have : t = 21 := by omega
      subst this
      exact key _ hK.2.2.2.2 hc
  · rw [if_neg h6] at hc
    exact key _ (hK.2.1 t ht ht').1 hc
theorem pm_inb {k n : Nat} {sz : Nat} (hsz : n ≤ sz) (hk : k < n) (hb : k < 2 ^ 31) : ¬ (nI k < 0 ∨ sz ≤ (nI k).toNatClampNeg) := by
  rw [nI_clamp hb]
  intro h
  rcases h with h | h
  · exact nI_pos hb h
  · omega
/-! ===== rows over the heap ===== -/
section PMH
variable {d al : Nat} {M : pm_M} {pc : Nat} {ls st : List Value} {σ : pm_S} {Q : Option Value → pm_S → Prop}
theorem pw_get0 {t k idx a : Nat} {v : Value} (hd : decode M.2.1 pc = .ok (.getfield idx, 3)) (hf : pm_fl M.1.cls idx t k) (ha : pm_is σ a t) (hv : ∀ g, pm_val g σ a k = pm_tr g v) (kk : PW d al M (pc + 3) ls (v :: st) σ Q) : PW d al M pc ls (.ref a :: st) σ Q := by
  intro p l e R s m args below meth c g Z mc ms H locs cells slots lr hF hV
  have e2 : List.map (pm_tr g) (Value.ref a :: st) = pm_tr g (.ref a) :: st.map (pm_tr g) := rfl
  rw [e2, pm_tr_ref ha.1]
  obtain ⟨q, hq, hk, hlink⟩ := hf
  obtain ⟨h13, hnf, hok⟩ := pm_cls hq
  obtain ⟨cell, c1, c2, c3, c4, c5, c6, c7⟩ := hV.2.2.1.2.2.1 a ha.1 ha.2.1
  obtain ⟨hS, hfc, kC, hkC, hkind⟩ := hF.1.2.2.2.2.2.2.2.2.1.1.1 t q hq
  obtain ⟨cf, kf, fi, f, hi, hsl⟩ := hS k hk
  have hts := hF.1.2.2.2.2.2.2.1
  refine W.getf hF.1.1 hF.1.2.1 hF.1.2.2.2.2.2.1 (hts _ hlink) hi (u_facts hfc hkC (u_lays hts hok.1 hk) hi).1 c1 c4 (v := pm_tr g v) ?_ rfl rfl hd (kk p l e R s m args below meth c g Z mc ms H locs cells slots lr hF hV)
  rw [hsl, ← hv g]
  have h3 := ha.2.2
  rw [h3] at c6
  exact c6 (by omega) k (by omega)
theorem pw_getI {t k idx a : Nat} (hd : decode M.2.1 pc = .ok (.getfield idx, 3)) (hf : pm_fl M.1.cls idx t k) (hr : pm_rf t k = false) (ha : pm_is σ a t) (kk : PW d al M (pc + 3) ls (.int (qI σ a k) :: st) σ Q) : PW d al M pc ls (.ref a :: st) σ Q :=
  pw_get0 hd hf ha (fun g => pm_val_i ha.2.2 hr) kk
theorem pw_getR {t k idx a : Nat} (hd : decode M.2.1 pc = .ok (.getfield idx, 3)) (hf : pm_fl M.1.cls idx t k) (hr : pm_rf t k = true) (ha : pm_is σ a t) (kk : PW d al M (pc + 3) ls (.ref (qR σ a k) :: st) σ Q) : PW d al M pc ls (.ref a :: st) σ Q :=
  pw_get0 hd hf ha (fun g => pm_val_r ha.2.2 hr) kk
/-- not final, or in a constructor of the class itself -/
def pm_wr (M : pm_M) (t k : Nat) : Prop := ∃ q : vw_C, pm_cl[t]? = some q ∧ ((q.2.1 k).2.2.2 = false ∨ ((q.2.1 k).2.2.2 = true ∧ M.1.name = "<init>" ∧ (q.2.1 k).1 = M.1.cls))
theorem pw_put0 {t k idx a : Nat} {v : Value} {σ' : pm_S} (hd : decode M.2.1 pc = .ok (.putfield idx, 3)) (hf : pm_fl M.1.cls idx t k) (hw : pm_wr M t k) (ha : pm_is σ a t) (hn : ∀ g, narrow (pm_fty t k) (pm_tr g v) = pm_tr g v) (hfit : ∀ g, fits (pm_fty t k) (pm_tr g v) = true)
    (hT : qT σ' = qT σ) (hL : qL σ' = qL σ) (hN : qN σ' = qN σ) (hI : ∀ g b, b ≠ a → ∀ k, pm_val g σ' b k = pm_val g σ b k) (hA : ∀ g j, pm_val g σ' a j = updV (pm_val g σ a) k (pm_tr g v) j) (kk : PW d al M (pc + 3) ls st σ' Q) : PW d al M pc ls (v :: .ref a :: st) σ Q := by
  intro p l e R s m args below meth c g Z mc ms H locs cells slots lr hF hV
  have e2 : List.map (pm_tr g) (v :: Value.ref a :: st) = pm_tr g v :: pm_tr g (.ref a) :: st.map (pm_tr g) := rfl
  rw [e2, pm_tr_ref ha.1]
  obtain ⟨q, hq, hk, hlink⟩ := hf
  obtain ⟨h13, hnf, hok⟩ := pm_cls hq
  obtain ⟨cell, c1, c2, c3, c4, c5, c6, c7⟩ := hV.2.2.1.2.2.1 a ha.1 ha.2.1
  have h6 := pm_old hV.2.2.1 ha (Or.inl h13)
  have hvm := c5 h6
  have hcls : cell.cls = g.2.1 t := by rw [c2, ha.2.2]; exact if_neg (by omega)
  have hK := hF.1.2.2.2.2.2.2.2.2.1.1
  obtain ⟨hS, hfc, kC, hkC, hkind⟩ := hK.1 t q hq
  obtain ⟨cf, kf, fi, f, hi, hsl⟩ := hS k hk
  have hts := hF.1.2.2.2.2.2.2.1
  have hlays := u_lays hts hok.1 hk
  have hfacts := u_facts hfc hkC hlays hi
  have hst := hfacts.1
  have hap := va_apart (own := M.1.cls) hts hok.1 (pm_fty t) hok.2.1 hok.2.2 hK hq
  have hslot : f.slot < cell.slots.size := by
    rw [hsl]
    have h3 := ha.2.2
    rw [h3] at c6
    exact k2_hasslot (c6 (by omega) k (by omega))
  have fin : ∀ H' : Heap, H'[g.1 a]? = some (cell.setSlot f.slot (pm_tr g v)) → H'.size = H.size → (∀ q, q ≠ g.1 a → H'[q]? = H[q]?) → W p l e R s m args below meth c H' (locs ++ [⟨g.1 a, f.slot⟩]) cells slots Z (F0 m (pc + 3) lr (st.map (pm_tr g))) := by
    intro H' e1 hs ho
    rw [hsl] at e1
    refine kk p l e R s m args below meth c g Z mc ms H' _ cells slots lr hF ⟨hV.1, hV.2.1, pm_Rl_obj (k := k) hF.2.1 hV.2.2.1 ha h13 c1 (by omega) (by rw [← hnf]; exact hap) hT hL hN (hI g) (hA g) e1 hs ho, ?_, hV.2.2.2.2⟩
    intro x hx
    rcases List.mem_append.mp hx with h | h
    · exact hV.2.2.2.1 x h
    · have : x = ⟨g.1 a, f.slot⟩ := by simpa using h
      rw [this]
      exact hF.2.1.2.2 a h6
  obtain ⟨q', hq', hw⟩ := hw
  have hqq : q = q' := Option.some.inj (hq.symm.trans hq')
  subst hqq
  rcases hw with hw | ⟨hw0, hw1, hw2⟩
  · have hlay := hts _ (hok.1 _ (u_in_lay hk))
    unfold u_lay at hlay
    rw [if_neg (by rw [hw]; decide)] at hlay
    have h6' := u_store hfc hkC hkind hlay hi (hok.2.1 k hk) (hn g) (hfit g)
    exact W.putK hF.1.1 hF.1.2.1 (f := f) ⟨hF.1.2.2.2.2.2.1, hts _ hlink, ⟨cf, kf, fi, hi⟩, hst⟩ (by rw [hcls]; exact h6') c1 hvm hslot rfl rfl hd fin
  · have h7 := u_fits hfc hkC hkind hlays hi (hok.2.1 k hk) (hn g) (hfit g)
    have hlay := hts _ (hok.1 _ (u_in_lay hk))
    unfold u_lay at hlay
    rw [if_pos hw0] at hlay
    have hcf : m.cls = cf := by
      obtain ⟨_, _, c', _, _, _, -, -, hf', -, -, -, hown2, -⟩ := Cond.laysFinal_spec hlay
      have e1 : c' = cf := by have := hi.symm.trans hf'; simp at this; exact this.1.symm
      rw [hw2] at hown2
      rw [← e1]; exact Option.some.inj (hF.1.2.2.2.2.2.1.symm.trans hown2)
    exact W.putFinK hF.1.1 hF.1.2.1 hF.1.2.2.2.2.2.1 (hts _ hlink) hi hst hcf (hF.1.2.2.2.2.2.2.2.1 hw1) (by rw [hcls]; exact h7) c1 hvm hslot rfl rfl hd fin
end PMH
end
section
section PMH2
variable {d al : Nat} {M : pm_M} {pc : Nat} {ls st : List Value} {σ : pm_S} {Q : Option Value → pm_S → Prop}
theorem pw_putI {t k idx a : Nat} {x : Int32} (hd : decode M.2.1 pc = .ok (.putfield idx, 3)) (hf : pm_fl M.1.cls idx t k) (hw : pm_wr M t k) (hty : pm_fty t k = .int) (ha : pm_is σ a t) (kk : PW d al M (pc + 3) ls st (pm_sI σ a k x) Q) : PW d al M pc ls (.int x :: .ref a :: st) σ Q :=
  have hr : pm_rf (qT σ a) k = false := by rw [ha.2.2]; unfold pm_rf; rw [hty]; rfl
  pw_put0 (v := .int x) (σ' := pm_sI σ a k x) hd hf hw ha (fun g => by rw [hty]; rfl) (fun g => by rw [hty]; rfl) rfl rfl rfl (fun g b hb j => pm_val_sI_ne hb j) (fun g j => pm_val_sI_eq hr j) kk
theorem pw_putZ {t k idx a : Nat} {x : Int32} (hd : decode M.2.1 pc = .ok (.putfield idx, 3)) (hf : pm_fl M.1.cls idx t k) (hw : pm_wr M t k) (hty : pm_fty t k = .boolean) (hx : x = 0 ∨ x = 1) (ha : pm_is σ a t) (kk : PW d al M (pc + 3) ls st (pm_sI σ a k x) Q) : PW d al M pc ls (.int x :: .ref a :: st) σ Q :=
  have hr : pm_rf (qT σ a) k = false := by rw [ha.2.2]; unfold pm_rf; rw [hty]; rfl
  pw_put0 (v := .int x) (σ' := pm_sI σ a k x) hd hf hw ha (fun g => by rw [hty]; rcases hx with rfl | rfl <;> rfl) (fun g => by rw [hty]; rcases hx with rfl | rfl <;> rfl) rfl rfl rfl (fun g b hb j => pm_val_sI_ne hb j) (fun g j => pm_val_sI_eq hr j) kk
theorem pm_rv_fit {ty : FieldType} (h : pm_isr ty = true) (g : pm_G) (x : Nat) : narrow ty (pm_rv g x) = pm_rv g x ∧ fits ty (pm_rv g x) = true := by
  unfold pm_rv
  cases ty <;> first | (exfalso; revert h; decide) | (split <;> exact ⟨rfl, rfl⟩)
theorem pw_putR {t k idx a x : Nat} (hd : decode M.2.1 pc = .ok (.putfield idx, 3)) (hf : pm_fl M.1.cls idx t k) (hw : pm_wr M t k) (hr : pm_rf t k = true) (ha : pm_is σ a t) (kk : PW d al M (pc + 3) ls st (pm_sR σ a k x) Q) : PW d al M pc ls (.ref x :: .ref a :: st) σ Q :=
  pw_put0 (v := .ref x) (σ' := pm_sR σ a k x) hd hf hw ha (fun g => (pm_rv_fit hr g x).1) (fun g => (pm_rv_fit hr g x).2) rfl rfl rfl (fun g b hb j => pm_val_sR_ne hb j) (fun g j => pm_val_sR_eq (by rw [ha.2.2]; exact hr) j) kk
/-! arrays -/
theorem pw_alen {a t : Nat} (hd : decode M.2.1 pc = .ok (.arraylength, 1)) (ha : pm_is σ a t) (ht : 20 ≤ t) (ht' : t ≤ 23) (kk : PW d al M (pc + 1) ls (.int (nI (qL σ a)) :: st) σ Q) : PW d al M pc ls (.ref a :: st) σ Q := by
  intro p l e R s m args below meth c g Z mc ms H locs cells slots lr hF hV
  have e2 : List.map (pm_tr g) (Value.ref a :: st) = pm_tr g (.ref a) :: st.map (pm_tr g) := rfl
  rw [e2, pm_tr_ref ha.1]
  obtain ⟨cell, c1, c2, c3, c4, c5, c6, c7⟩ := hV.2.2.1.2.2.1 a ha.1 ha.2.1
  have h3 := ha.2.2
  rw [h3] at c2 c7
  exact W.alen hF.1.1 hF.1.2.1 c1 (pm_arrOf hF.1.2.2.2.2.2.2.2.2.1 hV.2.2.1 ha ht ht' c2 c3) (n := nI (qL σ a)) (c7 ht).1.2 rfl rfl hd (kk p l e R s m args below meth c g Z mc ms H locs cells slots lr hF hV)
theorem pw_iald {a k : Nat} {j : Int32} (hd : decode M.2.1 pc = .ok (.iaload, 1)) (ha : pm_is σ a 20) (hj : j = nI k) (hk : k < qL σ a) (hb : k < 2 ^ 31) (kk : PW d al M (pc + 1) ls (.int (qI σ a k) :: st) σ Q) : PW d al M pc ls (.int j :: .ref a :: st) σ Q := by
  intro p l e R s m args below meth c g Z mc ms H locs cells slots lr hF hV
  subst hj
  have e2 : List.map (pm_tr g) (.int (nI k) :: Value.ref a :: st) = .int (nI k) :: pm_tr g (.ref a) :: st.map (pm_tr g) := rfl
  rw [e2, pm_tr_ref ha.1]
  obtain ⟨cell, c1, c2, c3, c4, c5, c6, c7⟩ := hV.2.2.1.2.2.1 a ha.1 ha.2.1
  have h3 := ha.2.2
  rw [h3] at c2 c7
  obtain ⟨d1, d2⟩ := c7 (by decide)
  exact W.iald hF.1.1 hF.1.2.1 c1 (pm_arrOf hF.1.2.2.2.2.2.2.2.2.1 hV.2.2.1 ha (by decide) (by decide) c2 c3) c4 (pm_inb d1.1 hk hb) (v := .int (qI σ a k)) (by rw [nI_clamp hb, d2 k hk, pm_val_i h3 rfl]) rfl rfl hd (kk p l e R s m args below meth c g Z mc ms H locs cells slots lr hF hV)
theorem pw_bald {a k : Nat} {j : Int32} (hd : decode M.2.1 pc = .ok (.baload, 1)) (ha : pm_is σ a 21) (hj : j = nI k) (hk : k < qL σ a) (hb : k < 2 ^ 31) (kk : PW d al M (pc + 1) ls (.int (qI σ a k) :: st) σ Q) : PW d al M pc ls (.int j :: .ref a :: st) σ Q := by
  intro p l e R s m args below meth c g Z mc ms H locs cells slots lr hF hV
  subst hj
  have e2 : List.map (pm_tr g) (.int (nI k) :: Value.ref a :: st) = .int (nI k) :: pm_tr g (.ref a) :: st.map (pm_tr g) := rfl
  rw [e2, pm_tr_ref ha.1]
  obtain ⟨cell, c1, c2, c3, c4, c5, c6, c7⟩ := hV.2.2.1.2.2.1 a ha.1 ha.2.1
  have h3 := ha.2.2
  rw [h3] at c2 c7
  obtain ⟨d1, d2⟩ := c7 (by decide)
  exact W.bald hF.1.1 hF.1.2.1 c1 (pm_arrOf hF.1.2.2.2.2.2.2.2.2.1 hV.2.2.1 ha (by decide) (by decide) c2 c3) c4 (pm_inb d1.1 hk hb) (v := .int (qI σ a k)) (by rw [nI_clamp hb, d2 k hk, pm_val_i h3 rfl]) rfl rfl hd (kk p l e R s m args below meth c g Z mc ms H locs cells slots lr hF hV)
theorem pw_aald {a k t : Nat} {j : Int32} (hd : decode M.2.1 pc = .ok (.aaload, 1)) (ha : pm_is σ a t) (ht : t = 22 ∨ t = 23) (hj : j = nI k) (hk : k < qL σ a) (hb : k < 2 ^ 31) (kk : PW d al M (pc + 1) ls (.ref (qR σ a k) :: st) σ Q) : PW d al M pc ls (.int j :: .ref a :: st) σ Q := by
  intro p l e R s m args below meth c g Z mc ms H locs cells slots lr hF hV
  subst hj
  have e2 : List.map (pm_tr g) (.int (nI k) :: Value.ref a :: st) = .int (nI k) :: pm_tr g (.ref a) :: st.map (pm_tr g) := rfl
  rw [e2, pm_tr_ref ha.1]
  obtain ⟨cell, c1, c2, c3, c4, c5, c6, c7⟩ := hV.2.2.1.2.2.1 a ha.1 ha.2.1
  have h3 := ha.2.2
  rw [h3] at c2 c7
  obtain ⟨d1, d2⟩ := c7 (by omega)
  exact W.aald hF.1.1 hF.1.2.1 c1 (pm_arrOf hF.1.2.2.2.2.2.2.2.2.1 hV.2.2.1 ha (by omega) (by omega) c2 c3) (by rcases ht with rfl | rfl <;> rfl) c4 (pm_inb d1.1 hk hb) (v := pm_tr g (.ref (qR σ a k))) (by rw [nI_clamp hb, d2 k hk, pm_val_r h3 (by rcases ht with rfl | rfl <;> rfl)]; rfl) rfl rfl hd (kk p l e R s m args below meth c g Z mc ms H locs cells slots lr hF hV)
theorem pm_locs {g : pm_G} {locs : List Loc} {a i : Nat} (hG : pm_Gk g) (h : ∀ q ∈ locs, g.2.2.2.2.1 ≤ q.base) (h6 : 6 ≤ a) : ∀ q ∈ locs ++ [⟨g.1 a, i⟩], g.2.2.2.2.1 ≤ q.base := by
  intro x hx
  rcases List.mem_append.mp hx with h' | h'
  · exact h x h'
  · have : x = ⟨g.1 a, i⟩ := by simpa using h'
    rw [this]
    exact hG.2.2 a h6
theorem pw_iast {a k : Nat} {j x : Int32} (hd : decode M.2.1 pc = .ok (.iastore, 1)) (ha : pm_is σ a 20) (h6 : 6 ≤ a) (hj : j = nI k) (hk : k < qL σ a) (hb : k < 2 ^ 31) (kk : PW d al M (pc + 1) ls st (pm_sI σ a k x) Q) : PW d al M pc ls (.int x :: .int j :: .ref a :: st) σ Q := by
  intro p l e R s m args below meth c g Z mc ms H locs cells slots lr hF hV
  subst hj
  have e2 : List.map (pm_tr g) (.int x :: .int (nI k) :: Value.ref a :: st) = .int x :: .int (nI k) :: pm_tr g (.ref a) :: st.map (pm_tr g) := rfl
  rw [e2, pm_tr_ref ha.1]
  obtain ⟨cell, c1, c2, c3, c4, c5, c6, c7⟩ := hV.2.2.1.2.2.1 a ha.1 ha.2.1
  have h3 := ha.2.2
  rw [h3] at c2 c7
  obtain ⟨d1, d2⟩ := c7 (by decide)
  refine W.iast hF.1.1 hF.1.2.1 c1 (pm_arrOf hF.1.2.2.2.2.2.2.2.2.1 hV.2.2.1 ha (by decide) (by decide) c2 c3) c4 (pm_inb d1.1 hk hb) rfl rfl hd (fun H' e1 hs ho => ?_)
  rw [nI_clamp hb] at e1 ⊢
  exact kk p l e R s m args below meth c g Z mc ms H' _ cells slots lr hF ⟨hV.1, hV.2.1, pm_Rl_arr hF.2.1 hV.2.2.1 ha (by decide) h6 c1 hk rfl rfl rfl (fun b hb j => pm_val_sI_ne hb j) (fun j => pm_val_sI_eq (by rw [h3]; rfl) j) e1 hs ho, pm_locs hF.2.1 hV.2.2.2.1 h6, hV.2.2.2.2⟩
theorem pw_bast {a k : Nat} {j x : Int32} (hd : decode M.2.1 pc = .ok (.bastore, 1)) (ha : pm_is σ a 21) (h6 : 6 ≤ a) (hj : j = nI k) (hk : k < qL σ a) (hb : k < 2 ^ 31) (kk : PW d al M (pc + 1) ls st (pm_sI σ a k x.toInt8.toInt32) Q) : PW d al M pc ls (.int x :: .int j :: .ref a :: st) σ Q := by
  intro p l e R s m args below meth c g Z mc ms H locs cells slots lr hF hV
  subst hj
  have e2 : List.map (pm_tr g) (.int x :: .int (nI k) :: Value.ref a :: st) = .int x :: .int (nI k) :: pm_tr g (.ref a) :: st.map (pm_tr g) := rfl
  rw [e2, pm_tr_ref ha.1]
  obtain ⟨cell, c1, c2, c3, c4, c5, c6, c7⟩ := hV.2.2.1.2.2.1 a ha.1 ha.2.1
  have h3 := ha.2.2
  rw [h3] at c2 c7
  obtain ⟨d1, d2⟩ := c7 (by decide)
  refine W.bast hF.1.1 hF.1.2.1 c1 (pm_arrOf hF.1.2.2.2.2.2.2.2.2.1 hV.2.2.1 ha (by decide) (by decide) c2 c3) c4 (pm_inb d1.1 hk hb) rfl rfl hd (fun H' e1 hs ho => ?_)
  rw [nI_clamp hb] at e1 ⊢
  exact kk p l e R s m args below meth c g Z mc ms H' _ cells slots lr hF ⟨hV.1, hV.2.1, pm_Rl_arr hF.2.1 hV.2.2.1 ha (by decide) h6 c1 hk rfl rfl rfl (fun b hb j => pm_val_sI_ne hb j) (fun j => pm_val_sI_eq (by rw [h3]; rfl) j) e1 hs ho, pm_locs hF.2.1 hV.2.2.2.1 h6, hV.2.2.2.2⟩
theorem pw_aast {a k x : Nat} {j : Int32} (hd : decode M.2.1 pc = .ok (.aastore, 1)) (ha : pm_is σ a 22) (hx : x = 0 ∨ pm_is σ x 9) (hj : j = nI k) (hk : k < qL σ a) (hb : k < 2 ^ 31) (kk : PW d al M (pc + 1) ls st (pm_sR σ a k x) Q) : PW d al M pc ls (.ref x :: .int j :: .ref a :: st) σ Q := by
  intro p l e R s m args below meth c g Z mc ms H locs cells slots lr hF hV
  subst hj
  have h6 := pm_old hV.2.2.1 ha (Or.inr (by decide))
  have e2 : List.map (pm_tr g) (.ref x :: .int (nI k) :: Value.ref a :: st) = pm_tr g (.ref x) :: .int (nI k) :: pm_tr g (.ref a) :: st.map (pm_tr g) := rfl
  rw [e2, pm_tr_ref ha.1]
  obtain ⟨cell, c1, c2, c3, c4, c5, c6, c7⟩ := hV.2.2.1.2.2.1 a ha.1 ha.2.1
  have h3 := ha.2.2
  rw [h3] at c2 c7
  obtain ⟨d1, d2⟩ := c7 (by decide)
  have hK1 := hF.1.2.2.2.2.2.2.2.2.1
  have hcA : cell.cls = g.2.1 22 := by rw [c2]; exact if_neg (by omega)
  have fin : ∀ H' : Heap, H'[g.1 a]? = some (cell.setSlot k (pm_tr g (.ref x))) → H'.size = H.size → (∀ q, q ≠ g.1 a → H'[q]? = H[q]?) → W p l e R s m args below meth c H' (locs ++ [⟨g.1 a, k⟩]) cells slots Z (F0 m (pc + 1) lr (st.map (pm_tr g))) := fun H' e1 hs ho =>
    kk p l e R s m args below meth c g Z mc ms H' _ cells slots lr hF ⟨hV.1, hV.2.1, pm_Rl_arr hF.2.1 hV.2.2.1 ha (by decide) h6 c1 hk rfl rfl rfl (fun b hb j => pm_val_sR_ne hb j) (fun j => pm_val_sR_eq (by rw [h3]; rfl) j) e1 hs ho, pm_locs hF.2.1 hV.2.2.2.1 h6, hV.2.2.2.2⟩
  rcases hx with h0 | hx
  · subst h0
    refine va_WaastN (C := RX9) hF.1.1 hF.1.2.1 c1 (pm_arrOf hK1 hV.2.2.1 ha (by decide) (by decide) c2 c3) c4 (pm_inb d1.1 hk hb) rfl rfl hd (fun H' e1 hs ho => ?_)
    rw [nI_clamp hb] at e1 ⊢
    exact fin H' e1 hs ho
  · rw [pm_tr_ref hx.1] at fin ⊢
    obtain ⟨cv, v1, v2, v3, v4, v5, v6, v7⟩ := hV.2.2.1.2.2.1 x hx.1 hx.2.1
    obtain ⟨-, hra⟩ := hK1.2.1 22 (by decide) (by decide)
    obtain ⟨kA, comp, r1, r2, r3, r4⟩ := hra
    have hx6 := pm_old hV.2.2.1 hx (Or.inl (by decide))
    have hcv : cv.cls = g.2.1 9 := by rw [v2, hx.2.2]; exact if_neg (by omega)
    obtain ⟨-, hfc, kC, hkC, hkind⟩ := hK1.1.1 9 _ rfl
    have hcomp : comp = g.2.1 9 := Option.some.inj (r3.symm.trans hfc)
    refine W.aast hF.1.1 hF.1.2.1 c1 (fun q h => by rw [h] at c3; cases c3) c4 (by rw [hcA]; exact r1) r2 rfl (by rw [hcomp]; exact hkC) ⟨nI_pos hb, by rw [nI_clamp hb]; exact Nat.lt_of_lt_of_le hk d1.1⟩ v1 (fun q h => by rw [h] at v3; cases v3) (by rw [hcv]; exact hkC) (by rw [hcv, hcomp]; exact va_asg _ _) rfl rfl hd (fun H' e1 hs ho => ?_)
    rw [nI_clamp hb] at e1 ⊢
    exact fin H' e1 hs ho
end PMH2
end
section
/-! ===== new cells ===== -/
theorem pm_val_nw_ne {g : pm_G} {σ : pm_S} {t n b : Nat} (h : b ≠ qN σ) (j : Nat) : pm_val g (pm_nw σ t n) b j = pm_val g σ b j := by
  unfold pm_val pm_nw qT qR qI
  simp only [if_neg h]
theorem pm_val_nw_eq {g : pm_G} {σ : pm_S} {t n : Nat} (j : Nat) : pm_val g (pm_nw σ t n) (qN σ) j = if pm_rf t j = true then .null else .int 0 := by
  unfold pm_val pm_nw qT qR qI
  simp only [if_true, pm_rv]
theorem qT_nw_ne {σ : pm_S} {t n b : Nat} (h : b ≠ qN σ) : qT (pm_nw σ t n) b = qT σ b := if_neg h
theorem qL_nw_ne {σ : pm_S} {t n b : Nat} (h : b ≠ qN σ) : qL (pm_nw σ t n) b = qL σ b := if_neg h
theorem qT_nw_eq {σ : pm_S} {t n : Nat} : qT (pm_nw σ t n) (qN σ) = t := if_pos rfl
theorem qL_nw_eq {σ : pm_S} {t n : Nat} : qL (pm_nw σ t n) (qN σ) = n := if_pos rfl
theorem pm_Rl_new {g : pm_G} {σ : pm_S} {H H' : Heap} {t n : Nat} (hG : pm_Gk g) (hR : pm_Rl g σ H) (hc : pm_cell g (pm_nw σ t n) (qN σ) H') (hs : H'.size = H.size + 1) (ho : ∀ q, q < H.size → H'[q]? = H[q]?) : pm_Rl g (pm_nw σ t n) H' := by
  obtain ⟨r1, r2, r3, r4, r5⟩ := hR
  have hN : qN (pm_nw σ t n) = qN σ + 1 := rfl
  refine ⟨by omega, by rw [hs, hN, hG.2.1 _ r1, r2], fun b hb0 hbn => ?_, fun q hq => ?_, ?_⟩
  · by_cases hba : b = qN σ
    · subst hba; exact hc
    · have hbn' : b < qN σ := by omega
      obtain ⟨cell, c1, c2, c3, c4, c5, c6, c7⟩ := r3 b hb0 hbn'
      have hlt : g.1 b < H.size := (Array.getElem?_eq_some_iff.mp c1).1
      refine ⟨cell, by rw [ho _ hlt]; exact c1, by rw [qT_nw_ne hba]; exact c2, c3, c4, c5, ?_, ?_⟩
      · rw [qT_nw_ne hba]
        intro ht k hk
        rw [pm_val_nw_ne hba k]
        exact c6 ht k hk
      · rw [qT_nw_ne hba, qL_nw_ne hba]
        intro ht
        exact ⟨(c7 ht).1, fun j hj => by rw [pm_val_nw_ne hba j]; exact (c7 ht).2 j hj⟩
  · have h7 := hG.2.2 (qN σ) r1
    rw [ho q (by omega)]
    exact r4 q hq
  · rw [qT_nw_ne (by omega), qT_nw_ne (by omega), qT_nw_ne (by omega), qT_nw_ne (by omega), qT_nw_ne (by omega)]
    exact r5
/-- the types that fields have here -/
def pm_pl : FieldType → Bool
  | .long => false
  | .float => false
  | .double => false
  | _ => true
theorem pm_dv {ty : FieldType} (h : pm_pl ty = true) : defaultValue ty = if pm_isr ty = true then .null else .int 0 := by
  cases ty <;> first | rfl | (exfalso; revert h; decide)
theorem pm_pl_ok : (List.range 13).all (fun t => (List.range (pm_nf t)).all (fun k => pm_pl (pm_fty t k))) = true := by decide +kernel
theorem pm_pl_at {t k : Nat} (ht : t < 13) (hk : k < pm_nf t) : pm_pl (pm_fty t k) = true := List.all_eq_true.mp (List.all_eq_true.mp pm_pl_ok t (List.mem_range.mpr ht)) k (List.mem_range.mpr hk)
/-- a class's link, that it can be made -/
def pm_nl_ (own : String) (idx t : Nat) : Prop := ∃ q : vw_C, pm_cl[t]? = some q ∧ Cond.classLink own idx q.1 ∈ pm_T ∧ Cond.instantiable q.1 q.2.2 ∈ pm_T ∧ Cond.initialized q.1 ∈ pm_T
theorem pm_nf_le (t : Nat) : pm_nf t ≤ 45 := by
  unfold pm_nf
  split <;> decide
theorem pm_outer (c : ClassId) (N h0 : Nat) : ∀ i : Nat, Jvm.Free.Multi.outerC c N h0 i = arrV c N (fun j => va_rf (if j < i then some (h0 + 1 + j) else none))
  | 0 => by
    show ({ cls := c, slots := Array.replicate N .null, vm := .none } : Cell) = _
    rw [arrV_new]
    refine congrArg (arrV c N) (funext fun j => ?_)
    simp [va_rf]
  | i + 1 => by
    show (Jvm.Free.Multi.outerC c N h0 i).setSlot i (.ref (h0 + 1 + i)) = _
    rw [pm_outer c N h0 i, arrV_store]
    refine congrArg (arrV c N) (funext fun j => ?_)
    by_cases e : j = i
    · subst e
      simp [updV, va_rf]
    · by_cases h : j < i
      · simp [updV, e, h, Nat.lt_succ_of_lt h]
      · simp [updV, e, h, show ¬ j < i + 1 by omega]
theorem pm_ar1 {x al ms r : Nat} (h1 : x + 700 * (al + 6) ≤ ms) (h2 : ms ≤ r) : x + (5 + 5 * 60) ≤ r :=
  Nat.le_trans (Nat.le_trans (Nat.add_le_add_left (Nat.le_trans (Nat.le_of_ble_eq_true rfl : 5 + 5 * 60 ≤ 700 * 6) (Nat.mul_le_mul_left 700 (Nat.le_add_left 6 al))) x) h1) h2
theorem pm_ar2 {x al ms : Nat} (h1 : x + 700 * (al + 6) ≤ ms) : x + 5 + 5 * 60 + 700 * al ≤ ms := by
  refine Nat.le_trans ?_ h1
  rw [Nat.mul_add, Nat.add_assoc, Nat.add_assoc]
  refine Nat.add_le_add_left ?_ x
  rw [← Nat.add_assoc, Nat.add_comm]
  exact Nat.add_le_add_left (Nat.le_of_ble_eq_true rfl : 5 + 5 * 60 ≤ 700 * 6) _
section PMN
variable {d al : Nat} {M : pm_M} {pc : Nat} {ls st : List Value} {σ : pm_S} {Q : Option Value → pm_S → Prop}
theorem pw_new {t idx : Nat} (hd : decode M.2.1 pc = .ok (.new idx, 3)) (hf : pm_nl_ M.1.cls idx t) (h6 : 6 ≤ qN σ) (kk : PW d al M (pc + 3) ls (.ref (qN σ) :: st) (pm_nw σ t 0) Q) : PW d (al + 1) M pc ls st σ Q := by
  intro p l e R s m args below meth c g Z mc ms H locs cells slots lr hF hV
  obtain ⟨q, hq, w1, w2, w3⟩ := hf
  obtain ⟨h13, hnf, hok⟩ := pm_cls hq
  have hts := hF.1.2.2.2.2.2.2.1
  have hKn := hF.1.2.2.2.2.2.2.2.2.1.1.1 t q hq
  have h45 := pm_nf_le t
  refine W.newcK hF.1.1 hF.1.2.1 hF.1.2.2.2.2.2.1 (hts _ w1) (hts _ w2) (hts _ w3) rfl hd (by have := hV.1; have := hF.2.2.2.2.1; omega) (by have := hV.2.1; have := hF.2.2.2.2.2.1; omega) hKn.2.1 rfl (fun H' kC hkC e1 z1 o1 => ?_)
  have hr2 := hV.2.2.1.2.1
  have hk2 := kk p l e R s m args below meth c g Z mc ms H' locs (cells + 1) (slots + q.2.2) lr hF ⟨by have := hV.1; omega, by have := hV.2.1; omega, pm_Rl_new hF.2.1 hV.2.2.1 ?_ z1 o1, hV.2.2.2.1, hV.2.2.2.2⟩
  · have e2 : List.map (pm_tr g) (Value.ref (qN σ) :: st) = pm_tr g (.ref (qN σ)) :: st.map (pm_tr g) := rfl
    rw [e2, pm_tr_ref (by omega), ← hr2] at hk2
    exact hk2
  · have hb := u_born (pm_fty t) hts hok.1 hKn hkC e1 hok.2.1
    obtain ⟨cell, b1, b2, b3, b4⟩ := hb
    refine ⟨cell, by rw [← hr2]; exact b1, ?_, by rw [b3]; rfl, (by rw [b3]; exact fun h => by cases h), fun _ => b3, ?_, ?_⟩
    · rw [b2, qT_nw_eq]
      exact (if_neg (by omega)).symm
    · rw [qT_nw_eq]
      intro _ k hk
      rw [pm_val_nw_eq, b4 k (by omega)]
      exact congrArg some (pm_dv (pm_pl_at h13 hk))
    · rw [qT_nw_eq]
      intro h; omega
theorem pw_newarr {n : Nat} {j : Int32} {at_ : ArrayType} {t : Nat} (hd : decode M.2.1 pc = .ok (.newarray at_, 2)) (ht : (at_ = .int ∧ t = 20) ∨ (at_ = .byte ∧ t = 21)) (hw : Cond.arrayClass (pm_fty t 0) ∈ pm_T) (hj : j = nI n) (hn : n ≤ 700) (h6 : 6 ≤ qN σ) (kk : PW d al M (pc + 2) ls (.ref (qN σ) :: st) (pm_nw σ t n) Q) : PW d (al + 1) M pc ls (.int j :: st) σ Q := by
  intro p l e R s m args below meth c g Z mc ms H locs cells slots lr hF hV
  subst hj
  have hty : Op.newarray.typeOf at_ = pm_fty t 0 := by rcases ht with ⟨rfl, rfl⟩ | ⟨rfl, rfl⟩ <;> rfl
  have hcl : (nI n).toNatClampNeg = n := nI_clamp (by omega)
  have hts := hF.1.2.2.2.2.2.2.1
  have hr2 := hV.2.2.1.2.1
  refine W.newa hF.1.1 hF.1.2.1 (atype := at_) (by rw [hty]; exact hts _ hw) rfl hd (n := nI n) (rest := st.map (pm_tr g)) rfl (nI_pos (by omega)) (by rw [hcl, hty]; rcases ht with ⟨rfl, rfl⟩ | ⟨rfl, rfl⟩ <;> (show n * _ ≤ _; simp [pm_fty, componentBytes]; omega)) (by have := hV.1; have := hF.2.2.2.2.1; omega) (by rw [hcl]; have := hV.2.1; have := hF.2.2.2.2.2.1; omega) (fun cA kA comp h1 h2 h3 => ?_)
  rw [hcl]
  have hcA : cA = g.2.1 t := by
    have hra := (hF.1.2.2.2.2.2.2.2.2.1.2.1 t (by omega) (by omega)).2
    rw [hty] at h1
    have h4 : s.vm.findClass ("[" ++ (pm_fty t 0).toString) = some (g.2.1 t) := by rcases ht with ⟨rfl, rfl⟩ | ⟨rfl, rfl⟩ <;> exact hra
    exact Option.some.inj (h1.symm.trans h4)
  have hk2 := kk p l e R s m args below meth c g Z mc ms (H.push { cls := cA, slots := Array.replicate n (defaultValue (Op.newarray.typeOf at_)), vm := .none }) locs (cells + 1) (slots + n) lr hF ⟨by have := hV.1; omega, by have := hV.2.1; omega, pm_Rl_new hF.2.1 hV.2.2.1 ?_ (by simp) (fun q hq => by rw [Array.getElem?_push, if_neg (Nat.ne_of_lt hq)]), hV.2.2.2.1, hV.2.2.2.2⟩
  · have e2 : List.map (pm_tr g) (Value.ref (qN σ) :: st) = pm_tr g (.ref (qN σ)) :: st.map (pm_tr g) := rfl
    rw [e2, pm_tr_ref (by omega), ← hr2] at hk2
    exact hk2
  · refine ⟨{ cls := cA, slots := Array.replicate n (defaultValue (Op.newarray.typeOf at_)), vm := .none }, by rw [← hr2]; simp, ?_, rfl, (fun h => by cases h), fun _ => rfl, ?_, ?_⟩
    · rw [qT_nw_eq]
      show cA = _
      rw [hcA]
      exact (if_neg (by omega)).symm
    · rw [qT_nw_eq]
      intro h; omega
    · rw [qT_nw_eq, qL_nw_eq]
      intro _
      refine ⟨⟨by simp, by simp; rfl⟩, fun k hk => ?_⟩
      rw [pm_val_nw_eq]
      rcases ht with ⟨rfl, rfl⟩ | ⟨rfl, rfl⟩ <;> (simp [hk]; rfl)
theorem pw_anew {n idx : Nat} {j : Int32} (hd : decode M.2.1 pc = .ok (.anewarray idx, 3)) (hw1 : Cond.classLink M.1.cls idx RX9 ∈ pm_T) (hj : j = nI n) (hn : n ≤ 700) (h6 : 6 ≤ qN σ) (kk : PW d al M (pc + 3) ls (.ref (qN σ) :: st) (pm_nw σ 22 n) Q) : PW d (al + 1) M pc ls (.int j :: st) σ Q := by
  intro p l e R s m args below meth c g Z mc ms H locs cells slots lr hF hV
  subst hj
  have hcl : (nI n).toNatClampNeg = n := nI_clamp (by omega)
  have hts := hF.1.2.2.2.2.2.2.1
  have hr2 := hV.2.2.1.2.1
  refine W.anew hF.1.1 hF.1.2.1 hF.1.2.2.2.2.2.1 (hts _ hw1) (va_AO.use hF.1.2.2.2.2.2.2.2.2.2.2.1.2.1) rfl hd (n := nI n) (rest := st.map (pm_tr g)) rfl (nI_pos (by omega)) (by rw [hcl]; omega) (by have := hV.1; have := hF.2.2.2.2.1; omega) (by rw [hcl]; have := hV.2.1; have := hF.2.2.2.2.2.1; omega) (fun cA kA comp h1 h2 h3 h4 => ?_)
  rw [hcl]
  have hcA : cA = g.2.1 22 := by
    obtain ⟨kA', comp', r1, r2, r3, r4⟩ := (hF.1.2.2.2.2.2.2.2.2.1.2.1 22 (by decide) (by decide)).2
    exact Option.some.inj (h1.symm.trans r4)
  have hk2 := kk p l e R s m args below meth c g Z mc ms (H.push { cls := cA, slots := Array.replicate n .null, vm := .none }) locs (cells + 1) (slots + n) lr hF ⟨by have := hV.1; omega, by have := hV.2.1; omega, pm_Rl_new hF.2.1 hV.2.2.1 ?_ (by simp) (fun q hq => by rw [Array.getElem?_push, if_neg (Nat.ne_of_lt hq)]), hV.2.2.2.1, hV.2.2.2.2⟩
  · have e2 : List.map (pm_tr g) (Value.ref (qN σ) :: st) = pm_tr g (.ref (qN σ)) :: st.map (pm_tr g) := rfl
    rw [e2, pm_tr_ref (by omega), ← hr2] at hk2
    exact hk2
  · refine ⟨{ cls := cA, slots := Array.replicate n .null, vm := .none }, by rw [← hr2]; simp, ?_, rfl, (fun h => by cases h), fun _ => rfl, ?_, ?_⟩
    · rw [qT_nw_eq]
      show cA = _
      rw [hcA]
      exact (if_neg (by omega)).symm
    · rw [qT_nw_eq]
      intro h; omega
    · rw [qT_nw_eq, qL_nw_eq]
      intro _
      refine ⟨⟨by simp, by simp; rfl⟩, fun k hk => ?_⟩
      rw [pm_val_nw_eq]
      simp [hk]
      rfl
/-- new int[5][60]: the rows behind their array -/
def pm_mn (σ : pm_S) : pm_S := (fun b j => if qN σ ≤ b then 0 else σ.1 b j, fun b j => if b = qN σ then (if j < 5 then qN σ + 1 + j else 0) else if qN σ ≤ b then 0 else σ.2.1 b j, fun b => if b = qN σ then 23 else if qN σ ≤ b then 20 else σ.2.2.1 b, fun b => if b = qN σ then 5 else if qN σ ≤ b then 60 else σ.2.2.2.1 b, qN σ + 6)
theorem pm_val_mn_lt {g : pm_G} {σ : pm_S} {b : Nat} (h : b < qN σ) (j : Nat) : pm_val g (pm_mn σ) b j = pm_val g σ b j := by
  unfold pm_val pm_mn qT qR qI
  simp only [if_neg (show ¬ b = qN σ by omega), if_neg (show ¬ qN σ ≤ b by omega)]
theorem qT_mn_lt {σ : pm_S} {b : Nat} (h : b < qN σ) : qT (pm_mn σ) b = qT σ b := by
  unfold pm_mn qT
  simp only [if_neg (show ¬ b = qN σ by omega), if_neg (show ¬ qN σ ≤ b by omega)]
theorem qL_mn_lt {σ : pm_S} {b : Nat} (h : b < qN σ) : qL (pm_mn σ) b = qL σ b := by
  unfold pm_mn qL
  simp only [if_neg (show ¬ b = qN σ by omega), if_neg (show ¬ qN σ ≤ b by omega)]
theorem qT_mn_in {σ : pm_S} {b : Nat} (h : qN σ < b) : qT (pm_mn σ) b = 20 := by
  unfold pm_mn qT
  simp only [if_neg (show ¬ b = qN σ by omega), if_pos (show qN σ ≤ b by omega)]
theorem qL_mn_in {σ : pm_S} {b : Nat} (h : qN σ < b) : qL (pm_mn σ) b = 60 := by
  unfold pm_mn qL
  simp only [if_neg (show ¬ b = qN σ by omega), if_pos (show qN σ ≤ b by omega)]
theorem qT_mn_0 {σ : pm_S} : qT (pm_mn σ) (qN σ) = 23 := if_pos rfl
theorem qL_mn_0 {σ : pm_S} : qL (pm_mn σ) (qN σ) = 5 := if_pos rfl
theorem pw_mna {idx : Nat} {n k : Int32} (hd : decode M.2.1 pc = .ok (.multianewarray idx 2, 4)) (hw1 : Cond.classLink M.1.cls idx ("[" ++ (FieldType.array .int).toString) ∈ pm_T) (hw2 : Cond.arrayClass .int ∈ pm_T) (hn : n = 5) (hk : k = 60) (h6 : 6 ≤ qN σ) (kk : PW d al M (pc + 4) ls (.ref (qN σ) :: st) (pm_mn σ) Q) : PW d (al + 6) M pc ls (.int k :: .int n :: st) σ Q := by
  intro p l e R s m args below meth c g Z mc ms H locs cells slots lr hF hV
  subst hn
  subst hk
  have hts := hF.1.2.2.2.2.2.2.1
  have hr2 := hV.2.2.1.2.1
  intro T hT Xs
  have c5 : (5 : Int32).toNatClampNeg = 5 := by decide
  have c60 : (60 : Int32).toNatClampNeg = 60 := by decide
  have z1 : (5 : Int32).toNatClampNeg * 4 ≤ 536870912 := by rw [c5]; omega
  have z2 : (60 : Int32).toNatClampNeg * componentBytes FieldType.int ≤ 536870912 := by rw [c60, show componentBytes FieldType.int = 4 from rfl]; omega
  have z3 : (60 : Int32).toNatClampNeg ≤ 536870912 := by rw [c60]; omega
  have z4 : cells + (1 + (5 : Int32).toNatClampNeg) ≤ R.cells := by rw [c5]; have := hV.1; have := hF.2.2.2.2.1; omega
  have z5 : slots + ((5 : Int32).toNatClampNeg + (5 : Int32).toNatClampNeg * (60 : Int32).toNatClampNeg) ≤ R.slots := by rw [c5, c60]; exact pm_ar1 hV.2.1 hF.2.2.2.2.2.1
  have z6 : ¬ (5 : Int32) < 0 := by decide
  have z7 : ¬ (60 : Int32) < 0 := by decide
  have z9 : slots + 5 + 5 * 60 + 700 * al ≤ ms := pm_ar2 hV.2.1
  have z8 := hF.1.2.2.2.2.2.2.2.2.2.2.1.2.2
  obtain ⟨vm₁, cA, comp, -, fA, fC, hO, -, X', step⟩ := Xs.multianewarray2F hF.1.1 hF.1.2.2.2.2.2.1 (hts _ hw1) (ty := .int) z8 (hts _ hw2) (g := F0 m pc lr (.int 60 :: .int 5 :: st.map (pm_tr g))) rfl (by rw [hF.1.2.1]; exact hd) (n := 5) (k := 60) (rest := st.map (pm_tr g)) rfl z6 z7 z1 z2 z3 rfl rfl z4 z5
  rw [c5, c60] at X' step
  have hcA : cA = g.2.1 23 := by
    have hra := (hF.1.2.2.2.2.2.2.2.2.1.2.1 23 (by decide) (by decide)).2
    have h4 : s.vm.findClass ("[" ++ (FieldType.array .int).toString) = some (g.2.1 23) := hra
    exact Option.some.inj (fA.symm.trans h4)
  have hcC : comp = g.2.1 20 := by
    have hra := (hF.1.2.2.2.2.2.2.2.2.1.2.1 20 (by decide) (by decide)).2
    have h4 : s.vm.findClass (FieldType.array .int).toString = some (g.2.1 20) := hra
    exact Option.some.inj (fC.symm.trans h4)
  generalize hFl : Jvm.Free.Multi.fill (T.setVm vm₁) cA comp 5 60 (defaultValue .int) 5 = F at X' step
  have hTh : (T.setVm vm₁).heap = H := hT
  obtain ⟨f1, f2, -, -⟩ := Jvm.Free.Multi.fill_facts (T.setVm vm₁) cA comp 5 60 (defaultValue .int) 5
  rw [hFl, hTh] at f1 f2
  have hold : ∀ x : Nat, x < H.size → F.heap[x]? = H[x]? := fun x hx => by
    have := Jvm.Free.Multi.fill_old (T.setVm vm₁) cA comp 5 60 (defaultValue .int) (a := x) (by rw [hTh]; exact hx) 5
    rw [hFl, hTh] at this
    exact this
  have hrow : ∀ j : Nat, j < 5 → F.heap[H.size + 1 + j]? = some (Jvm.Free.Multi.innerC comp 60 (defaultValue .int)) := fun j hj => by
    have := Jvm.Free.Multi.fill_inner (T.setVm vm₁) cA comp 5 60 (defaultValue .int) 5 j hj
    rw [hFl, hTh] at this
    exact this
  have hout : Jvm.Free.Multi.outerC cA 5 H.size 5 = arrV cA 5 (fun j => va_rf (if j < 5 then some (H.size + 1 + j) else none)) := pm_outer cA 5 H.size 5
  rw [hout] at f2
  have hG := hF.2.1
  obtain ⟨r1, r2, r3, r4, r5⟩ := hV.2.2.1
  have hρ : ∀ j, j ≤ 6 → g.1 (qN σ + j) = H.size + j := by
    intro j
    induction j with
    | zero => intro _; rw [Nat.add_zero, Nat.add_zero]; exact r2.symm
    | succ j ih => intro hj; rw [← Nat.add_assoc, hG.2.1 _ (by omega), ih (by omega)]; omega
  have hN : qN (pm_mn σ) = qN σ + 6 := rfl
  have hRl : pm_Rl g (pm_mn σ) F.heap := by
    refine ⟨by omega, by rw [hN, hρ 6 (by omega), f1], fun b hb0 hbn => ?_, fun q hq => ?_, ?_⟩
    · rcases Nat.lt_trichotomy b (qN σ) with hlt | heq | hgt
      · obtain ⟨cell, c1, c2, c3, c4, c5', c6, c7⟩ := r3 b hb0 hlt
        have hl2 : g.1 b < H.size := (Array.getElem?_eq_some_iff.mp c1).1
        refine ⟨cell, by rw [hold _ hl2]; exact c1, by rw [qT_mn_lt hlt]; exact c2, c3, c4, c5', ?_, ?_⟩
        · rw [qT_mn_lt hlt]
          intro ht k hk
          rw [pm_val_mn_lt hlt k]
          exact c6 ht k hk
        · rw [qT_mn_lt hlt, qL_mn_lt hlt]
          intro ht
          exact ⟨(c7 ht).1, fun j hj => by rw [pm_val_mn_lt hlt j]; exact (c7 ht).2 j hj⟩
      · subst heq
        refine ⟨_, by rw [← r2]; exact f2, ?_, rfl, (fun h => by cases h), fun _ => rfl, ?_, ?_⟩
        · rw [qT_mn_0]
          show cA = _
          rw [hcA]
          exact (if_neg (by omega)).symm
        · rw [qT_mn_0]
          intro h; omega
        · rw [qT_mn_0, qL_mn_0]
          intro _
          refine ⟨⟨by rw [arrV_size]; exact Nat.le_refl _, by rw [arrV_size]; rfl⟩, fun j hj => ?_⟩
          rw [arrV_read _ _ hj, if_pos hj, pm_val_r qT_mn_0 rfl]
          have hq : qR (pm_mn σ) (qN σ) j = qN σ + 1 + j := by
            unfold pm_mn qR
            simp only [if_pos, hj]
          rw [hq]
          unfold pm_rv
          rw [if_neg (by omega)]
          show some (Value.ref (H.size + 1 + j)) = some (Value.ref (g.1 (qN σ + 1 + j)))
          rw [Nat.add_assoc (qN σ), hρ (1 + j) (by omega), Nat.add_assoc]
      · obtain ⟨j, rfl⟩ : ∃ j, b = qN σ + (1 + j) := ⟨b - qN σ - 1, by omega⟩
        have hj : j < 5 := by omega
        have hcell := hrow j hj
        have hin : Jvm.Free.Multi.innerC comp 60 (defaultValue .int) = arrV comp 60 (fun _ => .int 0) := arrV_new _ _ _
        rw [hin] at hcell
        refine ⟨_, by rw [hρ (1 + j) (by omega), ← Nat.add_assoc]; exact hcell, ?_, rfl, (fun h => by cases h), fun _ => rfl, ?_, ?_⟩
        · rw [qT_mn_in (by omega)]
          show comp = _
          rw [hcC]
          exact (if_neg (by omega)).symm
        · rw [qT_mn_in (by omega)]
          intro h; omega
        · rw [qT_mn_in (by omega), qL_mn_in (by omega)]
          intro _
          refine ⟨⟨by rw [arrV_size]; exact Nat.le_refl _, by rw [arrV_size]; rfl⟩, fun i hi => ?_⟩
          rw [arrV_read _ _ hi, pm_val_i (qT_mn_in (by omega)) rfl]
          have hq : qI (pm_mn σ) (qN σ + (1 + j)) i = 0 := by
            unfold pm_mn qI
            simp only [if_pos (show qN σ ≤ qN σ + (1 + j) by omega)]
          rw [hq]
    · have h7 := hG.2.2 (qN σ) r1
      rw [hold q (by omega)]
      exact r4 q hq
    · rw [qT_mn_lt (by omega), qT_mn_lt (by omega), qT_mn_lt (by omega), qT_mn_lt (by omega), qT_mn_lt (by omega)]
      exact r5
  have hk2 := kk p l e R s m args below meth c g Z mc ms F.heap locs (cells + 1 + 5) (slots + 5 + 5 * 60) lr hF ⟨by have := hV.1; omega, z9, hRl, hV.2.2.2.1, hV.2.2.2.2⟩
  have e2 : List.map (pm_tr g) (Value.ref (qN σ) :: st) = pm_tr g (.ref (qN σ)) :: st.map (pm_tr g) := rfl
  rw [e2, pm_tr_ref (by omega), ← hr2] at hk2
  obtain ⟨t, a1, b1⟩ := hk2 F rfl X'
  refine ⟨t, step t ?_, b1⟩
  have e3 : T.heap.size = H.size := by rw [hT]
  rw [e3]
  exact a1
end PMN
end
section
/-! ===== what is known of the classes goes along ===== -/
theorem pm_K1.moved {g : pm_G} {u U : State} (hvm : u.vm.Alike U.vm) (h : pm_K1 g u) : pm_K1 g U :=
  ⟨va_K.moved hvm h.1, fun t h1 h2 => ⟨arrOfT_moved hvm (h.2.1 t h1 h2).1, (h.2.1 t h1 h2).2.moved hvm⟩, arrOfT_moved hvm h.2.2.1, arrOfT_moved hvm h.2.2.2.1, arrOfT_moved hvm h.2.2.2.2⟩
theorem pm_ff {u U : State} (hvm : u.vm.Alike U.vm) {C n d : String} {z : Nat} (h : ∃ (cf : ClassId) (k : Class) (i : Nat) (f : Field), u.fieldFound? C n d = some (cf, k, i, f) ∧ f.isStatic = false ∧ f.slot = z) : ∃ (cf : ClassId) (k : Class) (i : Nat) (f : Field), U.fieldFound? C n d = some (cf, k, i, f) ∧ f.isStatic = false ∧ f.slot = z := by
  obtain ⟨cf, k, i, f, h1, h2⟩ := h
  obtain ⟨k', hi', -⟩ := State.fieldFound?_setVm hvm h1
  exact ⟨cf, k', i, f, hi', h2⟩
theorem pm_K.warm {g : pm_G} {s U : State} (hW : s.WarmedH U.vm) (h : pm_K g s) : pm_K g U := by
  obtain ⟨h1, ⟨⟨a1, a2⟩, a3, a4, a5, a6⟩, ⟨b1, b2, b3⟩, c1, v, c2, c3⟩ := h
  have hvm := hW.alike
  exact ⟨h1.moved hvm, ⟨⟨by rw [hvm.findClass]; exact a1, by rw [hvm.findClass]; exact a2⟩, pm_ff hvm a3, pm_ff hvm a4, a5.warm hW, a6.warm hW⟩, ⟨fun q hq => va_Nw.warmM hW (b1 q hq), b2.moved hvm, over_moved hvm b3⟩, c1.moved hvm, v, c2, c3.moved hvm⟩
theorem pm_K.same {g : pm_G} {u U : State} (hv : U.vm = u.vm) (h : pm_K g u) : pm_K g U := by
  obtain ⟨h1, ⟨⟨a1, a2⟩, a3, a4, a5, a6⟩, ⟨b1, b2, b3⟩, c1, v, c2, c3⟩ := h
  have hvm : u.vm.Alike U.vm := by rw [hv]; exact Vm.Alike.refl _
  exact ⟨h1.moved hvm, ⟨⟨by rw [hvm.findClass]; exact a1, by rw [hvm.findClass]; exact a2⟩, pm_ff hvm a3, pm_ff hvm a4, a5.same hv, a6.same hv⟩, ⟨fun q hq => va_Nw.same rfl hv.symm (b1 q hq), b2.moved hvm, over_moved hvm b3⟩, c1.moved hvm, v, c2, c3.moved hvm⟩
/-! ===== a method's run as the kit's contract ===== -/
def pm_ws (M : pm_M) : List Cond := Cond.code M.1 M.2.1 M.2.2.1 M.2.2.2 :: pm_T
def pm_rm (d al : Nat) : Room := { frames := d, cells := al, slots := 700 * al, locals := 100 * d }
def pm_Pc (g : pm_G) (av : List Value) (σ : pm_S) : Array Value → State → Prop := va_Pc (av.map (pm_tr g)) (fun U => pm_K g U ∧ pm_Rl g σ U.heap)
def pm_Qc (g : pm_G) (Q : Option Value → pm_S → Prop) : Array Value → State → Outcome → State → Prop := fun _ _ oc t => ∃ (r : Option Value) (σ : pm_S), Q r σ ∧ oc = .returned (r.map (pm_tr g)) ∧ pm_Rl g σ t.heap
def pm_fl_ (av : List Value) : List Value := av.flatMap fun v => if v.category = 2 then [v, .retAddr 0] else [v]
theorem pm_ent_sub {g : pm_G} {q : Nat × Value} (n : Nat) : ∀ (av : List Value) (i : Nat), q ∈ pm_prs g i (pm_fl_ av ++ List.replicate n (.retAddr 0)) → q ∈ lv_args i (av.map (pm_tr g))
  | [], i, h => by
    exfalso
    obtain ⟨k, v, h1, h2, -⟩ := pm_prs_mem.mp h
    simp [pm_fl_, List.getElem?_replicate] at h1
    obtain ⟨-, rfl⟩ := h1
    cases h2
  | v :: vs, i, h => by
    have ih := pm_ent_sub (g := g) (q := q) n vs
    show q ∈ (i, pm_tr g v) :: lv_args (if (pm_tr g v).category = 2 then i + 2 else i + 1) (vs.map (pm_tr g))
    have hf : pm_fl_ (v :: vs) = (if v.category = 2 then [v, .retAddr 0] else [v]) ++ pm_fl_ vs := by simp [pm_fl_]
    rw [hf] at h
    rw [pm_tr_cat]
    by_cases hc : v.category = 2
    · rw [if_pos hc] at h ⊢
      have h' : q ∈ pm_prs g i (v :: .retAddr 0 :: (pm_fl_ vs ++ List.replicate n (.retAddr 0))) := by simpa using h
      have hu : pm_un v = false := by cases v <;> first | rfl | (exfalso; simp [Value.category] at hc)
      have e1 : pm_prs g i (v :: .retAddr 0 :: (pm_fl_ vs ++ List.replicate n (.retAddr 0))) = (i, pm_tr g v) :: pm_prs g (i + 2) (pm_fl_ vs ++ List.replicate n (.retAddr 0)) := by
        show (if pm_un v = true then _ else _) = _
        rw [if_neg (by rw [hu]; decide)]
        rfl
      rw [e1] at h'
      rcases List.mem_cons.mp h' with h' | h'
      · exact List.mem_cons.mpr (Or.inl h')
      · exact List.mem_cons_of_mem _ (ih _ h')
    · rw [if_neg hc] at h ⊢
      have h' : q ∈ pm_prs g i (v :: (pm_fl_ vs ++ List.replicate n (.retAddr 0))) := by simpa using h
      unfold pm_prs at h'
      by_cases hu : pm_un v = true
      · rw [if_pos hu] at h'
        exact List.mem_cons_of_mem _ (ih _ h')
      · rw [if_neg hu] at h'
        rcases List.mem_cons.mp h' with h' | h'
        · exact List.mem_cons.mpr (Or.inl h')
        · exact List.mem_cons_of_mem _ (ih _ h')
theorem pm_sl_len (g : pm_G) (av : List Value) : (lg_sl (av.map (pm_tr g))).length = (pm_fl_ av).length := by
  induction av with
  | nil => rfl
  | cons v vs ih =>
    have e1 : lg_sl ((v :: vs).map (pm_tr g)) = (if (pm_tr g v).category = 2 then [.val (pm_tr g v), .second] else [.val (pm_tr g v)]) ++ lg_sl (vs.map (pm_tr g)) := by simp [lg_sl]
    have e2 : pm_fl_ (v :: vs) = (if v.category = 2 then [v, .retAddr 0] else [v]) ++ pm_fl_ vs := by simp [pm_fl_]
    rw [e1, e2, List.length_append, List.length_append, ih, pm_tr_cat]
    split <;> rfl
theorem pm_met {d al : Nat} {M : pm_M} {av : List Value} {σ : pm_S} {Q : Option Value → pm_S → Prop} (hp : plainName M.1.cls = true) (hlen : (pm_fl_ av).length ≤ M.2.2.1) (h : PM d al M av σ Q) (l : Launch) (g : pm_G) (hG : pm_Gk g) :
    Met l M.1 (pm_ws M) (pm_rm d al) (pm_Pc g av σ) (pm_Qc g Q) al (700 * al) (fun q => g.2.2.2.2.1 ≤ q) := by
  refine Met.ofW (cc := M.2.1) (maxL := M.2.2.1) (ret := M.2.2.2) hp rfl ?_
  intro p e s m args below meth c s₁ B hml hv
  obtain ⟨rfl, hK, hR⟩ := hv
  have hts0 := atoms_spec (ws := pm_ws M) B.pre
  have hts : ∀ w ∈ pm_T, w.before (av.map (pm_tr g)).toArray s = true := fun w hw => hts0 w (List.mem_cons_of_mem _ hw)
  have hlocks := B.notSynchronized
  have hCx : pm_Cx M p s m (av.map (pm_tr g)).toArray meth c g := ⟨B.exec, B.bytes, B.returns, hlocks, hml, findClass_of_methodNamed B.named, hts, (fun h => (name_of_methodNamed B.named B.method).1.trans h), hK⟩
  have hE : pm_End M Q p l e (headSpec (pm_ws M) (pm_rm d al)).room s m (av.map (pm_tr g)).toArray below meth c g (MQ below (pm_Qc g Q) (av.map (pm_tr g)).toArray s al (700 * al) (fun q => g.2.2.2.2.1 ≤ q)) al (700 * al) := by
    intro r τ H locs lr pc ins hQ hRl hlo hd hok
    rcases hok with ⟨h1, rfl, rfl⟩ | ⟨ty, x, h1, rfl, rfl, hn⟩ | ⟨ty, a, h1, rfl, rfl, ht⟩
    · exact W.vret B.exec B.bytes (B.returns.trans h1) (fun t ht hW => ⟨none, τ, hQ, rfl, by rw [ht]; exact hRl⟩) hlo hd
    · exact W.zret (ty := ty) B.exec B.bytes (B.returns.trans h1) hn (fun t ht hW => ⟨some (.int x), τ, hQ, rfl, by rw [ht]; exact hRl⟩) hlo hd
    · refine W.aret (rt := ty) (v := pm_tr g (.ref a)) B.exec B.bytes (B.returns.trans h1) ht ?_ (fun t ht hW => ⟨some (.ref a), τ, hQ, rfl, by rw [ht]; exact hRl⟩) hlo hd
      rcases Nat.eq_zero_or_pos a with h0 | h0
      · subst h0; exact Or.inl rfl
      · exact Or.inr ⟨_, pm_tr_ref h0⟩
  rw [lg_entry_eq]
  have hl := lv_entry (av.map (pm_tr g)) (n := M.2.2.1) (by rw [pm_sl_len]; exact hlen)
  generalize (lg_sl (av.map (pm_tr g)) ++ List.replicate (M.2.2.1 - (lg_sl (av.map (pm_tr g))).length) Slot.unset).toArray = lr at hl ⊢
  refine h p l e _ s m _ below meth c g _ al (700 * al) s.heap [] 0 0 lr ⟨hCx, hG, Nat.le_refl _, Nat.le_refl _, Nat.le_refl _, Nat.le_refl _, hE⟩ ⟨by omega, by omega, hR, (fun q h => by cases h), ?_⟩
  exact ⟨hl.1, hl.2.1, fun q hq => hl.2.2 q (pm_ent_sub _ av 0 hq)⟩
end
section
/-! ===== calls ===== -/
/-- what is known of a method that is called: n parameters -/
def pm_mt (M : pm_M) (n : Nat) : Prop := plainName M.1.cls = true ∧ Cond.code M.1 M.2.1 M.2.2.1 M.2.2.2 ∈ pm_T ∧ Cond.initialized M.1.cls ∈ pm_T ∧ (M.1.cls ≠ "java/lang/invoke/MethodHandle" ∧ M.1.cls ≠ "java/lang/invoke/VarHandle") ∧ (parseMethodDescriptor M.1.desc).map (fun d => d.parameters.length) = some n ∧ M.2.2.1 ≤ 80
/-- of one that is called on an object -/
def pm_iv (M : pm_M) : Prop := Cond.instanceMethod M.1 ∈ pm_T ∧ Cond.selects M.1.cls M.1 M.1 ∈ pm_T
theorem pm_good {M : pm_M} (h : Cond.code M.1 M.2.1 M.2.2.1 M.2.2.2 ∈ pm_T) : GoodIn pm_T (pm_ws M) := fun w hw => by
  have hm : w ∈ pm_T := by
    rcases List.mem_cons.mp hw with rfl | hw
    · exact h
    · exact hw
  exact ⟨hm, good_of_word (pm_T_good w hm)⟩
theorem pm_tr_list (g : pm_G) (r : Option Value) (st : List Value) : (r.toList ++ st).map (pm_tr g) = (r.map (pm_tr g)).toList ++ st.map (pm_tr g) := by
  cases r <;> rfl
theorem pm_blind (g : pm_G) (av : List Value) (σ : pm_S) : FrameBlind (pm_Pc g av σ) := fun a U fr mk h => ⟨h.1, pm_K.same (u := U) (U := U.calling fr mk a) rfl h.2.1, h.2.2⟩
theorem pm_roomw (g : pm_G) {m : MethodId} {pc : Nat} {lr : Array Slot} {stk st : List Value} (h : (st.map fun v => v.category).sum ≤ 8) : 2 * (F0 m pc lr stk).monitorRoom + ((st.map (pm_tr g)).map fun v => v.category).sum ≤ 8 := by
  refine lv_room ?_
  rw [List.map_map]
  have e : ((fun v : Value => v.category) ∘ pm_tr g) = fun v => v.category := funext fun v => pm_tr_cat g v
  rw [e]
  exact h
section PMC
variable {d al : Nat} {M : pm_M} {pc : Nat} {ls st : List Value} {σ : pm_S} {Q : Option Value → pm_S → Prop}
variable {d1 a1 a2 : Nat} {M' : pm_M} {Q1 : Option Value → pm_S → Prop} {idx : Nat}
theorem pm_cont {p : Program} {l : Launch} {e : Env} {R : Room} {s : State} {m : MethodId} {args : Array Value} {below : List Frame} {meth : Method} {c : Code} {g : pm_G} {Z : State → Prop} {mc ms : Nat} {H : Heap} {locs : List Loc} {cells slots : Nat} {lr : Array Slot} {stk : List Value} {a : Array Value}
    (hr : va_Run p l e R s m args below meth c H locs cells slots a1 (700 * a1) (F0 m pc lr stk) (st.map (pm_tr g)) (pm_Qc g Q1 a) (fun q => g.2.2.2.2.1 ≤ q)) (hF : pm_Fx d M Q p l e R s m args below meth c g Z mc ms) (hV : pm_Vr al M σ ls g mc ms H locs cells slots lr) (hal : a1 + a2 ≤ al)
    (k : ∀ r τ, Q1 r τ → PW d a2 M (pc + 3) ls (r.toList ++ st) τ Q) : W p l e R s m args below meth c H locs cells slots Z (F0 m pc lr stk) := by
  intro T hT X
  obtain ⟨v, st₀, t, T', L, h0, X', hL, e1, e2, ⟨r, τ, hq, hv, hRl⟩, stp⟩ := hr T hT X
  have hv' : v = r.map (pm_tr g) := by injection hv
  subst hv'
  have hk := k r τ hq p l e R s m args below meth c g Z mc ms T'.heap (locs ++ L) (cells + a1) (slots + 700 * a1) lr hF ⟨by have := hV.1; omega, by have := hV.2.1; rw [Nat.add_assoc, ← Nat.mul_add]; exact Nat.le_trans (Nat.add_le_add_left (Nat.mul_le_mul_left 700 hal) _) this, by rw [e1]; exact hRl, fun q hq => by
    rcases List.mem_append.mp hq with h | h
    · exact hV.2.2.2.1 q h
    · exact hL q h, hV.2.2.2.2⟩
  rw [pm_tr_list] at hk
  obtain ⟨t2, b1, b2⟩ := hk T' rfl X'
  exact ⟨t2, stp t2 b1, b2⟩
theorem pm_hR {R : Room} (hd : d1 + 1 ≤ d) (hr1 : d ≤ R.frames) (hr2 : 100 * d ≤ R.locals) {n : Nat} (hn : n ≤ 80) : (pm_rm d1 a1).frames + 1 ≤ R.frames ∧ 8 + (n + 11) + (pm_rm d1 a1).locals ≤ R.locals := by
  refine ⟨Nat.le_trans hd hr1, Nat.le_trans ?_ hr2⟩
  show 8 + (n + 11) + 100 * d1 ≤ 100 * d
  omega
theorem pm_ft {ms mc R1 R2 x y : Nat} (h1 : x + al ≤ mc) (h2 : y + 700 * al ≤ ms) (h3 : mc ≤ R1) (h4 : ms ≤ R2) (hal : a1 + a2 ≤ al) : x + a1 ≤ R1 ∧ y + 700 * a1 ≤ R2 := by
  refine ⟨by omega, Nat.le_trans (Nat.le_trans (Nat.add_le_add_left (Nat.mul_le_mul_left 700 (Nat.le_trans (Nat.le_add_right a1 a2) hal)) _) h2) h4⟩
/-- invokestatic -/
theorem pw_callS {n : Nat} (av : List Value) (hd : decode M.2.1 pc = .ok (.invokestatic idx, 3)) (hm : pm_mt M' n) (hs : Cond.static M'.1 ∈ pm_T) (hl : Cond.methodLink M.1.cls idx M'.1 ∈ pm_T) (hn : av.length = n) (hlen : (pm_fl_ av).length ≤ M'.2.2.1) (hr : (st.map fun v => v.category).sum ≤ 8) (hdd : d1 + 1 ≤ d) (hal : a1 + a2 ≤ al)
    (h1 : PM d1 a1 M' av σ Q1) (k : ∀ r τ, Q1 r τ → PW d a2 M (pc + 3) ls (r.toList ++ st) τ Q) : PW d al M pc ls (av.reverse ++ st) σ Q := by
  intro p l e R s m args below meth c g Z mc ms H locs cells slots lr hF hV
  obtain ⟨m1, m2, m3, m4, m5, m6⟩ := hm
  have hts := hF.1.2.2.2.2.2.2.1
  rw [List.map_append, List.map_reverse]
  refine pm_cont (va_runS (As := av.map (pm_tr g)) (Ts := pm_T) (own := M.1.cls) (n := n) ⟨hF.1.1, hF.1.2.1, hF.1.2.2.2.2.1, hF.1.2.2.2.2.2.1, hts⟩ (pm_met m1 hlen h1 l g hF.2.1) ⟨callB_of n hts (pm_good m2) rfl rfl rfl (hts _ m3) (hts _ hl) ⟨m4.1, m4.2, m5⟩ (pm_hR hdd hF.2.2.1 hF.2.2.2.1 m6), hts _ hs⟩ ⟨pm_blind g av σ, fun U hU hW => ⟨rfl, hF.1.2.2.2.2.2.2.2.2.warm hW, by rw [hU]; exact hV.2.2.1⟩⟩ rfl (by rw [List.length_map]; exact hn) (by rw [hV.2.2.2.2.1]) rfl (pm_roomw g hr) hd (pm_ft hV.1 hV.2.1 hF.2.2.2.2.1 hF.2.2.2.2.2.1 hal)) hF hV hal k
/-- invokevirtual -/
theorem pw_callV {n a : Nat} (av : List Value) (hd : decode M.2.1 pc = .ok (.invokevirtual idx, 3)) (hm : pm_mt M' n) (hi : pm_iv M') (hl : Cond.methodLink M.1.cls idx M'.1 ∈ pm_T) (hn : av.length = n) (hlen : (pm_fl_ (.ref a :: av)).length ≤ M'.2.2.1) (hr : (st.map fun v => v.category).sum ≤ 8) (hdd : d1 + 1 ≤ d) (hal : a1 + a2 ≤ al) (ha : 0 < a)
    (hrecv : ∀ (g : pm_G) (s : State) (H : Heap), pm_K g s → pm_Rl g σ H → ∃ cellB : Cell, H[g.1 a]? = some cellB ∧ cellB.vm.isStatics = false ∧ s.vm.findClass M'.1.cls = some cellB.cls)
    (h1 : PM d1 a1 M' (.ref a :: av) σ Q1) (k : ∀ r τ, Q1 r τ → PW d a2 M (pc + 3) ls (r.toList ++ st) τ Q) : PW d al M pc ls (av.reverse ++ .ref a :: st) σ Q := by
  intro p l e R s m args below meth c g Z mc ms H locs cells slots lr hF hV
  obtain ⟨m1, m2, m3, m4, m5, m6⟩ := hm
  have hts := hF.1.2.2.2.2.2.2.1
  rw [List.map_append, List.map_reverse, List.map_cons, pm_tr_ref ha]
  have e1 : ((Value.ref a :: av).map (pm_tr g)) = Value.ref (g.1 a) :: av.map (pm_tr g) := by rw [List.map_cons, pm_tr_ref ha]
  refine pm_cont (va_runV (As := av.map (pm_tr g)) (Ts := pm_T) (own := M.1.cls) (C := M'.1.cls) (n := n) (b := g.1 a) ⟨hF.1.1, hF.1.2.1, hF.1.2.2.2.2.1, hF.1.2.2.2.2.2.1, hts⟩ (pm_met m1 hlen h1 l g hF.2.1) ⟨callB_of n hts (pm_good m2) rfl rfl rfl (hts _ m3) (hts _ hl) ⟨m4.1, m4.2, m5⟩ (pm_hR hdd hF.2.2.1 hF.2.2.2.1 m6), hts _ hi.1, hts _ hi.2⟩ ⟨pm_blind g _ σ, hrecv g s H hF.1.2.2.2.2.2.2.2.2 hV.2.2.1, fun U hU hW => ⟨by rw [e1], hF.1.2.2.2.2.2.2.2.2.warm hW, by rw [hU]; exact hV.2.2.1⟩⟩ rfl (by rw [List.length_map]; exact hn) (by rw [hV.2.2.2.2.1]) rfl (pm_roomw g hr) hd (pm_ft hV.1 hV.2.1 hF.2.2.2.2.1 hF.2.2.2.2.2.1 hal)) hF hV hal k
theorem pm_rcv {a t : Nat} {q : vw_C} (ha : pm_is σ a t) (hq : pm_cl[t]? = some q) : ∀ (g : pm_G) (s : State) (H : Heap), pm_K g s → pm_Rl g σ H → ∃ cellB : Cell, H[g.1 a]? = some cellB ∧ cellB.vm.isStatics = false ∧ s.vm.findClass q.1 = some cellB.cls := by
  intro g s H hK hR
  obtain ⟨cell, c1, c2, c3, c4, c5, c6, c7⟩ := hR.2.2.1 a ha.1 ha.2.1
  have h6 := pm_old hR ha (Or.inl (pm_cls hq).1)
  refine ⟨cell, c1, c3, ?_⟩
  rw [c2, ha.2.2]
  unfold pm_gc
  rw [if_neg (by omega)]
  exact (hK.1.1.1 t q hq).2.1
/-- invokespecial of a constructor -/
theorem pw_callI {n a : Nat} (av : List Value) (hd : decode M.2.1 pc = .ok (.invokespecial idx, 3)) (hm : pm_mt M' n) (hv : M'.2.2.2 = none) (hi : Cond.instanceMethod M'.1 ∈ pm_T) (hin : M'.1.name = "<init>") (hl : Cond.methodLink M.1.cls idx M'.1 ∈ pm_T) (hn : av.length = n) (hlen : (pm_fl_ (.ref a :: av)).length ≤ M'.2.2.1) (hr : (st.map fun v => v.category).sum ≤ 8) (hdd : d1 + 1 ≤ d) (hal : a1 + a2 ≤ al) (ha : 0 < a)
    (h1 : PM d1 a1 M' (.ref a :: av) σ Q1) (k : ∀ r τ, Q1 r τ → PW d a2 M (pc + 3) ls (r.toList ++ st) τ Q) : PW d al M pc ls (av.reverse ++ .ref a :: st) σ Q := by
  intro p l e R s m args below meth c g Z mc ms H locs cells slots lr hF hV
  obtain ⟨m1, m2, m3, m4, m5, m6⟩ := hm
  have hts := hF.1.2.2.2.2.2.2.1
  rw [List.map_append, List.map_reverse, List.map_cons, pm_tr_ref ha]
  have e1 : ((Value.ref a :: av).map (pm_tr g)) = Value.ref (g.1 a) :: av.map (pm_tr g) := by rw [List.map_cons, pm_tr_ref ha]
  refine pm_cont (va_runI (As := av.map (pm_tr g)) (Ts := pm_T) (own := M.1.cls) (n := n) (b := g.1 a) ⟨hF.1.1, hF.1.2.1, hF.1.2.2.2.2.1, hF.1.2.2.2.2.2.1, hts⟩ (pm_met m1 hlen h1 l g hF.2.1) ⟨hv ▸ callB_of (ret := M'.2.2.2) n hts (pm_good m2) rfl rfl rfl (hts _ m3) (hts _ hl) ⟨m4.1, m4.2, m5⟩ (pm_hR hdd hF.2.2.1 hF.2.2.2.1 m6), hin, hts _ hi⟩ ⟨pm_blind g _ σ, fun U hU hW => ⟨by rw [e1], hF.1.2.2.2.2.2.2.2.2.warm hW, by rw [hU]; exact hV.2.2.1⟩⟩ rfl (by rw [List.length_map]; exact hn) (by rw [hV.2.2.2.2.1]) rfl (pm_roomw g hr) hd (pm_ft hV.1 hV.2.1 hF.2.2.2.2.1 hF.2.2.2.2.2.1 hal)) hF hV hal k
/-- invokespecial of a nest mate's private constructor -/
theorem pw_callIN {n a : Nat} (av : List Value) {host : String} (hd : decode M.2.1 pc = .ok (.invokespecial idx, 3)) (hm : pm_mt M' n) (hv : M'.2.2.2 = none) (hi : Cond.instanceMethod M'.1 ∈ pm_T) (hin : M'.1.name = "<init>") (hl : (M.1.cls, idx, M'.1, host) ∈ pm_ne) (hn : av.length = n) (hlen : (pm_fl_ (.ref a :: av)).length ≤ M'.2.2.1) (hr : (st.map fun v => v.category).sum ≤ 8) (hdd : d1 + 1 ≤ d) (hal : a1 + a2 ≤ al) (ha : 0 < a)
    (h1 : PM d1 a1 M' (.ref a :: av) σ Q1) (k : ∀ r τ, Q1 r τ → PW d a2 M (pc + 3) ls (r.toList ++ st) τ Q) : PW d al M pc ls (av.reverse ++ .ref a :: st) σ Q := by
  intro p l e R s m args below meth c g Z mc ms H locs cells slots lr hF hV
  obtain ⟨m1, m2, m3, m4, m5, m6⟩ := hm
  have hts := hF.1.2.2.2.2.2.2.1
  have hnest := hF.1.2.2.2.2.2.2.2.2.2.2.1.1 _ hl
  rw [List.map_append, List.map_reverse, List.map_cons, pm_tr_ref ha]
  have e1 : ((Value.ref a :: av).map (pm_tr g)) = Value.ref (g.1 a) :: av.map (pm_tr g) := by rw [List.map_cons, pm_tr_ref ha]
  refine pm_cont (va_runIN (As := av.map (pm_tr g)) (Ts := pm_T) (own := M.1.cls) (host := host) (n := n) (b := g.1 a) ⟨hF.1.1, hF.1.2.1, hF.1.2.2.2.2.1, hF.1.2.2.2.2.2.1, hts⟩ (pm_met m1 hlen h1 l g hF.2.1) ⟨hv ▸ va_cnB (ret := M'.2.2.2) n hts (pm_good m2) rfl rfl rfl hnest (hts _ m3) ⟨m4.1, m4.2, m5⟩ (pm_hR hdd hF.2.2.1 hF.2.2.2.1 m6), hin, hts _ hi⟩ ⟨pm_blind g _ σ, fun U hU hW => ⟨by rw [e1], hF.1.2.2.2.2.2.2.2.2.warm hW, by rw [hU]; exact hV.2.2.1⟩⟩ rfl (by rw [List.length_map]; exact hn) (by rw [hV.2.2.2.2.1]) rfl (pm_roomw g hr) hd (pm_ft hV.1 hV.2.1 hF.2.2.2.2.1 hF.2.2.2.2.2.1 hal)) hF hV hal k
/-- Object's constructor -/
theorem pw_obj {a : Nat} (hd : decode M.2.1 pc = .ok (.invokespecial idx, 3)) (hl : Cond.methodLink M.1.cls idx Lib.objectInit ∈ pm_T) (hi : Cond.instanceMethod Lib.objectInit ∈ pm_T) (hc : Cond.code Lib.objectInit ⟨#[0xb1]⟩ 1 none ∈ pm_T) (ha : 0 < a) (hdd : 1 ≤ d) (hr : (st.map fun v => v.category).sum ≤ 8) (k : PW d al M (pc + 3) ls st σ Q) : PW d al M pc ls (.ref a :: st) σ Q := by
  intro p l e R s m args below meth c g Z mc ms H locs cells slots lr hF hV
  have hts := hF.1.2.2.2.2.2.2.1
  rw [List.map_cons, pm_tr_ref ha]
  exact W.objInit hF.1.1 hF.1.2.1 hF.1.2.2.2.2.2.1 (hts _ hl) (hts _ hi) (hts _ hc) rfl (by rw [hV.2.2.2.2.1, hF.1.2.2.2.2.1]) rfl hd (Nat.le_trans hdd hF.2.2.1) (by
    have h1 := pm_roomw g (m := m) (pc := pc) (lr := lr) (stk := Value.ref (g.1 a) :: st.map (pm_tr g)) hr
    have h2 := hF.2.2.2.1
    omega) (k p l e R s m args below meth c g Z mc ms H locs cells slots lr hF hV)
end PMC
/-! rows by the number of arguments -/
section PMC2
variable {d al : Nat} {M : pm_M} {pc : Nat} {ls st : List Value} {σ : pm_S} {Q : Option Value → pm_S → Prop}
variable {d1 a1 a2 : Nat} {M' : pm_M} {Q1 : Option Value → pm_S → Prop} {idx : Nat}
theorem pw_cV0 {a t : Nat} {q : vw_C}  (hd : decode M.2.1 pc = .ok (.invokevirtual idx, 3)) (hm : pm_mt M' 0) (hi : pm_iv M') (hl : Cond.methodLink M.1.cls idx M'.1 ∈ pm_T) (hlen : (pm_fl_ [.ref a]).length ≤ M'.2.2.1) (hr : (st.map fun v => v.category).sum ≤ 8) (hdd : d1 + 1 ≤ d) (hal : a1 + a2 ≤ al) (ha : pm_is σ a t) (hq : pm_cl[t]? = some q) (hc : q.1 = M'.1.cls) (h1 : PM d1 a1 M' [.ref a] σ Q1) (k : ∀ r τ, Q1 r τ → PW d a2 M (pc + 3) ls (r.toList ++ st) τ Q) : PW d al M pc ls (.ref a :: st) σ Q :=
  pw_callV [] hd hm hi hl rfl hlen hr hdd hal ha.1 (hc ▸ pm_rcv ha hq) h1 k
theorem pw_cI0 {a : Nat}  (hd : decode M.2.1 pc = .ok (.invokespecial idx, 3)) (hm : pm_mt M' 0) (hv : M'.2.2.2 = none) (hi : Cond.instanceMethod M'.1 ∈ pm_T) (hin : M'.1.name = "<init>") (hl : Cond.methodLink M.1.cls idx M'.1 ∈ pm_T) (hlen : (pm_fl_ [.ref a]).length ≤ M'.2.2.1) (hr : (st.map fun v => v.category).sum ≤ 8) (hdd : d1 + 1 ≤ d) (hal : a1 + a2 ≤ al) (ha : 0 < a) (h1 : PM d1 a1 M' [.ref a] σ Q1) (k : ∀ r τ, Q1 r τ → PW d a2 M (pc + 3) ls (r.toList ++ st) τ Q) : PW d al M pc ls (.ref a :: st) σ Q :=
  pw_callI [] hd hm hv hi hin hl rfl hlen hr hdd hal ha h1 k
theorem pw_cS1 {x1 : Value} (hd : decode M.2.1 pc = .ok (.invokestatic idx, 3)) (hm : pm_mt M' 1) (hs : Cond.static M'.1 ∈ pm_T) (hl : Cond.methodLink M.1.cls idx M'.1 ∈ pm_T) (hlen : (pm_fl_ [x1]).length ≤ M'.2.2.1) (hr : (st.map fun v => v.category).sum ≤ 8) (hdd : d1 + 1 ≤ d) (hal : a1 + a2 ≤ al) (h1 : PM d1 a1 M' [x1] σ Q1) (k : ∀ r τ, Q1 r τ → PW d a2 M (pc + 3) ls (r.toList ++ st) τ Q) : PW d al M pc ls (x1 :: st) σ Q :=
  pw_callS [x1] hd hm hs hl rfl hlen hr hdd hal h1 k
theorem pw_cV1 {a t : Nat} {q : vw_C} {x1 : Value} (hd : decode M.2.1 pc = .ok (.invokevirtual idx, 3)) (hm : pm_mt M' 1) (hi : pm_iv M') (hl : Cond.methodLink M.1.cls idx M'.1 ∈ pm_T) (hlen : (pm_fl_ [.ref a, x1]).length ≤ M'.2.2.1) (hr : (st.map fun v => v.category).sum ≤ 8) (hdd : d1 + 1 ≤ d) (hal : a1 + a2 ≤ al) (ha : pm_is σ a t) (hq : pm_cl[t]? = some q) (hc : q.1 = M'.1.cls) (h1 : PM d1 a1 M' [.ref a, x1] σ Q1) (k : ∀ r τ, Q1 r τ → PW d a2 M (pc + 3) ls (r.toList ++ st) τ Q) : PW d al M pc ls (x1 :: .ref a :: st) σ Q :=
  pw_callV [x1] hd hm hi hl rfl hlen hr hdd hal ha.1 (hc ▸ pm_rcv ha hq) h1 k
theorem pw_cI1 {a : Nat} {x1 : Value} (hd : decode M.2.1 pc = .ok (.invokespecial idx, 3)) (hm : pm_mt M' 1) (hv : M'.2.2.2 = none) (hi : Cond.instanceMethod M'.1 ∈ pm_T) (hin : M'.1.name = "<init>") (hl : Cond.methodLink M.1.cls idx M'.1 ∈ pm_T) (hlen : (pm_fl_ [.ref a, x1]).length ≤ M'.2.2.1) (hr : (st.map fun v => v.category).sum ≤ 8) (hdd : d1 + 1 ≤ d) (hal : a1 + a2 ≤ al) (ha : 0 < a) (h1 : PM d1 a1 M' [.ref a, x1] σ Q1) (k : ∀ r τ, Q1 r τ → PW d a2 M (pc + 3) ls (r.toList ++ st) τ Q) : PW d al M pc ls (x1 :: .ref a :: st) σ Q :=
  pw_callI [x1] hd hm hv hi hin hl rfl hlen hr hdd hal ha h1 k
theorem pw_cS2 {x1 x2 : Value} (hd : decode M.2.1 pc = .ok (.invokestatic idx, 3)) (hm : pm_mt M' 2) (hs : Cond.static M'.1 ∈ pm_T) (hl : Cond.methodLink M.1.cls idx M'.1 ∈ pm_T) (hlen : (pm_fl_ [x1, x2]).length ≤ M'.2.2.1) (hr : (st.map fun v => v.category).sum ≤ 8) (hdd : d1 + 1 ≤ d) (hal : a1 + a2 ≤ al) (h1 : PM d1 a1 M' [x1, x2] σ Q1) (k : ∀ r τ, Q1 r τ → PW d a2 M (pc + 3) ls (r.toList ++ st) τ Q) : PW d al M pc ls (x2 :: x1 :: st) σ Q :=
  pw_callS [x1, x2] hd hm hs hl rfl hlen hr hdd hal h1 k
theorem pw_cV2 {a t : Nat} {q : vw_C} {x1 x2 : Value} (hd : decode M.2.1 pc = .ok (.invokevirtual idx, 3)) (hm : pm_mt M' 2) (hi : pm_iv M') (hl : Cond.methodLink M.1.cls idx M'.1 ∈ pm_T) (hlen : (pm_fl_ [.ref a, x1, x2]).length ≤ M'.2.2.1) (hr : (st.map fun v => v.category).sum ≤ 8) (hdd : d1 + 1 ≤ d) (hal : a1 + a2 ≤ al) (ha : pm_is σ a t) (hq : pm_cl[t]? = some q) (hc : q.1 = M'.1.cls) (h1 : PM d1 a1 M' [.ref a, x1, x2] σ Q1) (k : ∀ r τ, Q1 r τ → PW d a2 M (pc + 3) ls (r.toList ++ st) τ Q) : PW d al M pc ls (x2 :: x1 :: .ref a :: st) σ Q :=
  pw_callV [x1, x2] hd hm hi hl rfl hlen hr hdd hal ha.1 (hc ▸ pm_rcv ha hq) h1 k
theorem pw_cI2 {a : Nat} {x1 x2 : Value} (hd : decode M.2.1 pc = .ok (.invokespecial idx, 3)) (hm : pm_mt M' 2) (hv : M'.2.2.2 = none) (hi : Cond.instanceMethod M'.1 ∈ pm_T) (hin : M'.1.name = "<init>") (hl : Cond.methodLink M.1.cls idx M'.1 ∈ pm_T) (hlen : (pm_fl_ [.ref a, x1, x2]).length ≤ M'.2.2.1) (hr : (st.map fun v => v.category).sum ≤ 8) (hdd : d1 + 1 ≤ d) (hal : a1 + a2 ≤ al) (ha : 0 < a) (h1 : PM d1 a1 M' [.ref a, x1, x2] σ Q1) (k : ∀ r τ, Q1 r τ → PW d a2 M (pc + 3) ls (r.toList ++ st) τ Q) : PW d al M pc ls (x2 :: x1 :: .ref a :: st) σ Q :=
  pw_callI [x1, x2] hd hm hv hi hin hl rfl hlen hr hdd hal ha h1 k
theorem pw_cS3 {x1 x2 x3 : Value} (hd : decode M.2.1 pc = .ok (.invokestatic idx, 3)) (hm : pm_mt M' 3) (hs : Cond.static M'.1 ∈ pm_T) (hl : Cond.methodLink M.1.cls idx M'.1 ∈ pm_T) (hlen : (pm_fl_ [x1, x2, x3]).length ≤ M'.2.2.1) (hr : (st.map fun v => v.category).sum ≤ 8) (hdd : d1 + 1 ≤ d) (hal : a1 + a2 ≤ al) (h1 : PM d1 a1 M' [x1, x2, x3] σ Q1) (k : ∀ r τ, Q1 r τ → PW d a2 M (pc + 3) ls (r.toList ++ st) τ Q) : PW d al M pc ls (x3 :: x2 :: x1 :: st) σ Q :=
  pw_callS [x1, x2, x3] hd hm hs hl rfl hlen hr hdd hal h1 k
theorem pw_cV3 {a t : Nat} {q : vw_C} {x1 x2 x3 : Value} (hd : decode M.2.1 pc = .ok (.invokevirtual idx, 3)) (hm : pm_mt M' 3) (hi : pm_iv M') (hl : Cond.methodLink M.1.cls idx M'.1 ∈ pm_T) (hlen : (pm_fl_ [.ref a, x1, x2, x3]).length ≤ M'.2.2.1) (hr : (st.map fun v => v.category).sum ≤ 8) (hdd : d1 + 1 ≤ d) (hal : a1 + a2 ≤ al) (ha : pm_is σ a t) (hq : pm_cl[t]? = some q) (hc : q.1 = M'.1.cls) (h1 : PM d1 a1 M' [.ref a, x1, x2, x3] σ Q1) (k : ∀ r τ, Q1 r τ → PW d a2 M (pc + 3) ls (r.toList ++ st) τ Q) : PW d al M pc ls (x3 :: x2 :: x1 :: .ref a :: st) σ Q :=
  pw_callV [x1, x2, x3] hd hm hi hl rfl hlen hr hdd hal ha.1 (hc ▸ pm_rcv ha hq) h1 k
theorem pw_cI3 {a : Nat} {x1 x2 x3 : Value} (hd : decode M.2.1 pc = .ok (.invokespecial idx, 3)) (hm : pm_mt M' 3) (hv : M'.2.2.2 = none) (hi : Cond.instanceMethod M'.1 ∈ pm_T) (hin : M'.1.name = "<init>") (hl : Cond.methodLink M.1.cls idx M'.1 ∈ pm_T) (hlen : (pm_fl_ [.ref a, x1, x2, x3]).length ≤ M'.2.2.1) (hr : (st.map fun v => v.category).sum ≤ 8) (hdd : d1 + 1 ≤ d) (hal : a1 + a2 ≤ al) (ha : 0 < a) (h1 : PM d1 a1 M' [.ref a, x1, x2, x3] σ Q1) (k : ∀ r τ, Q1 r τ → PW d a2 M (pc + 3) ls (r.toList ++ st) τ Q) : PW d al M pc ls (x3 :: x2 :: x1 :: .ref a :: st) σ Q :=
  pw_callI [x1, x2, x3] hd hm hv hi hin hl rfl hlen hr hdd hal ha h1 k
theorem pw_cS4 {x1 x2 x3 x4 : Value} (hd : decode M.2.1 pc = .ok (.invokestatic idx, 3)) (hm : pm_mt M' 4) (hs : Cond.static M'.1 ∈ pm_T) (hl : Cond.methodLink M.1.cls idx M'.1 ∈ pm_T) (hlen : (pm_fl_ [x1, x2, x3, x4]).length ≤ M'.2.2.1) (hr : (st.map fun v => v.category).sum ≤ 8) (hdd : d1 + 1 ≤ d) (hal : a1 + a2 ≤ al) (h1 : PM d1 a1 M' [x1, x2, x3, x4] σ Q1) (k : ∀ r τ, Q1 r τ → PW d a2 M (pc + 3) ls (r.toList ++ st) τ Q) : PW d al M pc ls (x4 :: x3 :: x2 :: x1 :: st) σ Q :=
  pw_callS [x1, x2, x3, x4] hd hm hs hl rfl hlen hr hdd hal h1 k
theorem pw_cV4 {a t : Nat} {q : vw_C} {x1 x2 x3 x4 : Value} (hd : decode M.2.1 pc = .ok (.invokevirtual idx, 3)) (hm : pm_mt M' 4) (hi : pm_iv M') (hl : Cond.methodLink M.1.cls idx M'.1 ∈ pm_T) (hlen : (pm_fl_ [.ref a, x1, x2, x3, x4]).length ≤ M'.2.2.1) (hr : (st.map fun v => v.category).sum ≤ 8) (hdd : d1 + 1 ≤ d) (hal : a1 + a2 ≤ al) (ha : pm_is σ a t) (hq : pm_cl[t]? = some q) (hc : q.1 = M'.1.cls) (h1 : PM d1 a1 M' [.ref a, x1, x2, x3, x4] σ Q1) (k : ∀ r τ, Q1 r τ → PW d a2 M (pc + 3) ls (r.toList ++ st) τ Q) : PW d al M pc ls (x4 :: x3 :: x2 :: x1 :: .ref a :: st) σ Q :=
  pw_callV [x1, x2, x3, x4] hd hm hi hl rfl hlen hr hdd hal ha.1 (hc ▸ pm_rcv ha hq) h1 k
theorem pw_cI4 {a : Nat} {x1 x2 x3 x4 : Value} (hd : decode M.2.1 pc = .ok (.invokespecial idx, 3)) (hm : pm_mt M' 4) (hv : M'.2.2.2 = none) (hi : Cond.instanceMethod M'.1 ∈ pm_T) (hin : M'.1.name = "<init>") (hl : Cond.methodLink M.1.cls idx M'.1 ∈ pm_T) (hlen : (pm_fl_ [.ref a, x1, x2, x3, x4]).length ≤ M'.2.2.1) (hr : (st.map fun v => v.category).sum ≤ 8) (hdd : d1 + 1 ≤ d) (hal : a1 + a2 ≤ al) (ha : 0 < a) (h1 : PM d1 a1 M' [.ref a, x1, x2, x3, x4] σ Q1) (k : ∀ r τ, Q1 r τ → PW d a2 M (pc + 3) ls (r.toList ++ st) τ Q) : PW d al M pc ls (x4 :: x3 :: x2 :: x1 :: .ref a :: st) σ Q :=
  pw_callI [x1, x2, x3, x4] hd hm hv hi hin hl rfl hlen hr hdd hal ha h1 k
theorem pw_cS5 {x1 x2 x3 x4 x5 : Value} (hd : decode M.2.1 pc = .ok (.invokestatic idx, 3)) (hm : pm_mt M' 5) (hs : Cond.static M'.1 ∈ pm_T) (hl : Cond.methodLink M.1.cls idx M'.1 ∈ pm_T) (hlen : (pm_fl_ [x1, x2, x3, x4, x5]).length ≤ M'.2.2.1) (hr : (st.map fun v => v.category).sum ≤ 8) (hdd : d1 + 1 ≤ d) (hal : a1 + a2 ≤ al) (h1 : PM d1 a1 M' [x1, x2, x3, x4, x5] σ Q1) (k : ∀ r τ, Q1 r τ → PW d a2 M (pc + 3) ls (r.toList ++ st) τ Q) : PW d al M pc ls (x5 :: x4 :: x3 :: x2 :: x1 :: st) σ Q :=
  pw_callS [x1, x2, x3, x4, x5] hd hm hs hl rfl hlen hr hdd hal h1 k
theorem pw_cV5 {a t : Nat} {q : vw_C} {x1 x2 x3 x4 x5 : Value} (hd : decode M.2.1 pc = .ok (.invokevirtual idx, 3)) (hm : pm_mt M' 5) (hi : pm_iv M') (hl : Cond.methodLink M.1.cls idx M'.1 ∈ pm_T) (hlen : (pm_fl_ [.ref a, x1, x2, x3, x4, x5]).length ≤ M'.2.2.1) (hr : (st.map fun v => v.category).sum ≤ 8) (hdd : d1 + 1 ≤ d) (hal : a1 + a2 ≤ al) (ha : pm_is σ a t) (hq : pm_cl[t]? = some q) (hc : q.1 = M'.1.cls) (h1 : PM d1 a1 M' [.ref a, x1, x2, x3, x4, x5] σ Q1) (k : ∀ r τ, Q1 r τ → PW d a2 M (pc + 3) ls (r.toList ++ st) τ Q) : PW d al M pc ls (x5 :: x4 :: x3 :: x2 :: x1 :: .ref a :: st) σ Q :=
  pw_callV [x1, x2, x3, x4, x5] hd hm hi hl rfl hlen hr hdd hal ha.1 (hc ▸ pm_rcv ha hq) h1 k
theorem pw_cI5 {a : Nat} {x1 x2 x3 x4 x5 : Value} (hd : decode M.2.1 pc = .ok (.invokespecial idx, 3)) (hm : pm_mt M' 5) (hv : M'.2.2.2 = none) (hi : Cond.instanceMethod M'.1 ∈ pm_T) (hin : M'.1.name = "<init>") (hl : Cond.methodLink M.1.cls idx M'.1 ∈ pm_T) (hlen : (pm_fl_ [.ref a, x1, x2, x3, x4, x5]).length ≤ M'.2.2.1) (hr : (st.map fun v => v.category).sum ≤ 8) (hdd : d1 + 1 ≤ d) (hal : a1 + a2 ≤ al) (ha : 0 < a) (h1 : PM d1 a1 M' [.ref a, x1, x2, x3, x4, x5] σ Q1) (k : ∀ r τ, Q1 r τ → PW d a2 M (pc + 3) ls (r.toList ++ st) τ Q) : PW d al M pc ls (x5 :: x4 :: x3 :: x2 :: x1 :: .ref a :: st) σ Q :=
  pw_callI [x1, x2, x3, x4, x5] hd hm hv hi hin hl rfl hlen hr hdd hal ha h1 k
theorem pw_cS6 {x1 x2 x3 x4 x5 x6 : Value} (hd : decode M.2.1 pc = .ok (.invokestatic idx, 3)) (hm : pm_mt M' 6) (hs : Cond.static M'.1 ∈ pm_T) (hl : Cond.methodLink M.1.cls idx M'.1 ∈ pm_T) (hlen : (pm_fl_ [x1, x2, x3, x4, x5, x6]).length ≤ M'.2.2.1) (hr : (st.map fun v => v.category).sum ≤ 8) (hdd : d1 + 1 ≤ d) (hal : a1 + a2 ≤ al) (h1 : PM d1 a1 M' [x1, x2, x3, x4, x5, x6] σ Q1) (k : ∀ r τ, Q1 r τ → PW d a2 M (pc + 3) ls (r.toList ++ st) τ Q) : PW d al M pc ls (x6 :: x5 :: x4 :: x3 :: x2 :: x1 :: st) σ Q :=
  pw_callS [x1, x2, x3, x4, x5, x6] hd hm hs hl rfl hlen hr hdd hal h1 k
theorem pw_cV6 {a t : Nat} {q : vw_C} {x1 x2 x3 x4 x5 x6 : Value} (hd : decode M.2.1 pc = .ok (.invokevirtual idx, 3)) (hm : pm_mt M' 6) (hi : pm_iv M') (hl : Cond.methodLink M.1.cls idx M'.1 ∈ pm_T) (hlen : (pm_fl_ [.ref a, x1, x2, x3, x4, x5, x6]).length ≤ M'.2.2.1) (hr : (st.map fun v => v.category).sum ≤ 8) (hdd : d1 + 1 ≤ d) (hal : a1 + a2 ≤ al) (ha : pm_is σ a t) (hq : pm_cl[t]? = some q) (hc : q.1 = M'.1.cls) (h1 : PM d1 a1 M' [.ref a, x1, x2, x3, x4, x5, x6] σ Q1) (k : ∀ r τ, Q1 r τ → PW d a2 M (pc + 3) ls (r.toList ++ st) τ Q) : PW d al M pc ls (x6 :: x5 :: x4 :: x3 :: x2 :: x1 :: .ref a :: st) σ Q :=
  pw_callV [x1, x2, x3, x4, x5, x6] hd hm hi hl rfl hlen hr hdd hal ha.1 (hc ▸ pm_rcv ha hq) h1 k
theorem pw_cI6 {a : Nat} {x1 x2 x3 x4 x5 x6 : Value} (hd : decode M.2.1 pc = .ok (.invokespecial idx, 3)) (hm : pm_mt M' 6) (hv : M'.2.2.2 = none) (hi : Cond.instanceMethod M'.1 ∈ pm_T) (hin : M'.1.name = "<init>") (hl : Cond.methodLink M.1.cls idx M'.1 ∈ pm_T) (hlen : (pm_fl_ [.ref a, x1, x2, x3, x4, x5, x6]).length ≤ M'.2.2.1) (hr : (st.map fun v => v.category).sum ≤ 8) (hdd : d1 + 1 ≤ d) (hal : a1 + a2 ≤ al) (ha : 0 < a) (h1 : PM d1 a1 M' [.ref a, x1, x2, x3, x4, x5, x6] σ Q1) (k : ∀ r τ, Q1 r τ → PW d a2 M (pc + 3) ls (r.toList ++ st) τ Q) : PW d al M pc ls (x6 :: x5 :: x4 :: x3 :: x2 :: x1 :: .ref a :: st) σ Q :=
  pw_callI [x1, x2, x3, x4, x5, x6] hd hm hv hi hin hl rfl hlen hr hdd hal ha h1 k
theorem pw_cIN0 {a : Nat} {host : String} (hd : decode M.2.1 pc = .ok (.invokespecial idx, 3)) (hm : pm_mt M' 0) (hv : M'.2.2.2 = none) (hi : Cond.instanceMethod M'.1 ∈ pm_T) (hin : M'.1.name = "<init>") (hl : (M.1.cls, idx, M'.1, host) ∈ pm_ne) (hlen : (pm_fl_ [.ref a]).length ≤ M'.2.2.1) (hr : (st.map fun v => v.category).sum ≤ 8) (hdd : d1 + 1 ≤ d) (hal : a1 + a2 ≤ al) (ha : 0 < a) (h1 : PM d1 a1 M' [.ref a] σ Q1) (k : ∀ r τ, Q1 r τ → PW d a2 M (pc + 3) ls (r.toList ++ st) τ Q) : PW d al M pc ls (.ref a :: st) σ Q :=
  pw_callIN [] hd hm hv hi hin hl rfl hlen hr hdd hal ha h1 k
end PMC2
end
section
def MX11_init : pm_M := (yX11_init, cX11_init, 1, none)
theorem mtX11_init : pm_mt MX11_init 0 := ⟨by decide, pm_T_in (List.mem_of_getElem? (i := 76) (by decide +kernel)) rfl, pm_T_in (List.mem_of_getElem? (i := 52) (by decide +kernel)) rfl, ⟨by decide, by decide⟩, by decide +kernel, by decide⟩
theorem imX11_init : Cond.instanceMethod yX11_init ∈ pm_T := pm_T_in (List.mem_of_getElem? (i := 75) (by decide +kernel)) rfl
def MX6_init : pm_M := (yX6_init, cX6_init, 1, none)
theorem mtX6_init : pm_mt MX6_init 0 := ⟨by decide, pm_T_in (List.mem_of_getElem? (i := 84) (by decide +kernel)) rfl, pm_T_in (List.mem_of_getElem? (i := 53) (by decide +kernel)) rfl, ⟨by decide, by decide⟩, by decide +kernel, by decide⟩
theorem imX6_init : Cond.instanceMethod yX6_init ∈ pm_T := pm_T_in (List.mem_of_getElem? (i := 83) (by decide +kernel)) rfl
def MX3_init : pm_M := (yX3_init, cX3_init, 1, none)
theorem mtX3_init : pm_mt MX3_init 0 := ⟨by decide, pm_T_in (List.mem_of_getElem? (i := 99) (by decide +kernel)) rfl, pm_T_in (List.mem_of_getElem? (i := 54) (by decide +kernel)) rfl, ⟨by decide, by decide⟩, by decide +kernel, by decide⟩
theorem imX3_init : Cond.instanceMethod yX3_init ∈ pm_T := pm_T_in (List.mem_of_getElem? (i := 98) (by decide +kernel)) rfl
def MX7_init : pm_M := (yX7_init, cX7_init, 1, none)
theorem mtX7_init : pm_mt MX7_init 0 := ⟨by decide, pm_T_in (List.mem_of_getElem? (i := 118) (by decide +kernel)) rfl, pm_T_in (List.mem_of_getElem? (i := 55) (by decide +kernel)) rfl, ⟨by decide, by decide⟩, by decide +kernel, by decide⟩
theorem imX7_init : Cond.instanceMethod yX7_init ∈ pm_T := pm_T_in (List.mem_of_getElem? (i := 117) (by decide +kernel)) rfl
def MX4_init : pm_M := (yX4_init, cX4_init, 1, none)
theorem mtX4_init : pm_mt MX4_init 0 := ⟨by decide, pm_T_in (List.mem_of_getElem? (i := 132) (by decide +kernel)) rfl, pm_T_in (List.mem_of_getElem? (i := 56) (by decide +kernel)) rfl, ⟨by decide, by decide⟩, by decide +kernel, by decide⟩
theorem imX4_init : Cond.instanceMethod yX4_init ∈ pm_T := pm_T_in (List.mem_of_getElem? (i := 131) (by decide +kernel)) rfl
def MX5_init : pm_M := (yX5_init, cX5_init, 3, none)
theorem mtX5_init : pm_mt MX5_init 2 := ⟨by decide, pm_T_in (List.mem_of_getElem? (i := 157) (by decide +kernel)) rfl, pm_T_in (List.mem_of_getElem? (i := 57) (by decide +kernel)) rfl, ⟨by decide, by decide⟩, by decide +kernel, by decide⟩
theorem imX5_init : Cond.instanceMethod yX5_init ∈ pm_T := pm_T_in (List.mem_of_getElem? (i := 156) (by decide +kernel)) rfl
def MX10_init : pm_M := (yX10_init, cX10_init, 2, none)
theorem mtX10_init : pm_mt MX10_init 1 := ⟨by decide, pm_T_in (List.mem_of_getElem? (i := 163) (by decide +kernel)) rfl, pm_T_in (List.mem_of_getElem? (i := 58) (by decide +kernel)) rfl, ⟨by decide, by decide⟩, by decide +kernel, by decide⟩
theorem imX10_init : Cond.instanceMethod yX10_init ∈ pm_T := pm_T_in (List.mem_of_getElem? (i := 162) (by decide +kernel)) rfl
def MX8_init : pm_M := (yX8_init, cX8_init, 1, none)
theorem mtX8_init : pm_mt MX8_init 0 := ⟨by decide, pm_T_in (List.mem_of_getElem? (i := 206) (by decide +kernel)) rfl, pm_T_in (List.mem_of_getElem? (i := 59) (by decide +kernel)) rfl, ⟨by decide, by decide⟩, by decide +kernel, by decide⟩
theorem imX8_init : Cond.instanceMethod yX8_init ∈ pm_T := pm_T_in (List.mem_of_getElem? (i := 205) (by decide +kernel)) rfl
def MX2_init : pm_M := (yX2_init, cX2_init, 1, none)
theorem mtX2_init : pm_mt MX2_init 0 := ⟨by decide, pm_T_in (List.mem_of_getElem? (i := 217) (by decide +kernel)) rfl, pm_T_in (List.mem_of_getElem? (i := 60) (by decide +kernel)) rfl, ⟨by decide, by decide⟩, by decide +kernel, by decide⟩
theorem imX2_init : Cond.instanceMethod yX2_init ∈ pm_T := pm_T_in (List.mem_of_getElem? (i := 216) (by decide +kernel)) rfl
def MX1_init : pm_M := (yX1_init, cX1_init, 4, none)
theorem mtX1_init : pm_mt MX1_init 3 := ⟨by decide, pm_T_in (List.mem_of_getElem? (i := 227) (by decide +kernel)) rfl, pm_T_in (List.mem_of_getElem? (i := 61) (by decide +kernel)) rfl, ⟨by decide, by decide⟩, by decide +kernel, by decide⟩
theorem imX1_init : Cond.instanceMethod yX1_init ∈ pm_T := pm_T_in (List.mem_of_getElem? (i := 226) (by decide +kernel)) rfl
def MX11_thing : pm_M := (yX11_thing, cX11_thing, 7, (some .int))
theorem mtX11_thing : pm_mt MX11_thing 5 := ⟨by decide, pm_T_in (List.mem_of_getElem? (i := 313) (by decide +kernel)) rfl, pm_T_in (List.mem_of_getElem? (i := 52) (by decide +kernel)) rfl, ⟨by decide, by decide⟩, by decide +kernel, by decide⟩
theorem imX11_thing : Cond.instanceMethod yX11_thing ∈ pm_T := pm_T_in (List.mem_of_getElem? (i := 311) (by decide +kernel)) rfl
theorem ivX11_thing : pm_iv MX11_thing := ⟨imX11_thing, pm_T_in (List.mem_of_getElem? (i := 312) (by decide +kernel)) rfl⟩
def MX11_isWithin : pm_M := (yX11_isWithin, cX11_isWithin, 3, (some .boolean))
theorem mtX11_isWithin : pm_mt MX11_isWithin 3 := ⟨by decide, pm_T_in (List.mem_of_getElem? (i := 316) (by decide +kernel)) rfl, pm_T_in (List.mem_of_getElem? (i := 52) (by decide +kernel)) rfl, ⟨by decide, by decide⟩, by decide +kernel, by decide⟩
theorem stX11_isWithin : Cond.static yX11_isWithin ∈ pm_T := pm_T_in (List.mem_of_getElem? (i := 315) (by decide +kernel)) rfl
def MX11_isMark : pm_M := (yX11_isMark, cX11_isMark, 1, (some .boolean))
theorem mtX11_isMark : pm_mt MX11_isMark 1 := ⟨by decide, pm_T_in (List.mem_of_getElem? (i := 319) (by decide +kernel)) rfl, pm_T_in (List.mem_of_getElem? (i := 52) (by decide +kernel)) rfl, ⟨by decide, by decide⟩, by decide +kernel, by decide⟩
theorem stX11_isMark : Cond.static yX11_isMark ∈ pm_T := pm_T_in (List.mem_of_getElem? (i := 318) (by decide +kernel)) rfl
def MX11_isHouse : pm_M := (yX11_isHouse, cX11_isHouse, 1, (some .boolean))
theorem mtX11_isHouse : pm_mt MX11_isHouse 1 := ⟨by decide, pm_T_in (List.mem_of_getElem? (i := 322) (by decide +kernel)) rfl, pm_T_in (List.mem_of_getElem? (i := 52) (by decide +kernel)) rfl, ⟨by decide, by decide⟩, by decide +kernel, by decide⟩
theorem stX11_isHouse : Cond.static yX11_isHouse ∈ pm_T := pm_T_in (List.mem_of_getElem? (i := 321) (by decide +kernel)) rfl
def MX6_isFull : pm_M := (yX6_isFull, cX6_isFull, 1, (some .boolean))
theorem mtX6_isFull : pm_mt MX6_isFull 0 := ⟨by decide, pm_T_in (List.mem_of_getElem? (i := 326) (by decide +kernel)) rfl, pm_T_in (List.mem_of_getElem? (i := 53) (by decide +kernel)) rfl, ⟨by decide, by decide⟩, by decide +kernel, by decide⟩
theorem imX6_isFull : Cond.instanceMethod yX6_isFull ∈ pm_T := pm_T_in (List.mem_of_getElem? (i := 324) (by decide +kernel)) rfl
theorem ivX6_isFull : pm_iv MX6_isFull := ⟨imX6_isFull, pm_T_in (List.mem_of_getElem? (i := 325) (by decide +kernel)) rfl⟩
def MX0_init : pm_M := (yX0_init, cX0_init, 3, none)
theorem mtX0_init : pm_mt MX0_init 2 := ⟨by decide, pm_T_in (List.mem_of_getElem? (i := 331) (by decide +kernel)) rfl, pm_T_in (List.mem_of_getElem? (i := 63) (by decide +kernel)) rfl, ⟨by decide, by decide⟩, by decide +kernel, by decide⟩
theorem imX0_init : Cond.instanceMethod yX0_init ∈ pm_T := pm_T_in (List.mem_of_getElem? (i := 330) (by decide +kernel)) rfl
def MX6_count : pm_M := (yX6_count, cX6_count, 1, (some .int))
theorem mtX6_count : pm_mt MX6_count 0 := ⟨by decide, pm_T_in (List.mem_of_getElem? (i := 366) (by decide +kernel)) rfl, pm_T_in (List.mem_of_getElem? (i := 53) (by decide +kernel)) rfl, ⟨by decide, by decide⟩, by decide +kernel, by decide⟩
theorem imX6_count : Cond.instanceMethod yX6_count ∈ pm_T := pm_T_in (List.mem_of_getElem? (i := 364) (by decide +kernel)) rfl
theorem ivX6_count : pm_iv MX6_count := ⟨imX6_count, pm_T_in (List.mem_of_getElem? (i := 365) (by decide +kernel)) rfl⟩
def MX9_init : pm_M := (yX9_init, cX9_init, 7, none)
theorem mtX9_init : pm_mt MX9_init 6 := ⟨by decide, pm_T_in (List.mem_of_getElem? (i := 369) (by decide +kernel)) rfl, pm_T_in (List.mem_of_getElem? (i := 64) (by decide +kernel)) rfl, ⟨by decide, by decide⟩, by decide +kernel, by decide⟩
theorem imX9_init : Cond.instanceMethod yX9_init ∈ pm_T := pm_T_in (List.mem_of_getElem? (i := 368) (by decide +kernel)) rfl
def MX6_put : pm_M := (yX6_put, cX6_put, 2, (some .int))
theorem mtX6_put : pm_mt MX6_put 1 := ⟨by decide, pm_T_in (List.mem_of_getElem? (i := 418) (by decide +kernel)) rfl, pm_T_in (List.mem_of_getElem? (i := 53) (by decide +kernel)) rfl, ⟨by decide, by decide⟩, by decide +kernel, by decide⟩
theorem imX6_put : Cond.instanceMethod yX6_put ∈ pm_T := pm_T_in (List.mem_of_getElem? (i := 416) (by decide +kernel)) rfl
theorem ivX6_put : pm_iv MX6_put := ⟨imX6_put, pm_T_in (List.mem_of_getElem? (i := 417) (by decide +kernel)) rfl⟩
def MX11_copy : pm_M := (yX11_copy, cX11_copy, 5, (some .int))
theorem mtX11_copy : pm_mt MX11_copy 3 := ⟨by decide, pm_T_in (List.mem_of_getElem? (i := 423) (by decide +kernel)) rfl, pm_T_in (List.mem_of_getElem? (i := 52) (by decide +kernel)) rfl, ⟨by decide, by decide⟩, by decide +kernel, by decide⟩
theorem imX11_copy : Cond.instanceMethod yX11_copy ∈ pm_T := pm_T_in (List.mem_of_getElem? (i := 421) (by decide +kernel)) rfl
theorem ivX11_copy : pm_iv MX11_copy := ⟨imX11_copy, pm_T_in (List.mem_of_getElem? (i := 422) (by decide +kernel)) rfl⟩
def MX6_findThere : pm_M := (yX6_findThere, cX6_findThere, 3, (some (.object "TeaBook$Thing")))
theorem mtX6_findThere : pm_mt MX6_findThere 1 := ⟨by decide, pm_T_in (List.mem_of_getElem? (i := 427) (by decide +kernel)) rfl, pm_T_in (List.mem_of_getElem? (i := 53) (by decide +kernel)) rfl, ⟨by decide, by decide⟩, by decide +kernel, by decide⟩
theorem imX6_findThere : Cond.instanceMethod yX6_findThere ∈ pm_T := pm_T_in (List.mem_of_getElem? (i := 425) (by decide +kernel)) rfl
theorem ivX6_findThere : pm_iv MX6_findThere := ⟨imX6_findThere, pm_T_in (List.mem_of_getElem? (i := 426) (by decide +kernel)) rfl⟩
def MX6_find : pm_M := (yX6_find, cX6_find, 2, (some (.object "TeaBook$Thing")))
theorem mtX6_find : pm_mt MX6_find 1 := ⟨by decide, pm_T_in (List.mem_of_getElem? (i := 431) (by decide +kernel)) rfl, pm_T_in (List.mem_of_getElem? (i := 53) (by decide +kernel)) rfl, ⟨by decide, by decide⟩, by decide +kernel, by decide⟩
theorem imX6_find : Cond.instanceMethod yX6_find ∈ pm_T := pm_T_in (List.mem_of_getElem? (i := 429) (by decide +kernel)) rfl
theorem ivX6_find : pm_iv MX6_find := ⟨imX6_find, pm_T_in (List.mem_of_getElem? (i := 430) (by decide +kernel)) rfl⟩
def MX9_isThere : pm_M := (yX9_isThere, cX9_isThere, 1, (some .boolean))
theorem mtX9_isThere : pm_mt MX9_isThere 0 := ⟨by decide, pm_T_in (List.mem_of_getElem? (i := 435) (by decide +kernel)) rfl, pm_T_in (List.mem_of_getElem? (i := 64) (by decide +kernel)) rfl, ⟨by decide, by decide⟩, by decide +kernel, by decide⟩
theorem imX9_isThere : Cond.instanceMethod yX9_isThere ∈ pm_T := pm_T_in (List.mem_of_getElem? (i := 433) (by decide +kernel)) rfl
theorem ivX9_isThere : pm_iv MX9_isThere := ⟨imX9_isThere, pm_T_in (List.mem_of_getElem? (i := 434) (by decide +kernel)) rfl⟩
def MX9_init_ : pm_M := (yX9_init_, cX9_init_, 5, none)
theorem mtX9_init_ : pm_mt MX9_init_ 4 := ⟨by decide, pm_T_in (List.mem_of_getElem? (i := 438) (by decide +kernel)) rfl, pm_T_in (List.mem_of_getElem? (i := 64) (by decide +kernel)) rfl, ⟨by decide, by decide⟩, by decide +kernel, by decide⟩
theorem imX9_init_ : Cond.instanceMethod yX9_init_ ∈ pm_T := pm_T_in (List.mem_of_getElem? (i := 437) (by decide +kernel)) rfl
def MX11_pass : pm_M := (yX11_pass, cX11_pass, 4, (some .boolean))
theorem mtX11_pass : pm_mt MX11_pass 2 := ⟨by decide, pm_T_in (List.mem_of_getElem? (i := 442) (by decide +kernel)) rfl, pm_T_in (List.mem_of_getElem? (i := 52) (by decide +kernel)) rfl, ⟨by decide, by decide⟩, by decide +kernel, by decide⟩
theorem imX11_pass : Cond.instanceMethod yX11_pass ∈ pm_T := pm_T_in (List.mem_of_getElem? (i := 440) (by decide +kernel)) rfl
theorem ivX11_pass : pm_iv MX11_pass := ⟨imX11_pass, pm_T_in (List.mem_of_getElem? (i := 441) (by decide +kernel)) rfl⟩
def MX11_findFreeFor : pm_M := (yX11_findFreeFor, cX11_findFreeFor, 4, (some (.object "TeaBook$Thing")))
theorem mtX11_findFreeFor : pm_mt MX11_findFreeFor 2 := ⟨by decide, pm_T_in (List.mem_of_getElem? (i := 446) (by decide +kernel)) rfl, pm_T_in (List.mem_of_getElem? (i := 52) (by decide +kernel)) rfl, ⟨by decide, by decide⟩, by decide +kernel, by decide⟩
theorem imX11_findFreeFor : Cond.instanceMethod yX11_findFreeFor ∈ pm_T := pm_T_in (List.mem_of_getElem? (i := 445) (by decide +kernel)) rfl
theorem ivX11_findFreeFor : pm_iv MX11_findFreeFor := ⟨imX11_findFreeFor, pm_T_in (List.mem_of_getElem? (i := 0) (by decide +kernel)) rfl⟩
def MX9_isLent : pm_M := (yX9_isLent, cX9_isLent, 1, (some .boolean))
theorem mtX9_isLent : pm_mt MX9_isLent 0 := ⟨by decide, pm_T_in (List.mem_of_getElem? (i := 450) (by decide +kernel)) rfl, pm_T_in (List.mem_of_getElem? (i := 64) (by decide +kernel)) rfl, ⟨by decide, by decide⟩, by decide +kernel, by decide⟩
theorem imX9_isLent : Cond.instanceMethod yX9_isLent ∈ pm_T := pm_T_in (List.mem_of_getElem? (i := 448) (by decide +kernel)) rfl
theorem ivX9_isLent : pm_iv MX9_isLent := ⟨imX9_isLent, pm_T_in (List.mem_of_getElem? (i := 449) (by decide +kernel)) rfl⟩
def MX9_owner : pm_M := (yX9_owner, cX9_owner, 1, (some .int))
theorem mtX9_owner : pm_mt MX9_owner 0 := ⟨by decide, pm_T_in (List.mem_of_getElem? (i := 454) (by decide +kernel)) rfl, pm_T_in (List.mem_of_getElem? (i := 64) (by decide +kernel)) rfl, ⟨by decide, by decide⟩, by decide +kernel, by decide⟩
theorem imX9_owner : Cond.instanceMethod yX9_owner ∈ pm_T := pm_T_in (List.mem_of_getElem? (i := 452) (by decide +kernel)) rfl
theorem ivX9_owner : pm_iv MX9_owner := ⟨imX9_owner, pm_T_in (List.mem_of_getElem? (i := 453) (by decide +kernel)) rfl⟩
def MX11_spendAct : pm_M := (yX11_spendAct, cX11_spendAct, 1, (some .boolean))
theorem mtX11_spendAct : pm_mt MX11_spendAct 0 := ⟨by decide, pm_T_in (List.mem_of_getElem? (i := 458) (by decide +kernel)) rfl, pm_T_in (List.mem_of_getElem? (i := 52) (by decide +kernel)) rfl, ⟨by decide, by decide⟩, by decide +kernel, by decide⟩
theorem imX11_spendAct : Cond.instanceMethod yX11_spendAct ∈ pm_T := pm_T_in (List.mem_of_getElem? (i := 457) (by decide +kernel)) rfl
theorem ivX11_spendAct : pm_iv MX11_spendAct := ⟨imX11_spendAct, pm_T_in (List.mem_of_getElem? (i := 1) (by decide +kernel)) rfl⟩
def MX9_goTo : pm_M := (yX9_goTo, cX9_goTo, 3, none)
theorem mtX9_goTo : pm_mt MX9_goTo 2 := ⟨by decide, pm_T_in (List.mem_of_getElem? (i := 462) (by decide +kernel)) rfl, pm_T_in (List.mem_of_getElem? (i := 64) (by decide +kernel)) rfl, ⟨by decide, by decide⟩, by decide +kernel, by decide⟩
theorem imX9_goTo : Cond.instanceMethod yX9_goTo ∈ pm_T := pm_T_in (List.mem_of_getElem? (i := 460) (by decide +kernel)) rfl
theorem ivX9_goTo : pm_iv MX9_goTo := ⟨imX9_goTo, pm_T_in (List.mem_of_getElem? (i := 461) (by decide +kernel)) rfl⟩
def MX0_init_ : pm_M := (yX0_init_, cX0_init_, 7, none)
theorem mtX0_init_ : pm_mt MX0_init_ 6 := ⟨by decide, pm_T_in (List.mem_of_getElem? (i := 466) (by decide +kernel)) rfl, pm_T_in (List.mem_of_getElem? (i := 63) (by decide +kernel)) rfl, ⟨by decide, by decide⟩, by decide +kernel, by decide⟩
theorem imX0_init_ : Cond.instanceMethod yX0_init_ ∈ pm_T := pm_T_in (List.mem_of_getElem? (i := 465) (by decide +kernel)) rfl
def MX11_lend : pm_M := (yX11_lend, cX11_lend, 4, (some .boolean))
theorem mtX11_lend : pm_mt MX11_lend 2 := ⟨by decide, pm_T_in (List.mem_of_getElem? (i := 470) (by decide +kernel)) rfl, pm_T_in (List.mem_of_getElem? (i := 52) (by decide +kernel)) rfl, ⟨by decide, by decide⟩, by decide +kernel, by decide⟩
theorem imX11_lend : Cond.instanceMethod yX11_lend ∈ pm_T := pm_T_in (List.mem_of_getElem? (i := 468) (by decide +kernel)) rfl
theorem ivX11_lend : pm_iv MX11_lend := ⟨imX11_lend, pm_T_in (List.mem_of_getElem? (i := 469) (by decide +kernel)) rfl⟩
def MX9_stayWith : pm_M := (yX9_stayWith, cX9_stayWith, 3, none)
theorem mtX9_stayWith : pm_mt MX9_stayWith 2 := ⟨by decide, pm_T_in (List.mem_of_getElem? (i := 474) (by decide +kernel)) rfl, pm_T_in (List.mem_of_getElem? (i := 64) (by decide +kernel)) rfl, ⟨by decide, by decide⟩, by decide +kernel, by decide⟩
theorem imX9_stayWith : Cond.instanceMethod yX9_stayWith ∈ pm_T := pm_T_in (List.mem_of_getElem? (i := 472) (by decide +kernel)) rfl
theorem ivX9_stayWith : pm_iv MX9_stayWith := ⟨imX9_stayWith, pm_T_in (List.mem_of_getElem? (i := 473) (by decide +kernel)) rfl⟩
def MX11_back : pm_M := (yX11_back, cX11_back, 3, (some .boolean))
theorem mtX11_back : pm_mt MX11_back 1 := ⟨by decide, pm_T_in (List.mem_of_getElem? (i := 478) (by decide +kernel)) rfl, pm_T_in (List.mem_of_getElem? (i := 52) (by decide +kernel)) rfl, ⟨by decide, by decide⟩, by decide +kernel, by decide⟩
theorem imX11_back : Cond.instanceMethod yX11_back ∈ pm_T := pm_T_in (List.mem_of_getElem? (i := 476) (by decide +kernel)) rfl
theorem ivX11_back : pm_iv MX11_back := ⟨imX11_back, pm_T_in (List.mem_of_getElem? (i := 477) (by decide +kernel)) rfl⟩
def MX11_burn : pm_M := (yX11_burn, cX11_burn, 3, (some .boolean))
theorem mtX11_burn : pm_mt MX11_burn 1 := ⟨by decide, pm_T_in (List.mem_of_getElem? (i := 482) (by decide +kernel)) rfl, pm_T_in (List.mem_of_getElem? (i := 52) (by decide +kernel)) rfl, ⟨by decide, by decide⟩, by decide +kernel, by decide⟩
theorem imX11_burn : Cond.instanceMethod yX11_burn ∈ pm_T := pm_T_in (List.mem_of_getElem? (i := 480) (by decide +kernel)) rfl
theorem ivX11_burn : pm_iv MX11_burn := ⟨imX11_burn, pm_T_in (List.mem_of_getElem? (i := 481) (by decide +kernel)) rfl⟩
def MX9_vanish : pm_M := (yX9_vanish, cX9_vanish, 2, none)
theorem mtX9_vanish : pm_mt MX9_vanish 1 := ⟨by decide, pm_T_in (List.mem_of_getElem? (i := 486) (by decide +kernel)) rfl, pm_T_in (List.mem_of_getElem? (i := 64) (by decide +kernel)) rfl, ⟨by decide, by decide⟩, by decide +kernel, by decide⟩
theorem imX9_vanish : Cond.instanceMethod yX9_vanish ∈ pm_T := pm_T_in (List.mem_of_getElem? (i := 484) (by decide +kernel)) rfl
theorem ivX9_vanish : pm_iv MX9_vanish := ⟨imX9_vanish, pm_T_in (List.mem_of_getElem? (i := 485) (by decide +kernel)) rfl⟩
def MX11_days : pm_M := (yX11_days, cX11_days, 2, (some .int))
theorem mtX11_days : pm_mt MX11_days 1 := ⟨by decide, pm_T_in (List.mem_of_getElem? (i := 490) (by decide +kernel)) rfl, pm_T_in (List.mem_of_getElem? (i := 52) (by decide +kernel)) rfl, ⟨by decide, by decide⟩, by decide +kernel, by decide⟩
theorem imX11_days : Cond.instanceMethod yX11_days ∈ pm_T := pm_T_in (List.mem_of_getElem? (i := 488) (by decide +kernel)) rfl
theorem ivX11_days : pm_iv MX11_days := ⟨imX11_days, pm_T_in (List.mem_of_getElem? (i := 489) (by decide +kernel)) rfl⟩
def MX11_look : pm_M := (yX11_look, cX11_look, 2, (some .int))
theorem mtX11_look : pm_mt MX11_look 1 := ⟨by decide, pm_T_in (List.mem_of_getElem? (i := 494) (by decide +kernel)) rfl, pm_T_in (List.mem_of_getElem? (i := 52) (by decide +kernel)) rfl, ⟨by decide, by decide⟩, by decide +kernel, by decide⟩
theorem imX11_look : Cond.instanceMethod yX11_look ∈ pm_T := pm_T_in (List.mem_of_getElem? (i := 492) (by decide +kernel)) rfl
theorem ivX11_look : pm_iv MX11_look := ⟨imX11_look, pm_T_in (List.mem_of_getElem? (i := 493) (by decide +kernel)) rfl⟩
def MX6_countThere : pm_M := (yX6_countThere, cX6_countThere, 3, (some .int))
theorem mtX6_countThere : pm_mt MX6_countThere 0 := ⟨by decide, pm_T_in (List.mem_of_getElem? (i := 498) (by decide +kernel)) rfl, pm_T_in (List.mem_of_getElem? (i := 53) (by decide +kernel)) rfl, ⟨by decide, by decide⟩, by decide +kernel, by decide⟩
theorem imX6_countThere : Cond.instanceMethod yX6_countThere ∈ pm_T := pm_T_in (List.mem_of_getElem? (i := 496) (by decide +kernel)) rfl
theorem ivX6_countThere : pm_iv MX6_countThere := ⟨imX6_countThere, pm_T_in (List.mem_of_getElem? (i := 497) (by decide +kernel)) rfl⟩
def MX3_count : pm_M := (yX3_count, cX3_count, 1, (some .int))
theorem mtX3_count : pm_mt MX3_count 0 := ⟨by decide, pm_T_in (List.mem_of_getElem? (i := 503) (by decide +kernel)) rfl, pm_T_in (List.mem_of_getElem? (i := 54) (by decide +kernel)) rfl, ⟨by decide, by decide⟩, by decide +kernel, by decide⟩
theorem imX3_count : Cond.instanceMethod yX3_count ∈ pm_T := pm_T_in (List.mem_of_getElem? (i := 501) (by decide +kernel)) rfl
theorem ivX3_count : pm_iv MX3_count := ⟨imX3_count, pm_T_in (List.mem_of_getElem? (i := 502) (by decide +kernel)) rfl⟩
def MX4_count : pm_M := (yX4_count, cX4_count, 1, (some .int))
theorem mtX4_count : pm_mt MX4_count 0 := ⟨by decide, pm_T_in (List.mem_of_getElem? (i := 507) (by decide +kernel)) rfl, pm_T_in (List.mem_of_getElem? (i := 56) (by decide +kernel)) rfl, ⟨by decide, by decide⟩, by decide +kernel, by decide⟩
theorem imX4_count : Cond.instanceMethod yX4_count ∈ pm_T := pm_T_in (List.mem_of_getElem? (i := 505) (by decide +kernel)) rfl
theorem ivX4_count : pm_iv MX4_count := ⟨imX4_count, pm_T_in (List.mem_of_getElem? (i := 506) (by decide +kernel)) rfl⟩
def MX11_of : pm_M := (yX11_of, cX11_of, 4, (some .int))
theorem mtX11_of : pm_mt MX11_of 2 := ⟨by decide, pm_T_in (List.mem_of_getElem? (i := 511) (by decide +kernel)) rfl, pm_T_in (List.mem_of_getElem? (i := 52) (by decide +kernel)) rfl, ⟨by decide, by decide⟩, by decide +kernel, by decide⟩
theorem imX11_of : Cond.instanceMethod yX11_of ∈ pm_T := pm_T_in (List.mem_of_getElem? (i := 509) (by decide +kernel)) rfl
theorem ivX11_of : pm_iv MX11_of := ⟨imX11_of, pm_T_in (List.mem_of_getElem? (i := 510) (by decide +kernel)) rfl⟩
def MX6_isInDoubt : pm_M := (yX6_isInDoubt, cX6_isInDoubt, 4, (some .boolean))
theorem mtX6_isInDoubt : pm_mt MX6_isInDoubt 1 := ⟨by decide, pm_T_in (List.mem_of_getElem? (i := 517) (by decide +kernel)) rfl, pm_T_in (List.mem_of_getElem? (i := 53) (by decide +kernel)) rfl, ⟨by decide, by decide⟩, by decide +kernel, by decide⟩
theorem imX6_isInDoubt : Cond.instanceMethod yX6_isInDoubt ∈ pm_T := pm_T_in (List.mem_of_getElem? (i := 515) (by decide +kernel)) rfl
theorem ivX6_isInDoubt : pm_iv MX6_isInDoubt := ⟨imX6_isInDoubt, pm_T_in (List.mem_of_getElem? (i := 516) (by decide +kernel)) rfl⟩
def MX9_keeper : pm_M := (yX9_keeper, cX9_keeper, 1, (some .int))
theorem mtX9_keeper : pm_mt MX9_keeper 0 := ⟨by decide, pm_T_in (List.mem_of_getElem? (i := 521) (by decide +kernel)) rfl, pm_T_in (List.mem_of_getElem? (i := 64) (by decide +kernel)) rfl, ⟨by decide, by decide⟩, by decide +kernel, by decide⟩
theorem imX9_keeper : Cond.instanceMethod yX9_keeper ∈ pm_T := pm_T_in (List.mem_of_getElem? (i := 519) (by decide +kernel)) rfl
theorem ivX9_keeper : pm_iv MX9_keeper := ⟨imX9_keeper, pm_T_in (List.mem_of_getElem? (i := 520) (by decide +kernel)) rfl⟩
def MX11_held : pm_M := (yX11_held, cX11_held, 6, (some .int))
theorem mtX11_held : pm_mt MX11_held 3 := ⟨by decide, pm_T_in (List.mem_of_getElem? (i := 525) (by decide +kernel)) rfl, pm_T_in (List.mem_of_getElem? (i := 52) (by decide +kernel)) rfl, ⟨by decide, by decide⟩, by decide +kernel, by decide⟩
theorem imX11_held : Cond.instanceMethod yX11_held ∈ pm_T := pm_T_in (List.mem_of_getElem? (i := 523) (by decide +kernel)) rfl
theorem ivX11_held : pm_iv MX11_held := ⟨imX11_held, pm_T_in (List.mem_of_getElem? (i := 524) (by decide +kernel)) rfl⟩
def MX9_latestUpTo : pm_M := (yX9_latestUpTo, cX9_latestUpTo, 3, (some (.object "TeaBook$Act")))
theorem mtX9_latestUpTo : pm_mt MX9_latestUpTo 1 := ⟨by decide, pm_T_in (List.mem_of_getElem? (i := 529) (by decide +kernel)) rfl, pm_T_in (List.mem_of_getElem? (i := 64) (by decide +kernel)) rfl, ⟨by decide, by decide⟩, by decide +kernel, by decide⟩
theorem imX9_latestUpTo : Cond.instanceMethod yX9_latestUpTo ∈ pm_T := pm_T_in (List.mem_of_getElem? (i := 527) (by decide +kernel)) rfl
theorem ivX9_latestUpTo : pm_iv MX9_latestUpTo := ⟨imX9_latestUpTo, pm_T_in (List.mem_of_getElem? (i := 528) (by decide +kernel)) rfl⟩
def MX11_owners : pm_M := (yX11_owners, cX11_owners, 4, (some .int))
theorem mtX11_owners : pm_mt MX11_owners 2 := ⟨by decide, pm_T_in (List.mem_of_getElem? (i := 533) (by decide +kernel)) rfl, pm_T_in (List.mem_of_getElem? (i := 52) (by decide +kernel)) rfl, ⟨by decide, by decide⟩, by decide +kernel, by decide⟩
theorem imX11_owners : Cond.instanceMethod yX11_owners ∈ pm_T := pm_T_in (List.mem_of_getElem? (i := 531) (by decide +kernel)) rfl
theorem ivX11_owners : pm_iv MX11_owners := ⟨imX11_owners, pm_T_in (List.mem_of_getElem? (i := 532) (by decide +kernel)) rfl⟩
def MX9_countOwners : pm_M := (yX9_countOwners, cX9_countOwners, 1, (some .int))
theorem mtX9_countOwners : pm_mt MX9_countOwners 0 := ⟨by decide, pm_T_in (List.mem_of_getElem? (i := 537) (by decide +kernel)) rfl, pm_T_in (List.mem_of_getElem? (i := 64) (by decide +kernel)) rfl, ⟨by decide, by decide⟩, by decide +kernel, by decide⟩
theorem imX9_countOwners : Cond.instanceMethod yX9_countOwners ∈ pm_T := pm_T_in (List.mem_of_getElem? (i := 535) (by decide +kernel)) rfl
theorem ivX9_countOwners : pm_iv MX9_countOwners := ⟨imX9_countOwners, pm_T_in (List.mem_of_getElem? (i := 536) (by decide +kernel)) rfl⟩
def MX9_ownerAt : pm_M := (yX9_ownerAt, cX9_ownerAt, 3, (some .int))
theorem mtX9_ownerAt : pm_mt MX9_ownerAt 1 := ⟨by decide, pm_T_in (List.mem_of_getElem? (i := 541) (by decide +kernel)) rfl, pm_T_in (List.mem_of_getElem? (i := 64) (by decide +kernel)) rfl, ⟨by decide, by decide⟩, by decide +kernel, by decide⟩
theorem imX9_ownerAt : Cond.instanceMethod yX9_ownerAt ∈ pm_T := pm_T_in (List.mem_of_getElem? (i := 539) (by decide +kernel)) rfl
theorem ivX9_ownerAt : pm_iv MX9_ownerAt := ⟨imX9_ownerAt, pm_T_in (List.mem_of_getElem? (i := 540) (by decide +kernel)) rfl⟩
def MX11_gather : pm_M := (yX11_gather, cX11_gather, 5, (some .int))
theorem mtX11_gather : pm_mt MX11_gather 4 := ⟨by decide, pm_T_in (List.mem_of_getElem? (i := 545) (by decide +kernel)) rfl, pm_T_in (List.mem_of_getElem? (i := 52) (by decide +kernel)) rfl, ⟨by decide, by decide⟩, by decide +kernel, by decide⟩
theorem imX11_gather : Cond.instanceMethod yX11_gather ∈ pm_T := pm_T_in (List.mem_of_getElem? (i := 543) (by decide +kernel)) rfl
theorem ivX11_gather : pm_iv MX11_gather := ⟨imX11_gather, pm_T_in (List.mem_of_getElem? (i := 544) (by decide +kernel)) rfl⟩
def MX11_isSeason : pm_M := (yX11_isSeason, cX11_isSeason, 1, (some .boolean))
theorem mtX11_isSeason : pm_mt MX11_isSeason 1 := ⟨by decide, pm_T_in (List.mem_of_getElem? (i := 548) (by decide +kernel)) rfl, pm_T_in (List.mem_of_getElem? (i := 52) (by decide +kernel)) rfl, ⟨by decide, by decide⟩, by decide +kernel, by decide⟩
theorem stX11_isSeason : Cond.static yX11_isSeason ∈ pm_T := pm_T_in (List.mem_of_getElem? (i := 547) (by decide +kernel)) rfl
def MX11_isGuests : pm_M := (yX11_isGuests, cX11_isGuests, 1, (some .boolean))
theorem mtX11_isGuests : pm_mt MX11_isGuests 1 := ⟨by decide, pm_T_in (List.mem_of_getElem? (i := 551) (by decide +kernel)) rfl, pm_T_in (List.mem_of_getElem? (i := 52) (by decide +kernel)) rfl, ⟨by decide, by decide⟩, by decide +kernel, by decide⟩
theorem stX11_isGuests : Cond.static yX11_isGuests ∈ pm_T := pm_T_in (List.mem_of_getElem? (i := 550) (by decide +kernel)) rfl
def MX3_isFull : pm_M := (yX3_isFull, cX3_isFull, 1, (some .boolean))
theorem mtX3_isFull : pm_mt MX3_isFull 0 := ⟨by decide, pm_T_in (List.mem_of_getElem? (i := 555) (by decide +kernel)) rfl, pm_T_in (List.mem_of_getElem? (i := 54) (by decide +kernel)) rfl, ⟨by decide, by decide⟩, by decide +kernel, by decide⟩
theorem imX3_isFull : Cond.instanceMethod yX3_isFull ∈ pm_T := pm_T_in (List.mem_of_getElem? (i := 553) (by decide +kernel)) rfl
theorem ivX3_isFull : pm_iv MX3_isFull := ⟨imX3_isFull, pm_T_in (List.mem_of_getElem? (i := 554) (by decide +kernel)) rfl⟩
def MX8_read : pm_M := (yX8_read, cX8_read, 5, (some .boolean))
theorem mtX8_read : pm_mt MX8_read 2 := ⟨by decide, pm_T_in (List.mem_of_getElem? (i := 559) (by decide +kernel)) rfl, pm_T_in (List.mem_of_getElem? (i := 59) (by decide +kernel)) rfl, ⟨by decide, by decide⟩, by decide +kernel, by decide⟩
theorem imX8_read : Cond.instanceMethod yX8_read ∈ pm_T := pm_T_in (List.mem_of_getElem? (i := 557) (by decide +kernel)) rfl
theorem ivX8_read : pm_iv MX8_read := ⟨imX8_read, pm_T_in (List.mem_of_getElem? (i := 558) (by decide +kernel)) rfl⟩
def MX8_clear : pm_M := (yX8_clear, cX8_clear, 2, none)
theorem mtX8_clear : pm_mt MX8_clear 0 := ⟨by decide, pm_T_in (List.mem_of_getElem? (i := 563) (by decide +kernel)) rfl, pm_T_in (List.mem_of_getElem? (i := 59) (by decide +kernel)) rfl, ⟨by decide, by decide⟩, by decide +kernel, by decide⟩
theorem imX8_clear : Cond.instanceMethod yX8_clear ∈ pm_T := pm_T_in (List.mem_of_getElem? (i := 561) (by decide +kernel)) rfl
theorem ivX8_clear : pm_iv MX8_clear := ⟨imX8_clear, pm_T_in (List.mem_of_getElem? (i := 562) (by decide +kernel)) rfl⟩
def MX8_at : pm_M := (yX8_at, cX8_at, 2, (some (.object "TeaBook$Thing")))
theorem mtX8_at : pm_mt MX8_at 1 := ⟨by decide, pm_T_in (List.mem_of_getElem? (i := 569) (by decide +kernel)) rfl, pm_T_in (List.mem_of_getElem? (i := 59) (by decide +kernel)) rfl, ⟨by decide, by decide⟩, by decide +kernel, by decide⟩
theorem imX8_at : Cond.instanceMethod yX8_at ∈ pm_T := pm_T_in (List.mem_of_getElem? (i := 567) (by decide +kernel)) rfl
theorem ivX8_at : pm_iv MX8_at := ⟨imX8_at, pm_T_in (List.mem_of_getElem? (i := 568) (by decide +kernel)) rfl⟩
def MX8_lay : pm_M := (yX8_lay, cX8_lay, 3, none)
theorem mtX8_lay : pm_mt MX8_lay 2 := ⟨by decide, pm_T_in (List.mem_of_getElem? (i := 573) (by decide +kernel)) rfl, pm_T_in (List.mem_of_getElem? (i := 59) (by decide +kernel)) rfl, ⟨by decide, by decide⟩, by decide +kernel, by decide⟩
theorem imX8_lay : Cond.instanceMethod yX8_lay ∈ pm_T := pm_T_in (List.mem_of_getElem? (i := 571) (by decide +kernel)) rfl
theorem ivX8_lay : pm_iv MX8_lay := ⟨imX8_lay, pm_T_in (List.mem_of_getElem? (i := 572) (by decide +kernel)) rfl⟩
def MX8_isAllKeptBy : pm_M := (yX8_isAllKeptBy, cX8_isAllKeptBy, 4, (some .boolean))
theorem mtX8_isAllKeptBy : pm_mt MX8_isAllKeptBy 1 := ⟨by decide, pm_T_in (List.mem_of_getElem? (i := 577) (by decide +kernel)) rfl, pm_T_in (List.mem_of_getElem? (i := 59) (by decide +kernel)) rfl, ⟨by decide, by decide⟩, by decide +kernel, by decide⟩
theorem imX8_isAllKeptBy : Cond.instanceMethod yX8_isAllKeptBy ∈ pm_T := pm_T_in (List.mem_of_getElem? (i := 575) (by decide +kernel)) rfl
theorem ivX8_isAllKeptBy : pm_iv MX8_isAllKeptBy := ⟨imX8_isAllKeptBy, pm_T_in (List.mem_of_getElem? (i := 576) (by decide +kernel)) rfl⟩
def MX3_put : pm_M := (yX3_put, cX3_put, 6, (some .int))
theorem mtX3_put : pm_mt MX3_put 5 := ⟨by decide, pm_T_in (List.mem_of_getElem? (i := 583) (by decide +kernel)) rfl, pm_T_in (List.mem_of_getElem? (i := 54) (by decide +kernel)) rfl, ⟨by decide, by decide⟩, by decide +kernel, by decide⟩
theorem imX3_put : Cond.instanceMethod yX3_put ∈ pm_T := pm_T_in (List.mem_of_getElem? (i := 581) (by decide +kernel)) rfl
theorem ivX3_put : pm_iv MX3_put := ⟨imX3_put, pm_T_in (List.mem_of_getElem? (i := 582) (by decide +kernel)) rfl⟩
def MX8_bits : pm_M := (yX8_bits, cX8_bits, 4, (some .int))
theorem mtX8_bits : pm_mt MX8_bits 0 := ⟨by decide, pm_T_in (List.mem_of_getElem? (i := 588) (by decide +kernel)) rfl, pm_T_in (List.mem_of_getElem? (i := 59) (by decide +kernel)) rfl, ⟨by decide, by decide⟩, by decide +kernel, by decide⟩
theorem imX8_bits : Cond.instanceMethod yX8_bits ∈ pm_T := pm_T_in (List.mem_of_getElem? (i := 586) (by decide +kernel)) rfl
theorem ivX8_bits : pm_iv MX8_bits := ⟨imX8_bits, pm_T_in (List.mem_of_getElem? (i := 587) (by decide +kernel)) rfl⟩
def MX3_showPairs : pm_M := (yX3_showPairs, cX3_showPairs, 6, none)
theorem mtX3_showPairs : pm_mt MX3_showPairs 2 := ⟨by decide, pm_T_in (List.mem_of_getElem? (i := 592) (by decide +kernel)) rfl, pm_T_in (List.mem_of_getElem? (i := 54) (by decide +kernel)) rfl, ⟨by decide, by decide⟩, by decide +kernel, by decide⟩
theorem imX3_showPairs : Cond.instanceMethod yX3_showPairs ∈ pm_T := pm_T_in (List.mem_of_getElem? (i := 591) (by decide +kernel)) rfl
theorem ivX3_showPairs : pm_iv MX3_showPairs := ⟨imX3_showPairs, pm_T_in (List.mem_of_getElem? (i := 2) (by decide +kernel)) rfl⟩
def MX3_pairOf : pm_M := (yX3_pairOf, cX3_pairOf, 2, (some .int))
theorem mtX3_pairOf : pm_mt MX3_pairOf 2 := ⟨by decide, pm_T_in (List.mem_of_getElem? (i := 596) (by decide +kernel)) rfl, pm_T_in (List.mem_of_getElem? (i := 54) (by decide +kernel)) rfl, ⟨by decide, by decide⟩, by decide +kernel, by decide⟩
theorem stX3_pairOf : Cond.static yX3_pairOf ∈ pm_T := pm_T_in (List.mem_of_getElem? (i := 595) (by decide +kernel)) rfl
def MX11_gathering : pm_M := (yX11_gathering, cX11_gathering, 3, (some .int))
theorem mtX11_gathering : pm_mt MX11_gathering 2 := ⟨by decide, pm_T_in (List.mem_of_getElem? (i := 600) (by decide +kernel)) rfl, pm_T_in (List.mem_of_getElem? (i := 52) (by decide +kernel)) rfl, ⟨by decide, by decide⟩, by decide +kernel, by decide⟩
theorem imX11_gathering : Cond.instanceMethod yX11_gathering ∈ pm_T := pm_T_in (List.mem_of_getElem? (i := 598) (by decide +kernel)) rfl
theorem ivX11_gathering : pm_iv MX11_gathering := ⟨imX11_gathering, pm_T_in (List.mem_of_getElem? (i := 599) (by decide +kernel)) rfl⟩
def MX3_tell : pm_M := (yX3_tell, cX3_tell, 3, (some .int))
theorem mtX3_tell : pm_mt MX3_tell 2 := ⟨by decide, pm_T_in (List.mem_of_getElem? (i := 604) (by decide +kernel)) rfl, pm_T_in (List.mem_of_getElem? (i := 54) (by decide +kernel)) rfl, ⟨by decide, by decide⟩, by decide +kernel, by decide⟩
theorem imX3_tell : Cond.instanceMethod yX3_tell ∈ pm_T := pm_T_in (List.mem_of_getElem? (i := 602) (by decide +kernel)) rfl
theorem ivX3_tell : pm_iv MX3_tell := ⟨imX3_tell, pm_T_in (List.mem_of_getElem? (i := 603) (by decide +kernel)) rfl⟩
def MX11_seen : pm_M := (yX11_seen, cX11_seen, 4, (some .int))
theorem mtX11_seen : pm_mt MX11_seen 3 := ⟨by decide, pm_T_in (List.mem_of_getElem? (i := 608) (by decide +kernel)) rfl, pm_T_in (List.mem_of_getElem? (i := 52) (by decide +kernel)) rfl, ⟨by decide, by decide⟩, by decide +kernel, by decide⟩
theorem imX11_seen : Cond.instanceMethod yX11_seen ∈ pm_T := pm_T_in (List.mem_of_getElem? (i := 606) (by decide +kernel)) rfl
theorem ivX11_seen : pm_iv MX11_seen := ⟨imX11_seen, pm_T_in (List.mem_of_getElem? (i := 607) (by decide +kernel)) rfl⟩
def MX3_countWith : pm_M := (yX3_countWith, cX3_countWith, 5, (some .int))
theorem mtX3_countWith : pm_mt MX3_countWith 2 := ⟨by decide, pm_T_in (List.mem_of_getElem? (i := 612) (by decide +kernel)) rfl, pm_T_in (List.mem_of_getElem? (i := 54) (by decide +kernel)) rfl, ⟨by decide, by decide⟩, by decide +kernel, by decide⟩
theorem imX3_countWith : Cond.instanceMethod yX3_countWith ∈ pm_T := pm_T_in (List.mem_of_getElem? (i := 610) (by decide +kernel)) rfl
theorem ivX3_countWith : pm_iv MX3_countWith := ⟨imX3_countWith, pm_T_in (List.mem_of_getElem? (i := 611) (by decide +kernel)) rfl⟩
def MX11_again : pm_M := (yX11_again, cX11_again, 3, (some .int))
theorem mtX11_again : pm_mt MX11_again 2 := ⟨by decide, pm_T_in (List.mem_of_getElem? (i := 616) (by decide +kernel)) rfl, pm_T_in (List.mem_of_getElem? (i := 52) (by decide +kernel)) rfl, ⟨by decide, by decide⟩, by decide +kernel, by decide⟩
theorem imX11_again : Cond.instanceMethod yX11_again ∈ pm_T := pm_T_in (List.mem_of_getElem? (i := 614) (by decide +kernel)) rfl
theorem ivX11_again : pm_iv MX11_again := ⟨imX11_again, pm_T_in (List.mem_of_getElem? (i := 615) (by decide +kernel)) rfl⟩
def MX3_sumAgain : pm_M := (yX3_sumAgain, cX3_sumAgain, 3, (some .int))
theorem mtX3_sumAgain : pm_mt MX3_sumAgain 2 := ⟨by decide, pm_T_in (List.mem_of_getElem? (i := 620) (by decide +kernel)) rfl, pm_T_in (List.mem_of_getElem? (i := 54) (by decide +kernel)) rfl, ⟨by decide, by decide⟩, by decide +kernel, by decide⟩
theorem imX3_sumAgain : Cond.instanceMethod yX3_sumAgain ∈ pm_T := pm_T_in (List.mem_of_getElem? (i := 618) (by decide +kernel)) rfl
theorem ivX3_sumAgain : pm_iv MX3_sumAgain := ⟨imX3_sumAgain, pm_T_in (List.mem_of_getElem? (i := 619) (by decide +kernel)) rfl⟩
def MX3_sumPairs : pm_M := (yX3_sumPairs, cX3_sumPairs, 7, (some .int))
theorem mtX3_sumPairs : pm_mt MX3_sumPairs 2 := ⟨by decide, pm_T_in (List.mem_of_getElem? (i := 624) (by decide +kernel)) rfl, pm_T_in (List.mem_of_getElem? (i := 54) (by decide +kernel)) rfl, ⟨by decide, by decide⟩, by decide +kernel, by decide⟩
theorem imX3_sumPairs : Cond.instanceMethod yX3_sumPairs ∈ pm_T := pm_T_in (List.mem_of_getElem? (i := 623) (by decide +kernel)) rfl
theorem ivX3_sumPairs : pm_iv MX3_sumPairs := ⟨imX3_sumPairs, pm_T_in (List.mem_of_getElem? (i := 3) (by decide +kernel)) rfl⟩
def MJ6_bitCount_0f7a4 : pm_M := (yJ6_bitCount_0f7a4, cJ6_bitCount_0f7a4, 1, (some .int))
theorem mtJ6_bitCount_0f7a4 : pm_mt MJ6_bitCount_0f7a4 1 := ⟨by decide, pm_T_in (List.mem_of_getElem? (i := 627) (by decide +kernel)) rfl, pm_T_in (List.mem_of_getElem? (i := 65) (by decide +kernel)) rfl, ⟨by decide, by decide⟩, by decide +kernel, by decide⟩
theorem stJ6_bitCount_0f7a4 : Cond.static yJ6_bitCount_0f7a4 ∈ pm_T := pm_T_in (List.mem_of_getElem? (i := 626) (by decide +kernel)) rfl
def MX3_countSame : pm_M := (yX3_countSame, cX3_countSame, 5, (some .int))
theorem mtX3_countSame : pm_mt MX3_countSame 2 := ⟨by decide, pm_T_in (List.mem_of_getElem? (i := 634) (by decide +kernel)) rfl, pm_T_in (List.mem_of_getElem? (i := 54) (by decide +kernel)) rfl, ⟨by decide, by decide⟩, by decide +kernel, by decide⟩
theorem imX3_countSame : Cond.instanceMethod yX3_countSame ∈ pm_T := pm_T_in (List.mem_of_getElem? (i := 633) (by decide +kernel)) rfl
theorem ivX3_countSame : pm_iv MX3_countSame := ⟨imX3_countSame, pm_T_in (List.mem_of_getElem? (i := 4) (by decide +kernel)) rfl⟩
def MX11_feed : pm_M := (yX11_feed, cX11_feed, 6, (some .int))
theorem mtX11_feed : pm_mt MX11_feed 5 := ⟨by decide, pm_T_in (List.mem_of_getElem? (i := 638) (by decide +kernel)) rfl, pm_T_in (List.mem_of_getElem? (i := 52) (by decide +kernel)) rfl, ⟨by decide, by decide⟩, by decide +kernel, by decide⟩
theorem imX11_feed : Cond.instanceMethod yX11_feed ∈ pm_T := pm_T_in (List.mem_of_getElem? (i := 636) (by decide +kernel)) rfl
theorem ivX11_feed : pm_iv MX11_feed := ⟨imX11_feed, pm_T_in (List.mem_of_getElem? (i := 637) (by decide +kernel)) rfl⟩
def MX7_hasRoomFor : pm_M := (yX7_hasRoomFor, cX7_hasRoomFor, 2, (some .boolean))
theorem mtX7_hasRoomFor : pm_mt MX7_hasRoomFor 1 := ⟨by decide, pm_T_in (List.mem_of_getElem? (i := 642) (by decide +kernel)) rfl, pm_T_in (List.mem_of_getElem? (i := 55) (by decide +kernel)) rfl, ⟨by decide, by decide⟩, by decide +kernel, by decide⟩
theorem imX7_hasRoomFor : Cond.instanceMethod yX7_hasRoomFor ∈ pm_T := pm_T_in (List.mem_of_getElem? (i := 640) (by decide +kernel)) rfl
theorem ivX7_hasRoomFor : pm_iv MX7_hasRoomFor := ⟨imX7_hasRoomFor, pm_T_in (List.mem_of_getElem? (i := 641) (by decide +kernel)) rfl⟩
def MX7_append : pm_M := (yX7_append, cX7_append, 2, none)
theorem mtX7_append : pm_mt MX7_append 1 := ⟨by decide, pm_T_in (List.mem_of_getElem? (i := 646) (by decide +kernel)) rfl, pm_T_in (List.mem_of_getElem? (i := 55) (by decide +kernel)) rfl, ⟨by decide, by decide⟩, by decide +kernel, by decide⟩
theorem imX7_append : Cond.instanceMethod yX7_append ∈ pm_T := pm_T_in (List.mem_of_getElem? (i := 644) (by decide +kernel)) rfl
theorem ivX7_append : pm_iv MX7_append := ⟨imX7_append, pm_T_in (List.mem_of_getElem? (i := 645) (by decide +kernel)) rfl⟩
def MX7_length : pm_M := (yX7_length, cX7_length, 1, (some .int))
theorem mtX7_length : pm_mt MX7_length 0 := ⟨by decide, pm_T_in (List.mem_of_getElem? (i := 651) (by decide +kernel)) rfl, pm_T_in (List.mem_of_getElem? (i := 55) (by decide +kernel)) rfl, ⟨by decide, by decide⟩, by decide +kernel, by decide⟩
theorem imX7_length : Cond.instanceMethod yX7_length ∈ pm_T := pm_T_in (List.mem_of_getElem? (i := 649) (by decide +kernel)) rfl
theorem ivX7_length : pm_iv MX7_length := ⟨imX7_length, pm_T_in (List.mem_of_getElem? (i := 650) (by decide +kernel)) rfl⟩
def MX11_end : pm_M := (yX11_end, cX11_end, 2, (some .boolean))
theorem mtX11_end : pm_mt MX11_end 1 := ⟨by decide, pm_T_in (List.mem_of_getElem? (i := 655) (by decide +kernel)) rfl, pm_T_in (List.mem_of_getElem? (i := 52) (by decide +kernel)) rfl, ⟨by decide, by decide⟩, by decide +kernel, by decide⟩
theorem imX11_end : Cond.instanceMethod yX11_end ∈ pm_T := pm_T_in (List.mem_of_getElem? (i := 653) (by decide +kernel)) rfl
theorem ivX11_end : pm_iv MX11_end := ⟨imX11_end, pm_T_in (List.mem_of_getElem? (i := 654) (by decide +kernel)) rfl⟩
def MX7_cut : pm_M := (yX7_cut, cX7_cut, 2, none)
theorem mtX7_cut : pm_mt MX7_cut 1 := ⟨by decide, pm_T_in (List.mem_of_getElem? (i := 659) (by decide +kernel)) rfl, pm_T_in (List.mem_of_getElem? (i := 55) (by decide +kernel)) rfl, ⟨by decide, by decide⟩, by decide +kernel, by decide⟩
theorem imX7_cut : Cond.instanceMethod yX7_cut ∈ pm_T := pm_T_in (List.mem_of_getElem? (i := 657) (by decide +kernel)) rfl
theorem ivX7_cut : pm_iv MX7_cut := ⟨imX7_cut, pm_T_in (List.mem_of_getElem? (i := 658) (by decide +kernel)) rfl⟩
def MX11_rules : pm_M := (yX11_rules, cX11_rules, 3, (some .int))
theorem mtX11_rules : pm_mt MX11_rules 0 := ⟨by decide, pm_T_in (List.mem_of_getElem? (i := 663) (by decide +kernel)) rfl, pm_T_in (List.mem_of_getElem? (i := 52) (by decide +kernel)) rfl, ⟨by decide, by decide⟩, by decide +kernel, by decide⟩
theorem imX11_rules : Cond.instanceMethod yX11_rules ∈ pm_T := pm_T_in (List.mem_of_getElem? (i := 661) (by decide +kernel)) rfl
theorem ivX11_rules : pm_iv MX11_rules := ⟨imX11_rules, pm_T_in (List.mem_of_getElem? (i := 662) (by decide +kernel)) rfl⟩
def MX5_readInto : pm_M := (yX5_readInto, cX5_readInto, 3, (some .boolean))
theorem mtX5_readInto : pm_mt MX5_readInto 1 := ⟨by decide, pm_T_in (List.mem_of_getElem? (i := 667) (by decide +kernel)) rfl, pm_T_in (List.mem_of_getElem? (i := 57) (by decide +kernel)) rfl, ⟨by decide, by decide⟩, by decide +kernel, by decide⟩
theorem imX5_readInto : Cond.instanceMethod yX5_readInto ∈ pm_T := pm_T_in (List.mem_of_getElem? (i := 665) (by decide +kernel)) rfl
theorem ivX5_readInto : pm_iv MX5_readInto := ⟨imX5_readInto, pm_T_in (List.mem_of_getElem? (i := 666) (by decide +kernel)) rfl⟩
def MX4_clear : pm_M := (yX4_clear, cX4_clear, 1, none)
theorem mtX4_clear : pm_mt MX4_clear 0 := ⟨by decide, pm_T_in (List.mem_of_getElem? (i := 671) (by decide +kernel)) rfl, pm_T_in (List.mem_of_getElem? (i := 56) (by decide +kernel)) rfl, ⟨by decide, by decide⟩, by decide +kernel, by decide⟩
theorem imX4_clear : Cond.instanceMethod yX4_clear ∈ pm_T := pm_T_in (List.mem_of_getElem? (i := 669) (by decide +kernel)) rfl
theorem ivX4_clear : pm_iv MX4_clear := ⟨imX4_clear, pm_T_in (List.mem_of_getElem? (i := 670) (by decide +kernel)) rfl⟩
def MX10_cutTape : pm_M := (yX10_cutTape, cX10_cutTape, 5, none)
theorem mtX10_cutTape : pm_mt MX10_cutTape 0 := ⟨by decide, pm_T_in (List.mem_of_getElem? (i := 675) (by decide +kernel)) rfl, pm_T_in (List.mem_of_getElem? (i := 58) (by decide +kernel)) rfl, ⟨by decide, by decide⟩, by decide +kernel, by decide⟩
theorem imX10_cutTape : Cond.instanceMethod yX10_cutTape ∈ pm_T := pm_T_in (List.mem_of_getElem? (i := 673) (by decide +kernel)) rfl
theorem ivX10_cutTape : pm_iv MX10_cutTape := ⟨imX10_cutTape, pm_T_in (List.mem_of_getElem? (i := 674) (by decide +kernel)) rfl⟩
def MX7_at : pm_M := (yX7_at, cX7_at, 2, (some .int))
theorem mtX7_at : pm_mt MX7_at 1 := ⟨by decide, pm_T_in (List.mem_of_getElem? (i := 680) (by decide +kernel)) rfl, pm_T_in (List.mem_of_getElem? (i := 55) (by decide +kernel)) rfl, ⟨by decide, by decide⟩, by decide +kernel, by decide⟩
theorem imX7_at : Cond.instanceMethod yX7_at ∈ pm_T := pm_T_in (List.mem_of_getElem? (i := 678) (by decide +kernel)) rfl
theorem ivX7_at : pm_iv MX7_at := ⟨imX7_at, pm_T_in (List.mem_of_getElem? (i := 679) (by decide +kernel)) rfl⟩
def MX10_isBlank : pm_M := (yX10_isBlank, cX10_isBlank, 1, (some .boolean))
theorem mtX10_isBlank : pm_mt MX10_isBlank 1 := ⟨by decide, pm_T_in (List.mem_of_getElem? (i := 683) (by decide +kernel)) rfl, pm_T_in (List.mem_of_getElem? (i := 58) (by decide +kernel)) rfl, ⟨by decide, by decide⟩, by decide +kernel, by decide⟩
theorem stX10_isBlank : Cond.static yX10_isBlank ∈ pm_T := pm_T_in (List.mem_of_getElem? (i := 682) (by decide +kernel)) rfl
def MX10_isLetter : pm_M := (yX10_isLetter, cX10_isLetter, 1, (some .boolean))
theorem mtX10_isLetter : pm_mt MX10_isLetter 1 := ⟨by decide, pm_T_in (List.mem_of_getElem? (i := 686) (by decide +kernel)) rfl, pm_T_in (List.mem_of_getElem? (i := 58) (by decide +kernel)) rfl, ⟨by decide, by decide⟩, by decide +kernel, by decide⟩
theorem stX10_isLetter : Cond.static yX10_isLetter ∈ pm_T := pm_T_in (List.mem_of_getElem? (i := 685) (by decide +kernel)) rfl
def MX10_takeWord : pm_M := (yX10_takeWord, cX10_takeWord, 5, (some .int))
theorem mtX10_takeWord : pm_mt MX10_takeWord 1 := ⟨by decide, pm_T_in (List.mem_of_getElem? (i := 690) (by decide +kernel)) rfl, pm_T_in (List.mem_of_getElem? (i := 58) (by decide +kernel)) rfl, ⟨by decide, by decide⟩, by decide +kernel, by decide⟩
theorem imX10_takeWord : Cond.instanceMethod yX10_takeWord ∈ pm_T := pm_T_in (List.mem_of_getElem? (i := 689) (by decide +kernel)) rfl
theorem ivX10_takeWord : pm_iv MX10_takeWord := ⟨imX10_takeWord, pm_T_in (List.mem_of_getElem? (i := 5) (by decide +kernel)) rfl⟩
def MX10_isWord : pm_M := (yX10_isWord, cX10_isWord, 6, (some .boolean))
theorem mtX10_isWord : pm_mt MX10_isWord 3 := ⟨by decide, pm_T_in (List.mem_of_getElem? (i := 694) (by decide +kernel)) rfl, pm_T_in (List.mem_of_getElem? (i := 58) (by decide +kernel)) rfl, ⟨by decide, by decide⟩, by decide +kernel, by decide⟩
theorem imX10_isWord : Cond.instanceMethod yX10_isWord ∈ pm_T := pm_T_in (List.mem_of_getElem? (i := 693) (by decide +kernel)) rfl
theorem ivX10_isWord : pm_iv MX10_isWord := ⟨imX10_isWord, pm_T_in (List.mem_of_getElem? (i := 6) (by decide +kernel)) rfl⟩
def MJ0_charAt_5068e : pm_M := (yJ0_charAt_5068e, cJ0_charAt_5068e, 2, (some .char))
theorem mtJ0_charAt_5068e : pm_mt MJ0_charAt_5068e 1 := ⟨by decide, pm_T_in (List.mem_of_getElem? (i := 699) (by decide +kernel)) rfl, pm_T_in (List.mem_of_getElem? (i := 66) (by decide +kernel)) rfl, ⟨by decide, by decide⟩, by decide +kernel, by decide⟩
theorem imJ0_charAt_5068e : Cond.instanceMethod yJ0_charAt_5068e ∈ pm_T := pm_T_in (List.mem_of_getElem? (i := 697) (by decide +kernel)) rfl
theorem ivJ0_charAt_5068e : pm_iv MJ0_charAt_5068e := ⟨imJ0_charAt_5068e, pm_T_in (List.mem_of_getElem? (i := 698) (by decide +kernel)) rfl⟩
def MJ0_isLatin1_aae02 : pm_M := (yJ0_isLatin1_aae02, cJ0_isLatin1_aae02, 1, (some .boolean))
theorem mtJ0_isLatin1_aae02 : pm_mt MJ0_isLatin1_aae02 0 := ⟨by decide, pm_T_in (List.mem_of_getElem? (i := 703) (by decide +kernel)) rfl, pm_T_in (List.mem_of_getElem? (i := 66) (by decide +kernel)) rfl, ⟨by decide, by decide⟩, by decide +kernel, by decide⟩
theorem imJ0_isLatin1_aae02 : Cond.instanceMethod yJ0_isLatin1_aae02 ∈ pm_T := pm_T_in (List.mem_of_getElem? (i := 701) (by decide +kernel)) rfl
theorem ivJ0_isLatin1_aae02 : pm_iv MJ0_isLatin1_aae02 := ⟨imJ0_isLatin1_aae02, pm_T_in (List.mem_of_getElem? (i := 702) (by decide +kernel)) rfl⟩
def MJ1_charAt_3b067 : pm_M := (yJ1_charAt_3b067, cJ1_charAt_3b067, 2, (some .char))
theorem mtJ1_charAt_3b067 : pm_mt MJ1_charAt_3b067 2 := ⟨by decide, pm_T_in (List.mem_of_getElem? (i := 708) (by decide +kernel)) rfl, pm_T_in (List.mem_of_getElem? (i := 67) (by decide +kernel)) rfl, ⟨by decide, by decide⟩, by decide +kernel, by decide⟩
theorem stJ1_charAt_3b067 : Cond.static yJ1_charAt_3b067 ∈ pm_T := pm_T_in (List.mem_of_getElem? (i := 707) (by decide +kernel)) rfl
def MJ0_checkIndex_df160 : pm_M := (yJ0_checkIndex_df160, cJ0_checkIndex_df160, 2, none)
theorem mtJ0_checkIndex_df160 : pm_mt MJ0_checkIndex_df160 2 := ⟨by decide, pm_T_in (List.mem_of_getElem? (i := 711) (by decide +kernel)) rfl, pm_T_in (List.mem_of_getElem? (i := 66) (by decide +kernel)) rfl, ⟨by decide, by decide⟩, by decide +kernel, by decide⟩
theorem stJ0_checkIndex_df160 : Cond.static yJ0_checkIndex_df160 ∈ pm_T := pm_T_in (List.mem_of_getElem? (i := 710) (by decide +kernel)) rfl
def MJ3_checkIndex_8e157 : pm_M := (yJ3_checkIndex_8e157, cJ3_checkIndex_8e157, 3, (some .int))
theorem mtJ3_checkIndex_8e157 : pm_mt MJ3_checkIndex_8e157 3 := ⟨by decide, pm_T_in (List.mem_of_getElem? (i := 716) (by decide +kernel)) rfl, pm_T_in (List.mem_of_getElem? (i := 68) (by decide +kernel)) rfl, ⟨by decide, by decide⟩, by decide +kernel, by decide⟩
theorem stJ3_checkIndex_8e157 : Cond.static yJ3_checkIndex_8e157 ∈ pm_T := pm_T_in (List.mem_of_getElem? (i := 715) (by decide +kernel)) rfl
def MJ2_charAt_3b067 : pm_M := (yJ2_charAt_3b067, cJ2_charAt_3b067, 2, (some .char))
theorem mtJ2_charAt_3b067 : pm_mt MJ2_charAt_3b067 2 := ⟨by decide, pm_T_in (List.mem_of_getElem? (i := 719) (by decide +kernel)) rfl, pm_T_in (List.mem_of_getElem? (i := 69) (by decide +kernel)) rfl, ⟨by decide, by decide⟩, by decide +kernel, by decide⟩
theorem stJ2_charAt_3b067 : Cond.static yJ2_charAt_3b067 ∈ pm_T := pm_T_in (List.mem_of_getElem? (i := 718) (by decide +kernel)) rfl
def MJ2_checkIndex_2214a : pm_M := (yJ2_checkIndex_2214a, cJ2_checkIndex_2214a, 2, none)
theorem mtJ2_checkIndex_2214a : pm_mt MJ2_checkIndex_2214a 2 := ⟨by decide, pm_T_in (List.mem_of_getElem? (i := 722) (by decide +kernel)) rfl, pm_T_in (List.mem_of_getElem? (i := 69) (by decide +kernel)) rfl, ⟨by decide, by decide⟩, by decide +kernel, by decide⟩
theorem stJ2_checkIndex_2214a : Cond.static yJ2_checkIndex_2214a ∈ pm_T := pm_T_in (List.mem_of_getElem? (i := 721) (by decide +kernel)) rfl
def MJ2_length_9d52b : pm_M := (yJ2_length_9d52b, cJ2_length_9d52b, 1, (some .int))
theorem mtJ2_length_9d52b : pm_mt MJ2_length_9d52b 1 := ⟨by decide, pm_T_in (List.mem_of_getElem? (i := 725) (by decide +kernel)) rfl, pm_T_in (List.mem_of_getElem? (i := 69) (by decide +kernel)) rfl, ⟨by decide, by decide⟩, by decide +kernel, by decide⟩
theorem stJ2_length_9d52b : Cond.static yJ2_length_9d52b ∈ pm_T := pm_T_in (List.mem_of_getElem? (i := 724) (by decide +kernel)) rfl
def MJ2_getChar_3b067 : pm_M := (yJ2_getChar_3b067, cJ2_getChar_3b067, 2, (some .char))
theorem mtJ2_getChar_3b067 : pm_mt MJ2_getChar_3b067 2 := ⟨by decide, pm_T_in (List.mem_of_getElem? (i := 729) (by decide +kernel)) rfl, pm_T_in (List.mem_of_getElem? (i := 69) (by decide +kernel)) rfl, ⟨by decide, by decide⟩, by decide +kernel, by decide⟩
theorem stJ2_getChar_3b067 : Cond.static yJ2_getChar_3b067 ∈ pm_T := pm_T_in (List.mem_of_getElem? (i := 728) (by decide +kernel)) rfl
def MX10_put : pm_M := (yX10_put, cX10_put, 4, none)
theorem mtX10_put : pm_mt MX10_put 3 := ⟨by decide, pm_T_in (List.mem_of_getElem? (i := 739) (by decide +kernel)) rfl, pm_T_in (List.mem_of_getElem? (i := 58) (by decide +kernel)) rfl, ⟨by decide, by decide⟩, by decide +kernel, by decide⟩
theorem imX10_put : Cond.instanceMethod yX10_put ∈ pm_T := pm_T_in (List.mem_of_getElem? (i := 738) (by decide +kernel)) rfl
theorem ivX10_put : pm_iv MX10_put := ⟨imX10_put, pm_T_in (List.mem_of_getElem? (i := 7) (by decide +kernel)) rfl⟩
def MX10_isDigit : pm_M := (yX10_isDigit, cX10_isDigit, 1, (some .boolean))
theorem mtX10_isDigit : pm_mt MX10_isDigit 1 := ⟨by decide, pm_T_in (List.mem_of_getElem? (i := 742) (by decide +kernel)) rfl, pm_T_in (List.mem_of_getElem? (i := 58) (by decide +kernel)) rfl, ⟨by decide, by decide⟩, by decide +kernel, by decide⟩
theorem stX10_isDigit : Cond.static yX10_isDigit ∈ pm_T := pm_T_in (List.mem_of_getElem? (i := 741) (by decide +kernel)) rfl
def MX10_takeNumber : pm_M := (yX10_takeNumber, cX10_takeNumber, 4, (some .int))
theorem mtX10_takeNumber : pm_mt MX10_takeNumber 1 := ⟨by decide, pm_T_in (List.mem_of_getElem? (i := 746) (by decide +kernel)) rfl, pm_T_in (List.mem_of_getElem? (i := 58) (by decide +kernel)) rfl, ⟨by decide, by decide⟩, by decide +kernel, by decide⟩
theorem imX10_takeNumber : Cond.instanceMethod yX10_takeNumber ∈ pm_T := pm_T_in (List.mem_of_getElem? (i := 745) (by decide +kernel)) rfl
theorem ivX10_takeNumber : pm_iv MX10_takeNumber := ⟨imX10_takeNumber, pm_T_in (List.mem_of_getElem? (i := 8) (by decide +kernel)) rfl⟩
def MJ0_indexOf_0f7a4 : pm_M := (yJ0_indexOf_0f7a4, cJ0_indexOf_0f7a4, 2, (some .int))
theorem mtJ0_indexOf_0f7a4 : pm_mt MJ0_indexOf_0f7a4 1 := ⟨by decide, pm_T_in (List.mem_of_getElem? (i := 751) (by decide +kernel)) rfl, pm_T_in (List.mem_of_getElem? (i := 66) (by decide +kernel)) rfl, ⟨by decide, by decide⟩, by decide +kernel, by decide⟩
theorem imJ0_indexOf_0f7a4 : Cond.instanceMethod yJ0_indexOf_0f7a4 ∈ pm_T := pm_T_in (List.mem_of_getElem? (i := 749) (by decide +kernel)) rfl
theorem ivJ0_indexOf_0f7a4 : pm_iv MJ0_indexOf_0f7a4 := ⟨imJ0_indexOf_0f7a4, pm_T_in (List.mem_of_getElem? (i := 750) (by decide +kernel)) rfl⟩
def MJ0_indexOf_7cf53 : pm_M := (yJ0_indexOf_7cf53, cJ0_indexOf_7cf53, 3, (some .int))
theorem mtJ0_indexOf_7cf53 : pm_mt MJ0_indexOf_7cf53 2 := ⟨by decide, pm_T_in (List.mem_of_getElem? (i := 755) (by decide +kernel)) rfl, pm_T_in (List.mem_of_getElem? (i := 66) (by decide +kernel)) rfl, ⟨by decide, by decide⟩, by decide +kernel, by decide⟩
theorem imJ0_indexOf_7cf53 : Cond.instanceMethod yJ0_indexOf_7cf53 ∈ pm_T := pm_T_in (List.mem_of_getElem? (i := 753) (by decide +kernel)) rfl
theorem ivJ0_indexOf_7cf53 : pm_iv MJ0_indexOf_7cf53 := ⟨imJ0_indexOf_7cf53, pm_T_in (List.mem_of_getElem? (i := 754) (by decide +kernel)) rfl⟩
def MJ0_length_8abf5 : pm_M := (yJ0_length_8abf5, cJ0_length_8abf5, 1, (some .int))
theorem mtJ0_length_8abf5 : pm_mt MJ0_length_8abf5 0 := ⟨by decide, pm_T_in (List.mem_of_getElem? (i := 759) (by decide +kernel)) rfl, pm_T_in (List.mem_of_getElem? (i := 66) (by decide +kernel)) rfl, ⟨by decide, by decide⟩, by decide +kernel, by decide⟩
theorem imJ0_length_8abf5 : Cond.instanceMethod yJ0_length_8abf5 ∈ pm_T := pm_T_in (List.mem_of_getElem? (i := 757) (by decide +kernel)) rfl
theorem ivJ0_length_8abf5 : pm_iv MJ0_length_8abf5 := ⟨imJ0_length_8abf5, pm_T_in (List.mem_of_getElem? (i := 758) (by decide +kernel)) rfl⟩
def MJ0_coder_7d493 : pm_M := (yJ0_coder_7d493, cJ0_coder_7d493, 1, (some .byte))
theorem mtJ0_coder_7d493 : pm_mt MJ0_coder_7d493 0 := ⟨by decide, pm_T_in (List.mem_of_getElem? (i := 763) (by decide +kernel)) rfl, pm_T_in (List.mem_of_getElem? (i := 66) (by decide +kernel)) rfl, ⟨by decide, by decide⟩, by decide +kernel, by decide⟩
theorem imJ0_coder_7d493 : Cond.instanceMethod yJ0_coder_7d493 ∈ pm_T := pm_T_in (List.mem_of_getElem? (i := 761) (by decide +kernel)) rfl
theorem ivJ0_coder_7d493 : pm_iv MJ0_coder_7d493 := ⟨imJ0_coder_7d493, pm_T_in (List.mem_of_getElem? (i := 762) (by decide +kernel)) rfl⟩
def MJ1_indexOf_4cfef : pm_M := (yJ1_indexOf_4cfef, cJ1_indexOf_4cfef, 4, (some .int))
theorem mtJ1_indexOf_4cfef : pm_mt MJ1_indexOf_4cfef 4 := ⟨by decide, pm_T_in (List.mem_of_getElem? (i := 766) (by decide +kernel)) rfl, pm_T_in (List.mem_of_getElem? (i := 67) (by decide +kernel)) rfl, ⟨by decide, by decide⟩, by decide +kernel, by decide⟩
theorem stJ1_indexOf_4cfef : Cond.static yJ1_indexOf_4cfef ∈ pm_T := pm_T_in (List.mem_of_getElem? (i := 765) (by decide +kernel)) rfl
def MJ1_canEncode_9a6ad : pm_M := (yJ1_canEncode_9a6ad, cJ1_canEncode_9a6ad, 1, (some .boolean))
theorem mtJ1_canEncode_9a6ad : pm_mt MJ1_canEncode_9a6ad 1 := ⟨by decide, pm_T_in (List.mem_of_getElem? (i := 769) (by decide +kernel)) rfl, pm_T_in (List.mem_of_getElem? (i := 67) (by decide +kernel)) rfl, ⟨by decide, by decide⟩, by decide +kernel, by decide⟩
theorem stJ1_canEncode_9a6ad : Cond.static yJ1_canEncode_9a6ad ∈ pm_T := pm_T_in (List.mem_of_getElem? (i := 768) (by decide +kernel)) rfl
def MJ1_indexOfChar_4cfef : pm_M := (yJ1_indexOfChar_4cfef, cJ1_indexOfChar_4cfef, 6, (some .int))
theorem mtJ1_indexOfChar_4cfef : pm_mt MJ1_indexOfChar_4cfef 4 := ⟨by decide, pm_T_in (List.mem_of_getElem? (i := 778) (by decide +kernel)) rfl, pm_T_in (List.mem_of_getElem? (i := 67) (by decide +kernel)) rfl, ⟨by decide, by decide⟩, by decide +kernel, by decide⟩
theorem stJ1_indexOfChar_4cfef : Cond.static yJ1_indexOfChar_4cfef ∈ pm_T := pm_T_in (List.mem_of_getElem? (i := 777) (by decide +kernel)) rfl
def MJ2_indexOf_4cfef : pm_M := (yJ2_indexOf_4cfef, cJ2_indexOf_4cfef, 4, (some .int))
theorem mtJ2_indexOf_4cfef : pm_mt MJ2_indexOf_4cfef 4 := ⟨by decide, pm_T_in (List.mem_of_getElem? (i := 781) (by decide +kernel)) rfl, pm_T_in (List.mem_of_getElem? (i := 69) (by decide +kernel)) rfl, ⟨by decide, by decide⟩, by decide +kernel, by decide⟩
theorem stJ2_indexOf_4cfef : Cond.static yJ2_indexOf_4cfef ∈ pm_T := pm_T_in (List.mem_of_getElem? (i := 780) (by decide +kernel)) rfl
def MJ2_indexOfChar_4cfef : pm_M := (yJ2_indexOfChar_4cfef, cJ2_indexOfChar_4cfef, 4, (some .int))
theorem mtJ2_indexOfChar_4cfef : pm_mt MJ2_indexOfChar_4cfef 4 := ⟨by decide, pm_T_in (List.mem_of_getElem? (i := 787) (by decide +kernel)) rfl, pm_T_in (List.mem_of_getElem? (i := 69) (by decide +kernel)) rfl, ⟨by decide, by decide⟩, by decide +kernel, by decide⟩
theorem stJ2_indexOfChar_4cfef : Cond.static yJ2_indexOfChar_4cfef ∈ pm_T := pm_T_in (List.mem_of_getElem? (i := 786) (by decide +kernel)) rfl
def MJ2_checkBoundsBeginEnd_d044e : pm_M := (yJ2_checkBoundsBeginEnd_d044e, cJ2_checkBoundsBeginEnd_d044e, 3, none)
theorem mtJ2_checkBoundsBeginEnd_d044e : pm_mt MJ2_checkBoundsBeginEnd_d044e 3 := ⟨by decide, pm_T_in (List.mem_of_getElem? (i := 790) (by decide +kernel)) rfl, pm_T_in (List.mem_of_getElem? (i := 69) (by decide +kernel)) rfl, ⟨by decide, by decide⟩, by decide +kernel, by decide⟩
theorem stJ2_checkBoundsBeginEnd_d044e : Cond.static yJ2_checkBoundsBeginEnd_d044e ∈ pm_T := pm_T_in (List.mem_of_getElem? (i := 789) (by decide +kernel)) rfl
def MJ0_checkBoundsBeginEnd_23922 : pm_M := (yJ0_checkBoundsBeginEnd_23922, cJ0_checkBoundsBeginEnd_23922, 3, none)
theorem mtJ0_checkBoundsBeginEnd_23922 : pm_mt MJ0_checkBoundsBeginEnd_23922 3 := ⟨by decide, pm_T_in (List.mem_of_getElem? (i := 793) (by decide +kernel)) rfl, pm_T_in (List.mem_of_getElem? (i := 66) (by decide +kernel)) rfl, ⟨by decide, by decide⟩, by decide +kernel, by decide⟩
theorem stJ0_checkBoundsBeginEnd_23922 : Cond.static yJ0_checkBoundsBeginEnd_23922 ∈ pm_T := pm_T_in (List.mem_of_getElem? (i := 792) (by decide +kernel)) rfl
def MJ3_checkFromToIndex_8c36e : pm_M := (yJ3_checkFromToIndex_8c36e, cJ3_checkFromToIndex_8c36e, 4, (some .int))
theorem mtJ3_checkFromToIndex_8c36e : pm_mt MJ3_checkFromToIndex_8c36e 4 := ⟨by decide, pm_T_in (List.mem_of_getElem? (i := 796) (by decide +kernel)) rfl, pm_T_in (List.mem_of_getElem? (i := 68) (by decide +kernel)) rfl, ⟨by decide, by decide⟩, by decide +kernel, by decide⟩
theorem stJ3_checkFromToIndex_8c36e : Cond.static yJ3_checkFromToIndex_8c36e ∈ pm_T := pm_T_in (List.mem_of_getElem? (i := 795) (by decide +kernel)) rfl
def MJ2_indexOfCharUnsafe_4cfef : pm_M := (yJ2_indexOfCharUnsafe_4cfef, cJ2_indexOfCharUnsafe_4cfef, 5, (some .int))
theorem mtJ2_indexOfCharUnsafe_4cfef : pm_mt MJ2_indexOfCharUnsafe_4cfef 4 := ⟨by decide, pm_T_in (List.mem_of_getElem? (i := 799) (by decide +kernel)) rfl, pm_T_in (List.mem_of_getElem? (i := 69) (by decide +kernel)) rfl, ⟨by decide, by decide⟩, by decide +kernel, by decide⟩
theorem stJ2_indexOfCharUnsafe_4cfef : Cond.static yJ2_indexOfCharUnsafe_4cfef ∈ pm_T := pm_T_in (List.mem_of_getElem? (i := 798) (by decide +kernel)) rfl
def MJ2_indexOfSupplementary_4cfef : pm_M := (yJ2_indexOfSupplementary_4cfef, cJ2_indexOfSupplementary_4cfef, 7, (some .int))
theorem mtJ2_indexOfSupplementary_4cfef : pm_mt MJ2_indexOfSupplementary_4cfef 4 := ⟨by decide, pm_T_in (List.mem_of_getElem? (i := 802) (by decide +kernel)) rfl, pm_T_in (List.mem_of_getElem? (i := 69) (by decide +kernel)) rfl, ⟨by decide, by decide⟩, by decide +kernel, by decide⟩
theorem stJ2_indexOfSupplementary_4cfef : Cond.static yJ2_indexOfSupplementary_4cfef ∈ pm_T := pm_T_in (List.mem_of_getElem? (i := 801) (by decide +kernel)) rfl
def MJ11_isValidCodePoint_9a6ad : pm_M := (yJ11_isValidCodePoint_9a6ad, cJ11_isValidCodePoint_9a6ad, 2, (some .boolean))
theorem mtJ11_isValidCodePoint_9a6ad : pm_mt MJ11_isValidCodePoint_9a6ad 1 := ⟨by decide, pm_T_in (List.mem_of_getElem? (i := 805) (by decide +kernel)) rfl, pm_T_in (List.mem_of_getElem? (i := 71) (by decide +kernel)) rfl, ⟨by decide, by decide⟩, by decide +kernel, by decide⟩
theorem stJ11_isValidCodePoint_9a6ad : Cond.static yJ11_isValidCodePoint_9a6ad ∈ pm_T := pm_T_in (List.mem_of_getElem? (i := 804) (by decide +kernel)) rfl
def MJ11_highSurrogate_5068e : pm_M := (yJ11_highSurrogate_5068e, cJ11_highSurrogate_5068e, 1, (some .char))
theorem mtJ11_highSurrogate_5068e : pm_mt MJ11_highSurrogate_5068e 1 := ⟨by decide, pm_T_in (List.mem_of_getElem? (i := 808) (by decide +kernel)) rfl, pm_T_in (List.mem_of_getElem? (i := 71) (by decide +kernel)) rfl, ⟨by decide, by decide⟩, by decide +kernel, by decide⟩
theorem stJ11_highSurrogate_5068e : Cond.static yJ11_highSurrogate_5068e ∈ pm_T := pm_T_in (List.mem_of_getElem? (i := 807) (by decide +kernel)) rfl
def MJ11_lowSurrogate_5068e : pm_M := (yJ11_lowSurrogate_5068e, cJ11_lowSurrogate_5068e, 1, (some .char))
theorem mtJ11_lowSurrogate_5068e : pm_mt MJ11_lowSurrogate_5068e 1 := ⟨by decide, pm_T_in (List.mem_of_getElem? (i := 812) (by decide +kernel)) rfl, pm_T_in (List.mem_of_getElem? (i := 71) (by decide +kernel)) rfl, ⟨by decide, by decide⟩, by decide +kernel, by decide⟩
theorem stJ11_lowSurrogate_5068e : Cond.static yJ11_lowSurrogate_5068e ∈ pm_T := pm_T_in (List.mem_of_getElem? (i := 811) (by decide +kernel)) rfl
def MX10_at : pm_M := (yX10_at, cX10_at, 2, (some .int))
theorem mtX10_at : pm_mt MX10_at 1 := ⟨by decide, pm_T_in (List.mem_of_getElem? (i := 817) (by decide +kernel)) rfl, pm_T_in (List.mem_of_getElem? (i := 58) (by decide +kernel)) rfl, ⟨by decide, by decide⟩, by decide +kernel, by decide⟩
theorem imX10_at : Cond.instanceMethod yX10_at ∈ pm_T := pm_T_in (List.mem_of_getElem? (i := 815) (by decide +kernel)) rfl
theorem ivX10_at : pm_iv MX10_at := ⟨imX10_at, pm_T_in (List.mem_of_getElem? (i := 816) (by decide +kernel)) rfl⟩
def MX5_advance : pm_M := (yX5_advance, cX5_advance, 1, none)
theorem mtX5_advance : pm_mt MX5_advance 0 := ⟨by decide, pm_T_in (List.mem_of_getElem? (i := 821) (by decide +kernel)) rfl, pm_T_in (List.mem_of_getElem? (i := 57) (by decide +kernel)) rfl, ⟨by decide, by decide⟩, by decide +kernel, by decide⟩
theorem imX5_advance : Cond.instanceMethod yX5_advance ∈ pm_T := pm_T_in (List.mem_of_getElem? (i := 820) (by decide +kernel)) rfl
theorem ivX5_advance : pm_iv MX5_advance := ⟨imX5_advance, pm_T_in (List.mem_of_getElem? (i := 9) (by decide +kernel)) rfl⟩
def MX5_readChoice : pm_M := (yX5_readChoice, cX5_readChoice, 3, none)
theorem mtX5_readChoice : pm_mt MX5_readChoice 1 := ⟨by decide, pm_T_in (List.mem_of_getElem? (i := 825) (by decide +kernel)) rfl, pm_T_in (List.mem_of_getElem? (i := 57) (by decide +kernel)) rfl, ⟨by decide, by decide⟩, by decide +kernel, by decide⟩
theorem imX5_readChoice : Cond.instanceMethod yX5_readChoice ∈ pm_T := pm_T_in (List.mem_of_getElem? (i := 824) (by decide +kernel)) rfl
theorem ivX5_readChoice : pm_iv MX5_readChoice := ⟨imX5_readChoice, pm_T_in (List.mem_of_getElem? (i := 10) (by decide +kernel)) rfl⟩
def MX5_readJoin : pm_M := (yX5_readJoin, cX5_readJoin, 3, none)
theorem mtX5_readJoin : pm_mt MX5_readJoin 1 := ⟨by decide, pm_T_in (List.mem_of_getElem? (i := 829) (by decide +kernel)) rfl, pm_T_in (List.mem_of_getElem? (i := 57) (by decide +kernel)) rfl, ⟨by decide, by decide⟩, by decide +kernel, by decide⟩
theorem imX5_readJoin : Cond.instanceMethod yX5_readJoin ∈ pm_T := pm_T_in (List.mem_of_getElem? (i := 828) (by decide +kernel)) rfl
theorem ivX5_readJoin : pm_iv MX5_readJoin := ⟨imX5_readJoin, pm_T_in (List.mem_of_getElem? (i := 11) (by decide +kernel)) rfl⟩
def MX5_readClause : pm_M := (yX5_readClause, cX5_readClause, 2, none)
theorem mtX5_readClause : pm_mt MX5_readClause 1 := ⟨by decide, pm_T_in (List.mem_of_getElem? (i := 833) (by decide +kernel)) rfl, pm_T_in (List.mem_of_getElem? (i := 57) (by decide +kernel)) rfl, ⟨by decide, by decide⟩, by decide +kernel, by decide⟩
theorem imX5_readClause : Cond.instanceMethod yX5_readClause ∈ pm_T := pm_T_in (List.mem_of_getElem? (i := 832) (by decide +kernel)) rfl
theorem ivX5_readClause : pm_iv MX5_readClause := ⟨imX5_readClause, pm_T_in (List.mem_of_getElem? (i := 12) (by decide +kernel)) rfl⟩
def MX5_readComparison : pm_M := (yX5_readComparison, cX5_readComparison, 4, none)
theorem mtX5_readComparison : pm_mt MX5_readComparison 0 := ⟨by decide, pm_T_in (List.mem_of_getElem? (i := 837) (by decide +kernel)) rfl, pm_T_in (List.mem_of_getElem? (i := 57) (by decide +kernel)) rfl, ⟨by decide, by decide⟩, by decide +kernel, by decide⟩
theorem imX5_readComparison : Cond.instanceMethod yX5_readComparison ∈ pm_T := pm_T_in (List.mem_of_getElem? (i := 836) (by decide +kernel)) rfl
theorem ivX5_readComparison : pm_iv MX5_readComparison := ⟨imX5_readComparison, pm_T_in (List.mem_of_getElem? (i := 13) (by decide +kernel)) rfl⟩
def MX5_readTerm : pm_M := (yX5_readTerm, cX5_readTerm, 2, (some .int))
theorem mtX5_readTerm : pm_mt MX5_readTerm 0 := ⟨by decide, pm_T_in (List.mem_of_getElem? (i := 841) (by decide +kernel)) rfl, pm_T_in (List.mem_of_getElem? (i := 57) (by decide +kernel)) rfl, ⟨by decide, by decide⟩, by decide +kernel, by decide⟩
theorem imX5_readTerm : Cond.instanceMethod yX5_readTerm ∈ pm_T := pm_T_in (List.mem_of_getElem? (i := 840) (by decide +kernel)) rfl
theorem ivX5_readTerm : pm_iv MX5_readTerm := ⟨imX5_readTerm, pm_T_in (List.mem_of_getElem? (i := 14) (by decide +kernel)) rfl⟩
def MX10_valueOf : pm_M := (yX10_valueOf, cX10_valueOf, 2, (some .int))
theorem mtX10_valueOf : pm_mt MX10_valueOf 1 := ⟨by decide, pm_T_in (List.mem_of_getElem? (i := 845) (by decide +kernel)) rfl, pm_T_in (List.mem_of_getElem? (i := 58) (by decide +kernel)) rfl, ⟨by decide, by decide⟩, by decide +kernel, by decide⟩
theorem imX10_valueOf : Cond.instanceMethod yX10_valueOf ∈ pm_T := pm_T_in (List.mem_of_getElem? (i := 843) (by decide +kernel)) rfl
theorem ivX10_valueOf : pm_iv MX10_valueOf := ⟨imX10_valueOf, pm_T_in (List.mem_of_getElem? (i := 844) (by decide +kernel)) rfl⟩
def MX5_refuse : pm_M := (yX5_refuse, cX5_refuse, 2, none)
theorem mtX5_refuse : pm_mt MX5_refuse 1 := ⟨by decide, pm_T_in (List.mem_of_getElem? (i := 849) (by decide +kernel)) rfl, pm_T_in (List.mem_of_getElem? (i := 57) (by decide +kernel)) rfl, ⟨by decide, by decide⟩, by decide +kernel, by decide⟩
theorem imX5_refuse : Cond.instanceMethod yX5_refuse ∈ pm_T := pm_T_in (List.mem_of_getElem? (i := 848) (by decide +kernel)) rfl
theorem ivX5_refuse : pm_iv MX5_refuse := ⟨imX5_refuse, pm_T_in (List.mem_of_getElem? (i := 15) (by decide +kernel)) rfl⟩
def MX10_placeOf : pm_M := (yX10_placeOf, cX10_placeOf, 2, (some .int))
theorem mtX10_placeOf : pm_mt MX10_placeOf 1 := ⟨by decide, pm_T_in (List.mem_of_getElem? (i := 853) (by decide +kernel)) rfl, pm_T_in (List.mem_of_getElem? (i := 58) (by decide +kernel)) rfl, ⟨by decide, by decide⟩, by decide +kernel, by decide⟩
theorem imX10_placeOf : Cond.instanceMethod yX10_placeOf ∈ pm_T := pm_T_in (List.mem_of_getElem? (i := 851) (by decide +kernel)) rfl
theorem ivX10_placeOf : pm_iv MX10_placeOf := ⟨imX10_placeOf, pm_T_in (List.mem_of_getElem? (i := 852) (by decide +kernel)) rfl⟩
def MX4_addStep : pm_M := (yX4_addStep, cX4_addStep, 4, none)
theorem mtX4_addStep : pm_mt MX4_addStep 3 := ⟨by decide, pm_T_in (List.mem_of_getElem? (i := 857) (by decide +kernel)) rfl, pm_T_in (List.mem_of_getElem? (i := 56) (by decide +kernel)) rfl, ⟨by decide, by decide⟩, by decide +kernel, by decide⟩
theorem imX4_addStep : Cond.instanceMethod yX4_addStep ∈ pm_T := pm_T_in (List.mem_of_getElem? (i := 855) (by decide +kernel)) rfl
theorem ivX4_addStep : pm_iv MX4_addStep := ⟨imX4_addStep, pm_T_in (List.mem_of_getElem? (i := 856) (by decide +kernel)) rfl⟩
def MX5_take : pm_M := (yX5_take, cX5_take, 2, none)
theorem mtX5_take : pm_mt MX5_take 1 := ⟨by decide, pm_T_in (List.mem_of_getElem? (i := 861) (by decide +kernel)) rfl, pm_T_in (List.mem_of_getElem? (i := 57) (by decide +kernel)) rfl, ⟨by decide, by decide⟩, by decide +kernel, by decide⟩
theorem imX5_take : Cond.instanceMethod yX5_take ∈ pm_T := pm_T_in (List.mem_of_getElem? (i := 860) (by decide +kernel)) rfl
theorem ivX5_take : pm_iv MX5_take := ⟨imX5_take, pm_T_in (List.mem_of_getElem? (i := 16) (by decide +kernel)) rfl⟩
def MX4_closeRule : pm_M := (yX4_closeRule, cX4_closeRule, 1, none)
theorem mtX4_closeRule : pm_mt MX4_closeRule 0 := ⟨by decide, pm_T_in (List.mem_of_getElem? (i := 865) (by decide +kernel)) rfl, pm_T_in (List.mem_of_getElem? (i := 56) (by decide +kernel)) rfl, ⟨by decide, by decide⟩, by decide +kernel, by decide⟩
theorem imX4_closeRule : Cond.instanceMethod yX4_closeRule ∈ pm_T := pm_T_in (List.mem_of_getElem? (i := 863) (by decide +kernel)) rfl
theorem ivX4_closeRule : pm_iv MX4_closeRule := ⟨imX4_closeRule, pm_T_in (List.mem_of_getElem? (i := 864) (by decide +kernel)) rfl⟩
def MX11_fault : pm_M := (yX11_fault, cX11_fault, 2, (some .int))
theorem mtX11_fault : pm_mt MX11_fault 1 := ⟨by decide, pm_T_in (List.mem_of_getElem? (i := 869) (by decide +kernel)) rfl, pm_T_in (List.mem_of_getElem? (i := 52) (by decide +kernel)) rfl, ⟨by decide, by decide⟩, by decide +kernel, by decide⟩
theorem imX11_fault : Cond.instanceMethod yX11_fault ∈ pm_T := pm_T_in (List.mem_of_getElem? (i := 867) (by decide +kernel)) rfl
theorem ivX11_fault : pm_iv MX11_fault := ⟨imX11_fault, pm_T_in (List.mem_of_getElem? (i := 868) (by decide +kernel)) rfl⟩
def MX11_barred : pm_M := (yX11_barred, cX11_barred, 4, (some .int))
theorem mtX11_barred : pm_mt MX11_barred 3 := ⟨by decide, pm_T_in (List.mem_of_getElem? (i := 873) (by decide +kernel)) rfl, pm_T_in (List.mem_of_getElem? (i := 52) (by decide +kernel)) rfl, ⟨by decide, by decide⟩, by decide +kernel, by decide⟩
theorem imX11_barred : Cond.instanceMethod yX11_barred ∈ pm_T := pm_T_in (List.mem_of_getElem? (i := 871) (by decide +kernel)) rfl
theorem ivX11_barred : pm_iv MX11_barred := ⟨imX11_barred, pm_T_in (List.mem_of_getElem? (i := 872) (by decide +kernel)) rfl⟩
def MX2_tellParty : pm_M := (yX2_tellParty, cX2_tellParty, 3, none)
theorem mtX2_tellParty : pm_mt MX2_tellParty 2 := ⟨by decide, pm_T_in (List.mem_of_getElem? (i := 877) (by decide +kernel)) rfl, pm_T_in (List.mem_of_getElem? (i := 60) (by decide +kernel)) rfl, ⟨by decide, by decide⟩, by decide +kernel, by decide⟩
theorem imX2_tellParty : Cond.instanceMethod yX2_tellParty ∈ pm_T := pm_T_in (List.mem_of_getElem? (i := 875) (by decide +kernel)) rfl
theorem ivX2_tellParty : pm_iv MX2_tellParty := ⟨imX2_tellParty, pm_T_in (List.mem_of_getElem? (i := 876) (by decide +kernel)) rfl⟩
def MX2_tellSet : pm_M := (yX2_tellSet, cX2_tellSet, 5, none)
theorem mtX2_tellSet : pm_mt MX2_tellSet 2 := ⟨by decide, pm_T_in (List.mem_of_getElem? (i := 882) (by decide +kernel)) rfl, pm_T_in (List.mem_of_getElem? (i := 60) (by decide +kernel)) rfl, ⟨by decide, by decide⟩, by decide +kernel, by decide⟩
theorem imX2_tellSet : Cond.instanceMethod yX2_tellSet ∈ pm_T := pm_T_in (List.mem_of_getElem? (i := 880) (by decide +kernel)) rfl
theorem ivX2_tellSet : pm_iv MX2_tellSet := ⟨imX2_tellSet, pm_T_in (List.mem_of_getElem? (i := 881) (by decide +kernel)) rfl⟩
def MX4_firstThatBars : pm_M := (yX4_firstThatBars, cX4_firstThatBars, 4, (some .int))
theorem mtX4_firstThatBars : pm_mt MX4_firstThatBars 1 := ⟨by decide, pm_T_in (List.mem_of_getElem? (i := 887) (by decide +kernel)) rfl, pm_T_in (List.mem_of_getElem? (i := 56) (by decide +kernel)) rfl, ⟨by decide, by decide⟩, by decide +kernel, by decide⟩
theorem imX4_firstThatBars : Cond.instanceMethod yX4_firstThatBars ∈ pm_T := pm_T_in (List.mem_of_getElem? (i := 885) (by decide +kernel)) rfl
theorem ivX4_firstThatBars : pm_iv MX4_firstThatBars := ⟨imX4_firstThatBars, pm_T_in (List.mem_of_getElem? (i := 886) (by decide +kernel)) rfl⟩
def MX4_holds : pm_M := (yX4_holds, cX4_holds, 6, (some .boolean))
theorem mtX4_holds : pm_mt MX4_holds 3 := ⟨by decide, pm_T_in (List.mem_of_getElem? (i := 891) (by decide +kernel)) rfl, pm_T_in (List.mem_of_getElem? (i := 56) (by decide +kernel)) rfl, ⟨by decide, by decide⟩, by decide +kernel, by decide⟩
theorem imX4_holds : Cond.instanceMethod yX4_holds ∈ pm_T := pm_T_in (List.mem_of_getElem? (i := 890) (by decide +kernel)) rfl
theorem ivX4_holds : pm_iv MX4_holds := ⟨imX4_holds, pm_T_in (List.mem_of_getElem? (i := 17) (by decide +kernel)) rfl⟩
def MX4_compares : pm_M := (yX4_compares, cX4_compares, 5, (some .boolean))
theorem mtX4_compares : pm_mt MX4_compares 2 := ⟨by decide, pm_T_in (List.mem_of_getElem? (i := 895) (by decide +kernel)) rfl, pm_T_in (List.mem_of_getElem? (i := 56) (by decide +kernel)) rfl, ⟨by decide, by decide⟩, by decide +kernel, by decide⟩
theorem imX4_compares : Cond.instanceMethod yX4_compares ∈ pm_T := pm_T_in (List.mem_of_getElem? (i := 894) (by decide +kernel)) rfl
theorem ivX4_compares : pm_iv MX4_compares := ⟨imX4_compares, pm_T_in (List.mem_of_getElem? (i := 18) (by decide +kernel)) rfl⟩
def MX2_value : pm_M := (yX2_value, cX2_value, 3, (some .int))
theorem mtX2_value : pm_mt MX2_value 1 := ⟨by decide, pm_T_in (List.mem_of_getElem? (i := 899) (by decide +kernel)) rfl, pm_T_in (List.mem_of_getElem? (i := 60) (by decide +kernel)) rfl, ⟨by decide, by decide⟩, by decide +kernel, by decide⟩
theorem imX2_value : Cond.instanceMethod yX2_value ∈ pm_T := pm_T_in (List.mem_of_getElem? (i := 897) (by decide +kernel)) rfl
theorem ivX2_value : pm_iv MX2_value := ⟨imX2_value, pm_T_in (List.mem_of_getElem? (i := 898) (by decide +kernel)) rfl⟩
def MX11_best : pm_M := (yX11_best, cX11_best, 6, (some .int))
theorem mtX11_best : pm_mt MX11_best 5 := ⟨by decide, pm_T_in (List.mem_of_getElem? (i := 903) (by decide +kernel)) rfl, pm_T_in (List.mem_of_getElem? (i := 52) (by decide +kernel)) rfl, ⟨by decide, by decide⟩, by decide +kernel, by decide⟩
theorem imX11_best : Cond.instanceMethod yX11_best ∈ pm_T := pm_T_in (List.mem_of_getElem? (i := 901) (by decide +kernel)) rfl
theorem ivX11_best : pm_iv MX11_best := ⟨imX11_best, pm_T_in (List.mem_of_getElem? (i := 902) (by decide +kernel)) rfl⟩
def MX1_invite : pm_M := (yX1_invite, cX1_invite, 4, none)
theorem mtX1_invite : pm_mt MX1_invite 3 := ⟨by decide, pm_T_in (List.mem_of_getElem? (i := 907) (by decide +kernel)) rfl, pm_T_in (List.mem_of_getElem? (i := 61) (by decide +kernel)) rfl, ⟨by decide, by decide⟩, by decide +kernel, by decide⟩
theorem imX1_invite : Cond.instanceMethod yX1_invite ∈ pm_T := pm_T_in (List.mem_of_getElem? (i := 905) (by decide +kernel)) rfl
theorem ivX1_invite : pm_iv MX1_invite := ⟨imX1_invite, pm_T_in (List.mem_of_getElem? (i := 906) (by decide +kernel)) rfl⟩
def MX1_choose : pm_M := (yX1_choose, cX1_choose, 4, none)
theorem mtX1_choose : pm_mt MX1_choose 3 := ⟨by decide, pm_T_in (List.mem_of_getElem? (i := 912) (by decide +kernel)) rfl, pm_T_in (List.mem_of_getElem? (i := 61) (by decide +kernel)) rfl, ⟨by decide, by decide⟩, by decide +kernel, by decide⟩
theorem imX1_choose : Cond.instanceMethod yX1_choose ∈ pm_T := pm_T_in (List.mem_of_getElem? (i := 910) (by decide +kernel)) rfl
theorem ivX1_choose : pm_iv MX1_choose := ⟨imX1_choose, pm_T_in (List.mem_of_getElem? (i := 911) (by decide +kernel)) rfl⟩
def MX1_layFrom : pm_M := (yX1_layFrom, cX1_layFrom, 4, none)
theorem mtX1_layFrom : pm_mt MX1_layFrom 1 := ⟨by decide, pm_T_in (List.mem_of_getElem? (i := 917) (by decide +kernel)) rfl, pm_T_in (List.mem_of_getElem? (i := 61) (by decide +kernel)) rfl, ⟨by decide, by decide⟩, by decide +kernel, by decide⟩
theorem imX1_layFrom : Cond.instanceMethod yX1_layFrom ∈ pm_T := pm_T_in (List.mem_of_getElem? (i := 916) (by decide +kernel)) rfl
theorem ivX1_layFrom : pm_iv MX1_layFrom := ⟨imX1_layFrom, pm_T_in (List.mem_of_getElem? (i := 19) (by decide +kernel)) rfl⟩
def MX1_judge : pm_M := (yX1_judge, cX1_judge, 3, none)
theorem mtX1_judge : pm_mt MX1_judge 0 := ⟨by decide, pm_T_in (List.mem_of_getElem? (i := 921) (by decide +kernel)) rfl, pm_T_in (List.mem_of_getElem? (i := 61) (by decide +kernel)) rfl, ⟨by decide, by decide⟩, by decide +kernel, by decide⟩
theorem imX1_judge : Cond.instanceMethod yX1_judge ∈ pm_T := pm_T_in (List.mem_of_getElem? (i := 920) (by decide +kernel)) rfl
theorem ivX1_judge : pm_iv MX1_judge := ⟨imX1_judge, pm_T_in (List.mem_of_getElem? (i := 20) (by decide +kernel)) rfl⟩
def MX8_sumRanks : pm_M := (yX8_sumRanks, cX8_sumRanks, 4, (some .int))
theorem mtX8_sumRanks : pm_mt MX8_sumRanks 0 := ⟨by decide, pm_T_in (List.mem_of_getElem? (i := 928) (by decide +kernel)) rfl, pm_T_in (List.mem_of_getElem? (i := 59) (by decide +kernel)) rfl, ⟨by decide, by decide⟩, by decide +kernel, by decide⟩
theorem imX8_sumRanks : Cond.instanceMethod yX8_sumRanks ∈ pm_T := pm_T_in (List.mem_of_getElem? (i := 926) (by decide +kernel)) rfl
theorem ivX8_sumRanks : pm_iv MX8_sumRanks := ⟨imX8_sumRanks, pm_T_in (List.mem_of_getElem? (i := 927) (by decide +kernel)) rfl⟩
def MX9_suits : pm_M := (yX9_suits, cX9_suits, 2, (some .boolean))
theorem mtX9_suits : pm_mt MX9_suits 1 := ⟨by decide, pm_T_in (List.mem_of_getElem? (i := 936) (by decide +kernel)) rfl, pm_T_in (List.mem_of_getElem? (i := 64) (by decide +kernel)) rfl, ⟨by decide, by decide⟩, by decide +kernel, by decide⟩
theorem imX9_suits : Cond.instanceMethod yX9_suits ∈ pm_T := pm_T_in (List.mem_of_getElem? (i := 934) (by decide +kernel)) rfl
theorem ivX9_suits : pm_iv MX9_suits := ⟨imX9_suits, pm_T_in (List.mem_of_getElem? (i := 935) (by decide +kernel)) rfl⟩
def MX1_tell : pm_M := (yX1_tell, cX1_tell, 2, (some .int))
theorem mtX1_tell : pm_mt MX1_tell 1 := ⟨by decide, pm_T_in (List.mem_of_getElem? (i := 941) (by decide +kernel)) rfl, pm_T_in (List.mem_of_getElem? (i := 61) (by decide +kernel)) rfl, ⟨by decide, by decide⟩, by decide +kernel, by decide⟩
theorem imX1_tell : Cond.instanceMethod yX1_tell ∈ pm_T := pm_T_in (List.mem_of_getElem? (i := 939) (by decide +kernel)) rfl
theorem ivX1_tell : pm_iv MX1_tell := ⟨imX1_tell, pm_T_in (List.mem_of_getElem? (i := 940) (by decide +kernel)) rfl⟩
def MX12_init : pm_M := (yX12_init, cX12_init, 1, none)
theorem mtX12_init : pm_mt MX12_init 0 := ⟨by decide, pm_T_in (List.mem_of_getElem? (i := 946) (by decide +kernel)) rfl, pm_T_in (List.mem_of_getElem? (i := 62) (by decide +kernel)) rfl, ⟨by decide, by decide⟩, by decide +kernel, by decide⟩
theorem imX12_init : Cond.instanceMethod yX12_init ∈ pm_T := pm_T_in (List.mem_of_getElem? (i := 945) (by decide +kernel)) rfl
def MX12_thing : pm_M := (yX12_thing, cX12_thing, 6, (some .int))
theorem mtX12_thing : pm_mt MX12_thing 5 := ⟨by decide, pm_T_in (List.mem_of_getElem? (i := 1087) (by decide +kernel)) rfl, pm_T_in (List.mem_of_getElem? (i := 62) (by decide +kernel)) rfl, ⟨by decide, by decide⟩, by decide +kernel, by decide⟩
theorem imX12_thing : Cond.instanceMethod yX12_thing ∈ pm_T := pm_T_in (List.mem_of_getElem? (i := 1085) (by decide +kernel)) rfl
theorem ivX12_thing : pm_iv MX12_thing := ⟨imX12_thing, pm_T_in (List.mem_of_getElem? (i := 1086) (by decide +kernel)) rfl⟩
def MX12_isIn : pm_M := (yX12_isIn, cX12_isIn, 3, (some .boolean))
theorem mtX12_isIn : pm_mt MX12_isIn 3 := ⟨by decide, pm_T_in (List.mem_of_getElem? (i := 1090) (by decide +kernel)) rfl, pm_T_in (List.mem_of_getElem? (i := 62) (by decide +kernel)) rfl, ⟨by decide, by decide⟩, by decide +kernel, by decide⟩
theorem stX12_isIn : Cond.static yX12_isIn ∈ pm_T := pm_T_in (List.mem_of_getElem? (i := 1089) (by decide +kernel)) rfl
def MX12_isHouse : pm_M := (yX12_isHouse, cX12_isHouse, 1, (some .boolean))
theorem mtX12_isHouse : pm_mt MX12_isHouse 1 := ⟨by decide, pm_T_in (List.mem_of_getElem? (i := 1093) (by decide +kernel)) rfl, pm_T_in (List.mem_of_getElem? (i := 62) (by decide +kernel)) rfl, ⟨by decide, by decide⟩, by decide +kernel, by decide⟩
theorem stX12_isHouse : Cond.static yX12_isHouse ∈ pm_T := pm_T_in (List.mem_of_getElem? (i := 1092) (by decide +kernel)) rfl
def MX12_comes : pm_M := (yX12_comes, cX12_comes, 8, (some .int))
theorem mtX12_comes : pm_mt MX12_comes 6 := ⟨by decide, pm_T_in (List.mem_of_getElem? (i := 1097) (by decide +kernel)) rfl, pm_T_in (List.mem_of_getElem? (i := 62) (by decide +kernel)) rfl, ⟨by decide, by decide⟩, by decide +kernel, by decide⟩
theorem imX12_comes : Cond.instanceMethod yX12_comes ∈ pm_T := pm_T_in (List.mem_of_getElem? (i := 1096) (by decide +kernel)) rfl
theorem ivX12_comes : pm_iv MX12_comes := ⟨imX12_comes, pm_T_in (List.mem_of_getElem? (i := 21) (by decide +kernel)) rfl⟩
def MX12_copy : pm_M := (yX12_copy, cX12_copy, 4, (some .int))
theorem mtX12_copy : pm_mt MX12_copy 3 := ⟨by decide, pm_T_in (List.mem_of_getElem? (i := 1101) (by decide +kernel)) rfl, pm_T_in (List.mem_of_getElem? (i := 62) (by decide +kernel)) rfl, ⟨by decide, by decide⟩, by decide +kernel, by decide⟩
theorem imX12_copy : Cond.instanceMethod yX12_copy ∈ pm_T := pm_T_in (List.mem_of_getElem? (i := 1099) (by decide +kernel)) rfl
theorem ivX12_copy : pm_iv MX12_copy := ⟨imX12_copy, pm_T_in (List.mem_of_getElem? (i := 1100) (by decide +kernel)) rfl⟩
def MX12_isThere : pm_M := (yX12_isThere, cX12_isThere, 2, (some .boolean))
theorem mtX12_isThere : pm_mt MX12_isThere 1 := ⟨by decide, pm_T_in (List.mem_of_getElem? (i := 1105) (by decide +kernel)) rfl, pm_T_in (List.mem_of_getElem? (i := 62) (by decide +kernel)) rfl, ⟨by decide, by decide⟩, by decide +kernel, by decide⟩
theorem imX12_isThere : Cond.instanceMethod yX12_isThere ∈ pm_T := pm_T_in (List.mem_of_getElem? (i := 1104) (by decide +kernel)) rfl
theorem ivX12_isThere : pm_iv MX12_isThere := ⟨imX12_isThere, pm_T_in (List.mem_of_getElem? (i := 22) (by decide +kernel)) rfl⟩
def MX12_isThing : pm_M := (yX12_isThing, cX12_isThing, 2, (some .boolean))
theorem mtX12_isThing : pm_mt MX12_isThing 1 := ⟨by decide, pm_T_in (List.mem_of_getElem? (i := 1109) (by decide +kernel)) rfl, pm_T_in (List.mem_of_getElem? (i := 62) (by decide +kernel)) rfl, ⟨by decide, by decide⟩, by decide +kernel, by decide⟩
theorem imX12_isThing : Cond.instanceMethod yX12_isThing ∈ pm_T := pm_T_in (List.mem_of_getElem? (i := 1108) (by decide +kernel)) rfl
theorem ivX12_isThing : pm_iv MX12_isThing := ⟨imX12_isThing, pm_T_in (List.mem_of_getElem? (i := 23) (by decide +kernel)) rfl⟩
def MX12_pass : pm_M := (yX12_pass, cX12_pass, 3, (some .boolean))
theorem mtX12_pass : pm_mt MX12_pass 2 := ⟨by decide, pm_T_in (List.mem_of_getElem? (i := 1113) (by decide +kernel)) rfl, pm_T_in (List.mem_of_getElem? (i := 62) (by decide +kernel)) rfl, ⟨by decide, by decide⟩, by decide +kernel, by decide⟩
theorem imX12_pass : Cond.instanceMethod yX12_pass ∈ pm_T := pm_T_in (List.mem_of_getElem? (i := 1111) (by decide +kernel)) rfl
theorem ivX12_pass : pm_iv MX12_pass := ⟨imX12_pass, pm_T_in (List.mem_of_getElem? (i := 1112) (by decide +kernel)) rfl⟩
def MX12_lentOn : pm_M := (yX12_lentOn, cX12_lentOn, 5, (some .int))
theorem mtX12_lentOn : pm_mt MX12_lentOn 2 := ⟨by decide, pm_T_in (List.mem_of_getElem? (i := 1117) (by decide +kernel)) rfl, pm_T_in (List.mem_of_getElem? (i := 62) (by decide +kernel)) rfl, ⟨by decide, by decide⟩, by decide +kernel, by decide⟩
theorem imX12_lentOn : Cond.instanceMethod yX12_lentOn ∈ pm_T := pm_T_in (List.mem_of_getElem? (i := 1116) (by decide +kernel)) rfl
theorem ivX12_lentOn : pm_iv MX12_lentOn := ⟨imX12_lentOn, pm_T_in (List.mem_of_getElem? (i := 24) (by decide +kernel)) rfl⟩
def MX12_ownerOn : pm_M := (yX12_ownerOn, cX12_ownerOn, 5, (some .int))
theorem mtX12_ownerOn : pm_mt MX12_ownerOn 2 := ⟨by decide, pm_T_in (List.mem_of_getElem? (i := 1121) (by decide +kernel)) rfl, pm_T_in (List.mem_of_getElem? (i := 62) (by decide +kernel)) rfl, ⟨by decide, by decide⟩, by decide +kernel, by decide⟩
theorem imX12_ownerOn : Cond.instanceMethod yX12_ownerOn ∈ pm_T := pm_T_in (List.mem_of_getElem? (i := 1120) (by decide +kernel)) rfl
theorem ivX12_ownerOn : pm_iv MX12_ownerOn := ⟨imX12_ownerOn, pm_T_in (List.mem_of_getElem? (i := 25) (by decide +kernel)) rfl⟩
def MX12_happens : pm_M := (yX12_happens, cX12_happens, 4, (some .boolean))
theorem mtX12_happens : pm_mt MX12_happens 3 := ⟨by decide, pm_T_in (List.mem_of_getElem? (i := 1125) (by decide +kernel)) rfl, pm_T_in (List.mem_of_getElem? (i := 62) (by decide +kernel)) rfl, ⟨by decide, by decide⟩, by decide +kernel, by decide⟩
theorem imX12_happens : Cond.instanceMethod yX12_happens ∈ pm_T := pm_T_in (List.mem_of_getElem? (i := 1124) (by decide +kernel)) rfl
theorem ivX12_happens : pm_iv MX12_happens := ⟨imX12_happens, pm_T_in (List.mem_of_getElem? (i := 26) (by decide +kernel)) rfl⟩
def MX12_lend : pm_M := (yX12_lend, cX12_lend, 3, (some .boolean))
theorem mtX12_lend : pm_mt MX12_lend 2 := ⟨by decide, pm_T_in (List.mem_of_getElem? (i := 1129) (by decide +kernel)) rfl, pm_T_in (List.mem_of_getElem? (i := 62) (by decide +kernel)) rfl, ⟨by decide, by decide⟩, by decide +kernel, by decide⟩
theorem imX12_lend : Cond.instanceMethod yX12_lend ∈ pm_T := pm_T_in (List.mem_of_getElem? (i := 1127) (by decide +kernel)) rfl
theorem ivX12_lend : pm_iv MX12_lend := ⟨imX12_lend, pm_T_in (List.mem_of_getElem? (i := 1128) (by decide +kernel)) rfl⟩
def MX12_back : pm_M := (yX12_back, cX12_back, 2, (some .boolean))
theorem mtX12_back : pm_mt MX12_back 1 := ⟨by decide, pm_T_in (List.mem_of_getElem? (i := 1133) (by decide +kernel)) rfl, pm_T_in (List.mem_of_getElem? (i := 62) (by decide +kernel)) rfl, ⟨by decide, by decide⟩, by decide +kernel, by decide⟩
theorem imX12_back : Cond.instanceMethod yX12_back ∈ pm_T := pm_T_in (List.mem_of_getElem? (i := 1131) (by decide +kernel)) rfl
theorem ivX12_back : pm_iv MX12_back := ⟨imX12_back, pm_T_in (List.mem_of_getElem? (i := 1132) (by decide +kernel)) rfl⟩
def MX12_burn : pm_M := (yX12_burn, cX12_burn, 2, (some .boolean))
theorem mtX12_burn : pm_mt MX12_burn 1 := ⟨by decide, pm_T_in (List.mem_of_getElem? (i := 1137) (by decide +kernel)) rfl, pm_T_in (List.mem_of_getElem? (i := 62) (by decide +kernel)) rfl, ⟨by decide, by decide⟩, by decide +kernel, by decide⟩
theorem imX12_burn : Cond.instanceMethod yX12_burn ∈ pm_T := pm_T_in (List.mem_of_getElem? (i := 1135) (by decide +kernel)) rfl
theorem ivX12_burn : pm_iv MX12_burn := ⟨imX12_burn, pm_T_in (List.mem_of_getElem? (i := 1136) (by decide +kernel)) rfl⟩
def MX12_days : pm_M := (yX12_days, cX12_days, 2, (some .int))
theorem mtX12_days : pm_mt MX12_days 1 := ⟨by decide, pm_T_in (List.mem_of_getElem? (i := 1141) (by decide +kernel)) rfl, pm_T_in (List.mem_of_getElem? (i := 62) (by decide +kernel)) rfl, ⟨by decide, by decide⟩, by decide +kernel, by decide⟩
theorem imX12_days : Cond.instanceMethod yX12_days ∈ pm_T := pm_T_in (List.mem_of_getElem? (i := 1139) (by decide +kernel)) rfl
theorem ivX12_days : pm_iv MX12_days := ⟨imX12_days, pm_T_in (List.mem_of_getElem? (i := 1140) (by decide +kernel)) rfl⟩
def MX12_look : pm_M := (yX12_look, cX12_look, 4, (some .int))
theorem mtX12_look : pm_mt MX12_look 1 := ⟨by decide, pm_T_in (List.mem_of_getElem? (i := 1145) (by decide +kernel)) rfl, pm_T_in (List.mem_of_getElem? (i := 62) (by decide +kernel)) rfl, ⟨by decide, by decide⟩, by decide +kernel, by decide⟩
theorem imX12_look : Cond.instanceMethod yX12_look ∈ pm_T := pm_T_in (List.mem_of_getElem? (i := 1143) (by decide +kernel)) rfl
theorem ivX12_look : pm_iv MX12_look := ⟨imX12_look, pm_T_in (List.mem_of_getElem? (i := 1144) (by decide +kernel)) rfl⟩
def MX12_of : pm_M := (yX12_of, cX12_of, 3, (some .int))
theorem mtX12_of : pm_mt MX12_of 2 := ⟨by decide, pm_T_in (List.mem_of_getElem? (i := 1149) (by decide +kernel)) rfl, pm_T_in (List.mem_of_getElem? (i := 62) (by decide +kernel)) rfl, ⟨by decide, by decide⟩, by decide +kernel, by decide⟩
theorem imX12_of : Cond.instanceMethod yX12_of ∈ pm_T := pm_T_in (List.mem_of_getElem? (i := 1147) (by decide +kernel)) rfl
theorem ivX12_of : pm_iv MX12_of := ⟨imX12_of, pm_T_in (List.mem_of_getElem? (i := 1148) (by decide +kernel)) rfl⟩
def MX12_rootOf : pm_M := (yX12_rootOf, cX12_rootOf, 3, (some .int))
theorem mtX12_rootOf : pm_mt MX12_rootOf 1 := ⟨by decide, pm_T_in (List.mem_of_getElem? (i := 1153) (by decide +kernel)) rfl, pm_T_in (List.mem_of_getElem? (i := 62) (by decide +kernel)) rfl, ⟨by decide, by decide⟩, by decide +kernel, by decide⟩
theorem imX12_rootOf : Cond.instanceMethod yX12_rootOf ∈ pm_T := pm_T_in (List.mem_of_getElem? (i := 1152) (by decide +kernel)) rfl
theorem ivX12_rootOf : pm_iv MX12_rootOf := ⟨imX12_rootOf, pm_T_in (List.mem_of_getElem? (i := 27) (by decide +kernel)) rfl⟩
def MX12_isDoubtful : pm_M := (yX12_isDoubtful, cX12_isDoubtful, 5, (some .boolean))
theorem mtX12_isDoubtful : pm_mt MX12_isDoubtful 1 := ⟨by decide, pm_T_in (List.mem_of_getElem? (i := 1157) (by decide +kernel)) rfl, pm_T_in (List.mem_of_getElem? (i := 62) (by decide +kernel)) rfl, ⟨by decide, by decide⟩, by decide +kernel, by decide⟩
theorem imX12_isDoubtful : Cond.instanceMethod yX12_isDoubtful ∈ pm_T := pm_T_in (List.mem_of_getElem? (i := 1156) (by decide +kernel)) rfl
theorem ivX12_isDoubtful : pm_iv MX12_isDoubtful := ⟨imX12_isDoubtful, pm_T_in (List.mem_of_getElem? (i := 28) (by decide +kernel)) rfl⟩
def MX12_keptOn : pm_M := (yX12_keptOn, cX12_keptOn, 4, (some .int))
theorem mtX12_keptOn : pm_mt MX12_keptOn 2 := ⟨by decide, pm_T_in (List.mem_of_getElem? (i := 1161) (by decide +kernel)) rfl, pm_T_in (List.mem_of_getElem? (i := 62) (by decide +kernel)) rfl, ⟨by decide, by decide⟩, by decide +kernel, by decide⟩
theorem imX12_keptOn : Cond.instanceMethod yX12_keptOn ∈ pm_T := pm_T_in (List.mem_of_getElem? (i := 1160) (by decide +kernel)) rfl
theorem ivX12_keptOn : pm_iv MX12_keptOn := ⟨imX12_keptOn, pm_T_in (List.mem_of_getElem? (i := 29) (by decide +kernel)) rfl⟩
def MX12_held : pm_M := (yX12_held, cX12_held, 4, (some .int))
theorem mtX12_held : pm_mt MX12_held 3 := ⟨by decide, pm_T_in (List.mem_of_getElem? (i := 1165) (by decide +kernel)) rfl, pm_T_in (List.mem_of_getElem? (i := 62) (by decide +kernel)) rfl, ⟨by decide, by decide⟩, by decide +kernel, by decide⟩
theorem imX12_held : Cond.instanceMethod yX12_held ∈ pm_T := pm_T_in (List.mem_of_getElem? (i := 1163) (by decide +kernel)) rfl
theorem ivX12_held : pm_iv MX12_held := ⟨imX12_held, pm_T_in (List.mem_of_getElem? (i := 1164) (by decide +kernel)) rfl⟩
def MX12_owners : pm_M := (yX12_owners, cX12_owners, 5, (some .int))
theorem mtX12_owners : pm_mt MX12_owners 2 := ⟨by decide, pm_T_in (List.mem_of_getElem? (i := 1169) (by decide +kernel)) rfl, pm_T_in (List.mem_of_getElem? (i := 62) (by decide +kernel)) rfl, ⟨by decide, by decide⟩, by decide +kernel, by decide⟩
theorem imX12_owners : Cond.instanceMethod yX12_owners ∈ pm_T := pm_T_in (List.mem_of_getElem? (i := 1167) (by decide +kernel)) rfl
theorem ivX12_owners : pm_iv MX12_owners := ⟨imX12_owners, pm_T_in (List.mem_of_getElem? (i := 1168) (by decide +kernel)) rfl⟩
def MX12_gather : pm_M := (yX12_gather, cX12_gather, 6, (some .int))
theorem mtX12_gather : pm_mt MX12_gather 4 := ⟨by decide, pm_T_in (List.mem_of_getElem? (i := 1173) (by decide +kernel)) rfl, pm_T_in (List.mem_of_getElem? (i := 62) (by decide +kernel)) rfl, ⟨by decide, by decide⟩, by decide +kernel, by decide⟩
theorem imX12_gather : Cond.instanceMethod yX12_gather ∈ pm_T := pm_T_in (List.mem_of_getElem? (i := 1171) (by decide +kernel)) rfl
theorem ivX12_gather : pm_iv MX12_gather := ⟨imX12_gather, pm_T_in (List.mem_of_getElem? (i := 1172) (by decide +kernel)) rfl⟩
def MX12_isSeason : pm_M := (yX12_isSeason, cX12_isSeason, 1, (some .boolean))
theorem mtX12_isSeason : pm_mt MX12_isSeason 1 := ⟨by decide, pm_T_in (List.mem_of_getElem? (i := 1176) (by decide +kernel)) rfl, pm_T_in (List.mem_of_getElem? (i := 62) (by decide +kernel)) rfl, ⟨by decide, by decide⟩, by decide +kernel, by decide⟩
theorem stX12_isSeason : Cond.static yX12_isSeason ∈ pm_T := pm_T_in (List.mem_of_getElem? (i := 1175) (by decide +kernel)) rfl
def MX12_areGuests : pm_M := (yX12_areGuests, cX12_areGuests, 1, (some .boolean))
theorem mtX12_areGuests : pm_mt MX12_areGuests 1 := ⟨by decide, pm_T_in (List.mem_of_getElem? (i := 1179) (by decide +kernel)) rfl, pm_T_in (List.mem_of_getElem? (i := 62) (by decide +kernel)) rfl, ⟨by decide, by decide⟩, by decide +kernel, by decide⟩
theorem stX12_areGuests : Cond.static yX12_areGuests ∈ pm_T := pm_T_in (List.mem_of_getElem? (i := 1178) (by decide +kernel)) rfl
def MX12_isSet : pm_M := (yX12_isSet, cX12_isSet, 4, (some .boolean))
theorem mtX12_isSet : pm_mt MX12_isSet 1 := ⟨by decide, pm_T_in (List.mem_of_getElem? (i := 1183) (by decide +kernel)) rfl, pm_T_in (List.mem_of_getElem? (i := 62) (by decide +kernel)) rfl, ⟨by decide, by decide⟩, by decide +kernel, by decide⟩
theorem imX12_isSet : Cond.instanceMethod yX12_isSet ∈ pm_T := pm_T_in (List.mem_of_getElem? (i := 1182) (by decide +kernel)) rfl
theorem ivX12_isSet : pm_iv MX12_isSet := ⟨imX12_isSet, pm_T_in (List.mem_of_getElem? (i := 30) (by decide +kernel)) rfl⟩
def MX12_gathering : pm_M := (yX12_gathering, cX12_gathering, 3, (some .int))
theorem mtX12_gathering : pm_mt MX12_gathering 2 := ⟨by decide, pm_T_in (List.mem_of_getElem? (i := 1187) (by decide +kernel)) rfl, pm_T_in (List.mem_of_getElem? (i := 62) (by decide +kernel)) rfl, ⟨by decide, by decide⟩, by decide +kernel, by decide⟩
theorem imX12_gathering : Cond.instanceMethod yX12_gathering ∈ pm_T := pm_T_in (List.mem_of_getElem? (i := 1185) (by decide +kernel)) rfl
theorem ivX12_gathering : pm_iv MX12_gathering := ⟨imX12_gathering, pm_T_in (List.mem_of_getElem? (i := 1186) (by decide +kernel)) rfl⟩
def MX12_seen : pm_M := (yX12_seen, cX12_seen, 4, (some .int))
theorem mtX12_seen : pm_mt MX12_seen 3 := ⟨by decide, pm_T_in (List.mem_of_getElem? (i := 1191) (by decide +kernel)) rfl, pm_T_in (List.mem_of_getElem? (i := 62) (by decide +kernel)) rfl, ⟨by decide, by decide⟩, by decide +kernel, by decide⟩
theorem imX12_seen : Cond.instanceMethod yX12_seen ∈ pm_T := pm_T_in (List.mem_of_getElem? (i := 1189) (by decide +kernel)) rfl
theorem ivX12_seen : pm_iv MX12_seen := ⟨imX12_seen, pm_T_in (List.mem_of_getElem? (i := 1190) (by decide +kernel)) rfl⟩
def MX12_seenOf : pm_M := (yX12_seenOf, cX12_seenOf, 6, (some .int))
theorem mtX12_seenOf : pm_mt MX12_seenOf 3 := ⟨by decide, pm_T_in (List.mem_of_getElem? (i := 1195) (by decide +kernel)) rfl, pm_T_in (List.mem_of_getElem? (i := 62) (by decide +kernel)) rfl, ⟨by decide, by decide⟩, by decide +kernel, by decide⟩
theorem imX12_seenOf : Cond.instanceMethod yX12_seenOf ∈ pm_T := pm_T_in (List.mem_of_getElem? (i := 1194) (by decide +kernel)) rfl
theorem ivX12_seenOf : pm_iv MX12_seenOf := ⟨imX12_seenOf, pm_T_in (List.mem_of_getElem? (i := 31) (by decide +kernel)) rfl⟩
def MX12_again : pm_M := (yX12_again, cX12_again, 3, (some .int))
theorem mtX12_again : pm_mt MX12_again 2 := ⟨by decide, pm_T_in (List.mem_of_getElem? (i := 1199) (by decide +kernel)) rfl, pm_T_in (List.mem_of_getElem? (i := 62) (by decide +kernel)) rfl, ⟨by decide, by decide⟩, by decide +kernel, by decide⟩
theorem imX12_again : Cond.instanceMethod yX12_again ∈ pm_T := pm_T_in (List.mem_of_getElem? (i := 1197) (by decide +kernel)) rfl
theorem ivX12_again : pm_iv MX12_again := ⟨imX12_again, pm_T_in (List.mem_of_getElem? (i := 1198) (by decide +kernel)) rfl⟩
def MX12_againOf : pm_M := (yX12_againOf, cX12_againOf, 7, (some .int))
theorem mtX12_againOf : pm_mt MX12_againOf 2 := ⟨by decide, pm_T_in (List.mem_of_getElem? (i := 1203) (by decide +kernel)) rfl, pm_T_in (List.mem_of_getElem? (i := 62) (by decide +kernel)) rfl, ⟨by decide, by decide⟩, by decide +kernel, by decide⟩
theorem imX12_againOf : Cond.instanceMethod yX12_againOf ∈ pm_T := pm_T_in (List.mem_of_getElem? (i := 1202) (by decide +kernel)) rfl
theorem ivX12_againOf : pm_iv MX12_againOf := ⟨imX12_againOf, pm_T_in (List.mem_of_getElem? (i := 32) (by decide +kernel)) rfl⟩
def MX12_feed : pm_M := (yX12_feed, cX12_feed, 8, (some .int))
theorem mtX12_feed : pm_mt MX12_feed 5 := ⟨by decide, pm_T_in (List.mem_of_getElem? (i := 1207) (by decide +kernel)) rfl, pm_T_in (List.mem_of_getElem? (i := 62) (by decide +kernel)) rfl, ⟨by decide, by decide⟩, by decide +kernel, by decide⟩
theorem imX12_feed : Cond.instanceMethod yX12_feed ∈ pm_T := pm_T_in (List.mem_of_getElem? (i := 1205) (by decide +kernel)) rfl
theorem ivX12_feed : pm_iv MX12_feed := ⟨imX12_feed, pm_T_in (List.mem_of_getElem? (i := 1206) (by decide +kernel)) rfl⟩
def MX12_end : pm_M := (yX12_end, cX12_end, 2, (some .boolean))
theorem mtX12_end : pm_mt MX12_end 1 := ⟨by decide, pm_T_in (List.mem_of_getElem? (i := 1211) (by decide +kernel)) rfl, pm_T_in (List.mem_of_getElem? (i := 62) (by decide +kernel)) rfl, ⟨by decide, by decide⟩, by decide +kernel, by decide⟩
theorem imX12_end : Cond.instanceMethod yX12_end ∈ pm_T := pm_T_in (List.mem_of_getElem? (i := 1209) (by decide +kernel)) rfl
theorem ivX12_end : pm_iv MX12_end := ⟨imX12_end, pm_T_in (List.mem_of_getElem? (i := 1210) (by decide +kernel)) rfl⟩
def MX12_rules : pm_M := (yX12_rules, cX12_rules, 3, (some .int))
theorem mtX12_rules : pm_mt MX12_rules 0 := ⟨by decide, pm_T_in (List.mem_of_getElem? (i := 1215) (by decide +kernel)) rfl, pm_T_in (List.mem_of_getElem? (i := 62) (by decide +kernel)) rfl, ⟨by decide, by decide⟩, by decide +kernel, by decide⟩
theorem imX12_rules : Cond.instanceMethod yX12_rules ∈ pm_T := pm_T_in (List.mem_of_getElem? (i := 1213) (by decide +kernel)) rfl
theorem ivX12_rules : pm_iv MX12_rules := ⟨imX12_rules, pm_T_in (List.mem_of_getElem? (i := 1214) (by decide +kernel)) rfl⟩
def MX12_next0 : pm_M := (yX12_next0, cX12_next0, 5, none)
theorem mtX12_next0 : pm_mt MX12_next0 0 := ⟨by decide, pm_T_in (List.mem_of_getElem? (i := 1219) (by decide +kernel)) rfl, pm_T_in (List.mem_of_getElem? (i := 62) (by decide +kernel)) rfl, ⟨by decide, by decide⟩, by decide +kernel, by decide⟩
theorem imX12_next0 : Cond.instanceMethod yX12_next0 ∈ pm_T := pm_T_in (List.mem_of_getElem? (i := 1218) (by decide +kernel)) rfl
theorem ivX12_next0 : pm_iv MX12_next0 := ⟨imX12_next0, pm_T_in (List.mem_of_getElem? (i := 33) (by decide +kernel)) rfl⟩
def MX12_see : pm_M := (yX12_see, cX12_see, 2, (some .int))
theorem mtX12_see : pm_mt MX12_see 1 := ⟨by decide, pm_T_in (List.mem_of_getElem? (i := 1223) (by decide +kernel)) rfl, pm_T_in (List.mem_of_getElem? (i := 62) (by decide +kernel)) rfl, ⟨by decide, by decide⟩, by decide +kernel, by decide⟩
theorem imX12_see : Cond.instanceMethod yX12_see ∈ pm_T := pm_T_in (List.mem_of_getElem? (i := 1222) (by decide +kernel)) rfl
theorem ivX12_see : pm_iv MX12_see := ⟨imX12_see, pm_T_in (List.mem_of_getElem? (i := 34) (by decide +kernel)) rfl⟩
def MX12_isLetter : pm_M := (yX12_isLetter, cX12_isLetter, 1, (some .boolean))
theorem mtX12_isLetter : pm_mt MX12_isLetter 1 := ⟨by decide, pm_T_in (List.mem_of_getElem? (i := 1226) (by decide +kernel)) rfl, pm_T_in (List.mem_of_getElem? (i := 62) (by decide +kernel)) rfl, ⟨by decide, by decide⟩, by decide +kernel, by decide⟩
theorem stX12_isLetter : Cond.static yX12_isLetter ∈ pm_T := pm_T_in (List.mem_of_getElem? (i := 1225) (by decide +kernel)) rfl
def MX12_word : pm_M := (yX12_word, cX12_word, 2, (some .int))
theorem mtX12_word : pm_mt MX12_word 1 := ⟨by decide, pm_T_in (List.mem_of_getElem? (i := 1229) (by decide +kernel)) rfl, pm_T_in (List.mem_of_getElem? (i := 62) (by decide +kernel)) rfl, ⟨by decide, by decide⟩, by decide +kernel, by decide⟩
theorem stX12_word : Cond.static yX12_word ∈ pm_T := pm_T_in (List.mem_of_getElem? (i := 1228) (by decide +kernel)) rfl
def MX12_isDigit : pm_M := (yX12_isDigit, cX12_isDigit, 1, (some .boolean))
theorem mtX12_isDigit : pm_mt MX12_isDigit 1 := ⟨by decide, pm_T_in (List.mem_of_getElem? (i := 1247) (by decide +kernel)) rfl, pm_T_in (List.mem_of_getElem? (i := 62) (by decide +kernel)) rfl, ⟨by decide, by decide⟩, by decide +kernel, by decide⟩
theorem stX12_isDigit : Cond.static yX12_isDigit ∈ pm_T := pm_T_in (List.mem_of_getElem? (i := 1246) (by decide +kernel)) rfl
def MX12_aRule : pm_M := (yX12_aRule, cX12_aRule, 1, (some .boolean))
theorem mtX12_aRule : pm_mt MX12_aRule 0 := ⟨by decide, pm_T_in (List.mem_of_getElem? (i := 1251) (by decide +kernel)) rfl, pm_T_in (List.mem_of_getElem? (i := 62) (by decide +kernel)) rfl, ⟨by decide, by decide⟩, by decide +kernel, by decide⟩
theorem imX12_aRule : Cond.instanceMethod yX12_aRule ∈ pm_T := pm_T_in (List.mem_of_getElem? (i := 1250) (by decide +kernel)) rfl
theorem ivX12_aRule : pm_iv MX12_aRule := ⟨imX12_aRule, pm_T_in (List.mem_of_getElem? (i := 35) (by decide +kernel)) rfl⟩
def MX12_bad : pm_M := (yX12_bad, cX12_bad, 2, (some .boolean))
theorem mtX12_bad : pm_mt MX12_bad 1 := ⟨by decide, pm_T_in (List.mem_of_getElem? (i := 1255) (by decide +kernel)) rfl, pm_T_in (List.mem_of_getElem? (i := 62) (by decide +kernel)) rfl, ⟨by decide, by decide⟩, by decide +kernel, by decide⟩
theorem imX12_bad : Cond.instanceMethod yX12_bad ∈ pm_T := pm_T_in (List.mem_of_getElem? (i := 1254) (by decide +kernel)) rfl
theorem ivX12_bad : pm_iv MX12_bad := ⟨imX12_bad, pm_T_in (List.mem_of_getElem? (i := 36) (by decide +kernel)) rfl⟩
def MX12_any : pm_M := (yX12_any, cX12_any, 1, (some .boolean))
theorem mtX12_any : pm_mt MX12_any 0 := ⟨by decide, pm_T_in (List.mem_of_getElem? (i := 1259) (by decide +kernel)) rfl, pm_T_in (List.mem_of_getElem? (i := 62) (by decide +kernel)) rfl, ⟨by decide, by decide⟩, by decide +kernel, by decide⟩
theorem imX12_any : Cond.instanceMethod yX12_any ∈ pm_T := pm_T_in (List.mem_of_getElem? (i := 1258) (by decide +kernel)) rfl
theorem ivX12_any : pm_iv MX12_any := ⟨imX12_any, pm_T_in (List.mem_of_getElem? (i := 37) (by decide +kernel)) rfl⟩
def MX12_all : pm_M := (yX12_all, cX12_all, 1, (some .boolean))
theorem mtX12_all : pm_mt MX12_all 0 := ⟨by decide, pm_T_in (List.mem_of_getElem? (i := 1263) (by decide +kernel)) rfl, pm_T_in (List.mem_of_getElem? (i := 62) (by decide +kernel)) rfl, ⟨by decide, by decide⟩, by decide +kernel, by decide⟩
theorem imX12_all : Cond.instanceMethod yX12_all ∈ pm_T := pm_T_in (List.mem_of_getElem? (i := 1262) (by decide +kernel)) rfl
theorem ivX12_all : pm_iv MX12_all := ⟨imX12_all, pm_T_in (List.mem_of_getElem? (i := 38) (by decide +kernel)) rfl⟩
def MX12_one : pm_M := (yX12_one, cX12_one, 2, (some .boolean))
theorem mtX12_one : pm_mt MX12_one 0 := ⟨by decide, pm_T_in (List.mem_of_getElem? (i := 1267) (by decide +kernel)) rfl, pm_T_in (List.mem_of_getElem? (i := 62) (by decide +kernel)) rfl, ⟨by decide, by decide⟩, by decide +kernel, by decide⟩
theorem imX12_one : Cond.instanceMethod yX12_one ∈ pm_T := pm_T_in (List.mem_of_getElem? (i := 1266) (by decide +kernel)) rfl
theorem ivX12_one : pm_iv MX12_one := ⟨imX12_one, pm_T_in (List.mem_of_getElem? (i := 39) (by decide +kernel)) rfl⟩
def MX12_opens : pm_M := (yX12_opens, cX12_opens, 1, (some .boolean))
theorem mtX12_opens : pm_mt MX12_opens 0 := ⟨by decide, pm_T_in (List.mem_of_getElem? (i := 1271) (by decide +kernel)) rfl, pm_T_in (List.mem_of_getElem? (i := 62) (by decide +kernel)) rfl, ⟨by decide, by decide⟩, by decide +kernel, by decide⟩
theorem imX12_opens : Cond.instanceMethod yX12_opens ∈ pm_T := pm_T_in (List.mem_of_getElem? (i := 1270) (by decide +kernel)) rfl
theorem ivX12_opens : pm_iv MX12_opens := ⟨imX12_opens, pm_T_in (List.mem_of_getElem? (i := 40) (by decide +kernel)) rfl⟩
def MX12_lay : pm_M := (yX12_lay, cX12_lay, 2, none)
theorem mtX12_lay : pm_mt MX12_lay 1 := ⟨by decide, pm_T_in (List.mem_of_getElem? (i := 1275) (by decide +kernel)) rfl, pm_T_in (List.mem_of_getElem? (i := 62) (by decide +kernel)) rfl, ⟨by decide, by decide⟩, by decide +kernel, by decide⟩
theorem imX12_lay : Cond.instanceMethod yX12_lay ∈ pm_T := pm_T_in (List.mem_of_getElem? (i := 1274) (by decide +kernel)) rfl
theorem ivX12_lay : pm_iv MX12_lay := ⟨imX12_lay, pm_T_in (List.mem_of_getElem? (i := 41) (by decide +kernel)) rfl⟩
def MX12_need : pm_M := (yX12_need, cX12_need, 2, (some .boolean))
theorem mtX12_need : pm_mt MX12_need 1 := ⟨by decide, pm_T_in (List.mem_of_getElem? (i := 1279) (by decide +kernel)) rfl, pm_T_in (List.mem_of_getElem? (i := 62) (by decide +kernel)) rfl, ⟨by decide, by decide⟩, by decide +kernel, by decide⟩
theorem imX12_need : Cond.instanceMethod yX12_need ∈ pm_T := pm_T_in (List.mem_of_getElem? (i := 1278) (by decide +kernel)) rfl
theorem ivX12_need : pm_iv MX12_need := ⟨imX12_need, pm_T_in (List.mem_of_getElem? (i := 42) (by decide +kernel)) rfl⟩
def MX12_term : pm_M := (yX12_term, cX12_term, 2, (some .boolean))
theorem mtX12_term : pm_mt MX12_term 0 := ⟨by decide, pm_T_in (List.mem_of_getElem? (i := 1283) (by decide +kernel)) rfl, pm_T_in (List.mem_of_getElem? (i := 62) (by decide +kernel)) rfl, ⟨by decide, by decide⟩, by decide +kernel, by decide⟩
theorem imX12_term : Cond.instanceMethod yX12_term ∈ pm_T := pm_T_in (List.mem_of_getElem? (i := 1282) (by decide +kernel)) rfl
theorem ivX12_term : pm_iv MX12_term := ⟨imX12_term, pm_T_in (List.mem_of_getElem? (i := 43) (by decide +kernel)) rfl⟩
def MX12_fault : pm_M := (yX12_fault, cX12_fault, 2, (some .int))
theorem mtX12_fault : pm_mt MX12_fault 1 := ⟨by decide, pm_T_in (List.mem_of_getElem? (i := 1287) (by decide +kernel)) rfl, pm_T_in (List.mem_of_getElem? (i := 62) (by decide +kernel)) rfl, ⟨by decide, by decide⟩, by decide +kernel, by decide⟩
theorem imX12_fault : Cond.instanceMethod yX12_fault ∈ pm_T := pm_T_in (List.mem_of_getElem? (i := 1285) (by decide +kernel)) rfl
theorem ivX12_fault : pm_iv MX12_fault := ⟨imX12_fault, pm_T_in (List.mem_of_getElem? (i := 1286) (by decide +kernel)) rfl⟩
def MX12_barred : pm_M := (yX12_barred, cX12_barred, 4, (some .int))
theorem mtX12_barred : pm_mt MX12_barred 3 := ⟨by decide, pm_T_in (List.mem_of_getElem? (i := 1291) (by decide +kernel)) rfl, pm_T_in (List.mem_of_getElem? (i := 62) (by decide +kernel)) rfl, ⟨by decide, by decide⟩, by decide +kernel, by decide⟩
theorem imX12_barred : Cond.instanceMethod yX12_barred ∈ pm_T := pm_T_in (List.mem_of_getElem? (i := 1289) (by decide +kernel)) rfl
theorem ivX12_barred : pm_iv MX12_barred := ⟨imX12_barred, pm_T_in (List.mem_of_getElem? (i := 1290) (by decide +kernel)) rfl⟩
def MX12_barredBy : pm_M := (yX12_barredBy, cX12_barredBy, 5, (some .int))
theorem mtX12_barredBy : pm_mt MX12_barredBy 3 := ⟨by decide, pm_T_in (List.mem_of_getElem? (i := 1295) (by decide +kernel)) rfl, pm_T_in (List.mem_of_getElem? (i := 62) (by decide +kernel)) rfl, ⟨by decide, by decide⟩, by decide +kernel, by decide⟩
theorem imX12_barredBy : Cond.instanceMethod yX12_barredBy ∈ pm_T := pm_T_in (List.mem_of_getElem? (i := 1294) (by decide +kernel)) rfl
theorem ivX12_barredBy : pm_iv MX12_barredBy := ⟨imX12_barredBy, pm_T_in (List.mem_of_getElem? (i := 44) (by decide +kernel)) rfl⟩
def MX12_isSo : pm_M := (yX12_isSo, cX12_isSo, 8, (some .boolean))
theorem mtX12_isSo : pm_mt MX12_isSo 4 := ⟨by decide, pm_T_in (List.mem_of_getElem? (i := 1299) (by decide +kernel)) rfl, pm_T_in (List.mem_of_getElem? (i := 62) (by decide +kernel)) rfl, ⟨by decide, by decide⟩, by decide +kernel, by decide⟩
theorem imX12_isSo : Cond.instanceMethod yX12_isSo ∈ pm_T := pm_T_in (List.mem_of_getElem? (i := 1298) (by decide +kernel)) rfl
theorem ivX12_isSo : pm_iv MX12_isSo := ⟨imX12_isSo, pm_T_in (List.mem_of_getElem? (i := 45) (by decide +kernel)) rfl⟩
def MX12_known : pm_M := (yX12_known, cX12_known, 6, (some .int))
theorem mtX12_known : pm_mt MX12_known 4 := ⟨by decide, pm_T_in (List.mem_of_getElem? (i := 1303) (by decide +kernel)) rfl, pm_T_in (List.mem_of_getElem? (i := 62) (by decide +kernel)) rfl, ⟨by decide, by decide⟩, by decide +kernel, by decide⟩
theorem imX12_known : Cond.instanceMethod yX12_known ∈ pm_T := pm_T_in (List.mem_of_getElem? (i := 1302) (by decide +kernel)) rfl
theorem ivX12_known : pm_iv MX12_known := ⟨imX12_known, pm_T_in (List.mem_of_getElem? (i := 46) (by decide +kernel)) rfl⟩
def MX12_bits : pm_M := (yX12_bits, cX12_bits, 3, (some .int))
theorem mtX12_bits : pm_mt MX12_bits 1 := ⟨by decide, pm_T_in (List.mem_of_getElem? (i := 1306) (by decide +kernel)) rfl, pm_T_in (List.mem_of_getElem? (i := 62) (by decide +kernel)) rfl, ⟨by decide, by decide⟩, by decide +kernel, by decide⟩
theorem stX12_bits : Cond.static yX12_bits ∈ pm_T := pm_T_in (List.mem_of_getElem? (i := 1305) (by decide +kernel)) rfl
def MX12_both : pm_M := (yX12_both, cX12_both, 3, (some .int))
theorem mtX12_both : pm_mt MX12_both 3 := ⟨by decide, pm_T_in (List.mem_of_getElem? (i := 1309) (by decide +kernel)) rfl, pm_T_in (List.mem_of_getElem? (i := 62) (by decide +kernel)) rfl, ⟨by decide, by decide⟩, by decide +kernel, by decide⟩
theorem stX12_both : Cond.static yX12_both ∈ pm_T := pm_T_in (List.mem_of_getElem? (i := 1308) (by decide +kernel)) rfl
def MX12_best : pm_M := (yX12_best, cX12_best, 6, (some .int))
theorem mtX12_best : pm_mt MX12_best 5 := ⟨by decide, pm_T_in (List.mem_of_getElem? (i := 1313) (by decide +kernel)) rfl, pm_T_in (List.mem_of_getElem? (i := 62) (by decide +kernel)) rfl, ⟨by decide, by decide⟩, by decide +kernel, by decide⟩
theorem imX12_best : Cond.instanceMethod yX12_best ∈ pm_T := pm_T_in (List.mem_of_getElem? (i := 1311) (by decide +kernel)) rfl
theorem ivX12_best : pm_iv MX12_best := ⟨imX12_best, pm_T_in (List.mem_of_getElem? (i := 1312) (by decide +kernel)) rfl⟩
def MX12_finds : pm_M := (yX12_finds, cX12_finds, 8, none)
theorem mtX12_finds : pm_mt MX12_finds 4 := ⟨by decide, pm_T_in (List.mem_of_getElem? (i := 1317) (by decide +kernel)) rfl, pm_T_in (List.mem_of_getElem? (i := 62) (by decide +kernel)) rfl, ⟨by decide, by decide⟩, by decide +kernel, by decide⟩
theorem imX12_finds : Cond.instanceMethod yX12_finds ∈ pm_T := pm_T_in (List.mem_of_getElem? (i := 1316) (by decide +kernel)) rfl
theorem ivX12_finds : pm_iv MX12_finds := ⟨imX12_finds, pm_T_in (List.mem_of_getElem? (i := 47) (by decide +kernel)) rfl⟩
def MX12_next : pm_M := (yX12_next, cX12_next, 6, (some .int))
theorem mtX12_next : pm_mt MX12_next 4 := ⟨by decide, pm_T_in (List.mem_of_getElem? (i := 1321) (by decide +kernel)) rfl, pm_T_in (List.mem_of_getElem? (i := 62) (by decide +kernel)) rfl, ⟨by decide, by decide⟩, by decide +kernel, by decide⟩
theorem imX12_next : Cond.instanceMethod yX12_next ∈ pm_T := pm_T_in (List.mem_of_getElem? (i := 1320) (by decide +kernel)) rfl
theorem ivX12_next : pm_iv MX12_next := ⟨imX12_next, pm_T_in (List.mem_of_getElem? (i := 48) (by decide +kernel)) rfl⟩
def MX12_isFit : pm_M := (yX12_isFit, cX12_isFit, 5, (some .boolean))
theorem mtX12_isFit : pm_mt MX12_isFit 4 := ⟨by decide, pm_T_in (List.mem_of_getElem? (i := 1325) (by decide +kernel)) rfl, pm_T_in (List.mem_of_getElem? (i := 62) (by decide +kernel)) rfl, ⟨by decide, by decide⟩, by decide +kernel, by decide⟩
theorem imX12_isFit : Cond.instanceMethod yX12_isFit ∈ pm_T := pm_T_in (List.mem_of_getElem? (i := 1324) (by decide +kernel)) rfl
theorem ivX12_isFit : pm_iv MX12_isFit := ⟨imX12_isFit, pm_T_in (List.mem_of_getElem? (i := 49) (by decide +kernel)) rfl⟩
def MX12_tries : pm_M := (yX12_tries, cX12_tries, 6, none)
theorem mtX12_tries : pm_mt MX12_tries 2 := ⟨by decide, pm_T_in (List.mem_of_getElem? (i := 1329) (by decide +kernel)) rfl, pm_T_in (List.mem_of_getElem? (i := 62) (by decide +kernel)) rfl, ⟨by decide, by decide⟩, by decide +kernel, by decide⟩
theorem imX12_tries : Cond.instanceMethod yX12_tries ∈ pm_T := pm_T_in (List.mem_of_getElem? (i := 1328) (by decide +kernel)) rfl
theorem ivX12_tries : pm_iv MX12_tries := ⟨imX12_tries, pm_T_in (List.mem_of_getElem? (i := 50) (by decide +kernel)) rfl⟩
theorem nlL_7 : pm_nl_ RL 7 11 := ⟨_, rfl, pm_T_in (List.mem_of_getElem? (i := 72) (by decide +kernel)) rfl, pm_T_in (List.mem_of_getElem? (i := 73) (by decide +kernel)) rfl, pm_T_in (List.mem_of_getElem? (i := 52) (by decide +kernel)) rfl⟩
theorem clL_7 : Cond.classLink RL 7 RX11 ∈ pm_T := pm_T_in (List.mem_of_getElem? (i := 72) (by decide +kernel)) rfl
theorem mlL_9 : Cond.methodLink RL 9 yX11_init ∈ pm_T := pm_T_in (List.mem_of_getElem? (i := 74) (by decide +kernel)) rfl
theorem mlX11_1 : Cond.methodLink RX11 1 Lib.objectInit ∈ pm_T := pm_T_in (List.mem_of_getElem? (i := 77) (by decide +kernel)) rfl
theorem nlX11_16 : pm_nl_ RX11 16 6 := ⟨_, rfl, pm_T_in (List.mem_of_getElem? (i := 80) (by decide +kernel)) rfl, pm_T_in (List.mem_of_getElem? (i := 81) (by decide +kernel)) rfl, pm_T_in (List.mem_of_getElem? (i := 53) (by decide +kernel)) rfl⟩
theorem clX11_16 : Cond.classLink RX11 16 RX6 ∈ pm_T := pm_T_in (List.mem_of_getElem? (i := 80) (by decide +kernel)) rfl
theorem mlX11_18 : (RX11, 18, yX6_init, "TeaBook") ∈ pm_ne := by decide
theorem mlX6_3 : Cond.methodLink RX6 3 Lib.objectInit ∈ pm_T := pm_T_in (List.mem_of_getElem? (i := 85) (by decide +kernel)) rfl
theorem nlX6_9 : pm_nl_ RX6 9 9 := ⟨_, rfl, pm_T_in (List.mem_of_getElem? (i := 86) (by decide +kernel)) rfl, pm_T_in (List.mem_of_getElem? (i := 362) (by decide +kernel)) rfl, pm_T_in (List.mem_of_getElem? (i := 64) (by decide +kernel)) rfl⟩
theorem clX6_9 : Cond.classLink RX6 9 RX9 ∈ pm_T := pm_T_in (List.mem_of_getElem? (i := 86) (by decide +kernel)) rfl
theorem flX6_11 : pm_fl RX6 11 6 0 := ⟨_, rfl, by decide, pm_T_in (List.mem_of_getElem? (i := 88) (by decide +kernel)) rfl⟩
theorem flX6_17 : pm_fl RX6 17 6 1 := ⟨_, rfl, by decide, pm_T_in (List.mem_of_getElem? (i := 89) (by decide +kernel)) rfl⟩
theorem nlX11_23 : pm_nl_ RX11 23 3 := ⟨_, rfl, pm_T_in (List.mem_of_getElem? (i := 95) (by decide +kernel)) rfl, pm_T_in (List.mem_of_getElem? (i := 96) (by decide +kernel)) rfl, pm_T_in (List.mem_of_getElem? (i := 54) (by decide +kernel)) rfl⟩
theorem clX11_23 : Cond.classLink RX11 23 RX3 ∈ pm_T := pm_T_in (List.mem_of_getElem? (i := 95) (by decide +kernel)) rfl
theorem mlX11_25 : (RX11, 25, yX3_init, "TeaBook") ∈ pm_ne := by decide
theorem mlX3_3 : Cond.methodLink RX3 3 Lib.objectInit ∈ pm_T := pm_T_in (List.mem_of_getElem? (i := 100) (by decide +kernel)) rfl
theorem clX3_11 : Cond.classLink RX3 11 "[[I" ∈ pm_T := pm_T_in (List.mem_of_getElem? (i := 101) (by decide +kernel)) rfl
theorem flX3_13 : pm_fl RX3 13 3 0 := ⟨_, rfl, by decide, pm_T_in (List.mem_of_getElem? (i := 103) (by decide +kernel)) rfl⟩
theorem flX3_16 : pm_fl RX3 16 3 1 := ⟨_, rfl, by decide, pm_T_in (List.mem_of_getElem? (i := 104) (by decide +kernel)) rfl⟩
theorem flX3_20 : pm_fl RX3 20 3 2 := ⟨_, rfl, by decide, pm_T_in (List.mem_of_getElem? (i := 105) (by decide +kernel)) rfl⟩
theorem ac_int : Cond.arrayClass .int ∈ pm_T := pm_T_in (List.mem_of_getElem? (i := 113) (by decide +kernel)) rfl
theorem nlX11_30 : pm_nl_ RX11 30 7 := ⟨_, rfl, pm_T_in (List.mem_of_getElem? (i := 114) (by decide +kernel)) rfl, pm_T_in (List.mem_of_getElem? (i := 115) (by decide +kernel)) rfl, pm_T_in (List.mem_of_getElem? (i := 55) (by decide +kernel)) rfl⟩
theorem clX11_30 : Cond.classLink RX11 30 RX7 ∈ pm_T := pm_T_in (List.mem_of_getElem? (i := 114) (by decide +kernel)) rfl
theorem mlX11_32 : (RX11, 32, yX7_init, "TeaBook") ∈ pm_ne := by decide
theorem mlX7_3 : Cond.methodLink RX7 3 Lib.objectInit ∈ pm_T := pm_T_in (List.mem_of_getElem? (i := 119) (by decide +kernel)) rfl
theorem flX7_11 : pm_fl RX7 11 7 0 := ⟨_, rfl, by decide, pm_T_in (List.mem_of_getElem? (i := 120) (by decide +kernel)) rfl⟩
theorem flX7_15 : pm_fl RX7 15 7 1 := ⟨_, rfl, by decide, pm_T_in (List.mem_of_getElem? (i := 121) (by decide +kernel)) rfl⟩
theorem ac_byte : Cond.arrayClass .byte ∈ pm_T := pm_T_in (List.mem_of_getElem? (i := 127) (by decide +kernel)) rfl
theorem nlX11_37 : pm_nl_ RX11 37 4 := ⟨_, rfl, pm_T_in (List.mem_of_getElem? (i := 128) (by decide +kernel)) rfl, pm_T_in (List.mem_of_getElem? (i := 129) (by decide +kernel)) rfl, pm_T_in (List.mem_of_getElem? (i := 56) (by decide +kernel)) rfl⟩
theorem clX11_37 : Cond.classLink RX11 37 RX4 ∈ pm_T := pm_T_in (List.mem_of_getElem? (i := 128) (by decide +kernel)) rfl
theorem mlX11_39 : (RX11, 39, yX4_init, "TeaBook") ∈ pm_ne := by decide
theorem mlX4_3 : Cond.methodLink RX4 3 Lib.objectInit ∈ pm_T := pm_T_in (List.mem_of_getElem? (i := 133) (by decide +kernel)) rfl
theorem flX4_11 : pm_fl RX4 11 4 0 := ⟨_, rfl, by decide, pm_T_in (List.mem_of_getElem? (i := 134) (by decide +kernel)) rfl⟩
theorem flX4_15 : pm_fl RX4 15 4 1 := ⟨_, rfl, by decide, pm_T_in (List.mem_of_getElem? (i := 135) (by decide +kernel)) rfl⟩
theorem flX4_18 : pm_fl RX4 18 4 2 := ⟨_, rfl, by decide, pm_T_in (List.mem_of_getElem? (i := 136) (by decide +kernel)) rfl⟩
theorem flX4_21 : pm_fl RX4 21 4 3 := ⟨_, rfl, by decide, pm_T_in (List.mem_of_getElem? (i := 137) (by decide +kernel)) rfl⟩
theorem flX4_28 : pm_fl RX4 28 4 4 := ⟨_, rfl, by decide, pm_T_in (List.mem_of_getElem? (i := 138) (by decide +kernel)) rfl⟩
theorem flX4_24 : pm_fl RX4 24 4 5 := ⟨_, rfl, by decide, pm_T_in (List.mem_of_getElem? (i := 139) (by decide +kernel)) rfl⟩
theorem nlX11_47 : pm_nl_ RX11 47 5 := ⟨_, rfl, pm_T_in (List.mem_of_getElem? (i := 153) (by decide +kernel)) rfl, pm_T_in (List.mem_of_getElem? (i := 154) (by decide +kernel)) rfl, pm_T_in (List.mem_of_getElem? (i := 57) (by decide +kernel)) rfl⟩
theorem clX11_47 : Cond.classLink RX11 47 RX5 ∈ pm_T := pm_T_in (List.mem_of_getElem? (i := 153) (by decide +kernel)) rfl
theorem mlX11_49 : Cond.methodLink RX11 49 yX5_init ∈ pm_T := pm_T_in (List.mem_of_getElem? (i := 155) (by decide +kernel)) rfl
theorem mlX5_3 : Cond.methodLink RX5 3 Lib.objectInit ∈ pm_T := pm_T_in (List.mem_of_getElem? (i := 158) (by decide +kernel)) rfl
theorem nlX5_9 : pm_nl_ RX5 9 10 := ⟨_, rfl, pm_T_in (List.mem_of_getElem? (i := 159) (by decide +kernel)) rfl, pm_T_in (List.mem_of_getElem? (i := 160) (by decide +kernel)) rfl, pm_T_in (List.mem_of_getElem? (i := 58) (by decide +kernel)) rfl⟩
theorem clX5_9 : Cond.classLink RX5 9 RX10 ∈ pm_T := pm_T_in (List.mem_of_getElem? (i := 159) (by decide +kernel)) rfl
theorem mlX5_11 : Cond.methodLink RX5 11 yX10_init ∈ pm_T := pm_T_in (List.mem_of_getElem? (i := 161) (by decide +kernel)) rfl
theorem mlX10_3 : Cond.methodLink RX10 3 Lib.objectInit ∈ pm_T := pm_T_in (List.mem_of_getElem? (i := 164) (by decide +kernel)) rfl
theorem flX10_21 : pm_fl RX10 21 10 0 := ⟨_, rfl, by decide, pm_T_in (List.mem_of_getElem? (i := 165) (by decide +kernel)) rfl⟩
theorem flX10_11 : pm_fl RX10 11 10 1 := ⟨_, rfl, by decide, pm_T_in (List.mem_of_getElem? (i := 166) (by decide +kernel)) rfl⟩
theorem flX10_15 : pm_fl RX10 15 10 2 := ⟨_, rfl, by decide, pm_T_in (List.mem_of_getElem? (i := 167) (by decide +kernel)) rfl⟩
theorem flX10_18 : pm_fl RX10 18 10 3 := ⟨_, rfl, by decide, pm_T_in (List.mem_of_getElem? (i := 168) (by decide +kernel)) rfl⟩
theorem flX10_25 : pm_fl RX10 25 10 4 := ⟨_, rfl, by decide, pm_T_in (List.mem_of_getElem? (i := 169) (by decide +kernel)) rfl⟩
theorem flX5_14 : pm_fl RX5 14 5 0 := ⟨_, rfl, by decide, pm_T_in (List.mem_of_getElem? (i := 181) (by decide +kernel)) rfl⟩
theorem flX5_20 : pm_fl RX5 20 5 1 := ⟨_, rfl, by decide, pm_T_in (List.mem_of_getElem? (i := 182) (by decide +kernel)) rfl⟩
theorem flX5_39 : pm_fl RX5 39 5 2 := ⟨_, rfl, by decide, pm_T_in (List.mem_of_getElem? (i := 183) (by decide +kernel)) rfl⟩
theorem flX5_46 : pm_fl RX5 46 5 3 := ⟨_, rfl, by decide, pm_T_in (List.mem_of_getElem? (i := 184) (by decide +kernel)) rfl⟩
theorem flX5_24 : pm_fl RX5 24 5 4 := ⟨_, rfl, by decide, pm_T_in (List.mem_of_getElem? (i := 185) (by decide +kernel)) rfl⟩
theorem flX11_242 : pm_fl RX11 242 5 4 := ⟨_, rfl, by decide, pm_T_in (List.mem_of_getElem? (i := 186) (by decide +kernel)) rfl⟩
theorem flX5_28 : pm_fl RX5 28 5 5 := ⟨_, rfl, by decide, pm_T_in (List.mem_of_getElem? (i := 187) (by decide +kernel)) rfl⟩
theorem flX11_245 : pm_fl RX11 245 5 5 := ⟨_, rfl, by decide, pm_T_in (List.mem_of_getElem? (i := 188) (by decide +kernel)) rfl⟩
theorem nlX11_56 : pm_nl_ RX11 56 8 := ⟨_, rfl, pm_T_in (List.mem_of_getElem? (i := 202) (by decide +kernel)) rfl, pm_T_in (List.mem_of_getElem? (i := 203) (by decide +kernel)) rfl, pm_T_in (List.mem_of_getElem? (i := 59) (by decide +kernel)) rfl⟩
theorem clX11_56 : Cond.classLink RX11 56 RX8 ∈ pm_T := pm_T_in (List.mem_of_getElem? (i := 202) (by decide +kernel)) rfl
theorem mlX11_58 : (RX11, 58, yX8_init, "TeaBook") ∈ pm_ne := by decide
theorem mlX8_3 : Cond.methodLink RX8 3 Lib.objectInit ∈ pm_T := pm_T_in (List.mem_of_getElem? (i := 207) (by decide +kernel)) rfl
theorem nlX8_9 : pm_nl_ RX8 9 9 := ⟨_, rfl, pm_T_in (List.mem_of_getElem? (i := 208) (by decide +kernel)) rfl, pm_T_in (List.mem_of_getElem? (i := 362) (by decide +kernel)) rfl, pm_T_in (List.mem_of_getElem? (i := 64) (by decide +kernel)) rfl⟩
theorem clX8_9 : Cond.classLink RX8 9 RX9 ∈ pm_T := pm_T_in (List.mem_of_getElem? (i := 208) (by decide +kernel)) rfl
theorem flX8_11 : pm_fl RX8 11 8 0 := ⟨_, rfl, by decide, pm_T_in (List.mem_of_getElem? (i := 209) (by decide +kernel)) rfl⟩
theorem nlX11_63 : pm_nl_ RX11 63 2 := ⟨_, rfl, pm_T_in (List.mem_of_getElem? (i := 213) (by decide +kernel)) rfl, pm_T_in (List.mem_of_getElem? (i := 214) (by decide +kernel)) rfl, pm_T_in (List.mem_of_getElem? (i := 60) (by decide +kernel)) rfl⟩
theorem clX11_63 : Cond.classLink RX11 63 RX2 ∈ pm_T := pm_T_in (List.mem_of_getElem? (i := 213) (by decide +kernel)) rfl
theorem mlX11_65 : (RX11, 65, yX2_init, "TeaBook") ∈ pm_ne := by decide
theorem mlX2_5 : Cond.methodLink RX2 5 Lib.objectInit ∈ pm_T := pm_T_in (List.mem_of_getElem? (i := 218) (by decide +kernel)) rfl
theorem flX2_11 : pm_fl RX2 11 2 0 := ⟨_, rfl, by decide, pm_T_in (List.mem_of_getElem? (i := 219) (by decide +kernel)) rfl⟩
theorem nlX11_70 : pm_nl_ RX11 70 1 := ⟨_, rfl, pm_T_in (List.mem_of_getElem? (i := 223) (by decide +kernel)) rfl, pm_T_in (List.mem_of_getElem? (i := 224) (by decide +kernel)) rfl, pm_T_in (List.mem_of_getElem? (i := 61) (by decide +kernel)) rfl⟩
theorem clX11_70 : Cond.classLink RX11 70 RX1 ∈ pm_T := pm_T_in (List.mem_of_getElem? (i := 223) (by decide +kernel)) rfl
theorem mlX11_72 : Cond.methodLink RX11 72 yX1_init ∈ pm_T := pm_T_in (List.mem_of_getElem? (i := 225) (by decide +kernel)) rfl
theorem mlX1_3 : Cond.methodLink RX1 3 Lib.objectInit ∈ pm_T := pm_T_in (List.mem_of_getElem? (i := 228) (by decide +kernel)) rfl
theorem nlX1_23 : pm_nl_ RX1 23 8 := ⟨_, rfl, pm_T_in (List.mem_of_getElem? (i := 229) (by decide +kernel)) rfl, pm_T_in (List.mem_of_getElem? (i := 203) (by decide +kernel)) rfl, pm_T_in (List.mem_of_getElem? (i := 59) (by decide +kernel)) rfl⟩
theorem clX1_23 : Cond.classLink RX1 23 RX8 ∈ pm_T := pm_T_in (List.mem_of_getElem? (i := 229) (by decide +kernel)) rfl
theorem mlX1_25 : (RX1, 25, yX8_init, "TeaBook") ∈ pm_ne := by decide
theorem nlX1_30 : pm_nl_ RX1 30 2 := ⟨_, rfl, pm_T_in (List.mem_of_getElem? (i := 231) (by decide +kernel)) rfl, pm_T_in (List.mem_of_getElem? (i := 214) (by decide +kernel)) rfl, pm_T_in (List.mem_of_getElem? (i := 60) (by decide +kernel)) rfl⟩
theorem clX1_30 : Cond.classLink RX1 30 RX2 ∈ pm_T := pm_T_in (List.mem_of_getElem? (i := 231) (by decide +kernel)) rfl
theorem mlX1_32 : (RX1, 32, yX2_init, "TeaBook") ∈ pm_ne := by decide
theorem flX1_9 : pm_fl RX1 9 1 0 := ⟨_, rfl, by decide, pm_T_in (List.mem_of_getElem? (i := 233) (by decide +kernel)) rfl⟩
theorem flX1_15 : pm_fl RX1 15 1 1 := ⟨_, rfl, by decide, pm_T_in (List.mem_of_getElem? (i := 234) (by decide +kernel)) rfl⟩
theorem flX1_26 : pm_fl RX1 26 1 2 := ⟨_, rfl, by decide, pm_T_in (List.mem_of_getElem? (i := 235) (by decide +kernel)) rfl⟩
theorem flX1_33 : pm_fl RX1 33 1 3 := ⟨_, rfl, by decide, pm_T_in (List.mem_of_getElem? (i := 236) (by decide +kernel)) rfl⟩
theorem flX1_19 : pm_fl RX1 19 1 4 := ⟨_, rfl, by decide, pm_T_in (List.mem_of_getElem? (i := 237) (by decide +kernel)) rfl⟩
theorem flX1_37 : pm_fl RX1 37 1 5 := ⟨_, rfl, by decide, pm_T_in (List.mem_of_getElem? (i := 238) (by decide +kernel)) rfl⟩
theorem flX1_41 : pm_fl RX1 41 1 6 := ⟨_, rfl, by decide, pm_T_in (List.mem_of_getElem? (i := 239) (by decide +kernel)) rfl⟩
theorem flX1_44 : pm_fl RX1 44 1 7 := ⟨_, rfl, by decide, pm_T_in (List.mem_of_getElem? (i := 240) (by decide +kernel)) rfl⟩
theorem flX1_51 : pm_fl RX1 51 1 8 := ⟨_, rfl, by decide, pm_T_in (List.mem_of_getElem? (i := 241) (by decide +kernel)) rfl⟩
theorem flX1_54 : pm_fl RX1 54 1 9 := ⟨_, rfl, by decide, pm_T_in (List.mem_of_getElem? (i := 242) (by decide +kernel)) rfl⟩
theorem flX1_57 : pm_fl RX1 57 1 10 := ⟨_, rfl, by decide, pm_T_in (List.mem_of_getElem? (i := 243) (by decide +kernel)) rfl⟩
theorem flX1_67 : pm_fl RX1 67 1 11 := ⟨_, rfl, by decide, pm_T_in (List.mem_of_getElem? (i := 244) (by decide +kernel)) rfl⟩
theorem flX1_70 : pm_fl RX1 70 1 12 := ⟨_, rfl, by decide, pm_T_in (List.mem_of_getElem? (i := 245) (by decide +kernel)) rfl⟩
theorem flX1_73 : pm_fl RX1 73 1 13 := ⟨_, rfl, by decide, pm_T_in (List.mem_of_getElem? (i := 246) (by decide +kernel)) rfl⟩
theorem flX11_7 : pm_fl RX11 7 11 0 := ⟨_, rfl, by decide, pm_T_in (List.mem_of_getElem? (i := 276) (by decide +kernel)) rfl⟩
theorem flX11_13 : pm_fl RX11 13 11 1 := ⟨_, rfl, by decide, pm_T_in (List.mem_of_getElem? (i := 277) (by decide +kernel)) rfl⟩
theorem flX11_19 : pm_fl RX11 19 11 2 := ⟨_, rfl, by decide, pm_T_in (List.mem_of_getElem? (i := 278) (by decide +kernel)) rfl⟩
theorem flX11_26 : pm_fl RX11 26 11 3 := ⟨_, rfl, by decide, pm_T_in (List.mem_of_getElem? (i := 279) (by decide +kernel)) rfl⟩
theorem flX11_33 : pm_fl RX11 33 11 4 := ⟨_, rfl, by decide, pm_T_in (List.mem_of_getElem? (i := 280) (by decide +kernel)) rfl⟩
theorem flX11_52 : pm_fl RX11 52 11 5 := ⟨_, rfl, by decide, pm_T_in (List.mem_of_getElem? (i := 281) (by decide +kernel)) rfl⟩
theorem flX11_40 : pm_fl RX11 40 11 6 := ⟨_, rfl, by decide, pm_T_in (List.mem_of_getElem? (i := 282) (by decide +kernel)) rfl⟩
theorem flX11_44 : pm_fl RX11 44 11 7 := ⟨_, rfl, by decide, pm_T_in (List.mem_of_getElem? (i := 283) (by decide +kernel)) rfl⟩
theorem flX11_59 : pm_fl RX11 59 11 8 := ⟨_, rfl, by decide, pm_T_in (List.mem_of_getElem? (i := 284) (by decide +kernel)) rfl⟩
theorem flX11_66 : pm_fl RX11 66 11 9 := ⟨_, rfl, by decide, pm_T_in (List.mem_of_getElem? (i := 285) (by decide +kernel)) rfl⟩
theorem flX11_75 : pm_fl RX11 75 11 10 := ⟨_, rfl, by decide, pm_T_in (List.mem_of_getElem? (i := 286) (by decide +kernel)) rfl⟩
theorem mlL_13 : Cond.methodLink RL 13 yX11_thing ∈ pm_T := pm_T_in (List.mem_of_getElem? (i := 310) (by decide +kernel)) rfl
theorem mlX11_79 : Cond.methodLink RX11 79 yX11_isWithin ∈ pm_T := pm_T_in (List.mem_of_getElem? (i := 314) (by decide +kernel)) rfl
theorem mlX11_83 : Cond.methodLink RX11 83 yX11_isMark ∈ pm_T := pm_T_in (List.mem_of_getElem? (i := 317) (by decide +kernel)) rfl
theorem mlX11_87 : Cond.methodLink RX11 87 yX11_isHouse ∈ pm_T := pm_T_in (List.mem_of_getElem? (i := 320) (by decide +kernel)) rfl
theorem mlX11_90 : Cond.methodLink RX11 90 yX6_isFull ∈ pm_T := pm_T_in (List.mem_of_getElem? (i := 323) (by decide +kernel)) rfl
theorem nlX11_94 : pm_nl_ RX11 94 0 := ⟨_, rfl, pm_T_in (List.mem_of_getElem? (i := 327) (by decide +kernel)) rfl, pm_T_in (List.mem_of_getElem? (i := 328) (by decide +kernel)) rfl, pm_T_in (List.mem_of_getElem? (i := 63) (by decide +kernel)) rfl⟩
theorem clX11_94 : Cond.classLink RX11 94 RX0 ∈ pm_T := pm_T_in (List.mem_of_getElem? (i := 327) (by decide +kernel)) rfl
theorem mlX11_96 : Cond.methodLink RX11 96 yX0_init ∈ pm_T := pm_T_in (List.mem_of_getElem? (i := 329) (by decide +kernel)) rfl
theorem mlX0_1 : Cond.methodLink RX0 1 Lib.objectInit ∈ pm_T := pm_T_in (List.mem_of_getElem? (i := 332) (by decide +kernel)) rfl
theorem flX0_7 : pm_fl RX0 7 0 0 := ⟨_, rfl, by decide, pm_T_in (List.mem_of_getElem? (i := 333) (by decide +kernel)) rfl⟩
theorem flX9_61 : pm_fl RX9 61 0 0 := ⟨_, rfl, by decide, pm_T_in (List.mem_of_getElem? (i := 334) (by decide +kernel)) rfl⟩
theorem flX0_13 : pm_fl RX0 13 0 1 := ⟨_, rfl, by decide, pm_T_in (List.mem_of_getElem? (i := 335) (by decide +kernel)) rfl⟩
theorem flX9_27 : pm_fl RX9 27 0 1 := ⟨_, rfl, by decide, pm_T_in (List.mem_of_getElem? (i := 336) (by decide +kernel)) rfl⟩
theorem flX0_17 : pm_fl RX0 17 0 2 := ⟨_, rfl, by decide, pm_T_in (List.mem_of_getElem? (i := 337) (by decide +kernel)) rfl⟩
theorem flX9_45 : pm_fl RX9 45 0 2 := ⟨_, rfl, by decide, pm_T_in (List.mem_of_getElem? (i := 338) (by decide +kernel)) rfl⟩
theorem flX11_186 : pm_fl RX11 186 0 2 := ⟨_, rfl, by decide, pm_T_in (List.mem_of_getElem? (i := 339) (by decide +kernel)) rfl⟩
theorem flX0_20 : pm_fl RX0 20 0 3 := ⟨_, rfl, by decide, pm_T_in (List.mem_of_getElem? (i := 340) (by decide +kernel)) rfl⟩
theorem flX9_48 : pm_fl RX9 48 0 3 := ⟨_, rfl, by decide, pm_T_in (List.mem_of_getElem? (i := 341) (by decide +kernel)) rfl⟩
theorem flX11_188 : pm_fl RX11 188 0 3 := ⟨_, rfl, by decide, pm_T_in (List.mem_of_getElem? (i := 342) (by decide +kernel)) rfl⟩
theorem flX0_23 : pm_fl RX0 23 0 4 := ⟨_, rfl, by decide, pm_T_in (List.mem_of_getElem? (i := 343) (by decide +kernel)) rfl⟩
theorem flX9_55 : pm_fl RX9 55 0 4 := ⟨_, rfl, by decide, pm_T_in (List.mem_of_getElem? (i := 344) (by decide +kernel)) rfl⟩
theorem flX0_26 : pm_fl RX0 26 0 5 := ⟨_, rfl, by decide, pm_T_in (List.mem_of_getElem? (i := 345) (by decide +kernel)) rfl⟩
theorem flX9_51 : pm_fl RX9 51 0 5 := ⟨_, rfl, by decide, pm_T_in (List.mem_of_getElem? (i := 346) (by decide +kernel)) rfl⟩
theorem flX11_182 : pm_fl RX11 182 0 5 := ⟨_, rfl, by decide, pm_T_in (List.mem_of_getElem? (i := 347) (by decide +kernel)) rfl⟩
theorem nlX11_99 : pm_nl_ RX11 99 9 := ⟨_, rfl, pm_T_in (List.mem_of_getElem? (i := 361) (by decide +kernel)) rfl, pm_T_in (List.mem_of_getElem? (i := 362) (by decide +kernel)) rfl, pm_T_in (List.mem_of_getElem? (i := 64) (by decide +kernel)) rfl⟩
theorem clX11_99 : Cond.classLink RX11 99 RX9 ∈ pm_T := pm_T_in (List.mem_of_getElem? (i := 361) (by decide +kernel)) rfl
theorem mlX11_101 : Cond.methodLink RX11 101 yX6_count ∈ pm_T := pm_T_in (List.mem_of_getElem? (i := 363) (by decide +kernel)) rfl
theorem mlX11_105 : Cond.methodLink RX11 105 yX9_init ∈ pm_T := pm_T_in (List.mem_of_getElem? (i := 367) (by decide +kernel)) rfl
theorem mlX9_3 : Cond.methodLink RX9 3 Lib.objectInit ∈ pm_T := pm_T_in (List.mem_of_getElem? (i := 370) (by decide +kernel)) rfl
theorem flX9_9 : pm_fl RX9 9 9 0 := ⟨_, rfl, by decide, pm_T_in (List.mem_of_getElem? (i := 371) (by decide +kernel)) rfl⟩
theorem flX8_41 : pm_fl RX8 41 9 0 := ⟨_, rfl, by decide, pm_T_in (List.mem_of_getElem? (i := 372) (by decide +kernel)) rfl⟩
theorem flX3_60 : pm_fl RX3 60 9 0 := ⟨_, rfl, by decide, pm_T_in (List.mem_of_getElem? (i := 373) (by decide +kernel)) rfl⟩
theorem flX9_15 : pm_fl RX9 15 9 1 := ⟨_, rfl, by decide, pm_T_in (List.mem_of_getElem? (i := 374) (by decide +kernel)) rfl⟩
theorem flX8_30 : pm_fl RX8 30 9 1 := ⟨_, rfl, by decide, pm_T_in (List.mem_of_getElem? (i := 375) (by decide +kernel)) rfl⟩
theorem flX1_89 : pm_fl RX1 89 9 1 := ⟨_, rfl, by decide, pm_T_in (List.mem_of_getElem? (i := 376) (by decide +kernel)) rfl⟩
theorem flX11_150 : pm_fl RX11 150 9 1 := ⟨_, rfl, by decide, pm_T_in (List.mem_of_getElem? (i := 377) (by decide +kernel)) rfl⟩
theorem flX9_18 : pm_fl RX9 18 9 2 := ⟨_, rfl, by decide, pm_T_in (List.mem_of_getElem? (i := 378) (by decide +kernel)) rfl⟩
theorem flX2_27 : pm_fl RX2 27 9 2 := ⟨_, rfl, by decide, pm_T_in (List.mem_of_getElem? (i := 379) (by decide +kernel)) rfl⟩
theorem flX8_44 : pm_fl RX8 44 9 2 := ⟨_, rfl, by decide, pm_T_in (List.mem_of_getElem? (i := 380) (by decide +kernel)) rfl⟩
theorem flX11_153 : pm_fl RX11 153 9 2 := ⟨_, rfl, by decide, pm_T_in (List.mem_of_getElem? (i := 381) (by decide +kernel)) rfl⟩
theorem flX9_21 : pm_fl RX9 21 9 3 := ⟨_, rfl, by decide, pm_T_in (List.mem_of_getElem? (i := 382) (by decide +kernel)) rfl⟩
theorem flX2_33 : pm_fl RX2 33 9 3 := ⟨_, rfl, by decide, pm_T_in (List.mem_of_getElem? (i := 383) (by decide +kernel)) rfl⟩
theorem flX11_156 : pm_fl RX11 156 9 3 := ⟨_, rfl, by decide, pm_T_in (List.mem_of_getElem? (i := 384) (by decide +kernel)) rfl⟩
theorem flX9_24 : pm_fl RX9 24 9 4 := ⟨_, rfl, by decide, pm_T_in (List.mem_of_getElem? (i := 385) (by decide +kernel)) rfl⟩
theorem flX11_159 : pm_fl RX11 159 9 4 := ⟨_, rfl, by decide, pm_T_in (List.mem_of_getElem? (i := 386) (by decide +kernel)) rfl⟩
theorem flX9_32 : pm_fl RX9 32 9 5 := ⟨_, rfl, by decide, pm_T_in (List.mem_of_getElem? (i := 387) (by decide +kernel)) rfl⟩
theorem flX2_36 : pm_fl RX2 36 9 5 := ⟨_, rfl, by decide, pm_T_in (List.mem_of_getElem? (i := 388) (by decide +kernel)) rfl⟩
theorem flX11_162 : pm_fl RX11 162 9 5 := ⟨_, rfl, by decide, pm_T_in (List.mem_of_getElem? (i := 389) (by decide +kernel)) rfl⟩
theorem flX9_35 : pm_fl RX9 35 9 6 := ⟨_, rfl, by decide, pm_T_in (List.mem_of_getElem? (i := 390) (by decide +kernel)) rfl⟩
theorem flX11_165 : pm_fl RX11 165 9 6 := ⟨_, rfl, by decide, pm_T_in (List.mem_of_getElem? (i := 391) (by decide +kernel)) rfl⟩
theorem flX9_38 : pm_fl RX9 38 9 7 := ⟨_, rfl, by decide, pm_T_in (List.mem_of_getElem? (i := 392) (by decide +kernel)) rfl⟩
theorem flX6_35 : pm_fl RX6 35 9 7 := ⟨_, rfl, by decide, pm_T_in (List.mem_of_getElem? (i := 393) (by decide +kernel)) rfl⟩
theorem flX11_168 : pm_fl RX11 168 9 7 := ⟨_, rfl, by decide, pm_T_in (List.mem_of_getElem? (i := 394) (by decide +kernel)) rfl⟩
theorem flX9_41 : pm_fl RX9 41 9 8 := ⟨_, rfl, by decide, pm_T_in (List.mem_of_getElem? (i := 395) (by decide +kernel)) rfl⟩
theorem mlX11_108 : Cond.methodLink RX11 108 yX6_put ∈ pm_T := pm_T_in (List.mem_of_getElem? (i := 415) (by decide +kernel)) rfl
theorem mlX6_21 : Cond.methodLink RX6 21 yX6_isFull ∈ pm_T := pm_T_in (List.mem_of_getElem? (i := 419) (by decide +kernel)) rfl
theorem mlL_18 : Cond.methodLink RL 18 yX11_copy ∈ pm_T := pm_T_in (List.mem_of_getElem? (i := 420) (by decide +kernel)) rfl
theorem mlX11_112 : Cond.methodLink RX11 112 yX6_findThere ∈ pm_T := pm_T_in (List.mem_of_getElem? (i := 424) (by decide +kernel)) rfl
theorem mlX6_25 : Cond.methodLink RX6 25 yX6_find ∈ pm_T := pm_T_in (List.mem_of_getElem? (i := 428) (by decide +kernel)) rfl
theorem mlX6_29 : Cond.methodLink RX6 29 yX9_isThere ∈ pm_T := pm_T_in (List.mem_of_getElem? (i := 432) (by decide +kernel)) rfl
theorem mlX11_116 : Cond.methodLink RX11 116 yX9_init_ ∈ pm_T := pm_T_in (List.mem_of_getElem? (i := 436) (by decide +kernel)) rfl
theorem mlL_23 : Cond.methodLink RL 23 yX11_pass ∈ pm_T := pm_T_in (List.mem_of_getElem? (i := 439) (by decide +kernel)) rfl
theorem mlX11_119 : Cond.methodLink RX11 119 yX11_findFreeFor ∈ pm_T := pm_T_in (List.mem_of_getElem? (i := 443) (by decide +kernel)) rfl
theorem mlX11_132 : Cond.methodLink RX11 132 yX9_isLent ∈ pm_T := pm_T_in (List.mem_of_getElem? (i := 447) (by decide +kernel)) rfl
theorem mlX11_135 : Cond.methodLink RX11 135 yX9_owner ∈ pm_T := pm_T_in (List.mem_of_getElem? (i := 451) (by decide +kernel)) rfl
theorem mlX11_123 : Cond.methodLink RX11 123 yX11_spendAct ∈ pm_T := pm_T_in (List.mem_of_getElem? (i := 455) (by decide +kernel)) rfl
theorem mlX11_126 : Cond.methodLink RX11 126 yX9_goTo ∈ pm_T := pm_T_in (List.mem_of_getElem? (i := 459) (by decide +kernel)) rfl
theorem nlX9_28 : pm_nl_ RX9 28 0 := ⟨_, rfl, pm_T_in (List.mem_of_getElem? (i := 463) (by decide +kernel)) rfl, pm_T_in (List.mem_of_getElem? (i := 328) (by decide +kernel)) rfl, pm_T_in (List.mem_of_getElem? (i := 63) (by decide +kernel)) rfl⟩
theorem clX9_28 : Cond.classLink RX9 28 RX0 ∈ pm_T := pm_T_in (List.mem_of_getElem? (i := 463) (by decide +kernel)) rfl
theorem mlX9_58 : Cond.methodLink RX9 58 yX0_init_ ∈ pm_T := pm_T_in (List.mem_of_getElem? (i := 464) (by decide +kernel)) rfl
theorem mlL_28 : Cond.methodLink RL 28 yX11_lend ∈ pm_T := pm_T_in (List.mem_of_getElem? (i := 467) (by decide +kernel)) rfl
theorem mlX11_129 : Cond.methodLink RX11 129 yX9_stayWith ∈ pm_T := pm_T_in (List.mem_of_getElem? (i := 471) (by decide +kernel)) rfl
theorem mlL_32 : Cond.methodLink RL 32 yX11_back ∈ pm_T := pm_T_in (List.mem_of_getElem? (i := 475) (by decide +kernel)) rfl
theorem mlL_37 : Cond.methodLink RL 37 yX11_burn ∈ pm_T := pm_T_in (List.mem_of_getElem? (i := 479) (by decide +kernel)) rfl
theorem mlX11_138 : Cond.methodLink RX11 138 yX9_vanish ∈ pm_T := pm_T_in (List.mem_of_getElem? (i := 483) (by decide +kernel)) rfl
theorem mlL_41 : Cond.methodLink RL 41 yX11_days ∈ pm_T := pm_T_in (List.mem_of_getElem? (i := 487) (by decide +kernel)) rfl
theorem mlL_46 : Cond.methodLink RL 46 yX11_look ∈ pm_T := pm_T_in (List.mem_of_getElem? (i := 491) (by decide +kernel)) rfl
theorem mlX11_142 : Cond.methodLink RX11 142 yX6_countThere ∈ pm_T := pm_T_in (List.mem_of_getElem? (i := 495) (by decide +kernel)) rfl
theorem mlX6_32 : Cond.methodLink RX6 32 yX6_findThere ∈ pm_T := pm_T_in (List.mem_of_getElem? (i := 499) (by decide +kernel)) rfl
theorem mlX11_145 : Cond.methodLink RX11 145 yX3_count ∈ pm_T := pm_T_in (List.mem_of_getElem? (i := 500) (by decide +kernel)) rfl
theorem mlX11_146 : Cond.methodLink RX11 146 yX4_count ∈ pm_T := pm_T_in (List.mem_of_getElem? (i := 504) (by decide +kernel)) rfl
theorem mlL_50 : Cond.methodLink RL 50 yX11_of ∈ pm_T := pm_T_in (List.mem_of_getElem? (i := 508) (by decide +kernel)) rfl
theorem mlX11_147 : Cond.methodLink RX11 147 yX6_find ∈ pm_T := pm_T_in (List.mem_of_getElem? (i := 512) (by decide +kernel)) rfl
theorem mlX11_171 : Cond.methodLink RX11 171 yX9_isThere ∈ pm_T := pm_T_in (List.mem_of_getElem? (i := 513) (by decide +kernel)) rfl
theorem mlX11_174 : Cond.methodLink RX11 174 yX6_isInDoubt ∈ pm_T := pm_T_in (List.mem_of_getElem? (i := 514) (by decide +kernel)) rfl
theorem mlX6_38 : Cond.methodLink RX6 38 yX9_keeper ∈ pm_T := pm_T_in (List.mem_of_getElem? (i := 518) (by decide +kernel)) rfl
theorem mlL_55 : Cond.methodLink RL 55 yX11_held ∈ pm_T := pm_T_in (List.mem_of_getElem? (i := 522) (by decide +kernel)) rfl
theorem mlX11_178 : Cond.methodLink RX11 178 yX9_latestUpTo ∈ pm_T := pm_T_in (List.mem_of_getElem? (i := 526) (by decide +kernel)) rfl
theorem mlL_59 : Cond.methodLink RL 59 yX11_owners ∈ pm_T := pm_T_in (List.mem_of_getElem? (i := 530) (by decide +kernel)) rfl
theorem mlX11_191 : Cond.methodLink RX11 191 yX9_countOwners ∈ pm_T := pm_T_in (List.mem_of_getElem? (i := 534) (by decide +kernel)) rfl
theorem mlX11_194 : Cond.methodLink RX11 194 yX9_ownerAt ∈ pm_T := pm_T_in (List.mem_of_getElem? (i := 538) (by decide +kernel)) rfl
theorem mlL_63 : Cond.methodLink RL 63 yX11_gather ∈ pm_T := pm_T_in (List.mem_of_getElem? (i := 542) (by decide +kernel)) rfl
theorem mlX11_198 : Cond.methodLink RX11 198 yX11_isSeason ∈ pm_T := pm_T_in (List.mem_of_getElem? (i := 546) (by decide +kernel)) rfl
theorem mlX11_201 : Cond.methodLink RX11 201 yX11_isGuests ∈ pm_T := pm_T_in (List.mem_of_getElem? (i := 549) (by decide +kernel)) rfl
theorem mlX11_204 : Cond.methodLink RX11 204 yX3_isFull ∈ pm_T := pm_T_in (List.mem_of_getElem? (i := 552) (by decide +kernel)) rfl
theorem mlX11_205 : Cond.methodLink RX11 205 yX8_read ∈ pm_T := pm_T_in (List.mem_of_getElem? (i := 556) (by decide +kernel)) rfl
theorem mlX8_17 : Cond.methodLink RX8 17 yX8_clear ∈ pm_T := pm_T_in (List.mem_of_getElem? (i := 560) (by decide +kernel)) rfl
theorem mlX8_20 : Cond.methodLink RX8 20 yX6_count ∈ pm_T := pm_T_in (List.mem_of_getElem? (i := 564) (by decide +kernel)) rfl
theorem mlX8_26 : Cond.methodLink RX8 26 yX6_find ∈ pm_T := pm_T_in (List.mem_of_getElem? (i := 565) (by decide +kernel)) rfl
theorem mlX8_34 : Cond.methodLink RX8 34 yX8_at ∈ pm_T := pm_T_in (List.mem_of_getElem? (i := 566) (by decide +kernel)) rfl
theorem mlX8_37 : Cond.methodLink RX8 37 yX8_lay ∈ pm_T := pm_T_in (List.mem_of_getElem? (i := 570) (by decide +kernel)) rfl
theorem mlX11_209 : Cond.methodLink RX11 209 yX8_isAllKeptBy ∈ pm_T := pm_T_in (List.mem_of_getElem? (i := 574) (by decide +kernel)) rfl
theorem mlX8_47 : Cond.methodLink RX8 47 yX9_isThere ∈ pm_T := pm_T_in (List.mem_of_getElem? (i := 578) (by decide +kernel)) rfl
theorem mlX8_51 : Cond.methodLink RX8 51 yX9_keeper ∈ pm_T := pm_T_in (List.mem_of_getElem? (i := 579) (by decide +kernel)) rfl
theorem mlX11_212 : Cond.methodLink RX11 212 yX3_put ∈ pm_T := pm_T_in (List.mem_of_getElem? (i := 580) (by decide +kernel)) rfl
theorem mlX3_24 : Cond.methodLink RX3 24 yX3_isFull ∈ pm_T := pm_T_in (List.mem_of_getElem? (i := 584) (by decide +kernel)) rfl
theorem mlX3_28 : Cond.methodLink RX3 28 yX8_bits ∈ pm_T := pm_T_in (List.mem_of_getElem? (i := 585) (by decide +kernel)) rfl
theorem mlX3_34 : Cond.methodLink RX3 34 yX3_showPairs ∈ pm_T := pm_T_in (List.mem_of_getElem? (i := 589) (by decide +kernel)) rfl
theorem mlX3_38 : Cond.methodLink RX3 38 yX8_at ∈ pm_T := pm_T_in (List.mem_of_getElem? (i := 593) (by decide +kernel)) rfl
theorem mlX3_42 : Cond.methodLink RX3 42 yX3_pairOf ∈ pm_T := pm_T_in (List.mem_of_getElem? (i := 594) (by decide +kernel)) rfl
theorem mlL_68 : Cond.methodLink RL 68 yX11_gathering ∈ pm_T := pm_T_in (List.mem_of_getElem? (i := 597) (by decide +kernel)) rfl
theorem mlX11_215 : Cond.methodLink RX11 215 yX3_tell ∈ pm_T := pm_T_in (List.mem_of_getElem? (i := 601) (by decide +kernel)) rfl
theorem mlL_72 : Cond.methodLink RL 72 yX11_seen ∈ pm_T := pm_T_in (List.mem_of_getElem? (i := 605) (by decide +kernel)) rfl
theorem mlX11_219 : Cond.methodLink RX11 219 yX3_countWith ∈ pm_T := pm_T_in (List.mem_of_getElem? (i := 609) (by decide +kernel)) rfl
theorem mlL_76 : Cond.methodLink RL 76 yX11_again ∈ pm_T := pm_T_in (List.mem_of_getElem? (i := 613) (by decide +kernel)) rfl
theorem mlX11_222 : Cond.methodLink RX11 222 yX3_sumAgain ∈ pm_T := pm_T_in (List.mem_of_getElem? (i := 617) (by decide +kernel)) rfl
theorem mlX3_46 : Cond.methodLink RX3 46 yX3_sumPairs ∈ pm_T := pm_T_in (List.mem_of_getElem? (i := 621) (by decide +kernel)) rfl
theorem mlX3_54 : Cond.methodLink RX3 54 yJ6_bitCount_0f7a4 ∈ pm_T := pm_T_in (List.mem_of_getElem? (i := 625) (by decide +kernel)) rfl
theorem coJ6_265 : Cond.constant RJ6 265 (1431655765) ∈ pm_T := pm_T_in (List.mem_of_getElem? (i := 628) (by decide +kernel)) rfl
theorem coJ6_266 : Cond.constant RJ6 266 (858993459) ∈ pm_T := pm_T_in (List.mem_of_getElem? (i := 629) (by decide +kernel)) rfl
theorem coJ6_267 : Cond.constant RJ6 267 (252645135) ∈ pm_T := pm_T_in (List.mem_of_getElem? (i := 630) (by decide +kernel)) rfl
theorem mlX3_50 : Cond.methodLink RX3 50 yX3_countSame ∈ pm_T := pm_T_in (List.mem_of_getElem? (i := 631) (by decide +kernel)) rfl
theorem mlL_80 : Cond.methodLink RL 80 yX11_feed ∈ pm_T := pm_T_in (List.mem_of_getElem? (i := 635) (by decide +kernel)) rfl
theorem mlX11_226 : Cond.methodLink RX11 226 yX7_hasRoomFor ∈ pm_T := pm_T_in (List.mem_of_getElem? (i := 639) (by decide +kernel)) rfl
theorem mlX11_229 : Cond.methodLink RX11 229 yX7_append ∈ pm_T := pm_T_in (List.mem_of_getElem? (i := 643) (by decide +kernel)) rfl
theorem mlX7_19 : Cond.methodLink RX7 19 yX7_hasRoomFor ∈ pm_T := pm_T_in (List.mem_of_getElem? (i := 647) (by decide +kernel)) rfl
theorem mlX11_232 : Cond.methodLink RX11 232 yX7_length ∈ pm_T := pm_T_in (List.mem_of_getElem? (i := 648) (by decide +kernel)) rfl
theorem mlL_84 : Cond.methodLink RL 84 yX11_end ∈ pm_T := pm_T_in (List.mem_of_getElem? (i := 652) (by decide +kernel)) rfl
theorem mlX11_235 : Cond.methodLink RX11 235 yX7_cut ∈ pm_T := pm_T_in (List.mem_of_getElem? (i := 656) (by decide +kernel)) rfl
theorem mlL_88 : Cond.methodLink RL 88 yX11_rules ∈ pm_T := pm_T_in (List.mem_of_getElem? (i := 660) (by decide +kernel)) rfl
theorem mlX11_238 : Cond.methodLink RX11 238 yX5_readInto ∈ pm_T := pm_T_in (List.mem_of_getElem? (i := 664) (by decide +kernel)) rfl
theorem mlX5_31 : Cond.methodLink RX5 31 yX4_clear ∈ pm_T := pm_T_in (List.mem_of_getElem? (i := 668) (by decide +kernel)) rfl
theorem mlX5_36 : Cond.methodLink RX5 36 yX10_cutTape ∈ pm_T := pm_T_in (List.mem_of_getElem? (i := 672) (by decide +kernel)) rfl
theorem mlX10_29 : Cond.methodLink RX10 29 yX7_length ∈ pm_T := pm_T_in (List.mem_of_getElem? (i := 676) (by decide +kernel)) rfl
theorem mlX10_33 : Cond.methodLink RX10 33 yX7_at ∈ pm_T := pm_T_in (List.mem_of_getElem? (i := 677) (by decide +kernel)) rfl
theorem mlX10_37 : Cond.methodLink RX10 37 yX10_isBlank ∈ pm_T := pm_T_in (List.mem_of_getElem? (i := 681) (by decide +kernel)) rfl
theorem mlX10_41 : Cond.methodLink RX10 41 yX10_isLetter ∈ pm_T := pm_T_in (List.mem_of_getElem? (i := 684) (by decide +kernel)) rfl
theorem mlX10_44 : Cond.methodLink RX10 44 yX10_takeWord ∈ pm_T := pm_T_in (List.mem_of_getElem? (i := 687) (by decide +kernel)) rfl
theorem mlX10_64 : Cond.methodLink RX10 64 yX10_isWord ∈ pm_T := pm_T_in (List.mem_of_getElem? (i := 691) (by decide +kernel)) rfl
theorem mlX10_70 : Cond.methodLink RX10 70 yJ0_charAt_5068e ∈ pm_T := pm_T_in (List.mem_of_getElem? (i := 696) (by decide +kernel)) rfl
theorem mlJ0_492 : Cond.methodLink RJ0 492 yJ0_isLatin1_aae02 ∈ pm_T := pm_T_in (List.mem_of_getElem? (i := 700) (by decide +kernel)) rfl
theorem mlJ0_495 : Cond.methodLink RJ0 495 yJ1_charAt_3b067 ∈ pm_T := pm_T_in (List.mem_of_getElem? (i := 706) (by decide +kernel)) rfl
theorem mlJ1_9 : Cond.methodLink RJ1 9 yJ0_checkIndex_df160 ∈ pm_T := pm_T_in (List.mem_of_getElem? (i := 709) (by decide +kernel)) rfl
theorem mlJ0_1059 : Cond.methodLink RJ0 1059 yJ3_checkIndex_8e157 ∈ pm_T := pm_T_in (List.mem_of_getElem? (i := 714) (by decide +kernel)) rfl
theorem mlJ0_498 : Cond.methodLink RJ0 498 yJ2_charAt_3b067 ∈ pm_T := pm_T_in (List.mem_of_getElem? (i := 717) (by decide +kernel)) rfl
theorem mlJ2_67 : Cond.methodLink RJ2 67 yJ2_checkIndex_2214a ∈ pm_T := pm_T_in (List.mem_of_getElem? (i := 720) (by decide +kernel)) rfl
theorem mlJ2_48 : Cond.methodLink RJ2 48 yJ2_length_9d52b ∈ pm_T := pm_T_in (List.mem_of_getElem? (i := 723) (by decide +kernel)) rfl
theorem mlJ2_414 : Cond.methodLink RJ2 414 yJ0_checkIndex_df160 ∈ pm_T := pm_T_in (List.mem_of_getElem? (i := 726) (by decide +kernel)) rfl
theorem mlJ2_71 : Cond.methodLink RJ2 71 yJ2_getChar_3b067 ∈ pm_T := pm_T_in (List.mem_of_getElem? (i := 727) (by decide +kernel)) rfl
theorem mlX10_60 : Cond.methodLink RX10 60 yX10_put ∈ pm_T := pm_T_in (List.mem_of_getElem? (i := 736) (by decide +kernel)) rfl
theorem mlX10_47 : Cond.methodLink RX10 47 yX10_isDigit ∈ pm_T := pm_T_in (List.mem_of_getElem? (i := 740) (by decide +kernel)) rfl
theorem mlX10_50 : Cond.methodLink RX10 50 yX10_takeNumber ∈ pm_T := pm_T_in (List.mem_of_getElem? (i := 743) (by decide +kernel)) rfl
theorem mlX10_55 : Cond.methodLink RX10 55 yJ0_indexOf_0f7a4 ∈ pm_T := pm_T_in (List.mem_of_getElem? (i := 748) (by decide +kernel)) rfl
theorem mlJ0_633 : Cond.methodLink RJ0 633 yJ0_indexOf_7cf53 ∈ pm_T := pm_T_in (List.mem_of_getElem? (i := 752) (by decide +kernel)) rfl
theorem mlJ0_505 : Cond.methodLink RJ0 505 yJ0_length_8abf5 ∈ pm_T := pm_T_in (List.mem_of_getElem? (i := 756) (by decide +kernel)) rfl
theorem mlJ0_335 : Cond.methodLink RJ0 335 yJ0_coder_7d493 ∈ pm_T := pm_T_in (List.mem_of_getElem? (i := 760) (by decide +kernel)) rfl
theorem mlJ0_637 : Cond.methodLink RJ0 637 yJ1_indexOf_4cfef ∈ pm_T := pm_T_in (List.mem_of_getElem? (i := 764) (by decide +kernel)) rfl
theorem mlJ1_88 : Cond.methodLink RJ1 88 yJ1_canEncode_9a6ad ∈ pm_T := pm_T_in (List.mem_of_getElem? (i := 767) (by decide +kernel)) rfl
theorem mlJ1_95 : Cond.methodLink RJ1 95 yJ1_indexOfChar_4cfef ∈ pm_T := pm_T_in (List.mem_of_getElem? (i := 776) (by decide +kernel)) rfl
theorem mlJ0_640 : Cond.methodLink RJ0 640 yJ2_indexOf_4cfef ∈ pm_T := pm_T_in (List.mem_of_getElem? (i := 779) (by decide +kernel)) rfl
theorem coJ2_227 : Cond.constant RJ2 227 (65536) ∈ pm_T := pm_T_in (List.mem_of_getElem? (i := 784) (by decide +kernel)) rfl
theorem mlJ2_228 : Cond.methodLink RJ2 228 yJ2_indexOfChar_4cfef ∈ pm_T := pm_T_in (List.mem_of_getElem? (i := 785) (by decide +kernel)) rfl
theorem mlJ2_96 : Cond.methodLink RJ2 96 yJ2_checkBoundsBeginEnd_d044e ∈ pm_T := pm_T_in (List.mem_of_getElem? (i := 788) (by decide +kernel)) rfl
theorem mlJ2_241 : Cond.methodLink RJ2 241 yJ0_checkBoundsBeginEnd_23922 ∈ pm_T := pm_T_in (List.mem_of_getElem? (i := 791) (by decide +kernel)) rfl
theorem mlJ0_1062 : Cond.methodLink RJ0 1062 yJ3_checkFromToIndex_8c36e ∈ pm_T := pm_T_in (List.mem_of_getElem? (i := 794) (by decide +kernel)) rfl
theorem mlJ2_244 : Cond.methodLink RJ2 244 yJ2_indexOfCharUnsafe_4cfef ∈ pm_T := pm_T_in (List.mem_of_getElem? (i := 797) (by decide +kernel)) rfl
theorem mlJ2_232 : Cond.methodLink RJ2 232 yJ2_indexOfSupplementary_4cfef ∈ pm_T := pm_T_in (List.mem_of_getElem? (i := 800) (by decide +kernel)) rfl
theorem mlJ2_164 : Cond.methodLink RJ2 164 yJ11_isValidCodePoint_9a6ad ∈ pm_T := pm_T_in (List.mem_of_getElem? (i := 803) (by decide +kernel)) rfl
theorem mlJ2_157 : Cond.methodLink RJ2 157 yJ11_highSurrogate_5068e ∈ pm_T := pm_T_in (List.mem_of_getElem? (i := 806) (by decide +kernel)) rfl
theorem coJ11_110 : Cond.constant RJ11 110 (55232) ∈ pm_T := pm_T_in (List.mem_of_getElem? (i := 809) (by decide +kernel)) rfl
theorem mlJ2_161 : Cond.methodLink RJ2 161 yJ11_lowSurrogate_5068e ∈ pm_T := pm_T_in (List.mem_of_getElem? (i := 810) (by decide +kernel)) rfl
theorem coJ11_76 : Cond.constant RJ11 76 (56320) ∈ pm_T := pm_T_in (List.mem_of_getElem? (i := 813) (by decide +kernel)) rfl
theorem mlX5_42 : Cond.methodLink RX5 42 yX10_at ∈ pm_T := pm_T_in (List.mem_of_getElem? (i := 814) (by decide +kernel)) rfl
theorem mlX5_49 : Cond.methodLink RX5 49 yX5_advance ∈ pm_T := pm_T_in (List.mem_of_getElem? (i := 818) (by decide +kernel)) rfl
theorem mlX5_52 : Cond.methodLink RX5 52 yX5_readChoice ∈ pm_T := pm_T_in (List.mem_of_getElem? (i := 822) (by decide +kernel)) rfl
theorem mlX5_65 : Cond.methodLink RX5 65 yX5_readJoin ∈ pm_T := pm_T_in (List.mem_of_getElem? (i := 826) (by decide +kernel)) rfl
theorem mlX5_74 : Cond.methodLink RX5 74 yX5_readClause ∈ pm_T := pm_T_in (List.mem_of_getElem? (i := 830) (by decide +kernel)) rfl
theorem mlX5_77 : Cond.methodLink RX5 77 yX5_readComparison ∈ pm_T := pm_T_in (List.mem_of_getElem? (i := 834) (by decide +kernel)) rfl
theorem mlX5_80 : Cond.methodLink RX5 80 yX5_readTerm ∈ pm_T := pm_T_in (List.mem_of_getElem? (i := 838) (by decide +kernel)) rfl
theorem mlX5_84 : Cond.methodLink RX5 84 yX10_valueOf ∈ pm_T := pm_T_in (List.mem_of_getElem? (i := 842) (by decide +kernel)) rfl
theorem mlX5_62 : Cond.methodLink RX5 62 yX5_refuse ∈ pm_T := pm_T_in (List.mem_of_getElem? (i := 846) (by decide +kernel)) rfl
theorem mlX5_89 : Cond.methodLink RX5 89 yX10_placeOf ∈ pm_T := pm_T_in (List.mem_of_getElem? (i := 850) (by decide +kernel)) rfl
theorem mlX5_70 : Cond.methodLink RX5 70 yX4_addStep ∈ pm_T := pm_T_in (List.mem_of_getElem? (i := 854) (by decide +kernel)) rfl
theorem mlX5_56 : Cond.methodLink RX5 56 yX5_take ∈ pm_T := pm_T_in (List.mem_of_getElem? (i := 858) (by decide +kernel)) rfl
theorem mlX5_59 : Cond.methodLink RX5 59 yX4_closeRule ∈ pm_T := pm_T_in (List.mem_of_getElem? (i := 862) (by decide +kernel)) rfl
theorem mlL_93 : Cond.methodLink RL 93 yX11_fault ∈ pm_T := pm_T_in (List.mem_of_getElem? (i := 866) (by decide +kernel)) rfl
theorem mlL_97 : Cond.methodLink RL 97 yX11_barred ∈ pm_T := pm_T_in (List.mem_of_getElem? (i := 870) (by decide +kernel)) rfl
theorem mlX11_248 : Cond.methodLink RX11 248 yX2_tellParty ∈ pm_T := pm_T_in (List.mem_of_getElem? (i := 874) (by decide +kernel)) rfl
theorem mlX2_15 : Cond.methodLink RX2 15 yJ6_bitCount_0f7a4 ∈ pm_T := pm_T_in (List.mem_of_getElem? (i := 878) (by decide +kernel)) rfl
theorem mlX11_251 : Cond.methodLink RX11 251 yX2_tellSet ∈ pm_T := pm_T_in (List.mem_of_getElem? (i := 879) (by decide +kernel)) rfl
theorem mlX2_21 : Cond.methodLink RX2 21 yX8_at ∈ pm_T := pm_T_in (List.mem_of_getElem? (i := 883) (by decide +kernel)) rfl
theorem mlX11_255 : Cond.methodLink RX11 255 yX4_firstThatBars ∈ pm_T := pm_T_in (List.mem_of_getElem? (i := 884) (by decide +kernel)) rfl
theorem mlX4_31 : Cond.methodLink RX4 31 yX4_holds ∈ pm_T := pm_T_in (List.mem_of_getElem? (i := 888) (by decide +kernel)) rfl
theorem mlX4_35 : Cond.methodLink RX4 35 yX4_compares ∈ pm_T := pm_T_in (List.mem_of_getElem? (i := 892) (by decide +kernel)) rfl
theorem mlX4_39 : Cond.methodLink RX4 39 yX2_value ∈ pm_T := pm_T_in (List.mem_of_getElem? (i := 896) (by decide +kernel)) rfl
theorem mlL_101 : Cond.methodLink RL 101 yX11_best ∈ pm_T := pm_T_in (List.mem_of_getElem? (i := 900) (by decide +kernel)) rfl
theorem mlX11_259 : Cond.methodLink RX11 259 yX1_invite ∈ pm_T := pm_T_in (List.mem_of_getElem? (i := 904) (by decide +kernel)) rfl
theorem mlX1_47 : Cond.methodLink RX1 47 yX2_tellParty ∈ pm_T := pm_T_in (List.mem_of_getElem? (i := 908) (by decide +kernel)) rfl
theorem mlX11_263 : Cond.methodLink RX11 263 yX1_choose ∈ pm_T := pm_T_in (List.mem_of_getElem? (i := 909) (by decide +kernel)) rfl
theorem mlX1_60 : Cond.methodLink RX1 60 yX8_clear ∈ pm_T := pm_T_in (List.mem_of_getElem? (i := 913) (by decide +kernel)) rfl
theorem mlX1_63 : Cond.methodLink RX1 63 yX1_layFrom ∈ pm_T := pm_T_in (List.mem_of_getElem? (i := 914) (by decide +kernel)) rfl
theorem mlX1_76 : Cond.methodLink RX1 76 yX1_judge ∈ pm_T := pm_T_in (List.mem_of_getElem? (i := 918) (by decide +kernel)) rfl
theorem mlX1_105 : Cond.methodLink RX1 105 yX2_tellSet ∈ pm_T := pm_T_in (List.mem_of_getElem? (i := 922) (by decide +kernel)) rfl
theorem mlX1_109 : Cond.methodLink RX1 109 yX4_firstThatBars ∈ pm_T := pm_T_in (List.mem_of_getElem? (i := 923) (by decide +kernel)) rfl
theorem mlX1_115 : Cond.methodLink RX1 115 yX3_sumAgain ∈ pm_T := pm_T_in (List.mem_of_getElem? (i := 924) (by decide +kernel)) rfl
theorem mlX1_121 : Cond.methodLink RX1 121 yX8_sumRanks ∈ pm_T := pm_T_in (List.mem_of_getElem? (i := 925) (by decide +kernel)) rfl
theorem mlX1_124 : Cond.methodLink RX1 124 yX8_bits ∈ pm_T := pm_T_in (List.mem_of_getElem? (i := 929) (by decide +kernel)) rfl
theorem mlX1_79 : Cond.methodLink RX1 79 yX6_count ∈ pm_T := pm_T_in (List.mem_of_getElem? (i := 930) (by decide +kernel)) rfl
theorem mlX1_85 : Cond.methodLink RX1 85 yX6_findThere ∈ pm_T := pm_T_in (List.mem_of_getElem? (i := 931) (by decide +kernel)) rfl
theorem mlX1_94 : Cond.methodLink RX1 94 yX9_keeper ∈ pm_T := pm_T_in (List.mem_of_getElem? (i := 932) (by decide +kernel)) rfl
theorem mlX1_97 : Cond.methodLink RX1 97 yX9_suits ∈ pm_T := pm_T_in (List.mem_of_getElem? (i := 933) (by decide +kernel)) rfl
theorem mlX1_101 : Cond.methodLink RX1 101 yX8_lay ∈ pm_T := pm_T_in (List.mem_of_getElem? (i := 937) (by decide +kernel)) rfl
theorem mlX11_267 : Cond.methodLink RX11 267 yX1_tell ∈ pm_T := pm_T_in (List.mem_of_getElem? (i := 938) (by decide +kernel)) rfl
theorem nlL_10 : pm_nl_ RL 10 12 := ⟨_, rfl, pm_T_in (List.mem_of_getElem? (i := 942) (by decide +kernel)) rfl, pm_T_in (List.mem_of_getElem? (i := 943) (by decide +kernel)) rfl, pm_T_in (List.mem_of_getElem? (i := 62) (by decide +kernel)) rfl⟩
theorem clL_10 : Cond.classLink RL 10 RX12 ∈ pm_T := pm_T_in (List.mem_of_getElem? (i := 942) (by decide +kernel)) rfl
theorem mlL_12 : Cond.methodLink RL 12 yX12_init ∈ pm_T := pm_T_in (List.mem_of_getElem? (i := 944) (by decide +kernel)) rfl
theorem mlX12_1 : Cond.methodLink RX12 1 Lib.objectInit ∈ pm_T := pm_T_in (List.mem_of_getElem? (i := 947) (by decide +kernel)) rfl
theorem flX12_97 : pm_fl RX12 97 12 0 := ⟨_, rfl, by decide, pm_T_in (List.mem_of_getElem? (i := 948) (by decide +kernel)) rfl⟩
theorem flX12_90 : pm_fl RX12 90 12 1 := ⟨_, rfl, by decide, pm_T_in (List.mem_of_getElem? (i := 949) (by decide +kernel)) rfl⟩
theorem flX12_110 : pm_fl RX12 110 12 2 := ⟨_, rfl, by decide, pm_T_in (List.mem_of_getElem? (i := 950) (by decide +kernel)) rfl⟩
theorem flX12_130 : pm_fl RX12 130 12 3 := ⟨_, rfl, by decide, pm_T_in (List.mem_of_getElem? (i := 951) (by decide +kernel)) rfl⟩
theorem flX12_7 : pm_fl RX12 7 12 4 := ⟨_, rfl, by decide, pm_T_in (List.mem_of_getElem? (i := 952) (by decide +kernel)) rfl⟩
theorem flX12_13 : pm_fl RX12 13 12 5 := ⟨_, rfl, by decide, pm_T_in (List.mem_of_getElem? (i := 953) (by decide +kernel)) rfl⟩
theorem flX12_16 : pm_fl RX12 16 12 6 := ⟨_, rfl, by decide, pm_T_in (List.mem_of_getElem? (i := 954) (by decide +kernel)) rfl⟩
theorem flX12_19 : pm_fl RX12 19 12 7 := ⟨_, rfl, by decide, pm_T_in (List.mem_of_getElem? (i := 955) (by decide +kernel)) rfl⟩
theorem flX12_22 : pm_fl RX12 22 12 8 := ⟨_, rfl, by decide, pm_T_in (List.mem_of_getElem? (i := 956) (by decide +kernel)) rfl⟩
theorem flX12_25 : pm_fl RX12 25 12 9 := ⟨_, rfl, by decide, pm_T_in (List.mem_of_getElem? (i := 957) (by decide +kernel)) rfl⟩
theorem flX12_28 : pm_fl RX12 28 12 10 := ⟨_, rfl, by decide, pm_T_in (List.mem_of_getElem? (i := 958) (by decide +kernel)) rfl⟩
theorem flX12_31 : pm_fl RX12 31 12 11 := ⟨_, rfl, by decide, pm_T_in (List.mem_of_getElem? (i := 959) (by decide +kernel)) rfl⟩
theorem flX12_34 : pm_fl RX12 34 12 12 := ⟨_, rfl, by decide, pm_T_in (List.mem_of_getElem? (i := 960) (by decide +kernel)) rfl⟩
theorem flX12_37 : pm_fl RX12 37 12 13 := ⟨_, rfl, by decide, pm_T_in (List.mem_of_getElem? (i := 961) (by decide +kernel)) rfl⟩
theorem flX12_40 : pm_fl RX12 40 12 14 := ⟨_, rfl, by decide, pm_T_in (List.mem_of_getElem? (i := 962) (by decide +kernel)) rfl⟩
theorem flX12_43 : pm_fl RX12 43 12 15 := ⟨_, rfl, by decide, pm_T_in (List.mem_of_getElem? (i := 963) (by decide +kernel)) rfl⟩
theorem flX12_46 : pm_fl RX12 46 12 16 := ⟨_, rfl, by decide, pm_T_in (List.mem_of_getElem? (i := 964) (by decide +kernel)) rfl⟩
theorem flX12_49 : pm_fl RX12 49 12 17 := ⟨_, rfl, by decide, pm_T_in (List.mem_of_getElem? (i := 965) (by decide +kernel)) rfl⟩
theorem flX12_52 : pm_fl RX12 52 12 18 := ⟨_, rfl, by decide, pm_T_in (List.mem_of_getElem? (i := 966) (by decide +kernel)) rfl⟩
theorem flX12_55 : pm_fl RX12 55 12 19 := ⟨_, rfl, by decide, pm_T_in (List.mem_of_getElem? (i := 967) (by decide +kernel)) rfl⟩
theorem flX12_58 : pm_fl RX12 58 12 20 := ⟨_, rfl, by decide, pm_T_in (List.mem_of_getElem? (i := 968) (by decide +kernel)) rfl⟩
theorem flX12_133 : pm_fl RX12 133 12 21 := ⟨_, rfl, by decide, pm_T_in (List.mem_of_getElem? (i := 969) (by decide +kernel)) rfl⟩
theorem flX12_254 : pm_fl RX12 254 12 22 := ⟨_, rfl, by decide, pm_T_in (List.mem_of_getElem? (i := 970) (by decide +kernel)) rfl⟩
theorem flX12_225 : pm_fl RX12 225 12 23 := ⟨_, rfl, by decide, pm_T_in (List.mem_of_getElem? (i := 971) (by decide +kernel)) rfl⟩
theorem flX12_61 : pm_fl RX12 61 12 24 := ⟨_, rfl, by decide, pm_T_in (List.mem_of_getElem? (i := 972) (by decide +kernel)) rfl⟩
theorem flX12_64 : pm_fl RX12 64 12 25 := ⟨_, rfl, by decide, pm_T_in (List.mem_of_getElem? (i := 973) (by decide +kernel)) rfl⟩
theorem flX12_67 : pm_fl RX12 67 12 26 := ⟨_, rfl, by decide, pm_T_in (List.mem_of_getElem? (i := 974) (by decide +kernel)) rfl⟩
theorem flX12_70 : pm_fl RX12 70 12 27 := ⟨_, rfl, by decide, pm_T_in (List.mem_of_getElem? (i := 975) (by decide +kernel)) rfl⟩
theorem flX12_73 : pm_fl RX12 73 12 28 := ⟨_, rfl, by decide, pm_T_in (List.mem_of_getElem? (i := 976) (by decide +kernel)) rfl⟩
theorem flX12_76 : pm_fl RX12 76 12 29 := ⟨_, rfl, by decide, pm_T_in (List.mem_of_getElem? (i := 977) (by decide +kernel)) rfl⟩
theorem flX12_155 : pm_fl RX12 155 12 30 := ⟨_, rfl, by decide, pm_T_in (List.mem_of_getElem? (i := 978) (by decide +kernel)) rfl⟩
theorem flX12_188 : pm_fl RX12 188 12 31 := ⟨_, rfl, by decide, pm_T_in (List.mem_of_getElem? (i := 979) (by decide +kernel)) rfl⟩
theorem flX12_197 : pm_fl RX12 197 12 32 := ⟨_, rfl, by decide, pm_T_in (List.mem_of_getElem? (i := 980) (by decide +kernel)) rfl⟩
theorem flX12_194 : pm_fl RX12 194 12 33 := ⟨_, rfl, by decide, pm_T_in (List.mem_of_getElem? (i := 981) (by decide +kernel)) rfl⟩
theorem flX12_210 : pm_fl RX12 210 12 34 := ⟨_, rfl, by decide, pm_T_in (List.mem_of_getElem? (i := 982) (by decide +kernel)) rfl⟩
theorem flX12_213 : pm_fl RX12 213 12 35 := ⟨_, rfl, by decide, pm_T_in (List.mem_of_getElem? (i := 983) (by decide +kernel)) rfl⟩
theorem flX12_216 : pm_fl RX12 216 12 36 := ⟨_, rfl, by decide, pm_T_in (List.mem_of_getElem? (i := 984) (by decide +kernel)) rfl⟩
theorem flX12_260 : pm_fl RX12 260 12 37 := ⟨_, rfl, by decide, pm_T_in (List.mem_of_getElem? (i := 985) (by decide +kernel)) rfl⟩
theorem flX12_228 : pm_fl RX12 228 12 38 := ⟨_, rfl, by decide, pm_T_in (List.mem_of_getElem? (i := 986) (by decide +kernel)) rfl⟩
theorem flX12_79 : pm_fl RX12 79 12 39 := ⟨_, rfl, by decide, pm_T_in (List.mem_of_getElem? (i := 987) (by decide +kernel)) rfl⟩
theorem flX12_83 : pm_fl RX12 83 12 40 := ⟨_, rfl, by decide, pm_T_in (List.mem_of_getElem? (i := 988) (by decide +kernel)) rfl⟩
theorem flX12_286 : pm_fl RX12 286 12 41 := ⟨_, rfl, by decide, pm_T_in (List.mem_of_getElem? (i := 989) (by decide +kernel)) rfl⟩
theorem flX12_289 : pm_fl RX12 289 12 42 := ⟨_, rfl, by decide, pm_T_in (List.mem_of_getElem? (i := 990) (by decide +kernel)) rfl⟩
theorem flX12_292 : pm_fl RX12 292 12 43 := ⟨_, rfl, by decide, pm_T_in (List.mem_of_getElem? (i := 991) (by decide +kernel)) rfl⟩
theorem flX12_283 : pm_fl RX12 283 12 44 := ⟨_, rfl, by decide, pm_T_in (List.mem_of_getElem? (i := 992) (by decide +kernel)) rfl⟩
theorem mlL_17 : Cond.methodLink RL 17 yX12_thing ∈ pm_T := pm_T_in (List.mem_of_getElem? (i := 1084) (by decide +kernel)) rfl
theorem mlX12_86 : Cond.methodLink RX12 86 yX12_isIn ∈ pm_T := pm_T_in (List.mem_of_getElem? (i := 1088) (by decide +kernel)) rfl
theorem mlX12_100 : Cond.methodLink RX12 100 yX12_isHouse ∈ pm_T := pm_T_in (List.mem_of_getElem? (i := 1091) (by decide +kernel)) rfl
theorem mlX12_103 : Cond.methodLink RX12 103 yX12_comes ∈ pm_T := pm_T_in (List.mem_of_getElem? (i := 1094) (by decide +kernel)) rfl
theorem mlL_22 : Cond.methodLink RL 22 yX12_copy ∈ pm_T := pm_T_in (List.mem_of_getElem? (i := 1098) (by decide +kernel)) rfl
theorem mlX12_107 : Cond.methodLink RX12 107 yX12_isThere ∈ pm_T := pm_T_in (List.mem_of_getElem? (i := 1102) (by decide +kernel)) rfl
theorem mlX12_93 : Cond.methodLink RX12 93 yX12_isThing ∈ pm_T := pm_T_in (List.mem_of_getElem? (i := 1106) (by decide +kernel)) rfl
theorem mlL_27 : Cond.methodLink RL 27 yX12_pass ∈ pm_T := pm_T_in (List.mem_of_getElem? (i := 1110) (by decide +kernel)) rfl
theorem mlX12_113 : Cond.methodLink RX12 113 yX12_lentOn ∈ pm_T := pm_T_in (List.mem_of_getElem? (i := 1114) (by decide +kernel)) rfl
theorem mlX12_117 : Cond.methodLink RX12 117 yX12_ownerOn ∈ pm_T := pm_T_in (List.mem_of_getElem? (i := 1118) (by decide +kernel)) rfl
theorem mlX12_120 : Cond.methodLink RX12 120 yX12_happens ∈ pm_T := pm_T_in (List.mem_of_getElem? (i := 1122) (by decide +kernel)) rfl
theorem mlL_31 : Cond.methodLink RL 31 yX12_lend ∈ pm_T := pm_T_in (List.mem_of_getElem? (i := 1126) (by decide +kernel)) rfl
theorem mlL_36 : Cond.methodLink RL 36 yX12_back ∈ pm_T := pm_T_in (List.mem_of_getElem? (i := 1130) (by decide +kernel)) rfl
theorem mlL_40 : Cond.methodLink RL 40 yX12_burn ∈ pm_T := pm_T_in (List.mem_of_getElem? (i := 1134) (by decide +kernel)) rfl
theorem mlL_45 : Cond.methodLink RL 45 yX12_days ∈ pm_T := pm_T_in (List.mem_of_getElem? (i := 1138) (by decide +kernel)) rfl
theorem mlL_49 : Cond.methodLink RL 49 yX12_look ∈ pm_T := pm_T_in (List.mem_of_getElem? (i := 1142) (by decide +kernel)) rfl
theorem mlL_54 : Cond.methodLink RL 54 yX12_of ∈ pm_T := pm_T_in (List.mem_of_getElem? (i := 1146) (by decide +kernel)) rfl
theorem mlX12_123 : Cond.methodLink RX12 123 yX12_rootOf ∈ pm_T := pm_T_in (List.mem_of_getElem? (i := 1150) (by decide +kernel)) rfl
theorem mlX12_136 : Cond.methodLink RX12 136 yX12_isDoubtful ∈ pm_T := pm_T_in (List.mem_of_getElem? (i := 1154) (by decide +kernel)) rfl
theorem mlX12_127 : Cond.methodLink RX12 127 yX12_keptOn ∈ pm_T := pm_T_in (List.mem_of_getElem? (i := 1158) (by decide +kernel)) rfl
theorem mlL_58 : Cond.methodLink RL 58 yX12_held ∈ pm_T := pm_T_in (List.mem_of_getElem? (i := 1162) (by decide +kernel)) rfl
theorem mlL_62 : Cond.methodLink RL 62 yX12_owners ∈ pm_T := pm_T_in (List.mem_of_getElem? (i := 1166) (by decide +kernel)) rfl
theorem mlL_67 : Cond.methodLink RL 67 yX12_gather ∈ pm_T := pm_T_in (List.mem_of_getElem? (i := 1170) (by decide +kernel)) rfl
theorem mlX12_139 : Cond.methodLink RX12 139 yX12_isSeason ∈ pm_T := pm_T_in (List.mem_of_getElem? (i := 1174) (by decide +kernel)) rfl
theorem mlX12_142 : Cond.methodLink RX12 142 yX12_areGuests ∈ pm_T := pm_T_in (List.mem_of_getElem? (i := 1177) (by decide +kernel)) rfl
theorem mlX12_145 : Cond.methodLink RX12 145 yX12_isSet ∈ pm_T := pm_T_in (List.mem_of_getElem? (i := 1180) (by decide +kernel)) rfl
theorem mlL_71 : Cond.methodLink RL 71 yX12_gathering ∈ pm_T := pm_T_in (List.mem_of_getElem? (i := 1184) (by decide +kernel)) rfl
theorem mlL_75 : Cond.methodLink RL 75 yX12_seen ∈ pm_T := pm_T_in (List.mem_of_getElem? (i := 1188) (by decide +kernel)) rfl
theorem mlX12_148 : Cond.methodLink RX12 148 yX12_seenOf ∈ pm_T := pm_T_in (List.mem_of_getElem? (i := 1192) (by decide +kernel)) rfl
theorem mlL_79 : Cond.methodLink RL 79 yX12_again ∈ pm_T := pm_T_in (List.mem_of_getElem? (i := 1196) (by decide +kernel)) rfl
theorem mlX12_152 : Cond.methodLink RX12 152 yX12_againOf ∈ pm_T := pm_T_in (List.mem_of_getElem? (i := 1200) (by decide +kernel)) rfl
theorem mlL_83 : Cond.methodLink RL 83 yX12_feed ∈ pm_T := pm_T_in (List.mem_of_getElem? (i := 1204) (by decide +kernel)) rfl
theorem mlL_87 : Cond.methodLink RL 87 yX12_end ∈ pm_T := pm_T_in (List.mem_of_getElem? (i := 1208) (by decide +kernel)) rfl
theorem mlL_92 : Cond.methodLink RL 92 yX12_rules ∈ pm_T := pm_T_in (List.mem_of_getElem? (i := 1212) (by decide +kernel)) rfl
theorem mlX12_222 : Cond.methodLink RX12 222 yX12_next0 ∈ pm_T := pm_T_in (List.mem_of_getElem? (i := 1216) (by decide +kernel)) rfl
theorem mlX12_191 : Cond.methodLink RX12 191 yX12_see ∈ pm_T := pm_T_in (List.mem_of_getElem? (i := 1220) (by decide +kernel)) rfl
theorem mlX12_200 : Cond.methodLink RX12 200 yX12_isLetter ∈ pm_T := pm_T_in (List.mem_of_getElem? (i := 1224) (by decide +kernel)) rfl
theorem mlX12_203 : Cond.methodLink RX12 203 yX12_word ∈ pm_T := pm_T_in (List.mem_of_getElem? (i := 1227) (by decide +kernel)) rfl
theorem coX12_158 : Cond.constantLong RX12 158 (6447474) ∈ pm_T := pm_T_in (List.mem_of_getElem? (i := 1230) (by decide +kernel)) rfl
theorem coX12_160 : Cond.constantLong RX12 160 (28530) ∈ pm_T := pm_T_in (List.mem_of_getElem? (i := 1231) (by decide +kernel)) rfl
theorem coX12_162 : Cond.constantLong RX12 162 (6385252) ∈ pm_T := pm_T_in (List.mem_of_getElem? (i := 1232) (by decide +kernel)) rfl
theorem coX12_164 : Cond.constantLong RX12 164 (7237492) ∈ pm_T := pm_T_in (List.mem_of_getElem? (i := 1233) (by decide +kernel)) rfl
theorem coX12_166 : Cond.constantLong RX12 166 (126879263846254) ∈ pm_T := pm_T_in (List.mem_of_getElem? (i := 1234) (by decide +kernel)) rfl
theorem coX12_168 : Cond.constantLong RX12 168 (113753910899827) ∈ pm_T := pm_T_in (List.mem_of_getElem? (i := 1235) (by decide +kernel)) rfl
theorem coX12_170 : Cond.constantLong RX12 170 (1918987883) ∈ pm_T := pm_T_in (List.mem_of_getElem? (i := 1236) (by decide +kernel)) rfl
theorem coX12_172 : Cond.constantLong RX12 172 (1953459813) ∈ pm_T := pm_T_in (List.mem_of_getElem? (i := 1237) (by decide +kernel)) rfl
theorem coX12_174 : Cond.constantLong RX12 174 (6383461) ∈ pm_T := pm_T_in (List.mem_of_getElem? (i := 1238) (by decide +kernel)) rfl
theorem coX12_176 : Cond.constantLong RX12 176 (6840691) ∈ pm_T := pm_T_in (List.mem_of_getElem? (i := 1239) (by decide +kernel)) rfl
theorem coX12_178 : Cond.constantLong RX12 178 (1651472236) ∈ pm_T := pm_T_in (List.mem_of_getElem? (i := 1240) (by decide +kernel)) rfl
theorem coX12_180 : Cond.constantLong RX12 180 (126870958861420) ∈ pm_T := pm_T_in (List.mem_of_getElem? (i := 1241) (by decide +kernel)) rfl
theorem coX12_182 : Cond.constantLong RX12 182 (118083489655909) ∈ pm_T := pm_T_in (List.mem_of_getElem? (i := 1242) (by decide +kernel)) rfl
theorem coX12_184 : Cond.constantLong RX12 184 (1986098021) ∈ pm_T := pm_T_in (List.mem_of_getElem? (i := 1243) (by decide +kernel)) rfl
theorem coX12_186 : Cond.constantLong RX12 186 (495589486448) ∈ pm_T := pm_T_in (List.mem_of_getElem? (i := 1244) (by decide +kernel)) rfl
theorem mlX12_207 : Cond.methodLink RX12 207 yX12_isDigit ∈ pm_T := pm_T_in (List.mem_of_getElem? (i := 1245) (by decide +kernel)) rfl
theorem mlX12_257 : Cond.methodLink RX12 257 yX12_aRule ∈ pm_T := pm_T_in (List.mem_of_getElem? (i := 1248) (by decide +kernel)) rfl
theorem mlX12_219 : Cond.methodLink RX12 219 yX12_bad ∈ pm_T := pm_T_in (List.mem_of_getElem? (i := 1252) (by decide +kernel)) rfl
theorem mlX12_245 : Cond.methodLink RX12 245 yX12_any ∈ pm_T := pm_T_in (List.mem_of_getElem? (i := 1256) (by decide +kernel)) rfl
theorem mlX12_231 : Cond.methodLink RX12 231 yX12_all ∈ pm_T := pm_T_in (List.mem_of_getElem? (i := 1260) (by decide +kernel)) rfl
theorem mlX12_239 : Cond.methodLink RX12 239 yX12_one ∈ pm_T := pm_T_in (List.mem_of_getElem? (i := 1264) (by decide +kernel)) rfl
theorem mlX12_242 : Cond.methodLink RX12 242 yX12_opens ∈ pm_T := pm_T_in (List.mem_of_getElem? (i := 1268) (by decide +kernel)) rfl
theorem mlX12_235 : Cond.methodLink RX12 235 yX12_lay ∈ pm_T := pm_T_in (List.mem_of_getElem? (i := 1272) (by decide +kernel)) rfl
theorem mlX12_248 : Cond.methodLink RX12 248 yX12_need ∈ pm_T := pm_T_in (List.mem_of_getElem? (i := 1276) (by decide +kernel)) rfl
theorem mlX12_251 : Cond.methodLink RX12 251 yX12_term ∈ pm_T := pm_T_in (List.mem_of_getElem? (i := 1280) (by decide +kernel)) rfl
theorem mlL_96 : Cond.methodLink RL 96 yX12_fault ∈ pm_T := pm_T_in (List.mem_of_getElem? (i := 1284) (by decide +kernel)) rfl
theorem mlL_100 : Cond.methodLink RL 100 yX12_barred ∈ pm_T := pm_T_in (List.mem_of_getElem? (i := 1288) (by decide +kernel)) rfl
theorem mlX12_277 : Cond.methodLink RX12 277 yX12_barredBy ∈ pm_T := pm_T_in (List.mem_of_getElem? (i := 1292) (by decide +kernel)) rfl
theorem mlX12_273 : Cond.methodLink RX12 273 yX12_isSo ∈ pm_T := pm_T_in (List.mem_of_getElem? (i := 1296) (by decide +kernel)) rfl
theorem mlX12_266 : Cond.methodLink RX12 266 yX12_known ∈ pm_T := pm_T_in (List.mem_of_getElem? (i := 1300) (by decide +kernel)) rfl
theorem mlX12_263 : Cond.methodLink RX12 263 yX12_bits ∈ pm_T := pm_T_in (List.mem_of_getElem? (i := 1304) (by decide +kernel)) rfl
theorem mlX12_270 : Cond.methodLink RX12 270 yX12_both ∈ pm_T := pm_T_in (List.mem_of_getElem? (i := 1307) (by decide +kernel)) rfl
theorem mlL_104 : Cond.methodLink RL 104 yX12_best ∈ pm_T := pm_T_in (List.mem_of_getElem? (i := 1310) (by decide +kernel)) rfl
theorem mlX12_302 : Cond.methodLink RX12 302 yX12_finds ∈ pm_T := pm_T_in (List.mem_of_getElem? (i := 1314) (by decide +kernel)) rfl
theorem mlX12_295 : Cond.methodLink RX12 295 yX12_next ∈ pm_T := pm_T_in (List.mem_of_getElem? (i := 1318) (by decide +kernel)) rfl
theorem mlX12_280 : Cond.methodLink RX12 280 yX12_isFit ∈ pm_T := pm_T_in (List.mem_of_getElem? (i := 1322) (by decide +kernel)) rfl
theorem mlX12_298 : Cond.methodLink RX12 298 yX12_tries ∈ pm_T := pm_T_in (List.mem_of_getElem? (i := 1326) (by decide +kernel)) rfl
theorem imObj : Cond.instanceMethod Lib.objectInit ∈ pm_T := pm_T_in (List.mem_of_getElem? (i := 78) (by decide +kernel)) rfl
theorem coObj : Cond.code Lib.objectInit ⟨#[0xb1]⟩ 1 none ∈ pm_T := pm_T_in (List.mem_of_getElem? (i := 79) (by decide +kernel)) rfl
end
section
/-! ===== the fixed cells: 6 .. 67 ===== -/
def pm_tgl : List Nat := [0, 0, 0, 0, 0, 0, 11, 6, 22, 3, 23, 20, 20, 20, 20, 20, 20, 7, 21, 4, 20, 20, 20, 20, 4, 20, 20, 20, 20, 5, 10, 20, 20, 20, 8, 22, 2, 20, 1, 8, 22, 2, 20, 12, 20, 20, 20, 20, 20, 20, 20, 20, 20, 20, 20, 20, 20, 20, 20, 20, 20, 20, 20, 20, 20, 20, 20, 20]
def pm_lnl : List Nat := [0, 0, 0, 0, 0, 0, 0, 0, 20, 0, 5, 60, 60, 60, 60, 60, 400, 0, 600, 0, 300, 300, 300, 12, 0, 300, 300, 300, 12, 0, 0, 601, 601, 601, 0, 5, 0, 22, 0, 0, 5, 0, 22, 0, 20, 20, 20, 20, 20, 20, 20, 20, 300, 300, 300, 300, 60, 60, 60, 60, 60, 13, 620, 13, 620, 620, 600, 5]
def pm_fin : List (Nat × Nat × Nat) := [(6, 2, 7), (6, 3, 9), (6, 4, 17), (6, 5, 29), (6, 8, 34), (6, 9, 36), (6, 10, 38), (7, 0, 8), (9, 0, 10), (9, 1, 16), (10, 0, 11), (10, 1, 12), (10, 2, 13), (10, 3, 14), (10, 4, 15), (17, 0, 18), (19, 0, 20), (19, 1, 21), (19, 2, 22), (19, 3, 23), (24, 0, 25), (24, 1, 26), (24, 2, 27), (24, 3, 28), (29, 0, 30), (30, 0, 17), (30, 1, 31), (30, 2, 32), (30, 3, 33), (34, 0, 35), (36, 0, 37), (38, 0, 7), (38, 1, 9), (38, 2, 39), (38, 3, 41), (39, 0, 40), (41, 0, 42), (43, 4, 44), (43, 5, 45), (43, 6, 46), (43, 7, 47), (43, 8, 48), (43, 9, 49), (43, 10, 50), (43, 11, 51), (43, 12, 52), (43, 13, 53), (43, 14, 54), (43, 15, 55), (43, 16, 56), (43, 17, 57), (43, 18, 58), (43, 19, 59), (43, 20, 60), (43, 24, 61), (43, 25, 62), (43, 26, 63), (43, 27, 64), (43, 28, 65), (43, 29, 66), (43, 40, 67)]
def pm_tg (a : Nat) : Nat := pm_tgl.getD a 0
def pm_ln (a : Nat) : Nat := pm_lnl.getD a 0
/-- the fixed cells stand as they were made -/
def pm_fix (σ : pm_S) : Prop := 68 ≤ qN σ ∧ (∀ a, 6 ≤ a → a < 68 → qT σ a = pm_tg a ∧ qL σ a = pm_ln a) ∧ ∀ q ∈ pm_fin, qR σ q.1 q.2.1 = q.2.2
theorem pm_fix.at {σ τ : pm_S} {a : Nat} (h : pm_fix σ) (h1 : qT τ = qT σ) (h2 : qN τ = qN σ) (ha : (Nat.ble 6 a && Nat.blt a 68) = true) : pm_is τ a (pm_tg a) := by
  simp only [Bool.and_eq_true] at ha
  have h6 : 6 ≤ a := Nat.le_of_ble_eq_true ha.1
  have h68 : a < 68 := Nat.le_of_ble_eq_true ha.2
  exact ⟨by omega, by rw [h2]; exact Nat.lt_of_lt_of_le h68 h.1, by rw [h1]; exact (h.2.1 a h6 h68).1⟩
theorem pm_fix.ln {σ τ : pm_S} {a : Nat} (h : pm_fix σ) (h1 : qL τ = qL σ) (ha : (Nat.ble 6 a && Nat.blt a 68) = true) : qL τ a = pm_ln a := by
  simp only [Bool.and_eq_true] at ha
  rw [h1]
  exact (h.2.1 a (Nat.le_of_ble_eq_true ha.1) (Nat.le_of_ble_eq_true ha.2)).2
theorem pm_fix.rf {σ τ : pm_S} (h : pm_fix σ) (q : Nat × Nat × Nat) (h1 : qR τ = qR σ) (hq : q ∈ pm_fin) : qR τ q.1 q.2.1 = q.2.2 := by rw [h1]; exact h.2.2 q hq
theorem pm_fix.to {σ τ : pm_S} (h : pm_fix σ) (h1 : qT τ = qT σ) (h2 : qL τ = qL σ) (h3 : qN τ = qN σ) (h4 : qR τ = qR σ) : pm_fix τ := by
  unfold pm_fix
  rw [h1, h2, h3, h4]
  exact h
theorem pm_fix.sI {σ : pm_S} {a k : Nat} {x : Int32} (h : pm_fix σ) : pm_fix (pm_sI σ a k x) := h.to rfl rfl rfl rfl
theorem pm_fix.sR {σ : pm_S} {a k x : Nat} (h : pm_fix σ) (hq : pm_fin.all (fun q => !(q.1 == a && q.2.1 == k)) = true) : pm_fix (pm_sR σ a k x) := by
  refine ⟨h.1, h.2.1, fun q hm => ?_⟩
  have h1 := List.all_eq_true.mp hq q hm
  simp only [Bool.not_eq_true', Bool.and_eq_false_iff, beq_eq_false_iff_ne] at h1
  show (if q.1 = a ∧ q.2.1 = k then x else qR σ q.1 q.2.1) = q.2.2
  rw [if_neg (fun z => h1.elim (fun h1 => h1 z.1) (fun h1 => h1 z.2))]
  exact h.2.2 q hm
/-- a cell further on -/
theorem pm_fix.sRd {σ : pm_S} {a k x : Nat} (h : pm_fix σ) (ha : 68 ≤ a) : pm_fix (pm_sR σ a k x) := by
  refine h.sR (List.all_eq_true.mpr fun q hm => ?_)
  have h2 : q.1 < 68 := by
    have h3 : pm_fin.all (fun q => Nat.blt q.1 68) = true := by decide
    exact Nat.le_of_ble_eq_true (List.all_eq_true.mp h3 q hm)
  simp only [Bool.not_eq_true', Bool.and_eq_false_iff, beq_eq_false_iff_ne]
  left
  omega
theorem pm_fix.nw {σ : pm_S} {t n : Nat} (h : pm_fix σ) : pm_fix (pm_nw σ t n) := by
  obtain ⟨h1, h2, h3⟩ := h
  refine ⟨by show 68 ≤ qN σ + 1; omega, fun a ha hb => ?_, fun q hm => ?_⟩
  · rw [qT_nw_ne (by omega), qL_nw_ne (by omega)]
    exact h2 a ha hb
  · have h4 : q.1 < 68 := by
      have h5 : pm_fin.all (fun q => Nat.blt q.1 68) = true := by decide
      exact Nat.le_of_ble_eq_true (List.all_eq_true.mp h5 q hm)
    show (if q.1 = qN σ then 0 else qR σ q.1 q.2.1) = q.2.2
    rw [if_neg (by omega)]
    exact h3 q hm
/-! ===== a few more rows ===== -/
def bI (p : Prop) [Decidable p] : Int32 := if p then 1 else 0
theorem bI_t {p : Prop} [Decidable p] (h : p) : bI p = 1 := if_pos h
theorem bI_f {p : Prop} [Decidable p] (h : ¬ p) : bI p = 0 := if_neg h
theorem bI_0 {p : Prop} [Decidable p] : bI p = 0 ↔ ¬ p := by
  unfold bI; split
  · exact ⟨fun h => absurd h (by decide), fun h => absurd ‹p› h⟩
  · exact ⟨fun _ => ‹¬ p›, fun _ => rfl⟩
theorem bI_n {p : Prop} [Decidable p] : ¬ bI p = 0 ↔ p := by
  rw [bI_0]; exact Decidable.not_not
theorem bI_01 {p : Prop} [Decidable p] : bI p = 0 ∨ bI p = 1 := by unfold bI; split <;> simp
theorem bI_c {p q : Prop} [Decidable p] [Decidable q] (h : p ↔ q) : bI p = bI q := by
  unfold bI; by_cases hp : p
  · rw [if_pos hp, if_pos (h.mp hp)]
  · rw [if_neg hp, if_neg (fun z => hp (h.mpr z))]
theorem bI_nar {p : Prop} [Decidable p] : narrow .boolean (.int (bI p)) = .int (bI p) := by unfold bI; split <;> rfl
theorem pm_m1 (x : Int32) : x + Int32.ofInt (-1) = x - 1 := by
  rw [Int32.sub_eq_add_neg]; rfl
section PMX
variable {d al : Nat} {M : pm_M} {pc : Nat} {ls st : List Value} {σ : pm_S} {Q : Option Value → pm_S → Prop}
theorem pw_getF {t k idx a v : Nat} (hd : decode M.2.1 pc = .ok (.getfield idx, 3)) (hf : pm_fl M.1.cls idx t k) (hr : pm_rf t k = true) (ha : pm_is σ a t) (hv : qR σ a k = v) (kk : PW d al M (pc + 3) ls (.ref v :: st) σ Q) : PW d al M pc ls (.ref a :: st) σ Q :=
  pw_getR hd hf hr ha (by rw [hv]; exact kk)
theorem pw_aaldF {a k t v : Nat} {j : Int32} (hd : decode M.2.1 pc = .ok (.aaload, 1)) (ha : pm_is σ a t) (ht : t = 22 ∨ t = 23) (hj : j = nI k) (hk : k < qL σ a) (hb : k < 2 ^ 31) (hv : qR σ a k = v) (kk : PW d al M (pc + 1) ls (.ref v :: st) σ Q) : PW d al M pc ls (.int j :: .ref a :: st) σ Q :=
  pw_aald hd ha ht hj hk hb (by rw [hv]; exact kk)
theorem pw_iinc1 {i : Nat} {x : Int32} (hd : decode M.2.1 pc = .ok (.iinc i 1, 3)) (hl : ls[i]? = some (.int x)) (hn : i < M.2.2.1) (hi : i < ls.length) (hnl : pm_nl ls i = true) (k : PW d al M (pc + 3) (ls.set i (.int (x + 1))) st σ Q) : PW d al M pc ls st σ Q :=
  pw_iinc hd hl hn hi hnl k
theorem pw_iincm1 {i : Nat} {x : Int32} (hd : decode M.2.1 pc = .ok (.iinc i (-1), 3)) (hl : ls[i]? = some (.int x)) (hn : i < M.2.2.1) (hi : i < ls.length) (hnl : pm_nl ls i = true) (k : PW d al M (pc + 3) (ls.set i (.int (x - 1))) st σ Q) : PW d al M pc ls st σ Q :=
  pw_iinc hd hl hn hi hnl (by rw [show x + Int32.ofInt (-1) = x - 1 from pm_m1 x]; exact k)
end PMX
/-- an exact run: the answer and the state behind it -/
def PE (d al : Nat) (M : pm_M) (av : List Value) (σ : pm_S) (r : Option Value) (τ : pm_S) : Prop := PM d al M av σ (fun r' τ' => r' = r ∧ τ' = τ)
end
section
/-! THE CLAIM OUT OF ONE WALK OF THE LAW'S BODY. Your part is whole_start (and what it stands on); all else here is the same for every law, but numbers. -/
def R_law : String := "TeaBookLaw"
def lw_P (b : Addr) (xs : List Int32) (args : Array Value) (s : State) : Prop := args = #[.ref b] ∧ s.IntsAt b xs ∧ xs.length ≤ 3072 ∧ (Jvm.Cond.and given_1 narrow_1).before args s = true
def lw_Q (_ : Array Value) (s : State) (o : Outcome) (t : State) : Prop := o = .returned (some (.int 1)) ∧ Framed s o t [] 600000 7302250
def lw_Z (below : List Frame) (a : Array Value) (s : State) : State → Prop := fun t => ∃ o, t.status = .running ∧ Ended t below o ∧ lw_Q a s o t
/-- the law's own end, with 1 on the stack, nothing written that was there before, its room as the claim has it -/
theorem lw_ret {p : Program} {l : Launch} {e : Env} {s : State} {m : MethodId} {below : List Frame} {meth : Method} {c : Code} {b : Nat} (hx : p.tables.exec = Jvm.exec) (hb : c.code = code) (hr : meth.sig.returnType = ret) (hlocks : meth.locks = false) {pc : Nat} {H : Heap} {ls : Array Slot} (hdg : decode code pc = .ok (.ireturn, 1)) : W p l e room_1 s m #[Value.ref b] below meth c H [] 600000 7302250 (lw_Z below #[Value.ref b] s) (F0 m pc ls [.int 1]) := by
  intro T hT X
  obtain ⟨fs, hret, hrun, hended, hW, hframe⟩ := X.leave (v := some (.int 1)) (hlocks := hlocks) (fun h => by rw [hr] at h; cases h)
  have hmeth' : T.vm.method? m = some meth := X.method'
  refine ⟨T.setFrames fs, ?_, .returned (some (.int 1)), hrun, hended, rfl, ⟨_, rfl⟩, hW, hframe⟩
  jvm_step X.here [X.here.top, hx, hb, hdg, hmeth', hr, ret, narrow_b1]
  (try refine ⟨rfl, ?_⟩); (try refine ⟨rfl, ?_⟩)
  first | (intro acts; rw [hret _ acts rfl rfl rfl]) | rw [hret _ _ rfl rfl rfl]
  exact Steps.refl _
/-- what holds at the law's entry: the machine, the code, the tables' words (any of lw_tbl by 'hts w (by decide +kernel)'), the script of L ints xs at the cell b, what the Statement gives of the start (any of its parts by flat_of_before) -/
def lw_At (p : Program) (s : State) (m : MethodId) (meth : Method) (c : Code) (b L : Nat) (xs : Nat → Int32) : Prop :=
  p.tables.exec = Jvm.exec ∧ c.code = code ∧ meth.sig.returnType = ret ∧ c.maxLocals = 4 ∧ s.vm.findClass R_law = some m.cls ∧ (∀ w ∈ lw_tbl, w.before #[Value.ref b] s = true) ∧ va_X b L xs s s.heap ∧ b < s.heap.size ∧ meth.locks = false ∧ (Jvm.Cond.and given_1 narrow_1).before #[Value.ref b] s = true
end
section
/-! ===== the law's entry: the pure machine's first state ===== -/
def pm_ML : pm_M := (yL_law, cL_law, 4, some .boolean)
def pm_b1 : List Int32 := [98, 97, 114, 32, 32, 32, 111, 114, 32, 32, 32, 32, 97, 110, 100, 32, 32, 32, 110, 111, 116, 32, 32, 32, 115, 101, 97, 115, 111, 110, 103, 117, 101, 115, 116, 115, 114, 97, 110, 107, 32, 32, 116, 111, 110, 101, 32, 32, 97, 103, 101, 32, 32, 32, 104, 97, 115, 32, 32, 32, 98, 111, 119, 108, 32, 32, 115, 99, 114, 111, 108, 108, 107, 101, 116, 116, 108, 101, 118, 97, 115, 101, 32, 32, 115, 99, 111, 111, 112, 32]
def pm_b2 : List Int32 := [59, 40, 41, 60, 61, 62]
def pm_s0 (L : Nat) (xs : Nat → Int32) : pm_S := (fun a j => if a = 1 then xs j else if a = 4 then pm_b1.getD j 0 else if a = 5 then pm_b2.getD j 0 else 0, fun a k => if a = 2 ∧ k = 0 then 4 else if a = 3 ∧ k = 0 then 5 else 0, fun a => if a = 1 then 20 else if a = 2 then 13 else if a = 3 then 13 else 21, fun a => if a = 1 then L else if a = 4 then 90 else if a = 5 then 6 else 0, 6)
def pm_tm (i : Nat) : Term := Term.string RX10 (if i = 0 then 68 else 53)
def pm_nar : List Cond := flatC (Jvm.Cond.and given_1 narrow_1)
theorem pm_n1 : ∀ i, i < 2 → Cond.exactly (pm_tm i) "java/lang/String" ∈ pm_nar ∧ Cond.eq (.field (pm_tm i) "java/lang/String" "coder" "B") (.int 0) ∈ pm_nar ∧ Cond.arrayOf (.field (pm_tm i) "java/lang/String" "value" "[B") .byte ∈ pm_nar ∧ Cond.eq (.length (.field (pm_tm i) "java/lang/String" "value" "[B")) (.int (Int32.ofNat (([90, 6] : List Nat).getD i 0))) ∈ pm_nar := by decide +kernel
theorem pm_n2 : ∀ i, i < 2 → ∀ j, j < ([90, 6] : List Nat).getD i 0 → Cond.eq (.elem (.field (pm_tm i) "java/lang/String" "value" "[B") (.int (Int32.ofNat j))) (.int ((([pm_b1, pm_b2] : List (List Int32)).getD i []).getD j 0)) ∈ pm_nar := by decide +kernel
theorem pm_n3 : Cond.not (Cond.eq (pm_tm 0) (pm_tm 1)) ∈ pm_nar := by decide +kernel
theorem pm_n4 : Cond.eq (.static "java/lang/String" "COMPACT_STRINGS" "Z") (.int 1) ∈ pm_nar ∧ Cond.isRef (.static "jdk/internal/util/Preconditions" "SIOOBE_FORMATTER" "Ljava/util/function/BiFunction;") ∈ pm_nar := by decide +kernel
theorem pm_w1 : ∀ q ∈ pm_cl, Cond.instantiable q.1 q.2.2 ∈ lw_tbl := by decide +kernel
theorem pm_w2 : ∀ q ∈ pm_ne, Cond.methodLinkNest q.1 q.2.1 q.2.2.1 q.2.2.2 ∈ lw_tbl := by decide +kernel
theorem pm_w3 : ∀ w ∈ [Cond.arrayClass .int, .arrayClass .byte, .arrayOver (.object RX9), .arrayOver (.array .int), .stringRef RX10 pm_tx1 pm_s1, .stringRef RX10 pm_tx2 pm_s2, .laysStatic "java/lang/String" "COMPACT_STRINGS" "Z", .initialized "java/lang/String", .laysStatic "jdk/internal/util/Preconditions" "SIOOBE_FORMATTER" "Ljava/util/function/BiFunction;", .initialized "jdk/internal/util/Preconditions"], w ∈ lw_tbl := by decide +kernel
theorem pm_vmst {v : VmData} (h : ∀ k, v ≠ .statics k) : v.isStatics = false := by
  cases v <;> first | rfl | exact absurd rfl (h _)
theorem pm_top {p : Program} {e : Env} {s : State} {m : MethodId} {below : List Frame} {meth : Method} {c : Code} (l : Launch) {b L : Nat} {xs : Nat → Int32} (hL : L ≤ 3072) (C0 : lw_At p s m meth c b L xs) (h : PM 800 2000 pm_ML [.ref 1] (pm_s0 L xs) (fun r _ => r = some (.int 1))) :
    W p l e room_1 s m #[Value.ref b] below meth c s.heap [] 0 0 (lw_Z below #[Value.ref b] s) (entryFrame m ([Value.ref b] : List Value).toArray 4) := by
  obtain ⟨hx, hb, hr, hml, hown, hts, hX, hbl, hlocks, hgv⟩ := C0
  have hnar := flat_of_before _ hgv
  have hA : ∀ a : Nat, a < s.heap.size → ¬ (fun q : Nat => s.heap.size ≤ q) a := fun a h => Nat.not_le.mpr h
  -- the classes
  have hu : ∀ t : Nat, ∃ x : ClassId × (Nat → Nat), ∀ q, pm_cl[t]? = some q → u_Kn s q.1 q.2.1 q.2.2 x.1 x.2 := by
    intro t
    cases hq : pm_cl[t]? with
    | none => exact ⟨(0, fun _ => 0), fun q h => by cases h⟩
    | some q =>
      obtain ⟨cC, iS, hk⟩ := u_known hts (fun w hw => (List.mem_filter.mp ((pm_cls hq).2.2.1 w hw)).1) (hts _ (pm_w1 q (List.mem_of_getElem? hq)))
      exact ⟨(cC, iS), fun q' h => by cases h; exact hk⟩
  obtain ⟨F, hF⟩ := Classical.axiomOfChoice hu
  -- the arrays
  obtain ⟨cI, kI, compI, i1, i2, i3⟩ := Cond.arrayClass_spec (hts (.arrayClass .int) (pm_w3 _ (by decide +kernel)))
  obtain ⟨cB, kB, compB, b1, b2, b3⟩ := Cond.arrayClass_spec (hts (.arrayClass .byte) (pm_w3 _ (by decide +kernel)))
  obtain ⟨compT, cT, kT, t1, t2, t3, t4, t5⟩ := Cond.arrayOver_spec (hts (.arrayOver (.object RX9)) (pm_w3 _ (by decide +kernel)))
  obtain ⟨compG, cG, kG, g1, g2, g3, g4, g5⟩ := arrayOverA_spec (hts (.arrayOver (.array .int)) (pm_w3 _ (by decide +kernel)))
  -- the texts
  obtain ⟨adK, adV, ⟨hS1, -⟩, hS2⟩ := vk_Sof (args := #[Value.ref b]) (s := s) (N := 2) (tm := pm_tm) (len := [90, 6]) (byt := [pm_b1, pm_b2]) (A := fun q : Nat => s.heap.size ≤ q)
    (by decide) (fun i hi => hnar _ (pm_n1 i hi).1) (fun i hi => hnar _ (pm_n1 i hi).2.1) (fun i hi => hnar _ (pm_n1 i hi).2.2.1) (fun i hi => hnar _ (pm_n1 i hi).2.2.2) (fun i hi j hj => hnar _ (pm_n2 i hi j hj))
    (fun i j hi hj hij => by
      have : (i = 0 ∧ j = 1) ∨ (i = 1 ∧ j = 0) := by omega
      rcases this with ⟨rfl, rfl⟩ | ⟨rfl, rfl⟩
      · exact Or.inl (hnar _ pm_n3)
      · exact Or.inr (hnar _ pm_n3)) hA
  obtain ⟨⟨k0, o1, o2, o3, o4⟩, ⟨cf0, kc0, ic0, fc0, cc0, p1, p2, p3, p4, p5, p6⟩, ⟨cfv, kcv, icv, fcv, ccv, v1, v2, v3, v4, v5, v6⟩, ⟨a0, x1, x2, x3, x4, x5, x6, x7⟩⟩ := hS1 0 (by decide)
  obtain ⟨⟨k1, o1', o2', o3', o4'⟩, ⟨cf0', kc0', ic0', fc0', cc0', p1', p2', p3', p4', p5', p6'⟩, ⟨cfv', kcv', icv', fcv', ccv', v1', v2', v3', v4', v5', v6'⟩, ⟨a1, x1', x2', x3', x4', x5', x6', x7'⟩⟩ := hS1 1 (by decide)
  have ef : fc0' = fc0 := by have := p1.symm.trans p1'; simp at this; exact this.2.2.2.symm
  have ev : fcv' = fcv := by have := v1.symm.trans v1'; simp at this; exact this.2.2.2.symm
  subst ef; subst ev
  obtain ⟨scr, s1, s2, s3, s4, s5⟩ := hX
  -- beside it
  let ρ : Nat → Nat := fun a => if a = 1 then b else if a = 2 then adK 0 else if a = 3 then adK 1 else if a = 4 then adV 0 else if a = 5 then adV 1 else s.heap.size + (a - 6)
  let dC : Nat → ClassId := fun t => if t < 13 then (F t).1 else if t = 20 then cI else if t = 21 then cB else if t = 22 then cT else cG
  let dI : Nat → Nat → Nat := fun t => if t < 13 then (F t).2 else fun k => if k = 0 then fcv'.slot else fc0'.slot
  let dO : Nat → ClassId := fun a => if a = 1 then scr.cls else if a = 2 then k0.cls else if a = 3 then k1.cls else if a = 4 then a0.cls else a1.cls
  obtain ⟨g, hg⟩ : ∃ g : pm_G, g = (ρ, dC, dI, dO, s.heap.size, s.heap) := ⟨_, rfl⟩
  have hlt : ∀ {q : Nat} {x : Cell}, s.heap[q]? = some x → q < s.heap.size := fun h => (Array.getElem?_eq_some_iff.mp h).1
  have hG : pm_Gk g := by
    subst hg
    have h6 : ∀ n, 6 ≤ n → ρ n = s.heap.size + (n - 6) := fun n hn => by
      show (if n = 1 then b else if n = 2 then adK 0 else if n = 3 then adK 1 else if n = 4 then adV 0 else if n = 5 then adV 1 else s.heap.size + (n - 6)) = _
      rw [if_neg (by omega), if_neg (by omega), if_neg (by omega), if_neg (by omega), if_neg (by omega)]
    have hold : ∀ n, 0 < n → n < 6 → ρ n < s.heap.size := fun n h0 h5 => by
      have : n = 1 ∨ n = 2 ∨ n = 3 ∨ n = 4 ∨ n = 5 := by omega
      rcases this with rfl | rfl | rfl | rfl | rfl
      · exact hbl
      · exact hlt o1
      · exact hlt o1'
      · exact hlt x1
      · exact hlt x1'
    refine ⟨fun x y hy hx hxy => ?_, fun n hn => ?_, fun n hn => ?_⟩
    · have hxy' : ρ y = ρ x := hxy
      rcases Nat.lt_or_ge y 6 with h5 | h5
      · have := hold y hy h5
        rw [h6 x hx] at hxy'
        omega
      · rw [h6 x hx, h6 y h5] at hxy'
        omega
    · show ρ (n + 1) = ρ n + 1
      rw [h6 n hn, h6 (n + 1) (by omega)]
      omega
    · show s.heap.size ≤ ρ n
      rw [h6 n hn]
      omega
  have hsh : ∀ {ty : FieldType} {cA : ClassId} {kA : Class} {comp : ClassId}, s.vm.classes[cA]? = some kA → kA.kind = .array comp ty → ArrOfT s cA ty := fun h1 h2 n z => ⟨(fun k h => by cases h), _, h1, _, h2⟩
  have hsc : ∀ {ty : FieldType} {cell : Cell}, s.isArrayOf cell ty → ArrOfT s cell.cls ty := fun h n z => ⟨(fun k h => by cases h), h.2⟩
  have hK : pm_K g s := by
    subst hg
    refine ⟨⟨⟨fun t q hq => ?_, fun k q hk => by cases hk⟩, fun t h1 h2 => ?_, hsc s2, hsc x2, hsc x2'⟩, ⟨⟨o3, o3'⟩, ⟨cfv, kcv, icv, fcv', v1, v2, rfl⟩, ⟨cf0, kc0, ic0, fc0', p1, p2, rfl⟩, vk_R.of (hts _ (pm_w3 _ (by decide +kernel))) (hS2 0 (by decide)), vk_R.of (hts _ (pm_w3 _ (by decide +kernel))) (hS2 1 (by decide))⟩, ⟨fun q hq => va_Nw.of rfl (hts _ (pm_w2 q hq)), va_AO.of (hts _ (pm_w3 _ (by decide +kernel))), over_moved (Vm.Alike.refl _) (hts _ (pm_w3 _ (by decide +kernel)))⟩, va_Zof (hts _ (pm_w3 _ (by decide +kernel))) (hts _ (pm_w3 _ (by decide +kernel))) (va_eqt (hnar _ pm_n4.1)) hA, ?_⟩
    · have h13 := (pm_cls hq).1
      have e1 : dC t = (F t).1 := if_pos h13
      have e2 : dI t = (F t).2 := if_pos h13
      show u_Kn s q.1 q.2.1 q.2.2 (dC t) (dI t)
      rw [e1, e2]
      exact hF t q hq
    · have : t = 20 ∨ t = 21 ∨ t = 22 ∨ t = 23 := by omega
      rcases this with rfl | rfl | rfl | rfl
      · exact ⟨hsh i2 i3, i1⟩
      · exact ⟨hsh b2 b3, b1⟩
      · exact ⟨hsh t3 t4, kT, compT, t3, t4, t1, t5⟩
      · exact ⟨hsh g3 g4, g5⟩
    · rcases va_Zqof (A := fun q : Nat => s.heap.size ≤ q) (hts _ (pm_w3 (.laysStatic "jdk/internal/util/Preconditions" "SIOOBE_FORMATTER" "Ljava/util/function/BiFunction;") (by decide +kernel))) (hts _ (pm_w3 (.initialized "jdk/internal/util/Preconditions") (by decide +kernel))) (hnar _ pm_n4.2) hA with h | ⟨t, h⟩
      · exact ⟨_, Or.inl rfl, h⟩
      · exact ⟨_, Or.inr ⟨t, rfl⟩, h⟩
  have hRl : pm_Rl g (pm_s0 L xs) s.heap := by
    subst hg
    refine ⟨by show 6 ≤ 6; omega, by show s.heap.size = s.heap.size + 0; omega, fun a h0 h6 => ?_, fun q hq => rfl, rfl, rfl, rfl, rfl, rfl⟩
    have h6' : a < 6 := h6
    have : a = 1 ∨ a = 2 ∨ a = 3 ∨ a = 4 ∨ a = 5 := by omega
    rcases this with rfl | rfl | rfl | rfl | rfl
    · exact ⟨scr, s1, rfl, pm_vmst s2.1, s3, fun h => by omega, fun h => absurd h (show ¬ (20 : Nat) < 20 by decide), fun _ => ⟨⟨by show L ≤ _; rw [s4]; exact Nat.le_refl _, by rw [s4]; rfl⟩, fun j hj => s5 j hj⟩⟩
    · refine ⟨k0, o1, rfl, o2, ?_, fun h => by omega, fun _ k hk => ?_, fun h => absurd h (show ¬ (20 : Nat) ≤ 13 by decide)⟩
      · have : ccv = k0 := Option.some.inj (v3.symm.trans o1)
        rw [← this]; exact v4
      · have hk2 : k < 2 := hk
        have : k = 0 ∨ k = 1 := by omega
        rcases this with rfl | rfl
        · have : ccv = k0 := Option.some.inj (v3.symm.trans o1)
          rw [← this]; exact v5
        · have : cc0 = k0 := Option.some.inj (p3.symm.trans o1)
          rw [← this]; exact p5
    · refine ⟨k1, o1', rfl, o2', ?_, fun h => by omega, fun _ k hk => ?_, fun h => absurd h (show ¬ (20 : Nat) ≤ 13 by decide)⟩
      · have : ccv' = k1 := Option.some.inj (v3'.symm.trans o1')
        rw [← this]; exact v4'
      · have hk2 : k < 2 := hk
        have : k = 0 ∨ k = 1 := by omega
        rcases this with rfl | rfl
        · have : ccv' = k1 := Option.some.inj (v3'.symm.trans o1')
          rw [← this]; exact v5'
        · have : cc0' = k1 := Option.some.inj (p3'.symm.trans o1')
          rw [← this]; exact p5'
    · exact ⟨a0, x1, rfl, pm_vmst x2.1, x3, fun h => by omega, fun h => absurd h (show ¬ (21 : Nat) < 20 by decide), fun _ => ⟨⟨x4, x5⟩, fun j hj => x6 j hj⟩⟩
    · exact ⟨a1, x1', rfl, pm_vmst x2'.1, x3', fun h => by omega, fun h => absurd h (show ¬ (21 : Nat) < 20 by decide), fun _ => ⟨⟨x4', x5'⟩, fun j hj => x6' j hj⟩⟩
  have hbase : g.2.2.2.2.1 = s.heap.size := by rw [hg]
  have hE : pm_End pm_ML (fun r _ => r = some (.int 1)) p l e room_1 s m #[Value.ref b] below meth c g (lw_Z below #[Value.ref b] s) 2000 1400000 := by
    intro r τ H locs lr pc ins hQ hRl' hlo hd hok
    subst hQ
    rcases hok with ⟨h1, -, -⟩ | ⟨ty, x, h1, rfl, h3, hn⟩ | ⟨ty, a, h1, -, h3, -⟩
    · cases h1
    · refine va_forget (fun q hq => by rw [← hbase]; exact hlo q hq) ?_
      refine W.widen (k := 600000) (n := 7302250) (Nat.le_of_ble_eq_true rfl) (Nat.le_of_ble_eq_true rfl) ?_
      exact lw_ret hx hb hr hlocks hd
    · cases h3
  have hg1 : g.1 1 = b := by rw [hg]; rfl
  have etr : ([Value.ref 1].map (pm_tr g)) = [Value.ref b] := by
    show [pm_tr g (.ref 1)] = _
    rw [pm_tr_ref (by decide), hg1]
  rw [lg_entry_eq]
  have hl := lv_entry [Value.ref b] (n := 4) (Nat.le_of_ble_eq_true rfl)
  generalize (lg_sl [Value.ref b] ++ List.replicate (4 - (lg_sl [Value.ref b]).length) Slot.unset).toArray = lr at hl ⊢
  refine h p l e room_1 s m _ below meth c g _ 2000 1400000 s.heap [] 0 0 lr ⟨⟨hx, hb, hr, hlocks, hml, hown, fun w hw => hts w (List.mem_filter.mp hw).1, ?_, hK⟩, hG, Nat.le_of_ble_eq_true rfl, Nat.le_of_ble_eq_true rfl, Nat.le_of_ble_eq_true rfl, Nat.le_of_ble_eq_true rfl, hE⟩ ⟨Nat.le_of_ble_eq_true rfl, Nat.le_of_ble_eq_true rfl, hRl, (fun q h => by cases h), ?_⟩
  · intro h; exact absurd h (by decide)
  · refine ⟨hl.1, hl.2.1, fun q hq => hl.2.2 q ?_⟩
    rw [← etr]
    exact pm_ent_sub _ [.ref 1] 0 hq
end
section
/-! ===== numbers ===== -/
theorem i_lt {a b : Int32} : a < b ↔ a.toInt < b.toInt := Int32.lt_iff_toInt_lt
theorem i_le {a b : Int32} : a ≤ b ↔ a.toInt ≤ b.toInt := Int32.le_iff_toInt_le
theorem i_eq {a b : Int32} : a = b ↔ a.toInt = b.toInt := Int32.toInt_inj.symm
abbrev tOk (n : Nat) (v : Int32) : Prop := 0 ≤ v ∧ v ≤ nI n - 1
theorem nI_m1 {n : Nat} (hn : n < 2 ^ 30) : (nI n - 1).toInt = (n : Int) - 1 := by
  have h := pk_sub_toInt (a := n) (b := 1) hn (by decide)
  exact h
theorem tOk_iff {n : Nat} {v : Int32} (hn : n < 2 ^ 30) : tOk n v ↔ ∃ j, j < n ∧ v = nI j := by
  unfold tOk
  rw [i_le, i_le, nI_m1 hn]
  constructor
  · rintro ⟨h1, h2⟩
    have h3 : (0 : Int32).toInt = 0 := rfl
    rw [h3] at h1
    refine ⟨v.toInt.toNat, by omega, ?_⟩
    rw [i_eq, nI_toInt (by omega)]
    omega
  · rintro ⟨j, h1, rfl⟩
    rw [nI_toInt (by omega)]
    have h3 : (0 : Int32).toInt = 0 := rfl
    omega
theorem tOk_nI {n j : Nat} (h : j < n) (hn : n < 2 ^ 30) : tOk n (nI j) := (tOk_iff hn).mpr ⟨j, h, rfl⟩
theorem nI_inj {a b : Nat} (ha : a < 2 ^ 31) (hb : b < 2 ^ 31) (h : nI a = nI b) : a = b := (nI_eq ha hb).mp h
theorem nI_20 : nI 20 = 20 := rfl
theorem nI_300 : nI 300 = 300 := rfl
theorem nI_60 : nI 60 = 60 := rfl
theorem nI_ne {a b : Nat} (ha : a < 2 ^ 31) (hb : b < 2 ^ 31) (h : a ≠ b) : nI a ≠ nI b := fun z => h (nI_inj ha hb z)
theorem nI_nm1 {n : Nat} (h : n < 2 ^ 31) : nI n ≠ -1 := by
  rw [ne_eq, i_eq, nI_toInt h]
  have : (-1 : Int32).toInt = -1 := rfl
  omega
theorem pm_fix.lt {σ τ : pm_S} {a k n : Nat} (h : pm_fix σ) (h1 : qL τ = qL σ) (ha : (Nat.ble 6 a && Nat.blt a 68) = true) (hk : k < n) (hn : Nat.ble n (pm_ln a) = true) : k < qL τ a := by
  rw [h.ln h1 ha]
  exact Nat.lt_of_lt_of_le hk (Nat.le_of_ble_eq_true hn)
/-! reading behind writing -/
theorem qI_sI {σ : pm_S} {a k : Nat} {x : Int32} (b j : Nat) : qI (pm_sI σ a k x) b j = if b = a ∧ j = k then x else qI σ b j := rfl
theorem qI_sI_ne {σ : pm_S} {a k : Nat} {x : Int32} {b j : Nat} (h : ¬ (b = a ∧ j = k)) : qI (pm_sI σ a k x) b j = qI σ b j := if_neg h
theorem qI_sI_nc {σ : pm_S} {a k : Nat} {x : Int32} {b j : Nat} (h : b ≠ a) : qI (pm_sI σ a k x) b j = qI σ b j := if_neg (fun z => h z.1)
theorem qI_sI_eq {σ : pm_S} {a k : Nat} {x : Int32} : qI (pm_sI σ a k x) a k = x := if_pos ⟨rfl, rfl⟩
theorem qR_sI {σ : pm_S} {a k : Nat} {x : Int32} : qR (pm_sI σ a k x) = qR σ := rfl
theorem qT_sI {σ : pm_S} {a k : Nat} {x : Int32} : qT (pm_sI σ a k x) = qT σ := rfl
theorem qL_sI {σ : pm_S} {a k : Nat} {x : Int32} : qL (pm_sI σ a k x) = qL σ := rfl
theorem qN_sI {σ : pm_S} {a k : Nat} {x : Int32} : qN (pm_sI σ a k x) = qN σ := rfl
theorem qR_sR {σ : pm_S} {a k x : Nat} (b j : Nat) : qR (pm_sR σ a k x) b j = if b = a ∧ j = k then x else qR σ b j := rfl
theorem qR_sR_nc {σ : pm_S} {a k x : Nat} {b j : Nat} (h : b ≠ a) : qR (pm_sR σ a k x) b j = qR σ b j := if_neg (fun z => h z.1)
theorem qR_sR_eq {σ : pm_S} {a k x : Nat} : qR (pm_sR σ a k x) a k = x := if_pos ⟨rfl, rfl⟩
theorem qI_sR {σ : pm_S} {a k x : Nat} : qI (pm_sR σ a k x) = qI σ := rfl
theorem qT_sR {σ : pm_S} {a k x : Nat} : qT (pm_sR σ a k x) = qT σ := rfl
theorem qL_sR {σ : pm_S} {a k x : Nat} : qL (pm_sR σ a k x) = qL σ := rfl
theorem qN_sR {σ : pm_S} {a k x : Nat} : qN (pm_sR σ a k x) = qN σ := rfl
theorem PE.mono {d d' al al' : Nat} {M : pm_M} {av : List Value} {σ τ : pm_S} {r : Option Value} (h : PE d al M av σ r τ) (hd : d ≤ d') (ha : al ≤ al') : PE d' al' M av σ r τ := PW.fr hd (PW.mono ha h)
theorem PE.eq {d al : Nat} {M : pm_M} {av : List Value} {σ τ τ' : pm_S} {r r' : Option Value} (h : PE d al M av σ r τ) (hr : r = r') (ht : τ = τ') : PE d al M av σ r' τ' := by subst hr; subst ht; exact h
end
section
/-! ===== the reference: plain questions ===== -/
theorem s_isIn {d al : Nat} {σ : pm_S} (v a b : Int32) : PE d al MX12_isIn [.int v, .int a, .int b] σ (some (.int (bI (a ≤ v ∧ v ≤ b)))) σ := by
  show PW _ _ _ _ _ _ _ _
  refine pw_iload_n dX12_isIn_0 rfl ?_
  refine pw_iload_n dX12_isIn_1 rfl ?_
  refine pw_icmp_lt (tgt := 14) dX12_isIn_2 (by decide) (fun h2 => ?_) (fun h2 => ?_)
  · refine pw_iconst (v := 0) dX12_isIn_14 (by decide) ?_
    refine pw_iret dX12_isIn_15 rfl (by first | rfl | exact bI_nar) ?_
    first | exact ⟨by rw [bI_f (fun z => Int32.not_le.mpr h2 z.1)], rfl⟩ | exact ⟨by rw [bI_f (fun z => Int32.not_le.mpr h7 z.2)], rfl⟩ | exact ⟨by rw [bI_t ⟨Int32.not_lt.mp h2, Int32.not_lt.mp h7⟩], rfl⟩
  · refine pw_iload_n dX12_isIn_5 rfl ?_
    refine pw_iload_n dX12_isIn_6 rfl ?_
    refine pw_icmp_gt (tgt := 14) dX12_isIn_7 (by decide) (fun h7 => ?_) (fun h7 => ?_)
    · refine pw_iconst (v := 0) dX12_isIn_14 (by decide) ?_
      refine pw_iret dX12_isIn_15 rfl (by first | rfl | exact bI_nar) ?_
      first | exact ⟨by rw [bI_f (fun z => Int32.not_le.mpr h2 z.1)], rfl⟩ | exact ⟨by rw [bI_f (fun z => Int32.not_le.mpr h7 z.2)], rfl⟩ | exact ⟨by rw [bI_t ⟨Int32.not_lt.mp h2, Int32.not_lt.mp h7⟩], rfl⟩
    · refine pw_iconst (v := 1) dX12_isIn_10 (by decide) ?_
      refine pw_goto (tgt := 15) dX12_isIn_11 (by decide) ?_
      refine pw_iret dX12_isIn_15 rfl (by first | rfl | exact bI_nar) ?_
      first | exact ⟨by rw [bI_f (fun z => Int32.not_le.mpr h2 z.1)], rfl⟩ | exact ⟨by rw [bI_f (fun z => Int32.not_le.mpr h7 z.2)], rfl⟩ | exact ⟨by rw [bI_t ⟨Int32.not_lt.mp h2, Int32.not_lt.mp h7⟩], rfl⟩
theorem s_isHouse {d al : Nat} {σ : pm_S} (hd : 1 ≤ d) (v : Int32) : PE d al MX12_isHouse [.int v] σ (some (.int (bI (0 ≤ v ∧ v ≤ 7)))) σ := by
  show PW _ _ _ _ _ _ _ _
  refine pw_iload_n dX12_isHouse_0 rfl ?_
  refine pw_iconst (v := 0) dX12_isHouse_1 (by decide) ?_
  refine pw_bipush (v := 7) dX12_isHouse_2 (by decide) ?_
  refine pw_cS3 (d1 := d - 1) (a1 := 0) (a2 := al) dX12_isHouse_4 mtX12_isIn stX12_isIn mlX12_86 (Nat.le_of_ble_eq_true rfl) (Nat.le_of_ble_eq_true rfl) (by omega) (by omega) (s_isIn _ _ _) ?_
  rintro r_ τ_ ⟨hr_, ht_⟩; subst r_; subst τ_
  refine pw_iret dX12_isHouse_7 rfl (by first | rfl | exact bI_nar) ?_
  exact ⟨rfl, rfl⟩
theorem s_areGuests {d al : Nat} {σ : pm_S} (hd : 1 ≤ d) (v : Int32) : PE d al MX12_areGuests [.int v] σ (some (.int (bI (1 ≤ v ∧ v ≤ 255)))) σ := by
  show PW _ _ _ _ _ _ _ _
  refine pw_iload_n dX12_areGuests_0 rfl ?_
  refine pw_iconst (v := 1) dX12_areGuests_1 (by decide) ?_
  refine pw_sipush (v := 255) dX12_areGuests_2 (by decide) ?_
  refine pw_cS3 (d1 := d - 1) (a1 := 0) (a2 := al) dX12_areGuests_5 mtX12_isIn stX12_isIn mlX12_86 (Nat.le_of_ble_eq_true rfl) (Nat.le_of_ble_eq_true rfl) (by omega) (by omega) (s_isIn _ _ _) ?_
  rintro r_ τ_ ⟨hr_, ht_⟩; subst r_; subst τ_
  refine pw_iret dX12_areGuests_8 rfl (by first | rfl | exact bI_nar) ?_
  exact ⟨rfl, rfl⟩
theorem s_isSeason {d al : Nat} {σ : pm_S} (hd : 1 ≤ d) (v : Int32) : PE d al MX12_isSeason [.int v] σ (some (.int (bI (0 ≤ v ∧ v ≤ 3)))) σ := by
  show PW _ _ _ _ _ _ _ _
  refine pw_iload_n dX12_isSeason_0 rfl ?_
  refine pw_iconst (v := 0) dX12_isSeason_1 (by decide) ?_
  refine pw_iconst (v := 3) dX12_isSeason_2 (by decide) ?_
  refine pw_cS3 (d1 := d - 1) (a1 := 0) (a2 := al) dX12_isSeason_3 mtX12_isIn stX12_isIn mlX12_86 (Nat.le_of_ble_eq_true rfl) (Nat.le_of_ble_eq_true rfl) (by omega) (by omega) (s_isIn _ _ _) ?_
  rintro r_ τ_ ⟨hr_, ht_⟩; subst r_; subst τ_
  refine pw_iret dX12_isSeason_6 rfl (by first | rfl | exact bI_nar) ?_
  exact ⟨rfl, rfl⟩
theorem s_isThing {d al : Nat} {σ : pm_S} (hd : 1 ≤ d) (hS : pm_fix σ) (v : Int32) : PE d al MX12_isThing [.ref 43, .int v] σ (some (.int (bI (0 ≤ v ∧ v ≤ qI σ 43 1 - 1)))) σ := by
  show PW _ _ _ _ _ _ _ _
  refine pw_iload_n dX12_isThing_0 rfl ?_
  refine pw_iconst (v := 0) dX12_isThing_1 (by decide) ?_
  refine pw_aload_n dX12_isThing_2 rfl ?_
  refine pw_getI dX12_isThing_3 flX12_90 rfl (hS.at rfl rfl rfl) ?_
  refine pw_iconst (v := 1) dX12_isThing_6 (by decide) ?_
  refine pw_isub dX12_isThing_7 ?_
  refine pw_cS3 (d1 := d - 1) (a1 := 0) (a2 := al) dX12_isThing_8 mtX12_isIn stX12_isIn mlX12_86 (Nat.le_of_ble_eq_true rfl) (Nat.le_of_ble_eq_true rfl) (by omega) (by omega) (s_isIn _ _ _) ?_
  rintro r_ τ_ ⟨hr_, ht_⟩; subst r_; subst τ_
  refine pw_iret dX12_isThing_11 rfl (by first | rfl | exact bI_nar) ?_
  exact ⟨rfl, rfl⟩
end
section
/-! ===== the reference: things and what happens ===== -/
theorem s_isThere {d al n : Nat} {σ : pm_S} (hd : 2 ≤ d) (hS : pm_fix σ) (hn : qI σ 43 1 = nI n) (hn2 : n ≤ 20) (v : Int32) : PE d al MX12_isThere [.ref 43, .int v] σ (some (.int (bI (tOk n v ∧ qI σ 51 v.toNatClampNeg = -1)))) σ := by
  show PW _ _ _ _ _ _ _ _
  refine pw_aload_n dX12_isThere_0 rfl ?_
  refine pw_iload_n dX12_isThere_1 rfl ?_
  refine pw_cV1 (d1 := d - 1) (a1 := 0) (a2 := al) dX12_isThere_2 mtX12_isThing ivX12_isThing mlX12_93 (Nat.le_of_ble_eq_true rfl) (Nat.le_of_ble_eq_true rfl) (by omega) (by omega) (hS.at rfl rfl rfl) rfl rfl (s_isThing (by omega) hS v) ?_
  rintro r_ τ_ ⟨hr_, ht_⟩; subst r_; subst τ_
  refine pw_if_eq (tgt := 22) dX12_isThere_5 (by decide) (fun h5 => ?_) (fun h5 => ?_)
  · refine pw_iconst (v := 0) dX12_isThere_22 (by decide) ?_
    refine pw_iret dX12_isThere_23 rfl rfl ?_
    refine ⟨?_, rfl⟩
    rw [bI_f]
    intro z
    rw [hn] at h5
    exact bI_0.mp h5 z.1
  · rw [hn, bI_n] at h5
    obtain ⟨j, hjn0, hj⟩ := (tOk_iff (by omega)).mp h5
    have hjn : j < 20 := by omega
    have hjc : v.toNatClampNeg = j := by rw [hj]; exact nI_clamp (by omega)
    refine pw_aload_n dX12_isThere_8 rfl ?_
    refine pw_getF (v := 51) dX12_isThere_9 flX12_31 rfl (hS.at rfl rfl rfl) (hS.rf (43, 11, 51) rfl (by decide)) ?_
    refine pw_iload_n dX12_isThere_12 rfl ?_
    refine pw_iald dX12_isThere_13 (hS.at rfl rfl rfl) hj (hS.lt rfl rfl hjn rfl) (by omega) ?_
    refine pw_iconst (v := (-1)) dX12_isThere_14 (by decide) ?_
    refine pw_icmp_ne (tgt := 22) dX12_isThere_15 (by decide) (fun h15 => ?_) (fun h15 => ?_)
    · refine pw_iconst (v := 0) dX12_isThere_22 (by decide) ?_
      refine pw_iret dX12_isThere_23 rfl (by first | rfl | exact bI_nar) ?_
      refine ⟨?_, rfl⟩
      rw [hjc]
      by_cases hq : qI σ 51 j = -1
      · first | exact absurd hq h15 | rw [bI_t ⟨h5, hq⟩]
      · first | exact absurd h15 hq | rw [bI_f (fun z => hq z.2)]
    · refine pw_iconst (v := 1) dX12_isThere_18 (by decide) ?_
      refine pw_goto (tgt := 23) dX12_isThere_19 (by decide) ?_
      refine pw_iret dX12_isThere_23 rfl (by first | rfl | exact bI_nar) ?_
      refine ⟨?_, rfl⟩
      rw [hjc]
      by_cases hq : qI σ 51 j = -1
      · first | exact absurd hq h15 | rw [bI_t ⟨h5, hq⟩]
      · first | exact absurd h15 hq | rw [bI_f (fun z => hq z.2)]
/-- a thing comes: the state behind it -/
def m_comes (σ : pm_S) (n : Nat) (k r c s house of : Int32) : pm_S := pm_sI (pm_sI (pm_sI (pm_sI (pm_sI (pm_sI (pm_sI (pm_sI (pm_sI σ 43 1 (qI σ 43 1 + 1)) 44 n k) 45 n r) 46 n c) 47 n s) 48 n (qI σ 43 0)) 49 n of) 50 n house) 51 n (-1)
theorem s_comes {d al n : Nat} {σ : pm_S} (hS : pm_fix σ) (hn : qI σ 43 1 = nI n) (hn2 : n < 20) (k r c s house of : Int32) : PE d al MX12_comes [.ref 43, .int k, .int r, .int c, .int s, .int house, .int of] σ (some (.int (nI n))) (m_comes σ n k r c s house of) := by
  show PW _ _ _ _ _ _ _ _
  refine pw_aload_n dX12_comes_0 rfl ?_
  refine pw_getI dX12_comes_1 flX12_90 rfl (hS.at rfl rfl rfl) ?_
  refine pw_istore dX12_comes_4 (Nat.le_of_ble_eq_true rfl) (Nat.le_of_ble_eq_true rfl) rfl ?_
  refine pw_aload_n dX12_comes_6 rfl ?_
  refine pw_dup dX12_comes_7 rfl ?_
  refine pw_getI dX12_comes_8 flX12_90 rfl (hS.at rfl rfl rfl) ?_
  refine pw_iconst (v := 1) dX12_comes_11 (by decide) ?_
  refine pw_iadd dX12_comes_12 ?_
  refine pw_putI dX12_comes_13 flX12_90 ⟨_, rfl, Or.inl rfl⟩ rfl (hS.at rfl rfl rfl) ?_
  refine pw_aload_n dX12_comes_16 rfl ?_
  refine pw_getF (v := 44) dX12_comes_17 flX12_7 rfl (hS.at rfl rfl rfl) (hS.rf (43, 4, 44) rfl (by decide)) ?_
  refine pw_iload dX12_comes_20 rfl ?_
  refine pw_iload_n dX12_comes_22 rfl ?_
  refine pw_iast dX12_comes_23 (hS.at rfl rfl rfl) (by decide) hn (hS.lt rfl rfl hn2 rfl) (by omega) ?_
  refine pw_aload_n dX12_comes_24 rfl ?_
  refine pw_getF (v := 45) dX12_comes_25 flX12_13 rfl (hS.at rfl rfl rfl) (hS.rf (43, 5, 45) rfl (by decide)) ?_
  refine pw_iload dX12_comes_28 rfl ?_
  refine pw_iload_n dX12_comes_30 rfl ?_
  refine pw_iast dX12_comes_31 (hS.at rfl rfl rfl) (by decide) hn (hS.lt rfl rfl hn2 rfl) (by omega) ?_
  refine pw_aload_n dX12_comes_32 rfl ?_
  refine pw_getF (v := 46) dX12_comes_33 flX12_16 rfl (hS.at rfl rfl rfl) (hS.rf (43, 6, 46) rfl (by decide)) ?_
  refine pw_iload dX12_comes_36 rfl ?_
  refine pw_iload_n dX12_comes_38 rfl ?_
  refine pw_iast dX12_comes_39 (hS.at rfl rfl rfl) (by decide) hn (hS.lt rfl rfl hn2 rfl) (by omega) ?_
  refine pw_aload_n dX12_comes_40 rfl ?_
  refine pw_getF (v := 47) dX12_comes_41 flX12_19 rfl (hS.at rfl rfl rfl) (hS.rf (43, 7, 47) rfl (by decide)) ?_
  refine pw_iload dX12_comes_44 rfl ?_
  refine pw_iload dX12_comes_46 rfl ?_
  refine pw_iast dX12_comes_48 (hS.at rfl rfl rfl) (by decide) hn (hS.lt rfl rfl hn2 rfl) (by omega) ?_
  refine pw_aload_n dX12_comes_49 rfl ?_
  refine pw_getF (v := 48) dX12_comes_50 flX12_22 rfl (hS.at rfl rfl rfl) (hS.rf (43, 8, 48) rfl (by decide)) ?_
  refine pw_iload dX12_comes_53 rfl ?_
  refine pw_aload_n dX12_comes_55 rfl ?_
  refine pw_getI dX12_comes_56 flX12_97 rfl (hS.at rfl rfl rfl) ?_
  refine pw_iast dX12_comes_59 (hS.at rfl rfl rfl) (by decide) hn (hS.lt rfl rfl hn2 rfl) (by omega) ?_
  refine pw_aload_n dX12_comes_60 rfl ?_
  refine pw_getF (v := 49) dX12_comes_61 flX12_25 rfl (hS.at rfl rfl rfl) (hS.rf (43, 9, 49) rfl (by decide)) ?_
  refine pw_iload dX12_comes_64 rfl ?_
  refine pw_iload dX12_comes_66 rfl ?_
  refine pw_iast dX12_comes_68 (hS.at rfl rfl rfl) (by decide) hn (hS.lt rfl rfl hn2 rfl) (by omega) ?_
  refine pw_aload_n dX12_comes_69 rfl ?_
  refine pw_getF (v := 50) dX12_comes_70 flX12_28 rfl (hS.at rfl rfl rfl) (hS.rf (43, 10, 50) rfl (by decide)) ?_
  refine pw_iload dX12_comes_73 rfl ?_
  refine pw_iload dX12_comes_75 rfl ?_
  refine pw_iast dX12_comes_77 (hS.at rfl rfl rfl) (by decide) hn (hS.lt rfl rfl hn2 rfl) (by omega) ?_
  refine pw_aload_n dX12_comes_78 rfl ?_
  refine pw_getF (v := 51) dX12_comes_79 flX12_31 rfl (hS.at rfl rfl rfl) (hS.rf (43, 11, 51) rfl (by decide)) ?_
  refine pw_iload dX12_comes_82 rfl ?_
  refine pw_iconst (v := (-1)) dX12_comes_84 (by decide) ?_
  refine pw_iast dX12_comes_85 (hS.at rfl rfl rfl) (by decide) hn (hS.lt rfl rfl hn2 rfl) (by omega) ?_
  refine pw_iload dX12_comes_86 rfl ?_
  refine pw_iret dX12_comes_88 rfl rfl ?_
  exact ⟨by rw [hn], rfl⟩
abbrev okThing (n : Nat) (k r c s house : Int32) : Prop := (0 ≤ k ∧ k ≤ 4) ∧ (0 ≤ r ∧ r ≤ 9) ∧ (0 ≤ c ∧ c ≤ 9) ∧ (1 ≤ s ∧ s ≤ 15) ∧ (0 ≤ house ∧ house ≤ 7) ∧ n ≠ 20
theorem s_thing {d al n : Nat} {σ : pm_S} (hd : 3 ≤ d) (hS : pm_fix σ) (hn : qI σ 43 1 = nI n) (hn2 : n ≤ 20) (k r c s house : Int32) : PE d al MX12_thing [.ref 43, .int k, .int r, .int c, .int s, .int house] σ (some (.int (if okThing n k r c s house then nI n else -1))) (if okThing n k r c s house then m_comes σ n k r c s house (-1) else σ) := by
  show PW _ _ _ _ _ _ _ _
  refine pw_iload_n dX12_thing_0 rfl ?_
  refine pw_iconst (v := 0) dX12_thing_1 (by decide) ?_
  refine pw_iconst (v := 4) dX12_thing_2 (by decide) ?_
  refine pw_cS3 (d1 := d - 1) (a1 := 0) (a2 := al) dX12_thing_3 mtX12_isIn stX12_isIn mlX12_86 (Nat.le_of_ble_eq_true rfl) (Nat.le_of_ble_eq_true rfl) (by omega) (by omega) (s_isIn _ _ _) ?_
  rintro r_ τ_ ⟨hr_, ht_⟩; subst r_; subst τ_
  refine pw_if_eq (tgt := 57) dX12_thing_6 (by decide) (fun h6 => ?_) (fun h6 => ?_)
  · refine pw_iconst (v := (-1)) dX12_thing_57 (by decide) ?_
    refine pw_iret dX12_thing_58 rfl rfl ?_
    have hno : ¬ okThing n k r c s house := by
      first | exact fun z => bI_0.mp h6 z.1 | exact fun z => bI_0.mp h16 z.2.1 | exact fun z => bI_0.mp h26 z.2.2.1 | exact fun z => bI_0.mp h37 z.2.2.2.1 | exact fun z => bI_0.mp h45 z.2.2.2.2.1 | exact fun z => z.2.2.2.2.2 (nI_inj (by omega) (by omega) (hn.symm.trans h54))
    exact ⟨by rw [if_neg hno], by rw [if_neg hno]⟩
  · refine pw_iload_n dX12_thing_9 rfl ?_
    refine pw_iconst (v := 0) dX12_thing_10 (by decide) ?_
    refine pw_bipush (v := 9) dX12_thing_11 (by decide) ?_
    refine pw_cS3 (d1 := d - 1) (a1 := 0) (a2 := al) dX12_thing_13 mtX12_isIn stX12_isIn mlX12_86 (Nat.le_of_ble_eq_true rfl) (Nat.le_of_ble_eq_true rfl) (by omega) (by omega) (s_isIn _ _ _) ?_
    rintro r_ τ_ ⟨hr_, ht_⟩; subst r_; subst τ_
    refine pw_if_eq (tgt := 57) dX12_thing_16 (by decide) (fun h16 => ?_) (fun h16 => ?_)
    · refine pw_iconst (v := (-1)) dX12_thing_57 (by decide) ?_
      refine pw_iret dX12_thing_58 rfl rfl ?_
      have hno : ¬ okThing n k r c s house := by
        first | exact fun z => bI_0.mp h6 z.1 | exact fun z => bI_0.mp h16 z.2.1 | exact fun z => bI_0.mp h26 z.2.2.1 | exact fun z => bI_0.mp h37 z.2.2.2.1 | exact fun z => bI_0.mp h45 z.2.2.2.2.1 | exact fun z => z.2.2.2.2.2 (nI_inj (by omega) (by omega) (hn.symm.trans h54))
      exact ⟨by rw [if_neg hno], by rw [if_neg hno]⟩
    · refine pw_iload_n dX12_thing_19 rfl ?_
      refine pw_iconst (v := 0) dX12_thing_20 (by decide) ?_
      refine pw_bipush (v := 9) dX12_thing_21 (by decide) ?_
      refine pw_cS3 (d1 := d - 1) (a1 := 0) (a2 := al) dX12_thing_23 mtX12_isIn stX12_isIn mlX12_86 (Nat.le_of_ble_eq_true rfl) (Nat.le_of_ble_eq_true rfl) (by omega) (by omega) (s_isIn _ _ _) ?_
      rintro r_ τ_ ⟨hr_, ht_⟩; subst r_; subst τ_
      refine pw_if_eq (tgt := 57) dX12_thing_26 (by decide) (fun h26 => ?_) (fun h26 => ?_)
      · refine pw_iconst (v := (-1)) dX12_thing_57 (by decide) ?_
        refine pw_iret dX12_thing_58 rfl rfl ?_
        have hno : ¬ okThing n k r c s house := by
          first | exact fun z => bI_0.mp h6 z.1 | exact fun z => bI_0.mp h16 z.2.1 | exact fun z => bI_0.mp h26 z.2.2.1 | exact fun z => bI_0.mp h37 z.2.2.2.1 | exact fun z => bI_0.mp h45 z.2.2.2.2.1 | exact fun z => z.2.2.2.2.2 (nI_inj (by omega) (by omega) (hn.symm.trans h54))
        exact ⟨by rw [if_neg hno], by rw [if_neg hno]⟩
      · refine pw_iload dX12_thing_29 rfl ?_
        refine pw_iconst (v := 1) dX12_thing_31 (by decide) ?_
        refine pw_bipush (v := 15) dX12_thing_32 (by decide) ?_
        refine pw_cS3 (d1 := d - 1) (a1 := 0) (a2 := al) dX12_thing_34 mtX12_isIn stX12_isIn mlX12_86 (Nat.le_of_ble_eq_true rfl) (Nat.le_of_ble_eq_true rfl) (by omega) (by omega) (s_isIn _ _ _) ?_
        rintro r_ τ_ ⟨hr_, ht_⟩; subst r_; subst τ_
        refine pw_if_eq (tgt := 57) dX12_thing_37 (by decide) (fun h37 => ?_) (fun h37 => ?_)
        · refine pw_iconst (v := (-1)) dX12_thing_57 (by decide) ?_
          refine pw_iret dX12_thing_58 rfl rfl ?_
          have hno : ¬ okThing n k r c s house := by
            first | exact fun z => bI_0.mp h6 z.1 | exact fun z => bI_0.mp h16 z.2.1 | exact fun z => bI_0.mp h26 z.2.2.1 | exact fun z => bI_0.mp h37 z.2.2.2.1 | exact fun z => bI_0.mp h45 z.2.2.2.2.1 | exact fun z => z.2.2.2.2.2 (nI_inj (by omega) (by omega) (hn.symm.trans h54))
          exact ⟨by rw [if_neg hno], by rw [if_neg hno]⟩
        · refine pw_iload dX12_thing_40 rfl ?_
          refine pw_cS1 (d1 := d - 1) (a1 := 0) (a2 := al) dX12_thing_42 mtX12_isHouse stX12_isHouse mlX12_100 (Nat.le_of_ble_eq_true rfl) (Nat.le_of_ble_eq_true rfl) (by omega) (by omega) (s_isHouse (by omega) _) ?_
          rintro r_ τ_ ⟨hr_, ht_⟩; subst r_; subst τ_
          refine pw_if_eq (tgt := 57) dX12_thing_45 (by decide) (fun h45 => ?_) (fun h45 => ?_)
          · refine pw_iconst (v := (-1)) dX12_thing_57 (by decide) ?_
            refine pw_iret dX12_thing_58 rfl rfl ?_
            have hno : ¬ okThing n k r c s house := by
              first | exact fun z => bI_0.mp h6 z.1 | exact fun z => bI_0.mp h16 z.2.1 | exact fun z => bI_0.mp h26 z.2.2.1 | exact fun z => bI_0.mp h37 z.2.2.2.1 | exact fun z => bI_0.mp h45 z.2.2.2.2.1 | exact fun z => z.2.2.2.2.2 (nI_inj (by omega) (by omega) (hn.symm.trans h54))
            exact ⟨by rw [if_neg hno], by rw [if_neg hno]⟩
          · refine pw_aload_n dX12_thing_48 rfl ?_
            refine pw_getI dX12_thing_49 flX12_90 rfl (hS.at rfl rfl rfl) ?_
            refine pw_bipush (v := 20) dX12_thing_52 (by decide) ?_
            refine pw_icmp_ne (tgt := 59) dX12_thing_54 (by decide) (fun h54 => ?_) (fun h54 => ?_)
            · have hok : okThing n k r c s house := ⟨bI_n.mp h6, bI_n.mp h16, bI_n.mp h26, bI_n.mp h37, bI_n.mp h45, fun z => h54 (by rw [hn, z]; rfl)⟩
              have hn3 : n < 20 := by have := hok.2.2.2.2.2; omega
              refine pw_aload_n dX12_thing_59 rfl ?_
              refine pw_iload_n dX12_thing_60 rfl ?_
              refine pw_iload_n dX12_thing_61 rfl ?_
              refine pw_iload_n dX12_thing_62 rfl ?_
              refine pw_iload dX12_thing_63 rfl ?_
              refine pw_iload dX12_thing_65 rfl ?_
              refine pw_iconst (v := (-1)) dX12_thing_67 (by decide) ?_
              refine pw_cV6 (d1 := d - 1) (a1 := 0) (a2 := al) dX12_thing_68 mtX12_comes ivX12_comes mlX12_103 (Nat.le_of_ble_eq_true rfl) (Nat.le_of_ble_eq_true rfl) (by omega) (by omega) (hS.at rfl rfl rfl) rfl rfl (s_comes hS hn (by omega) _ _ _ _ _ _) ?_
              rintro r_ τ_ ⟨hr_, ht_⟩; subst r_; subst τ_
              refine pw_iret dX12_thing_71 rfl rfl ?_
              exact ⟨by rw [if_pos hok], by rw [if_pos hok]⟩
            · refine pw_iconst (v := (-1)) dX12_thing_57 (by decide) ?_
              refine pw_iret dX12_thing_58 rfl rfl ?_
              have hno : ¬ okThing n k r c s house := by
                first | exact fun z => bI_0.mp h6 z.1 | exact fun z => bI_0.mp h16 z.2.1 | exact fun z => bI_0.mp h26 z.2.2.1 | exact fun z => bI_0.mp h37 z.2.2.2.1 | exact fun z => bI_0.mp h45 z.2.2.2.2.1 | exact fun z => z.2.2.2.2.2 (nI_inj (by omega) (by omega) (hn.symm.trans h54))
              exact ⟨by rw [if_neg hno], by rw [if_neg hno]⟩
end
section
/-! ===== the reference: owners and keepers on a day ===== -/
/-- the owner of a thing on a day, by the first e events -/
def m_ow (σ : pm_S) (t day o : Int32) : Nat → Int32
  | 0 => o
  | e + 1 => if qI σ 52 e = t ∧ qI σ 53 e = 0 ∧ qI σ 55 e ≤ day then qI σ 54 e else m_ow σ t day o e
theorem m_ow_s (σ : pm_S) (t day o : Int32) (e : Nat) : m_ow σ t day o (e + 1) = if qI σ 52 e = t ∧ qI σ 53 e = 0 ∧ qI σ 55 e ≤ day then qI σ 54 e else m_ow σ t day o e := rfl
theorem s_ownerOn_lp {d al n : Nat} {σ : pm_S} (hS : pm_fix σ) (hn : qI σ 43 2 = nI n) (hn2 : n ≤ 300) (t day o : Int32) : ∀ (k e : Nat), e + k = n → PW d al MX12_ownerOn 10 [.ref 43, .int t, .int day, .int (m_ow σ t day o e), .int (nI e)] [] σ (fun r τ => r = some (.int (m_ow σ t day o n)) ∧ τ = σ) := by
  intro k
  induction k with
  | zero =>
    intro e he
    refine pw_iload dX12_ownerOn_10 rfl ?_
    refine pw_aload_n dX12_ownerOn_12 rfl ?_
    refine pw_getI dX12_ownerOn_13 flX12_110 rfl (hS.at rfl rfl rfl) ?_
    refine pw_icmp_ge (tgt := 65) dX12_ownerOn_16 (by decide) (fun h16 => ?_) (fun h16 => ?_)
    · refine pw_iload_n dX12_ownerOn_65 rfl ?_
      refine pw_iret dX12_ownerOn_66 rfl rfl ?_
      exact ⟨by rw [show e = n by omega], rfl⟩
    · exact absurd (by rw [hn]; exact nI_le (by omega) (by omega)) h16
  | succ k ih =>
    intro e he
    have he2 : e < 300 := by omega
    have hh := ih (e + 1) (by omega)
    rw [m_ow_s, nI_succ] at hh
    refine pw_iload dX12_ownerOn_10 rfl ?_
    refine pw_aload_n dX12_ownerOn_12 rfl ?_
    refine pw_getI dX12_ownerOn_13 flX12_110 rfl (hS.at rfl rfl rfl) ?_
    refine pw_icmp_ge (tgt := 65) dX12_ownerOn_16 (by decide) (fun h16 => ?_) (fun h16 => ?_)
    · exact absurd (by rw [hn] at h16; exact h16) (nI_ge (show e < n by omega) (by omega))
    · refine pw_aload_n dX12_ownerOn_19 rfl ?_
      refine pw_getF (v := 52) dX12_ownerOn_20 flX12_34 rfl (hS.at rfl rfl rfl) (hS.rf (43, 12, 52) rfl (by decide)) ?_
      refine pw_iload dX12_ownerOn_23 rfl ?_
      refine pw_iald dX12_ownerOn_25 (hS.at rfl rfl rfl) rfl (hS.lt rfl rfl he2 rfl) (by omega) ?_
      refine pw_iload_n dX12_ownerOn_26 rfl ?_
      refine pw_icmp_ne (tgt := 59) dX12_ownerOn_27 (by decide) (fun h27 => ?_) (fun h27 => ?_)
      · refine pw_iinc1 dX12_ownerOn_59 rfl (Nat.le_of_ble_eq_true rfl) (Nat.le_of_ble_eq_true rfl) rfl ?_
        refine pw_goto (tgt := 10) dX12_ownerOn_62 (by decide) ?_
        first | (rw [if_neg (fun z => h27 z.1)] at hh; exact hh) | (rw [if_neg (fun z => h37 z.2.1)] at hh; exact hh) | (rw [if_neg (fun z => Int32.not_le.mpr h48 z.2.2)] at hh; exact hh) | (rw [if_pos ⟨h27, h37, Int32.not_lt.mp h48⟩] at hh; exact hh)
      · refine pw_aload_n dX12_ownerOn_30 rfl ?_
        refine pw_getF (v := 53) dX12_ownerOn_31 flX12_37 rfl (hS.at rfl rfl rfl) (hS.rf (43, 13, 53) rfl (by decide)) ?_
        refine pw_iload dX12_ownerOn_34 rfl ?_
        refine pw_iald dX12_ownerOn_36 (hS.at rfl rfl rfl) rfl (hS.lt rfl rfl he2 rfl) (by omega) ?_
        refine pw_if_ne (tgt := 59) dX12_ownerOn_37 (by decide) (fun h37 => ?_) (fun h37 => ?_)
        · refine pw_iinc1 dX12_ownerOn_59 rfl (Nat.le_of_ble_eq_true rfl) (Nat.le_of_ble_eq_true rfl) rfl ?_
          refine pw_goto (tgt := 10) dX12_ownerOn_62 (by decide) ?_
          first | (rw [if_neg (fun z => h27 z.1)] at hh; exact hh) | (rw [if_neg (fun z => h37 z.2.1)] at hh; exact hh) | (rw [if_neg (fun z => Int32.not_le.mpr h48 z.2.2)] at hh; exact hh) | (rw [if_pos ⟨h27, h37, Int32.not_lt.mp h48⟩] at hh; exact hh)
        · refine pw_aload_n dX12_ownerOn_40 rfl ?_
          refine pw_getF (v := 55) dX12_ownerOn_41 flX12_43 rfl (hS.at rfl rfl rfl) (hS.rf (43, 15, 55) rfl (by decide)) ?_
          refine pw_iload dX12_ownerOn_44 rfl ?_
          refine pw_iald dX12_ownerOn_46 (hS.at rfl rfl rfl) rfl (hS.lt rfl rfl he2 rfl) (by omega) ?_
          refine pw_iload_n dX12_ownerOn_47 rfl ?_
          refine pw_icmp_gt (tgt := 59) dX12_ownerOn_48 (by decide) (fun h48 => ?_) (fun h48 => ?_)
          · refine pw_iinc1 dX12_ownerOn_59 rfl (Nat.le_of_ble_eq_true rfl) (Nat.le_of_ble_eq_true rfl) rfl ?_
            refine pw_goto (tgt := 10) dX12_ownerOn_62 (by decide) ?_
            first | (rw [if_neg (fun z => h27 z.1)] at hh; exact hh) | (rw [if_neg (fun z => h37 z.2.1)] at hh; exact hh) | (rw [if_neg (fun z => Int32.not_le.mpr h48 z.2.2)] at hh; exact hh) | (rw [if_pos ⟨h27, h37, Int32.not_lt.mp h48⟩] at hh; exact hh)
          · refine pw_aload_n dX12_ownerOn_51 rfl ?_
            refine pw_getF (v := 54) dX12_ownerOn_52 flX12_40 rfl (hS.at rfl rfl rfl) (hS.rf (43, 14, 54) rfl (by decide)) ?_
            refine pw_iload dX12_ownerOn_55 rfl ?_
            refine pw_iald dX12_ownerOn_57 (hS.at rfl rfl rfl) rfl (hS.lt rfl rfl he2 rfl) (by omega) ?_
            refine pw_istore_n dX12_ownerOn_58 (Nat.le_of_ble_eq_true rfl) (Nat.le_of_ble_eq_true rfl) rfl ?_
            refine pw_iinc1 dX12_ownerOn_59 rfl (Nat.le_of_ble_eq_true rfl) (Nat.le_of_ble_eq_true rfl) rfl ?_
            refine pw_goto (tgt := 10) dX12_ownerOn_62 (by decide) ?_
            first | (rw [if_neg (fun z => h27 z.1)] at hh; exact hh) | (rw [if_neg (fun z => h37 z.2.1)] at hh; exact hh) | (rw [if_neg (fun z => Int32.not_le.mpr h48 z.2.2)] at hh; exact hh) | (rw [if_pos ⟨h27, h37, Int32.not_lt.mp h48⟩] at hh; exact hh)
theorem s_ownerOn {d al n m j : Nat} {σ : pm_S} (hS : pm_fix σ) (hn : qI σ 43 2 = nI n) (hn2 : n ≤ 300) (hj : j < 20) (day : Int32) : PE d al MX12_ownerOn [.ref 43, .int (nI j), .int day] σ (some (.int (m_ow σ (nI j) day (qI σ 50 j) n))) σ := by
  show PW _ _ _ _ _ _ _ _
  refine pw_aload_n dX12_ownerOn_0 rfl ?_
  refine pw_getF (v := 50) dX12_ownerOn_1 flX12_28 rfl (hS.at rfl rfl rfl) (hS.rf (43, 10, 50) rfl (by decide)) ?_
  refine pw_iload_n dX12_ownerOn_4 rfl ?_
  refine pw_iald dX12_ownerOn_5 (hS.at rfl rfl rfl) rfl (hS.lt rfl rfl hj rfl) (by omega) ?_
  refine pw_istore_n dX12_ownerOn_6 (Nat.le_of_ble_eq_true rfl) (Nat.le_of_ble_eq_true rfl) rfl ?_
  refine pw_iconst (v := 0) dX12_ownerOn_7 (by decide) ?_
  refine pw_istore dX12_ownerOn_8 (Nat.le_of_ble_eq_true rfl) (Nat.le_of_ble_eq_true rfl) rfl ?_
  exact s_ownerOn_lp hS hn hn2 (nI j) day (qI σ 50 j) n 0 (by omega)
/-- to whom a thing is lent on a day -/
def m_le (σ : pm_S) (t day : Int32) : Nat → Int32
  | 0 => -1
  | e + 1 => if qI σ 52 e = t ∧ (1 ≤ qI σ 53 e ∧ qI σ 53 e ≤ 2) ∧ qI σ 55 e ≤ day then (if qI σ 53 e = 1 then qI σ 54 e else -1) else m_le σ t day e
theorem m_le_s (σ : pm_S) (t day : Int32) (e : Nat) : m_le σ t day (e + 1) = if qI σ 52 e = t ∧ (1 ≤ qI σ 53 e ∧ qI σ 53 e ≤ 2) ∧ qI σ 55 e ≤ day then (if qI σ 53 e = 1 then qI σ 54 e else -1) else m_le σ t day e := rfl
theorem s_lentOn_lp {d al n : Nat} {σ : pm_S} (hd : 1 ≤ d) (hS : pm_fix σ) (hn : qI σ 43 2 = nI n) (hn2 : n ≤ 300) (t day : Int32) : ∀ (k e : Nat), e + k = n → PW d al MX12_lentOn 5 [.ref 43, .int t, .int day, .int (m_le σ t day e), .int (nI e)] [] σ (fun r τ => r = some (.int (m_le σ t day n)) ∧ τ = σ) := by
  intro k
  induction k with
  | zero =>
    intro e he
    refine pw_iload dX12_lentOn_5 rfl ?_
    refine pw_aload_n dX12_lentOn_7 rfl ?_
    refine pw_getI dX12_lentOn_8 flX12_110 rfl (hS.at rfl rfl rfl) ?_
    refine pw_icmp_ge (tgt := 80) dX12_lentOn_11 (by decide) (fun h11 => ?_) (fun h11 => ?_)
    · refine pw_iload_n dX12_lentOn_80 rfl ?_
      refine pw_iret dX12_lentOn_81 rfl rfl ?_
      exact ⟨by rw [show e = n by omega], rfl⟩
    · exact absurd (by rw [hn]; exact nI_le (by omega) (by omega)) h11
  | succ k ih =>
    intro e he
    have he2 : e < 300 := by omega
    have hh := ih (e + 1) (by omega)
    rw [m_le_s, nI_succ] at hh
    refine pw_iload dX12_lentOn_5 rfl ?_
    refine pw_aload_n dX12_lentOn_7 rfl ?_
    refine pw_getI dX12_lentOn_8 flX12_110 rfl (hS.at rfl rfl rfl) ?_
    refine pw_icmp_ge (tgt := 80) dX12_lentOn_11 (by decide) (fun h11 => ?_) (fun h11 => ?_)
    · exact absurd (by rw [hn] at h11; exact h11) (nI_ge (show e < n by omega) (by omega))
    · refine pw_aload_n dX12_lentOn_14 rfl ?_
      refine pw_getF (v := 52) dX12_lentOn_15 flX12_34 rfl (hS.at rfl rfl rfl) (hS.rf (43, 12, 52) rfl (by decide)) ?_
      refine pw_iload dX12_lentOn_18 rfl ?_
      refine pw_iald dX12_lentOn_20 (hS.at rfl rfl rfl) rfl (hS.lt rfl rfl he2 rfl) (by omega) ?_
      refine pw_iload_n dX12_lentOn_21 rfl ?_
      refine pw_icmp_ne (tgt := 74) dX12_lentOn_22 (by decide) (fun h22 => ?_) (fun h22 => ?_)
      · refine pw_iinc1 dX12_lentOn_74 rfl (Nat.le_of_ble_eq_true rfl) (Nat.le_of_ble_eq_true rfl) rfl ?_
        refine pw_goto (tgt := 5) dX12_lentOn_77 (by decide) ?_
        first | (rw [if_neg (fun z => h22 z.1)] at hh; exact hh) | (rw [if_neg (fun z => bI_0.mp h37 z.2.1)] at hh; exact hh) | (rw [if_neg (fun z => Int32.not_le.mpr h48 z.2.2)] at hh; exact hh) | (rw [if_pos ⟨h22, bI_n.mp h37, Int32.not_lt.mp h48⟩, if_pos h59] at hh; exact hh) | (rw [if_pos ⟨h22, bI_n.mp h37, Int32.not_lt.mp h48⟩, if_neg h59] at hh; exact hh)
      · refine pw_aload_n dX12_lentOn_25 rfl ?_
        refine pw_getF (v := 53) dX12_lentOn_26 flX12_37 rfl (hS.at rfl rfl rfl) (hS.rf (43, 13, 53) rfl (by decide)) ?_
        refine pw_iload dX12_lentOn_29 rfl ?_
        refine pw_iald dX12_lentOn_31 (hS.at rfl rfl rfl) rfl (hS.lt rfl rfl he2 rfl) (by omega) ?_
        refine pw_iconst (v := 1) dX12_lentOn_32 (by decide) ?_
        refine pw_iconst (v := 2) dX12_lentOn_33 (by decide) ?_
        refine pw_cS3 (d1 := d - 1) (a1 := 0) (a2 := al) dX12_lentOn_34 mtX12_isIn stX12_isIn mlX12_86 (Nat.le_of_ble_eq_true rfl) (Nat.le_of_ble_eq_true rfl) (by omega) (by omega) (s_isIn _ _ _) ?_
        rintro r_ τ_ ⟨hr_, ht_⟩; subst r_; subst τ_
        refine pw_if_eq (tgt := 74) dX12_lentOn_37 (by decide) (fun h37 => ?_) (fun h37 => ?_)
        · refine pw_iinc1 dX12_lentOn_74 rfl (Nat.le_of_ble_eq_true rfl) (Nat.le_of_ble_eq_true rfl) rfl ?_
          refine pw_goto (tgt := 5) dX12_lentOn_77 (by decide) ?_
          first | (rw [if_neg (fun z => h22 z.1)] at hh; exact hh) | (rw [if_neg (fun z => bI_0.mp h37 z.2.1)] at hh; exact hh) | (rw [if_neg (fun z => Int32.not_le.mpr h48 z.2.2)] at hh; exact hh) | (rw [if_pos ⟨h22, bI_n.mp h37, Int32.not_lt.mp h48⟩, if_pos h59] at hh; exact hh) | (rw [if_pos ⟨h22, bI_n.mp h37, Int32.not_lt.mp h48⟩, if_neg h59] at hh; exact hh)
        · refine pw_aload_n dX12_lentOn_40 rfl ?_
          refine pw_getF (v := 55) dX12_lentOn_41 flX12_43 rfl (hS.at rfl rfl rfl) (hS.rf (43, 15, 55) rfl (by decide)) ?_
          refine pw_iload dX12_lentOn_44 rfl ?_
          refine pw_iald dX12_lentOn_46 (hS.at rfl rfl rfl) rfl (hS.lt rfl rfl he2 rfl) (by omega) ?_
          refine pw_iload_n dX12_lentOn_47 rfl ?_
          refine pw_icmp_gt (tgt := 74) dX12_lentOn_48 (by decide) (fun h48 => ?_) (fun h48 => ?_)
          · refine pw_iinc1 dX12_lentOn_74 rfl (Nat.le_of_ble_eq_true rfl) (Nat.le_of_ble_eq_true rfl) rfl ?_
            refine pw_goto (tgt := 5) dX12_lentOn_77 (by decide) ?_
            first | (rw [if_neg (fun z => h22 z.1)] at hh; exact hh) | (rw [if_neg (fun z => bI_0.mp h37 z.2.1)] at hh; exact hh) | (rw [if_neg (fun z => Int32.not_le.mpr h48 z.2.2)] at hh; exact hh) | (rw [if_pos ⟨h22, bI_n.mp h37, Int32.not_lt.mp h48⟩, if_pos h59] at hh; exact hh) | (rw [if_pos ⟨h22, bI_n.mp h37, Int32.not_lt.mp h48⟩, if_neg h59] at hh; exact hh)
          · refine pw_aload_n dX12_lentOn_51 rfl ?_
            refine pw_getF (v := 53) dX12_lentOn_52 flX12_37 rfl (hS.at rfl rfl rfl) (hS.rf (43, 13, 53) rfl (by decide)) ?_
            refine pw_iload dX12_lentOn_55 rfl ?_
            refine pw_iald dX12_lentOn_57 (hS.at rfl rfl rfl) rfl (hS.lt rfl rfl he2 rfl) (by omega) ?_
            refine pw_iconst (v := 1) dX12_lentOn_58 (by decide) ?_
            refine pw_icmp_ne (tgt := 72) dX12_lentOn_59 (by decide) (fun h59 => ?_) (fun h59 => ?_)
            · refine pw_iconst (v := (-1)) dX12_lentOn_72 (by decide) ?_
              refine pw_istore_n dX12_lentOn_73 (Nat.le_of_ble_eq_true rfl) (Nat.le_of_ble_eq_true rfl) rfl ?_
              refine pw_iinc1 dX12_lentOn_74 rfl (Nat.le_of_ble_eq_true rfl) (Nat.le_of_ble_eq_true rfl) rfl ?_
              refine pw_goto (tgt := 5) dX12_lentOn_77 (by decide) ?_
              first | (rw [if_neg (fun z => h22 z.1)] at hh; exact hh) | (rw [if_neg (fun z => bI_0.mp h37 z.2.1)] at hh; exact hh) | (rw [if_neg (fun z => Int32.not_le.mpr h48 z.2.2)] at hh; exact hh) | (rw [if_pos ⟨h22, bI_n.mp h37, Int32.not_lt.mp h48⟩, if_pos h59] at hh; exact hh) | (rw [if_pos ⟨h22, bI_n.mp h37, Int32.not_lt.mp h48⟩, if_neg h59] at hh; exact hh)
            · refine pw_aload_n dX12_lentOn_62 rfl ?_
              refine pw_getF (v := 54) dX12_lentOn_63 flX12_40 rfl (hS.at rfl rfl rfl) (hS.rf (43, 14, 54) rfl (by decide)) ?_
              refine pw_iload dX12_lentOn_66 rfl ?_
              refine pw_iald dX12_lentOn_68 (hS.at rfl rfl rfl) rfl (hS.lt rfl rfl he2 rfl) (by omega) ?_
              refine pw_goto (tgt := 73) dX12_lentOn_69 (by decide) ?_
              refine pw_istore_n dX12_lentOn_73 (Nat.le_of_ble_eq_true rfl) (Nat.le_of_ble_eq_true rfl) rfl ?_
              refine pw_iinc1 dX12_lentOn_74 rfl (Nat.le_of_ble_eq_true rfl) (Nat.le_of_ble_eq_true rfl) rfl ?_
              refine pw_goto (tgt := 5) dX12_lentOn_77 (by decide) ?_
              first | (rw [if_neg (fun z => h22 z.1)] at hh; exact hh) | (rw [if_neg (fun z => bI_0.mp h37 z.2.1)] at hh; exact hh) | (rw [if_neg (fun z => Int32.not_le.mpr h48 z.2.2)] at hh; exact hh) | (rw [if_pos ⟨h22, bI_n.mp h37, Int32.not_lt.mp h48⟩, if_pos h59] at hh; exact hh) | (rw [if_pos ⟨h22, bI_n.mp h37, Int32.not_lt.mp h48⟩, if_neg h59] at hh; exact hh)
theorem s_lentOn {d al n : Nat} {σ : pm_S} (hd : 1 ≤ d) (hS : pm_fix σ) (hn : qI σ 43 2 = nI n) (hn2 : n ≤ 300) (t day : Int32) : PE d al MX12_lentOn [.ref 43, .int t, .int day] σ (some (.int (m_le σ t day n))) σ := by
  show PW _ _ _ _ _ _ _ _
  refine pw_iconst (v := (-1)) dX12_lentOn_0 (by decide) ?_
  refine pw_istore_n dX12_lentOn_1 (Nat.le_of_ble_eq_true rfl) (Nat.le_of_ble_eq_true rfl) rfl ?_
  refine pw_iconst (v := 0) dX12_lentOn_2 (by decide) ?_
  refine pw_istore dX12_lentOn_3 (Nat.le_of_ble_eq_true rfl) (Nat.le_of_ble_eq_true rfl) rfl ?_
  exact s_lentOn_lp hd hS hn hn2 t day n 0 (by omega)
/-- who keeps it -/
def m_ke (σ : pm_S) (n j : Nat) (day : Int32) : Int32 := if m_le σ (nI j) day n = -1 then m_ow σ (nI j) day (qI σ 50 j) n else m_le σ (nI j) day n
theorem s_keptOn {d al n j : Nat} {σ : pm_S} (hd : 2 ≤ d) (hS : pm_fix σ) (hn : qI σ 43 2 = nI n) (hn2 : n ≤ 300) (hj : j < 20) (day : Int32) : PE d al MX12_keptOn [.ref 43, .int (nI j), .int day] σ (some (.int (m_ke σ n j day))) σ := by
  show PW _ _ _ _ _ _ _ _
  refine pw_aload_n dX12_keptOn_0 rfl ?_
  refine pw_iload_n dX12_keptOn_1 rfl ?_
  refine pw_iload_n dX12_keptOn_2 rfl ?_
  refine pw_cV2 (d1 := d - 1) (a1 := 0) (a2 := al) dX12_keptOn_3 mtX12_lentOn ivX12_lentOn mlX12_113 (Nat.le_of_ble_eq_true rfl) (Nat.le_of_ble_eq_true rfl) (by omega) (by omega) (hS.at rfl rfl rfl) rfl rfl (s_lentOn (by omega) hS hn hn2 _ _) ?_
  rintro r_ τ_ ⟨hr_, ht_⟩; subst r_; subst τ_
  refine pw_istore_n dX12_keptOn_6 (Nat.le_of_ble_eq_true rfl) (Nat.le_of_ble_eq_true rfl) rfl ?_
  refine pw_iload_n dX12_keptOn_7 rfl ?_
  refine pw_iconst (v := (-1)) dX12_keptOn_8 (by decide) ?_
  refine pw_icmp_ne (tgt := 21) dX12_keptOn_9 (by decide) (fun h9 => ?_) (fun h9 => ?_)
  · refine pw_iload_n dX12_keptOn_21 rfl ?_
    refine pw_iret dX12_keptOn_22 rfl rfl ?_
    refine ⟨?_, rfl⟩
    unfold m_ke
    first | rw [if_pos h9] | rw [if_neg h9]
  · refine pw_aload_n dX12_keptOn_12 rfl ?_
    refine pw_iload_n dX12_keptOn_13 rfl ?_
    refine pw_iload_n dX12_keptOn_14 rfl ?_
    refine pw_cV2 (d1 := d - 1) (a1 := 0) (a2 := al) dX12_keptOn_15 mtX12_ownerOn ivX12_ownerOn mlX12_117 (Nat.le_of_ble_eq_true rfl) (Nat.le_of_ble_eq_true rfl) (by omega) (by omega) (hS.at rfl rfl rfl) rfl rfl (s_ownerOn (m := 0) hS hn hn2 hj _) ?_
    rintro r_ τ_ ⟨hr_, ht_⟩; subst r_; subst τ_
    refine pw_goto (tgt := 22) dX12_keptOn_18 (by decide) ?_
    refine pw_iret dX12_keptOn_22 rfl rfl ?_
    refine ⟨?_, rfl⟩
    unfold m_ke
    first | rw [if_pos h9] | rw [if_neg h9]
/-- an event: the state behind it -/
def m_hap (σ : pm_S) (e : Nat) (t what house : Int32) : pm_S := pm_sI (pm_sI (pm_sI (pm_sI (pm_sI σ 52 e t) 53 e what) 54 e house) 55 e (qI σ 43 0)) 43 2 (qI σ 43 2 + 1)
theorem s_happens {d al n : Nat} {σ : pm_S} (hS : pm_fix σ) (hn : qI σ 43 2 = nI n) (hn2 : n ≤ 300) (t what house : Int32) : PE d al MX12_happens [.ref 43, .int t, .int what, .int house] σ (some (.int (bI (n ≠ 300)))) (if n ≠ 300 then m_hap σ n t what house else σ) := by
  show PW _ _ _ _ _ _ _ _
  refine pw_aload_n dX12_happens_0 rfl ?_
  refine pw_getI dX12_happens_1 flX12_110 rfl (hS.at rfl rfl rfl) ?_
  refine pw_sipush (v := 300) dX12_happens_4 (by decide) ?_
  refine pw_icmp_ne (tgt := 12) dX12_happens_7 (by decide) (fun h7 => ?_) (fun h7 => ?_)
  · have hne : n ≠ 300 := fun z => h7 (by rw [hn, z]; rfl)
    have hn3 : n < 300 := by omega
    refine pw_aload_n dX12_happens_12 rfl ?_
    refine pw_getF (v := 52) dX12_happens_13 flX12_34 rfl (hS.at rfl rfl rfl) (hS.rf (43, 12, 52) rfl (by decide)) ?_
    refine pw_aload_n dX12_happens_16 rfl ?_
    refine pw_getI dX12_happens_17 flX12_110 rfl (hS.at rfl rfl rfl) ?_
    refine pw_iload_n dX12_happens_20 rfl ?_
    refine pw_iast dX12_happens_21 (hS.at rfl rfl rfl) (by decide) hn (hS.lt rfl rfl hn3 rfl) (by omega) ?_
    refine pw_aload_n dX12_happens_22 rfl ?_
    refine pw_getF (v := 53) dX12_happens_23 flX12_37 rfl (hS.at rfl rfl rfl) (hS.rf (43, 13, 53) rfl (by decide)) ?_
    refine pw_aload_n dX12_happens_26 rfl ?_
    refine pw_getI dX12_happens_27 flX12_110 rfl (hS.at rfl rfl rfl) ?_
    refine pw_iload_n dX12_happens_30 rfl ?_
    refine pw_iast dX12_happens_31 (hS.at rfl rfl rfl) (by decide) hn (hS.lt rfl rfl hn3 rfl) (by omega) ?_
    refine pw_aload_n dX12_happens_32 rfl ?_
    refine pw_getF (v := 54) dX12_happens_33 flX12_40 rfl (hS.at rfl rfl rfl) (hS.rf (43, 14, 54) rfl (by decide)) ?_
    refine pw_aload_n dX12_happens_36 rfl ?_
    refine pw_getI dX12_happens_37 flX12_110 rfl (hS.at rfl rfl rfl) ?_
    refine pw_iload_n dX12_happens_40 rfl ?_
    refine pw_iast dX12_happens_41 (hS.at rfl rfl rfl) (by decide) hn (hS.lt rfl rfl hn3 rfl) (by omega) ?_
    refine pw_aload_n dX12_happens_42 rfl ?_
    refine pw_getF (v := 55) dX12_happens_43 flX12_43 rfl (hS.at rfl rfl rfl) (hS.rf (43, 15, 55) rfl (by decide)) ?_
    refine pw_aload_n dX12_happens_46 rfl ?_
    refine pw_getI dX12_happens_47 flX12_110 rfl (hS.at rfl rfl rfl) ?_
    refine pw_aload_n dX12_happens_50 rfl ?_
    refine pw_getI dX12_happens_51 flX12_97 rfl (hS.at rfl rfl rfl) ?_
    refine pw_iast dX12_happens_54 (hS.at rfl rfl rfl) (by decide) hn (hS.lt rfl rfl hn3 rfl) (by omega) ?_
    refine pw_aload_n dX12_happens_55 rfl ?_
    refine pw_dup dX12_happens_56 rfl ?_
    refine pw_getI dX12_happens_57 flX12_110 rfl (hS.at rfl rfl rfl) ?_
    refine pw_iconst (v := 1) dX12_happens_60 (by decide) ?_
    refine pw_iadd dX12_happens_61 ?_
    refine pw_putI dX12_happens_62 flX12_110 ⟨_, rfl, Or.inl rfl⟩ rfl (hS.at rfl rfl rfl) ?_
    refine pw_iconst (v := 1) dX12_happens_65 (by decide) ?_
    refine pw_iret dX12_happens_66 rfl (by first | rfl | exact bI_nar) ?_
    exact ⟨by rw [bI_t hne], by rw [if_pos hne]; rfl⟩
  · refine pw_iconst (v := 0) dX12_happens_10 (by decide) ?_
    refine pw_iret dX12_happens_11 rfl (by first | rfl | exact bI_nar) ?_
    have he : ¬ n ≠ 300 := fun z => z (nI_inj (by omega) (by omega) (hn.symm.trans h7))
    exact ⟨by rw [bI_f he], by rw [if_neg he]⟩
end
