section
-- ===== PART A: goes FIRST, ahead of the names: the tables' words, and 'selects' of the private methods out of them =====
/-- a private method of a class that the tables say can be made, by its rows of tables_1 -/
def lw_okq (q : MethodName × Nat) : Prop := (q.1.cls ≠ "java/lang/invoke/MethodHandle" ∧ q.1.cls ≠ "java/lang/invoke/VarHandle") ∧ Cond.instantiable q.1.cls q.2 ∈ tables_1 ∧ Cond.privateMethod q.1 ∈ tables_1 ∧ Cond.instanceMethod q.1 ∈ tables_1
theorem lw_p0 : lw_okq (⟨"LiftCredit$Lift", "workOutWorth", "()V"⟩, 16) := ⟨⟨by decide +kernel, by decide +kernel⟩, List.mem_of_getElem? (i := 32) (by decide +kernel), List.mem_of_getElem? (i := 219) (by decide +kernel), List.mem_of_getElem? (i := 220) (by decide +kernel)⟩
theorem lw_p1 : lw_okq (⟨"LiftCredit$Law", "read", "([BI)I"⟩, 10) := ⟨⟨by decide +kernel, by decide +kernel⟩, List.mem_of_getElem? (i := 40) (by decide +kernel), List.mem_of_getElem? (i := 230) (by decide +kernel), List.mem_of_getElem? (i := 231) (by decide +kernel)⟩
theorem lw_p2 : lw_okq (⟨"LiftCredit$Law", "either", "(I)I"⟩, 10) := ⟨⟨by decide +kernel, by decide +kernel⟩, List.mem_of_getElem? (i := 40) (by decide +kernel), List.mem_of_getElem? (i := 234) (by decide +kernel), List.mem_of_getElem? (i := 235) (by decide +kernel)⟩
theorem lw_p3 : lw_okq (⟨"LiftCredit$Law", "both", "(I)I"⟩, 10) := ⟨⟨by decide +kernel, by decide +kernel⟩, List.mem_of_getElem? (i := 40) (by decide +kernel), List.mem_of_getElem? (i := 238) (by decide +kernel), List.mem_of_getElem? (i := 239) (by decide +kernel)⟩
theorem lw_p4 : lw_okq (⟨"LiftCredit$Law", "compared", "(I)I"⟩, 10) := ⟨⟨by decide +kernel, by decide +kernel⟩, List.mem_of_getElem? (i := 40) (by decide +kernel), List.mem_of_getElem? (i := 242) (by decide +kernel), List.mem_of_getElem? (i := 243) (by decide +kernel)⟩
theorem lw_p5 : lw_okq (⟨"LiftCredit$Law", "sum", "(I)I"⟩, 10) := ⟨⟨by decide +kernel, by decide +kernel⟩, List.mem_of_getElem? (i := 40) (by decide +kernel), List.mem_of_getElem? (i := 246) (by decide +kernel), List.mem_of_getElem? (i := 247) (by decide +kernel)⟩
theorem lw_p6 : lw_okq (⟨"LiftCredit$Law", "product", "(I)I"⟩, 10) := ⟨⟨by decide +kernel, by decide +kernel⟩, List.mem_of_getElem? (i := 40) (by decide +kernel), List.mem_of_getElem? (i := 250) (by decide +kernel), List.mem_of_getElem? (i := 251) (by decide +kernel)⟩
theorem lw_p7 : lw_okq (⟨"LiftCredit$Law", "part", "(I)I"⟩, 10) := ⟨⟨by decide +kernel, by decide +kernel⟩, List.mem_of_getElem? (i := 40) (by decide +kernel), List.mem_of_getElem? (i := 254) (by decide +kernel), List.mem_of_getElem? (i := 255) (by decide +kernel)⟩
theorem lw_p8 : lw_okq (⟨"LiftCredit$Law", "fail", "()I"⟩, 10) := ⟨⟨by decide +kernel, by decide +kernel⟩, List.mem_of_getElem? (i := 40) (by decide +kernel), List.mem_of_getElem? (i := 258) (by decide +kernel), List.mem_of_getElem? (i := 259) (by decide +kernel)⟩
theorem lw_p9 : lw_okq (⟨"LiftCredit$Law", "number", "()I"⟩, 10) := ⟨⟨by decide +kernel, by decide +kernel⟩, List.mem_of_getElem? (i := 40) (by decide +kernel), List.mem_of_getElem? (i := 265) (by decide +kernel), List.mem_of_getElem? (i := 266) (by decide +kernel)⟩
theorem lw_p10 : lw_okq (⟨"LiftCredit$Law", "name", "(I)I"⟩, 10) := ⟨⟨by decide +kernel, by decide +kernel⟩, List.mem_of_getElem? (i := 40) (by decide +kernel), List.mem_of_getElem? (i := 269) (by decide +kernel), List.mem_of_getElem? (i := 270) (by decide +kernel)⟩
theorem lw_p11 : lw_okq (⟨"LiftCredit", "error", "(I)I"⟩, 6) := ⟨⟨by decide +kernel, by decide +kernel⟩, List.mem_of_getElem? (i := 24) (by decide +kernel), List.mem_of_getElem? (i := 463) (by decide +kernel), List.mem_of_getElem? (i := 464) (by decide +kernel)⟩
theorem lw_p12 : lw_okq (⟨"LiftCredit", "isRider", "(I)Z"⟩, 6) := ⟨⟨by decide +kernel, by decide +kernel⟩, List.mem_of_getElem? (i := 24) (by decide +kernel), List.mem_of_getElem? (i := 504) (by decide +kernel), List.mem_of_getElem? (i := 505) (by decide +kernel)⟩
theorem lw_p13 : lw_okq (⟨"LiftCredit", "shortestOf", "(III)I"⟩, 6) := ⟨⟨by decide +kernel, by decide +kernel⟩, List.mem_of_getElem? (i := 24) (by decide +kernel), List.mem_of_getElem? (i := 705) (by decide +kernel), List.mem_of_getElem? (i := 706) (by decide +kernel)⟩
theorem lw_p14 : lw_okq (⟨"LiftCredit", "tellsFloors", "(LLiftCredit$Sheet;)Z"⟩, 6) := ⟨⟨by decide +kernel, by decide +kernel⟩, List.mem_of_getElem? (i := 24) (by decide +kernel), List.mem_of_getElem? (i := 739) (by decide +kernel), List.mem_of_getElem? (i := 740) (by decide +kernel)⟩
theorem lw_p15 : lw_okq (⟨"LiftCredit", "bestWord", "(IIII)I"⟩, 6) := ⟨⟨by decide +kernel, by decide +kernel⟩, List.mem_of_getElem? (i := 24) (by decide +kernel), List.mem_of_getElem? (i := 755) (by decide +kernel), List.mem_of_getElem? (i := 756) (by decide +kernel)⟩
def lw_privs_1 : List (MethodName × Nat) := [(⟨"LiftCredit$Lift", "workOutWorth", "()V"⟩, 16), (⟨"LiftCredit$Law", "read", "([BI)I"⟩, 10), (⟨"LiftCredit$Law", "either", "(I)I"⟩, 10), (⟨"LiftCredit$Law", "both", "(I)I"⟩, 10), (⟨"LiftCredit$Law", "compared", "(I)I"⟩, 10), (⟨"LiftCredit$Law", "sum", "(I)I"⟩, 10), (⟨"LiftCredit$Law", "product", "(I)I"⟩, 10), (⟨"LiftCredit$Law", "part", "(I)I"⟩, 10), (⟨"LiftCredit$Law", "fail", "()I"⟩, 10), (⟨"LiftCredit$Law", "number", "()I"⟩, 10), (⟨"LiftCredit$Law", "name", "(I)I"⟩, 10), (⟨"LiftCredit", "error", "(I)I"⟩, 6), (⟨"LiftCredit", "isRider", "(I)Z"⟩, 6), (⟨"LiftCredit", "shortestOf", "(III)I"⟩, 6), (⟨"LiftCredit", "tellsFloors", "(LLiftCredit$Sheet;)Z"⟩, 6), (⟨"LiftCredit", "bestWord", "(IIII)I"⟩, 6)]
theorem lw_r1 : ∀ q ∈ lw_privs_1, lw_okq q := List.forall_mem_cons.mpr ⟨lw_p0, List.forall_mem_cons.mpr ⟨lw_p1, List.forall_mem_cons.mpr ⟨lw_p2, List.forall_mem_cons.mpr ⟨lw_p3, List.forall_mem_cons.mpr ⟨lw_p4, List.forall_mem_cons.mpr ⟨lw_p5, List.forall_mem_cons.mpr ⟨lw_p6, List.forall_mem_cons.mpr ⟨lw_p7, List.forall_mem_cons.mpr ⟨lw_p8, List.forall_mem_cons.mpr ⟨lw_p9, List.forall_mem_cons.mpr ⟨lw_p10, List.forall_mem_cons.mpr ⟨lw_p11, List.forall_mem_cons.mpr ⟨lw_p12, List.forall_mem_cons.mpr ⟨lw_p13, List.forall_mem_cons.mpr ⟨lw_p14, List.forall_mem_cons.mpr ⟨lw_p15, fun _ h => absurd h List.not_mem_nil⟩⟩⟩⟩⟩⟩⟩⟩⟩⟩⟩⟩⟩⟩⟩⟩
theorem lw_p16 : lw_okq (⟨"LiftCredit", "unlikeFloors", "(IIII)I"⟩, 6) := ⟨⟨by decide +kernel, by decide +kernel⟩, List.mem_of_getElem? (i := 24) (by decide +kernel), List.mem_of_getElem? (i := 759) (by decide +kernel), List.mem_of_getElem? (i := 760) (by decide +kernel)⟩
theorem lw_p17 : lw_okq (⟨"LiftCreditModel", "errs", "(I)I"⟩, 29) := ⟨⟨by decide +kernel, by decide +kernel⟩, List.mem_of_getElem? (i := 931) (by decide +kernel), List.mem_of_getElem? (i := 1036) (by decide +kernel), List.mem_of_getElem? (i := 1037) (by decide +kernel)⟩
theorem lw_p18 : lw_okq (⟨"LiftCreditModel", "heardAll", "()I"⟩, 29) := ⟨⟨by decide +kernel, by decide +kernel⟩, List.mem_of_getElem? (i := 931) (by decide +kernel), List.mem_of_getElem? (i := 1045) (by decide +kernel), List.mem_of_getElem? (i := 1046) (by decide +kernel)⟩
theorem lw_p19 : lw_okq (⟨"LiftCreditModel", "isRider", "(I)Z"⟩, 29) := ⟨⟨by decide +kernel, by decide +kernel⟩, List.mem_of_getElem? (i := 931) (by decide +kernel), List.mem_of_getElem? (i := 1066) (by decide +kernel), List.mem_of_getElem? (i := 1067) (by decide +kernel)⟩
theorem lw_p20 : lw_okq (⟨"LiftCreditModel", "its", "(II)I"⟩, 29) := ⟨⟨by decide +kernel, by decide +kernel⟩, List.mem_of_getElem? (i := 931) (by decide +kernel), List.mem_of_getElem? (i := 1070) (by decide +kernel), List.mem_of_getElem? (i := 1071) (by decide +kernel)⟩
theorem lw_p21 : lw_okq (⟨"LiftCreditModel", "weigh", "(I)V"⟩, 29) := ⟨⟨by decide +kernel, by decide +kernel⟩, List.mem_of_getElem? (i := 931) (by decide +kernel), List.mem_of_getElem? (i := 1074) (by decide +kernel), List.mem_of_getElem? (i := 1075) (by decide +kernel)⟩
theorem lw_p22 : lw_okq (⟨"LiftCreditModel", "saying", "(II)I"⟩, 29) := ⟨⟨by decide +kernel, by decide +kernel⟩, List.mem_of_getElem? (i := 931) (by decide +kernel), List.mem_of_getElem? (i := 1078) (by decide +kernel), List.mem_of_getElem? (i := 1079) (by decide +kernel)⟩
theorem lw_p23 : lw_okq (⟨"LiftCreditModel", "creditOf", "(II)I"⟩, 29) := ⟨⟨by decide +kernel, by decide +kernel⟩, List.mem_of_getElem? (i := 931) (by decide +kernel), List.mem_of_getElem? (i := 1082) (by decide +kernel), List.mem_of_getElem? (i := 1083) (by decide +kernel)⟩
theorem lw_p24 : lw_okq (⟨"LiftCreditModel", "lawOf", "(IIII)I"⟩, 29) := ⟨⟨by decide +kernel, by decide +kernel⟩, List.mem_of_getElem? (i := 931) (by decide +kernel), List.mem_of_getElem? (i := 1086) (by decide +kernel), List.mem_of_getElem? (i := 1087) (by decide +kernel)⟩
theorem lw_p25 : lw_okq (⟨"LiftCreditModel", "walks", "(IIII)I"⟩, 29) := ⟨⟨by decide +kernel, by decide +kernel⟩, List.mem_of_getElem? (i := 931) (by decide +kernel), List.mem_of_getElem? (i := 1090) (by decide +kernel), List.mem_of_getElem? (i := 1091) (by decide +kernel)⟩
theorem lw_p26 : lw_okq (⟨"LiftCreditModel", "whole", "()I"⟩, 29) := ⟨⟨by decide +kernel, by decide +kernel⟩, List.mem_of_getElem? (i := 931) (by decide +kernel), List.mem_of_getElem? (i := 1094) (by decide +kernel), List.mem_of_getElem? (i := 1095) (by decide +kernel)⟩
theorem lw_p27 : lw_okq (⟨"LiftCreditModel", "both", "()I"⟩, 29) := ⟨⟨by decide +kernel, by decide +kernel⟩, List.mem_of_getElem? (i := 931) (by decide +kernel), List.mem_of_getElem? (i := 1098) (by decide +kernel), List.mem_of_getElem? (i := 1099) (by decide +kernel)⟩
theorem lw_p28 : lw_okq (⟨"LiftCreditModel", "compared", "()I"⟩, 29) := ⟨⟨by decide +kernel, by decide +kernel⟩, List.mem_of_getElem? (i := 931) (by decide +kernel), List.mem_of_getElem? (i := 1102) (by decide +kernel), List.mem_of_getElem? (i := 1103) (by decide +kernel)⟩
theorem lw_p29 : lw_okq (⟨"LiftCreditModel", "sum", "()I"⟩, 29) := ⟨⟨by decide +kernel, by decide +kernel⟩, List.mem_of_getElem? (i := 931) (by decide +kernel), List.mem_of_getElem? (i := 1106) (by decide +kernel), List.mem_of_getElem? (i := 1107) (by decide +kernel)⟩
theorem lw_p30 : lw_okq (⟨"LiftCreditModel", "product", "()I"⟩, 29) := ⟨⟨by decide +kernel, by decide +kernel⟩, List.mem_of_getElem? (i := 931) (by decide +kernel), List.mem_of_getElem? (i := 1110) (by decide +kernel), List.mem_of_getElem? (i := 1111) (by decide +kernel)⟩
theorem lw_p31 : lw_okq (⟨"LiftCreditModel", "factor", "()I"⟩, 29) := ⟨⟨by decide +kernel, by decide +kernel⟩, List.mem_of_getElem? (i := 931) (by decide +kernel), List.mem_of_getElem? (i := 1114) (by decide +kernel), List.mem_of_getElem? (i := 1115) (by decide +kernel)⟩
def lw_privs_2 : List (MethodName × Nat) := [(⟨"LiftCredit", "unlikeFloors", "(IIII)I"⟩, 6), (⟨"LiftCreditModel", "errs", "(I)I"⟩, 29), (⟨"LiftCreditModel", "heardAll", "()I"⟩, 29), (⟨"LiftCreditModel", "isRider", "(I)Z"⟩, 29), (⟨"LiftCreditModel", "its", "(II)I"⟩, 29), (⟨"LiftCreditModel", "weigh", "(I)V"⟩, 29), (⟨"LiftCreditModel", "saying", "(II)I"⟩, 29), (⟨"LiftCreditModel", "creditOf", "(II)I"⟩, 29), (⟨"LiftCreditModel", "lawOf", "(IIII)I"⟩, 29), (⟨"LiftCreditModel", "walks", "(IIII)I"⟩, 29), (⟨"LiftCreditModel", "whole", "()I"⟩, 29), (⟨"LiftCreditModel", "both", "()I"⟩, 29), (⟨"LiftCreditModel", "compared", "()I"⟩, 29), (⟨"LiftCreditModel", "sum", "()I"⟩, 29), (⟨"LiftCreditModel", "product", "()I"⟩, 29), (⟨"LiftCreditModel", "factor", "()I"⟩, 29)]
theorem lw_r2 : ∀ q ∈ lw_privs_2, lw_okq q := List.forall_mem_cons.mpr ⟨lw_p16, List.forall_mem_cons.mpr ⟨lw_p17, List.forall_mem_cons.mpr ⟨lw_p18, List.forall_mem_cons.mpr ⟨lw_p19, List.forall_mem_cons.mpr ⟨lw_p20, List.forall_mem_cons.mpr ⟨lw_p21, List.forall_mem_cons.mpr ⟨lw_p22, List.forall_mem_cons.mpr ⟨lw_p23, List.forall_mem_cons.mpr ⟨lw_p24, List.forall_mem_cons.mpr ⟨lw_p25, List.forall_mem_cons.mpr ⟨lw_p26, List.forall_mem_cons.mpr ⟨lw_p27, List.forall_mem_cons.mpr ⟨lw_p28, List.forall_mem_cons.mpr ⟨lw_p29, List.forall_mem_cons.mpr ⟨lw_p30, List.forall_mem_cons.mpr ⟨lw_p31, fun _ h => absurd h List.not_mem_nil⟩⟩⟩⟩⟩⟩⟩⟩⟩⟩⟩⟩⟩⟩⟩⟩
theorem lw_p32 : lw_okq (⟨"LiftCreditModel", "byteAt", "(I)I"⟩, 29) := ⟨⟨by decide +kernel, by decide +kernel⟩, List.mem_of_getElem? (i := 931) (by decide +kernel), List.mem_of_getElem? (i := 1118) (by decide +kernel), List.mem_of_getElem? (i := 1119) (by decide +kernel)⟩
theorem lw_p33 : lw_okq (⟨"LiftCreditModel", "number", "()I"⟩, 29) := ⟨⟨by decide +kernel, by decide +kernel⟩, List.mem_of_getElem? (i := 931) (by decide +kernel), List.mem_of_getElem? (i := 1125) (by decide +kernel), List.mem_of_getElem? (i := 1126) (by decide +kernel)⟩
theorem lw_p34 : lw_okq (⟨"LiftCreditModel", "named", "(I)I"⟩, 29) := ⟨⟨by decide +kernel, by decide +kernel⟩, List.mem_of_getElem? (i := 931) (by decide +kernel), List.mem_of_getElem? (i := 1129) (by decide +kernel), List.mem_of_getElem? (i := 1130) (by decide +kernel)⟩
theorem lw_p35 : lw_okq (⟨"LiftCreditModel", "fails", "()I"⟩, 29) := ⟨⟨by decide +kernel, by decide +kernel⟩, List.mem_of_getElem? (i := 931) (by decide +kernel), List.mem_of_getElem? (i := 1133) (by decide +kernel), List.mem_of_getElem? (i := 1134) (by decide +kernel)⟩
theorem lw_p36 : lw_okq (⟨"LiftCreditModel", "floorOf", "(I)I"⟩, 29) := ⟨⟨by decide +kernel, by decide +kernel⟩, List.mem_of_getElem? (i := 931) (by decide +kernel), List.mem_of_getElem? (i := 1140) (by decide +kernel), List.mem_of_getElem? (i := 1141) (by decide +kernel)⟩
theorem lw_p37 : lw_okq (⟨"LiftCreditModel", "floorBy", "(II)I"⟩, 29) := ⟨⟨by decide +kernel, by decide +kernel⟩, List.mem_of_getElem? (i := 931) (by decide +kernel), List.mem_of_getElem? (i := 1144) (by decide +kernel), List.mem_of_getElem? (i := 1145) (by decide +kernel)⟩
theorem lw_p38 : lw_okq (⟨"LiftCreditModel", "worldStory", "()I"⟩, 29) := ⟨⟨by decide +kernel, by decide +kernel⟩, List.mem_of_getElem? (i := 931) (by decide +kernel), List.mem_of_getElem? (i := 1148) (by decide +kernel), List.mem_of_getElem? (i := 1149) (by decide +kernel)⟩
theorem lw_p39 : lw_okq (⟨"LiftCreditModel", "isTrue", "(II)Z"⟩, 29) := ⟨⟨by decide +kernel, by decide +kernel⟩, List.mem_of_getElem? (i := 931) (by decide +kernel), List.mem_of_getElem? (i := 1152) (by decide +kernel), List.mem_of_getElem? (i := 1153) (by decide +kernel)⟩
theorem lw_p40 : lw_okq (⟨"LiftCreditModel", "moveAll", "([I[I)V"⟩, 29) := ⟨⟨by decide +kernel, by decide +kernel⟩, List.mem_of_getElem? (i := 931) (by decide +kernel), List.mem_of_getElem? (i := 1189) (by decide +kernel), List.mem_of_getElem? (i := 1190) (by decide +kernel)⟩
theorem lw_p41 : lw_okq (⟨"LiftCreditModel", "rides", "(I)I"⟩, 29) := ⟨⟨by decide +kernel, by decide +kernel⟩, List.mem_of_getElem? (i := 931) (by decide +kernel), List.mem_of_getElem? (i := 1197) (by decide +kernel), List.mem_of_getElem? (i := 1198) (by decide +kernel)⟩
theorem lw_p42 : lw_okq (⟨"LiftCreditModel", "oneDay", "()V"⟩, 29) := ⟨⟨by decide +kernel, by decide +kernel⟩, List.mem_of_getElem? (i := 931) (by decide +kernel), List.mem_of_getElem? (i := 1206) (by decide +kernel), List.mem_of_getElem? (i := 1207) (by decide +kernel)⟩
theorem lw_p43 : lw_okq (⟨"LiftCreditModel", "drawn", "(I)I"⟩, 29) := ⟨⟨by decide +kernel, by decide +kernel⟩, List.mem_of_getElem? (i := 931) (by decide +kernel), List.mem_of_getElem? (i := 1214) (by decide +kernel), List.mem_of_getElem? (i := 1215) (by decide +kernel)⟩
theorem lw_p44 : lw_okq (⟨"LiftCreditModel", "floorTogether", "(I)I"⟩, 29) := ⟨⟨by decide +kernel, by decide +kernel⟩, List.mem_of_getElem? (i := 931) (by decide +kernel), List.mem_of_getElem? (i := 1223) (by decide +kernel), List.mem_of_getElem? (i := 1224) (by decide +kernel)⟩
theorem lw_p45 : lw_okq (⟨"LiftCreditModel", "shortestTo", "(IIZ)I"⟩, 29) := ⟨⟨by decide +kernel, by decide +kernel⟩, List.mem_of_getElem? (i := 931) (by decide +kernel), List.mem_of_getElem? (i := 1241) (by decide +kernel), List.mem_of_getElem? (i := 1242) (by decide +kernel)⟩
theorem lw_p46 : lw_okq (⟨"LiftCreditModel", "longOf", "(I)I"⟩, 29) := ⟨⟨by decide +kernel, by decide +kernel⟩, List.mem_of_getElem? (i := 931) (by decide +kernel), List.mem_of_getElem? (i := 1245) (by decide +kernel), List.mem_of_getElem? (i := 1246) (by decide +kernel)⟩
theorem lw_p47 : lw_okq (⟨"LiftCreditModel", "hearsAll", "(I)V"⟩, 29) := ⟨⟨by decide +kernel, by decide +kernel⟩, List.mem_of_getElem? (i := 931) (by decide +kernel), List.mem_of_getElem? (i := 1277) (by decide +kernel), List.mem_of_getElem? (i := 1278) (by decide +kernel)⟩
def lw_privs_3 : List (MethodName × Nat) := [(⟨"LiftCreditModel", "byteAt", "(I)I"⟩, 29), (⟨"LiftCreditModel", "number", "()I"⟩, 29), (⟨"LiftCreditModel", "named", "(I)I"⟩, 29), (⟨"LiftCreditModel", "fails", "()I"⟩, 29), (⟨"LiftCreditModel", "floorOf", "(I)I"⟩, 29), (⟨"LiftCreditModel", "floorBy", "(II)I"⟩, 29), (⟨"LiftCreditModel", "worldStory", "()I"⟩, 29), (⟨"LiftCreditModel", "isTrue", "(II)Z"⟩, 29), (⟨"LiftCreditModel", "moveAll", "([I[I)V"⟩, 29), (⟨"LiftCreditModel", "rides", "(I)I"⟩, 29), (⟨"LiftCreditModel", "oneDay", "()V"⟩, 29), (⟨"LiftCreditModel", "drawn", "(I)I"⟩, 29), (⟨"LiftCreditModel", "floorTogether", "(I)I"⟩, 29), (⟨"LiftCreditModel", "shortestTo", "(IIZ)I"⟩, 29), (⟨"LiftCreditModel", "longOf", "(I)I"⟩, 29), (⟨"LiftCreditModel", "hearsAll", "(I)V"⟩, 29)]
theorem lw_r3 : ∀ q ∈ lw_privs_3, lw_okq q := List.forall_mem_cons.mpr ⟨lw_p32, List.forall_mem_cons.mpr ⟨lw_p33, List.forall_mem_cons.mpr ⟨lw_p34, List.forall_mem_cons.mpr ⟨lw_p35, List.forall_mem_cons.mpr ⟨lw_p36, List.forall_mem_cons.mpr ⟨lw_p37, List.forall_mem_cons.mpr ⟨lw_p38, List.forall_mem_cons.mpr ⟨lw_p39, List.forall_mem_cons.mpr ⟨lw_p40, List.forall_mem_cons.mpr ⟨lw_p41, List.forall_mem_cons.mpr ⟨lw_p42, List.forall_mem_cons.mpr ⟨lw_p43, List.forall_mem_cons.mpr ⟨lw_p44, List.forall_mem_cons.mpr ⟨lw_p45, List.forall_mem_cons.mpr ⟨lw_p46, List.forall_mem_cons.mpr ⟨lw_p47, fun _ h => absurd h List.not_mem_nil⟩⟩⟩⟩⟩⟩⟩⟩⟩⟩⟩⟩⟩⟩⟩⟩
theorem lw_p48 : lw_okq (⟨"LiftCreditModel", "areSo", "(I)Z"⟩, 29) := ⟨⟨by decide +kernel, by decide +kernel⟩, List.mem_of_getElem? (i := 931) (by decide +kernel), List.mem_of_getElem? (i := 1281) (by decide +kernel), List.mem_of_getElem? (i := 1282) (by decide +kernel)⟩
theorem lw_p49 : lw_okq (⟨"LiftCreditModel", "saysIn", "(II)I"⟩, 29) := ⟨⟨by decide +kernel, by decide +kernel⟩, List.mem_of_getElem? (i := 931) (by decide +kernel), List.mem_of_getElem? (i := 1297) (by decide +kernel), List.mem_of_getElem? (i := 1298) (by decide +kernel)⟩
theorem lw_p50 : lw_okq (⟨"LiftCreditModel", "ran", "(I)V"⟩, 29) := ⟨⟨by decide +kernel, by decide +kernel⟩, List.mem_of_getElem? (i := 931) (by decide +kernel), List.mem_of_getElem? (i := 1301) (by decide +kernel), List.mem_of_getElem? (i := 1302) (by decide +kernel)⟩
theorem lw_p51 : lw_okq (⟨"LiftCreditModel", "risesIn", "(II)I"⟩, 29) := ⟨⟨by decide +kernel, by decide +kernel⟩, List.mem_of_getElem? (i := 931) (by decide +kernel), List.mem_of_getElem? (i := 1305) (by decide +kernel), List.mem_of_getElem? (i := 1306) (by decide +kernel)⟩
theorem lw_p52 : lw_okq (⟨"LiftCreditModel", "doubtsIn", "(II)I"⟩, 29) := ⟨⟨by decide +kernel, by decide +kernel⟩, List.mem_of_getElem? (i := 931) (by decide +kernel), List.mem_of_getElem? (i := 1309) (by decide +kernel), List.mem_of_getElem? (i := 1310) (by decide +kernel)⟩
theorem lw_p53 : lw_okq (⟨"LiftCreditModel", "tellsIn", "(II)I"⟩, 29) := ⟨⟨by decide +kernel, by decide +kernel⟩, List.mem_of_getElem? (i := 931) (by decide +kernel), List.mem_of_getElem? (i := 1313) (by decide +kernel), List.mem_of_getElem? (i := 1314) (by decide +kernel)⟩
theorem lw_p54 : lw_okq (⟨"LiftCreditModel", "heardMany", "(Z)I"⟩, 29) := ⟨⟨by decide +kernel, by decide +kernel⟩, List.mem_of_getElem? (i := 931) (by decide +kernel), List.mem_of_getElem? (i := 1364) (by decide +kernel), List.mem_of_getElem? (i := 1365) (by decide +kernel)⟩
def lw_privs_4 : List (MethodName × Nat) := [(⟨"LiftCreditModel", "areSo", "(I)Z"⟩, 29), (⟨"LiftCreditModel", "saysIn", "(II)I"⟩, 29), (⟨"LiftCreditModel", "ran", "(I)V"⟩, 29), (⟨"LiftCreditModel", "risesIn", "(II)I"⟩, 29), (⟨"LiftCreditModel", "doubtsIn", "(II)I"⟩, 29), (⟨"LiftCreditModel", "tellsIn", "(II)I"⟩, 29), (⟨"LiftCreditModel", "heardMany", "(Z)I"⟩, 29)]
theorem lw_r4 : ∀ q ∈ lw_privs_4, lw_okq q := List.forall_mem_cons.mpr ⟨lw_p48, List.forall_mem_cons.mpr ⟨lw_p49, List.forall_mem_cons.mpr ⟨lw_p50, List.forall_mem_cons.mpr ⟨lw_p51, List.forall_mem_cons.mpr ⟨lw_p52, List.forall_mem_cons.mpr ⟨lw_p53, List.forall_mem_cons.mpr ⟨lw_p54, fun _ h => absurd h List.not_mem_nil⟩⟩⟩⟩⟩⟩⟩
def lw_privs : List (MethodName × Nat) := lw_privs_1 ++ (lw_privs_2 ++ (lw_privs_3 ++ (lw_privs_4)))
def lw_tbl : List Cond := k2_sels lw_privs ++ tables_1
theorem lw_privs_ok : ∀ q ∈ lw_privs, lw_okq q := by
  show ∀ q ∈ lw_privs_1 ++ (lw_privs_2 ++ (lw_privs_3 ++ (lw_privs_4))), lw_okq q
  exact List.forall_mem_append.mpr ⟨lw_r1, List.forall_mem_append.mpr ⟨lw_r2, List.forall_mem_append.mpr ⟨lw_r3, lw_r4⟩⟩⟩
-- ===== end of PART A; then your names; then what follows =====
end
section

def RX0 : String := "LiftCredit$Clerk"
def TX0 : u_T := fun k => match k with
  | 0 => ("LiftCredit$Rider", "kind", "I", true)
  | 1 => ("LiftCredit$Rider", "m", "I", true)
  | _ => ("LiftCredit$Rider", "number", "I", true)
def tyX0 : Nat → FieldType := fun k => match k with
  | 0 => .int
  | 1 => .int
  | _ => .int
theorem nmX0 : ∀ a, a < 3 → ∀ b, b < 3 → a ≠ b → (TX0 a).2.1 ≠ (TX0 b).2.1 := by decide +kernel
theorem tyX0_ok : ∀ k, k < 3 → parseFieldDescriptor (TX0 k).2.2.1 = some (tyX0 k) := by decide +kernel
abbrev cX0_init : ByteArray := prog_2_method_1_code
def yX0_init : MethodName := ⟨RX0, "<init>", "(III)V"⟩
abbrev cX0_credit : ByteArray := prog_2_method_2_code
def yX0_credit : MethodName := ⟨RX0, "credit", "(IIII)I"⟩
abbrev cX0_says : ByteArray := prog_2_method_3_code
def yX0_says : MethodName := ⟨RX0, "says", "(LLiftCredit$Trace;I)I"⟩
def RX1 : String := "LiftCredit$Inspector"
def TX1 : u_T := fun k => match k with
  | 0 => ("LiftCredit$Rider", "kind", "I", true)
  | 1 => ("LiftCredit$Rider", "m", "I", true)
  | _ => ("LiftCredit$Rider", "number", "I", true)
def tyX1 : Nat → FieldType := fun k => match k with
  | 0 => .int
  | 1 => .int
  | _ => .int
theorem nmX1 : ∀ a, a < 3 → ∀ b, b < 3 → a ≠ b → (TX1 a).2.1 ≠ (TX1 b).2.1 := by decide +kernel
theorem tyX1_ok : ∀ k, k < 3 → parseFieldDescriptor (TX1 k).2.2.1 = some (tyX1 k) := by decide +kernel
abbrev cX1_init : ByteArray := prog_3_method_1_code
def yX1_init : MethodName := ⟨RX1, "<init>", "(III)V"⟩
abbrev cX1_credit : ByteArray := prog_3_method_2_code
def yX1_credit : MethodName := ⟨RX1, "credit", "(IIII)I"⟩
abbrev cX1_tells : ByteArray := prog_3_method_3_code
def yX1_tells : MethodName := ⟨RX1, "tells", "(LLiftCredit$Trace;I)I"⟩
def RX2 : String := "LiftCredit$Law"
def TX2 : u_T := fun k => match k with
  | 0 => ("LiftCredit$Law", "names", "Ljava/lang/String;", true)
  | 1 => ("LiftCredit$Law", "text", "[B", true)
  | 2 => ("LiftCredit$Law", "length", "I", false)
  | 3 => ("LiftCredit$Law", "row", "[B", false)
  | 4 => ("LiftCredit$Law", "end", "I", false)
  | 5 => ("LiftCredit$Law", "place", "I", false)
  | 6 => ("LiftCredit$Law", "faulty", "Z", false)
  | 7 => ("LiftCredit$Law", "first", "I", false)
  | 8 => ("LiftCredit$Law", "second", "I", false)
  | _ => ("LiftCredit$Law", "third", "I", false)
def tyX2 : Nat → FieldType := fun k => match k with
  | 0 => .object "java/lang/String"
  | 1 => .array .byte
  | 2 => .int
  | 3 => .array .byte
  | 4 => .int
  | 5 => .int
  | 6 => .boolean
  | 7 => .int
  | 8 => .int
  | _ => .int
theorem nmX2 : ∀ a, a < 10 → ∀ b, b < 10 → a ≠ b → (TX2 a).2.1 ≠ (TX2 b).2.1 := by decide +kernel
theorem tyX2_ok : ∀ k, k < 10 → parseFieldDescriptor (TX2 k).2.2.1 = some (tyX2 k) := by decide +kernel
abbrev cX2_init : ByteArray := prog_4_method_1_code
def yX2_init : MethodName := ⟨RX2, "<init>", "(Ljava/lang/String;Ljava/lang/String;)V"⟩
abbrev cX2_copy : ByteArray := prog_4_method_2_code
def yX2_copy : MethodName := ⟨RX2, "copy", "(LLiftCredit$Law;)V"⟩
abbrev cX2_gives : ByteArray := prog_4_method_3_code
def yX2_gives : MethodName := ⟨RX2, "gives", "(III)I"⟩
abbrev cX2_take : ByteArray := prog_4_method_4_code
def yX2_take : MethodName := ⟨RX2, "take", "([BI)I"⟩
abbrev cX2_read : ByteArray := prog_4_method_5_code
def yX2_read : MethodName := ⟨RX2, "read", "([BI)I"⟩
abbrev cX2_fail : ByteArray := prog_4_method_6_code
def yX2_fail : MethodName := ⟨RX2, "fail", "()I"⟩
abbrev cX2_either : ByteArray := prog_4_method_7_code
def yX2_either : MethodName := ⟨RX2, "either", "(I)I"⟩
abbrev cX2_both : ByteArray := prog_4_method_8_code
def yX2_both : MethodName := ⟨RX2, "both", "(I)I"⟩
abbrev cX2_compared : ByteArray := prog_4_method_9_code
def yX2_compared : MethodName := ⟨RX2, "compared", "(I)I"⟩
abbrev cX2_sum : ByteArray := prog_4_method_10_code
def yX2_sum : MethodName := ⟨RX2, "sum", "(I)I"⟩
abbrev cX2_product : ByteArray := prog_4_method_11_code
def yX2_product : MethodName := ⟨RX2, "product", "(I)I"⟩
abbrev cX2_part : ByteArray := prog_4_method_12_code
def yX2_part : MethodName := ⟨RX2, "part", "(I)I"⟩
abbrev cX2_number : ByteArray := prog_4_method_13_code
def yX2_number : MethodName := ⟨RX2, "number", "()I"⟩
abbrev cX2_name : ByteArray := prog_4_method_14_code
def yX2_name : MethodName := ⟨RX2, "name", "(I)I"⟩
abbrev cX2_isDigit : ByteArray := prog_4_method_15_code
def yX2_isDigit : MethodName := ⟨RX2, "isDigit", "(I)Z"⟩
def RX3 : String := "LiftCredit$Liar"
def TX3 : u_T := fun k => match k with
  | 0 => ("LiftCredit$Rider", "kind", "I", true)
  | 1 => ("LiftCredit$Rider", "m", "I", true)
  | _ => ("LiftCredit$Rider", "number", "I", true)
def tyX3 : Nat → FieldType := fun k => match k with
  | 0 => .int
  | 1 => .int
  | _ => .int
theorem nmX3 : ∀ a, a < 3 → ∀ b, b < 3 → a ≠ b → (TX3 a).2.1 ≠ (TX3 b).2.1 := by decide +kernel
theorem tyX3_ok : ∀ k, k < 3 → parseFieldDescriptor (TX3 k).2.2.1 = some (tyX3 k) := by decide +kernel
abbrev cX3_init : ByteArray := prog_5_method_1_code
def yX3_init : MethodName := ⟨RX3, "<init>", "(III)V"⟩
abbrev cX3_counted : ByteArray := prog_5_method_2_code
def yX3_counted : MethodName := ⟨RX3, "counted", "(I)I"⟩
abbrev cX3_rises : ByteArray := prog_5_method_3_code
def yX3_rises : MethodName := ⟨RX3, "rises", "(LLiftCredit$Trace;I)I"⟩
def RX4 : String := "LiftCredit$Lift"
def TX4 : u_T := fun k => match k with
  | 0 => ("LiftCredit$Lift", "heard", "I", false)
  | 1 => ("LiftCredit$Lift", "world", "I", false)
  | 2 => ("LiftCredit$Lift", "trust", "I", false)
  | 3 => ("LiftCredit$Lift", "day", "I", false)
  | 4 => ("LiftCredit$Lift", "rides", "I", false)
  | 5 => ("LiftCredit$Lift", "z", "I", false)
  | 6 => ("LiftCredit$Lift", "riderCount", "I", false)
  | 7 => ("LiftCredit$Lift", "riders", "[LLiftCredit$Rider;", true)
  | 8 => ("LiftCredit$Lift", "stories", "[I", true)
  | 9 => ("LiftCredit$Lift", "tapeLength", "I", false)
  | 10 => ("LiftCredit$Lift", "tape", "[B", true)
  | 11 => ("LiftCredit$Lift", "waitingCount", "I", false)
  | 12 => ("LiftCredit$Lift", "waiting", "[I", true)
  | 13 => ("LiftCredit$Lift", "creditLaw", "LLiftCredit$Law;", true)
  | 14 => ("LiftCredit$Lift", "crowdLaw", "LLiftCredit$Law;", true)
  | _ => ("LiftCredit$Lift", "worth", "[I", true)
def tyX4 : Nat → FieldType := fun k => match k with
  | 0 => .int
  | 1 => .int
  | 2 => .int
  | 3 => .int
  | 4 => .int
  | 5 => .int
  | 6 => .int
  | 7 => .array (.object "LiftCredit$Rider")
  | 8 => .array .int
  | 9 => .int
  | 10 => .array .byte
  | 11 => .int
  | 12 => .array .int
  | 13 => .object "LiftCredit$Law"
  | 14 => .object "LiftCredit$Law"
  | _ => .array .int
theorem nmX4 : ∀ a, a < 16 → ∀ b, b < 16 → a ≠ b → (TX4 a).2.1 ≠ (TX4 b).2.1 := by decide +kernel
theorem tyX4_ok : ∀ k, k < 16 → parseFieldDescriptor (TX4 k).2.2.1 = some (tyX4 k) := by decide +kernel
abbrev cX4_init : ByteArray := prog_6_method_1_code
def yX4_init : MethodName := ⟨RX4, "<init>", "()V"⟩
abbrev cX4_copy : ByteArray := prog_6_method_2_code
def yX4_copy : MethodName := ⟨RX4, "copy", "(LLiftCredit$Lift;)V"⟩
abbrev cX4_lawOf : ByteArray := prog_6_method_3_code
def yX4_lawOf : MethodName := ⟨RX4, "lawOf", "(I)LLiftCredit$Law;"⟩
abbrev cX4_takeTape : ByteArray := prog_6_method_4_code
def yX4_takeTape : MethodName := ⟨RX4, "takeTape", "(I)I"⟩
abbrev cX4_workOutWorth : ByteArray := prog_6_method_5_code
def yX4_workOutWorth : MethodName := ⟨RX4, "workOutWorth", "()V"⟩
abbrev cX4_credit : ByteArray := prog_6_method_6_code
def yX4_credit : MethodName := ⟨RX4, "credit", "(III)I"⟩
abbrev cX4_floor : ByteArray := prog_6_method_7_code
def yX4_floor : MethodName := ⟨RX4, "floor", "(III)I"⟩
abbrev cX4_crowdFloor : ByteArray := prog_6_method_8_code
def yX4_crowdFloor : MethodName := ⟨RX4, "crowdFloor", "(I)I"⟩
abbrev cX4_hasFloors : ByteArray := prog_6_method_9_code
def yX4_hasFloors : MethodName := ⟨RX4, "hasFloors", "(LLiftCredit$Sheet;I)Z"⟩
abbrev cX4_afterRide : ByteArray := prog_6_method_10_code
def yX4_afterRide : MethodName := ⟨RX4, "afterRide", "(II)I"⟩
abbrev cX4_afterDay : ByteArray := prog_6_method_11_code
def yX4_afterDay : MethodName := ⟨RX4, "afterDay", "(I)I"⟩
abbrev cX4_countDays : ByteArray := prog_6_method_12_code
def yX4_countDays : MethodName := ⟨RX4, "countDays", "(I)V"⟩
abbrev cX4_countRides : ByteArray := prog_6_method_13_code
def yX4_countRides : MethodName := ⟨RX4, "countRides", "(I)V"⟩
abbrev cX4_draw : ByteArray := prog_6_method_14_code
def yX4_draw : MethodName := ⟨RX4, "draw", "()I"⟩
def RX5 : String := "LiftCredit$Poet"
def TX5 : u_T := fun k => match k with
  | 0 => ("LiftCredit$Rider", "kind", "I", true)
  | 1 => ("LiftCredit$Rider", "m", "I", true)
  | _ => ("LiftCredit$Rider", "number", "I", true)
def tyX5 : Nat → FieldType := fun k => match k with
  | 0 => .int
  | 1 => .int
  | _ => .int
theorem nmX5 : ∀ a, a < 3 → ∀ b, b < 3 → a ≠ b → (TX5 a).2.1 ≠ (TX5 b).2.1 := by decide +kernel
theorem tyX5_ok : ∀ k, k < 3 → parseFieldDescriptor (TX5 k).2.2.1 = some (tyX5 k) := by decide +kernel
abbrev cX5_init : ByteArray := prog_7_method_1_code
def yX5_init : MethodName := ⟨RX5, "<init>", "(III)V"⟩
abbrev cX5_credit : ByteArray := prog_7_method_2_code
def yX5_credit : MethodName := ⟨RX5, "credit", "(IIII)I"⟩
abbrev cX5_rises : ByteArray := prog_7_method_3_code
def yX5_rises : MethodName := ⟨RX5, "rises", "(LLiftCredit$Trace;I)I"⟩
def RX6 : String := "LiftCredit$Rider"
def TX6 : u_T := fun k => match k with
  | 0 => ("LiftCredit$Rider", "kind", "I", true)
  | 1 => ("LiftCredit$Rider", "m", "I", true)
  | _ => ("LiftCredit$Rider", "number", "I", true)
def tyX6 : Nat → FieldType := fun k => match k with
  | 0 => .int
  | 1 => .int
  | _ => .int
theorem nmX6 : ∀ a, a < 3 → ∀ b, b < 3 → a ≠ b → (TX6 a).2.1 ≠ (TX6 b).2.1 := by decide +kernel
theorem tyX6_ok : ∀ k, k < 3 → parseFieldDescriptor (TX6 k).2.2.1 = some (tyX6 k) := by decide +kernel
abbrev cX6_init : ByteArray := prog_8_method_1_code
def yX6_init : MethodName := ⟨RX6, "<init>", "(III)V"⟩
abbrev cX6_counted : ByteArray := prog_8_method_2_code
def yX6_counted : MethodName := ⟨RX6, "counted", "(I)I"⟩
abbrev cX6_credit : ByteArray := prog_8_method_3_code
def yX6_credit : MethodName := ⟨RX6, "credit", "(IIII)I"⟩
abbrev cX6_says : ByteArray := prog_8_method_4_code
def yX6_says : MethodName := ⟨RX6, "says", "(LLiftCredit$Trace;I)I"⟩
abbrev cX6_rises : ByteArray := prog_8_method_5_code
def yX6_rises : MethodName := ⟨RX6, "rises", "(LLiftCredit$Trace;I)I"⟩
abbrev cX6_doubts : ByteArray := prog_8_method_6_code
def yX6_doubts : MethodName := ⟨RX6, "doubts", "(LLiftCredit$Trace;I)I"⟩
abbrev cX6_tells : ByteArray := prog_8_method_7_code
def yX6_tells : MethodName := ⟨RX6, "tells", "(LLiftCredit$Trace;I)I"⟩
def RX7 : String := "LiftCredit$Sheet"
def TX7 : u_T := fun k => match k with
  | 0 => ("LiftCredit$Sheet", "numbers", "[I", true)
  | 1 => ("LiftCredit$Sheet", "bits", "I", false)
  | _ => ("LiftCredit$Sheet", "length", "I", false)
def tyX7 : Nat → FieldType := fun k => match k with
  | 0 => .array .int
  | 1 => .int
  | _ => .int
theorem nmX7 : ∀ a, a < 3 → ∀ b, b < 3 → a ≠ b → (TX7 a).2.1 ≠ (TX7 b).2.1 := by decide +kernel
theorem tyX7_ok : ∀ k, k < 3 → parseFieldDescriptor (TX7 k).2.2.1 = some (tyX7 k) := by decide +kernel
abbrev cX7_init : ByteArray := prog_9_method_1_code
def yX7_init : MethodName := ⟨RX7, "<init>", "()V"⟩
abbrev cX7_isMissing : ByteArray := prog_9_method_2_code
def yX7_isMissing : MethodName := ⟨RX7, "isMissing", "()Z"⟩
abbrev cX7_renew : ByteArray := prog_9_method_3_code
def yX7_renew : MethodName := ⟨RX7, "renew", "(II)V"⟩
abbrev cX7_cut : ByteArray := prog_9_method_4_code
def yX7_cut : MethodName := ⟨RX7, "cut", "(I)I"⟩
abbrev cX7_holds : ByteArray := prog_9_method_5_code
def yX7_holds : MethodName := ⟨RX7, "holds", "(II)Z"⟩
def RX8 : String := "LiftCredit$Silent"
def TX8 : u_T := fun k => match k with
  | 0 => ("LiftCredit$Rider", "kind", "I", true)
  | 1 => ("LiftCredit$Rider", "m", "I", true)
  | _ => ("LiftCredit$Rider", "number", "I", true)
def tyX8 : Nat → FieldType := fun k => match k with
  | 0 => .int
  | 1 => .int
  | _ => .int
theorem nmX8 : ∀ a, a < 3 → ∀ b, b < 3 → a ≠ b → (TX8 a).2.1 ≠ (TX8 b).2.1 := by decide +kernel
theorem tyX8_ok : ∀ k, k < 3 → parseFieldDescriptor (TX8 k).2.2.1 = some (tyX8 k) := by decide +kernel
abbrev cX8_init : ByteArray := prog_10_method_1_code
def yX8_init : MethodName := ⟨RX8, "<init>", "(III)V"⟩
abbrev cX8_credit : ByteArray := prog_10_method_2_code
def yX8_credit : MethodName := ⟨RX8, "credit", "(IIII)I"⟩
abbrev cX8_doubts : ByteArray := prog_10_method_3_code
def yX8_doubts : MethodName := ⟨RX8, "doubts", "(LLiftCredit$Trace;I)I"⟩
abbrev cX8_tells : ByteArray := prog_10_method_4_code
def yX8_tells : MethodName := ⟨RX8, "tells", "(LLiftCredit$Trace;I)I"⟩
def RX9 : String := "LiftCredit$Trace"
def TX9 : u_T := fun k => match k with
  | 0 => ("LiftCredit$Trace", "bodies", "[I", true)
  | _ => ("LiftCredit$Trace", "length", "I", false)
def tyX9 : Nat → FieldType := fun k => match k with
  | 0 => .array .int
  | _ => .int
theorem nmX9 : ∀ a, a < 2 → ∀ b, b < 2 → a ≠ b → (TX9 a).2.1 ≠ (TX9 b).2.1 := by decide +kernel
theorem tyX9_ok : ∀ k, k < 2 → parseFieldDescriptor (TX9 k).2.2.1 = some (tyX9 k) := by decide +kernel
abbrev cX9_init : ByteArray := prog_11_method_1_code
def yX9_init : MethodName := ⟨RX9, "<init>", "()V"⟩
abbrev cX9_begins : ByteArray := prog_11_method_2_code
def yX9_begins : MethodName := ⟨RX9, "begins", "(I)V"⟩
def RX10 : String := "LiftCredit$Widow"
def TX10 : u_T := fun k => match k with
  | 0 => ("LiftCredit$Rider", "kind", "I", true)
  | 1 => ("LiftCredit$Rider", "m", "I", true)
  | _ => ("LiftCredit$Rider", "number", "I", true)
def tyX10 : Nat → FieldType := fun k => match k with
  | 0 => .int
  | 1 => .int
  | _ => .int
theorem nmX10 : ∀ a, a < 3 → ∀ b, b < 3 → a ≠ b → (TX10 a).2.1 ≠ (TX10 b).2.1 := by decide +kernel
theorem tyX10_ok : ∀ k, k < 3 → parseFieldDescriptor (TX10 k).2.2.1 = some (tyX10 k) := by decide +kernel
abbrev cX10_init : ByteArray := prog_12_method_1_code
def yX10_init : MethodName := ⟨RX10, "<init>", "(III)V"⟩
abbrev cX10_credit : ByteArray := prog_12_method_2_code
def yX10_credit : MethodName := ⟨RX10, "credit", "(IIII)I"⟩
abbrev cX10_doubts : ByteArray := prog_12_method_3_code
def yX10_doubts : MethodName := ⟨RX10, "doubts", "(LLiftCredit$Trace;I)I"⟩
def RX11 : String := "LiftCredit"
def TX11 : u_T := fun k => match k with
  | 0 => ("LiftCredit", "lift", "LLiftCredit$Lift;", true)
  | 1 => ("LiftCredit", "kept", "LLiftCredit$Lift;", false)
  | 2 => ("LiftCredit", "images", "I", false)
  | 3 => ("LiftCredit", "sheets", "[LLiftCredit$Sheet;", true)
  | 4 => ("LiftCredit", "trace", "LLiftCredit$Trace;", true)
  | _ => ("LiftCredit", "errors", "[I", true)
def tyX11 : Nat → FieldType := fun k => match k with
  | 0 => .object "LiftCredit$Lift"
  | 1 => .object "LiftCredit$Lift"
  | 2 => .int
  | 3 => .array (.object "LiftCredit$Sheet")
  | 4 => .object "LiftCredit$Trace"
  | _ => .array .int
theorem nmX11 : ∀ a, a < 6 → ∀ b, b < 6 → a ≠ b → (TX11 a).2.1 ≠ (TX11 b).2.1 := by decide +kernel
theorem tyX11_ok : ∀ k, k < 6 → parseFieldDescriptor (TX11 k).2.2.1 = some (tyX11 k) := by decide +kernel
abbrev cX11_init : ByteArray := prog_1_method_1_code
def yX11_init : MethodName := ⟨RX11, "<init>", "()V"⟩
abbrev cX11_hear : ByteArray := prog_1_method_2_code
def yX11_hear : MethodName := ⟨RX11, "hear", "(II)I"⟩
abbrev cX11_heard : ByteArray := prog_1_method_3_code
def yX11_heard : MethodName := ⟨RX11, "heard", "()I"⟩
abbrev cX11_world : ByteArray := prog_1_method_4_code
def yX11_world : MethodName := ⟨RX11, "world", "(I)I"⟩
abbrev cX11_trust : ByteArray := prog_1_method_5_code
def yX11_trust : MethodName := ⟨RX11, "trust", "(I)I"⟩
abbrev cX11_rider : ByteArray := prog_1_method_6_code
def yX11_rider : MethodName := ⟨RX11, "rider", "(I)I"⟩
abbrev cX11_ofRider : ByteArray := prog_1_method_7_code
def yX11_ofRider : MethodName := ⟨RX11, "ofRider", "(II)I"⟩
abbrev cX11_story : ByteArray := prog_1_method_8_code
def yX11_story : MethodName := ⟨RX11, "story", "(II)I"⟩
abbrev cX11_say : ByteArray := prog_1_method_9_code
def yX11_say : MethodName := ⟨RX11, "say", "(III)I"⟩
abbrev cX11_become : ByteArray := prog_1_method_10_code
def yX11_become : MethodName := ⟨RX11, "become", "(II)I"⟩
abbrev cX11_as : ByteArray := prog_1_method_11_code
def yX11_as : MethodName := ⟨RX11, "as", "(II)I"⟩
abbrev cX11_feed : ByteArray := prog_1_method_12_code
def yX11_feed : MethodName := ⟨RX11, "feed", "(JI)I"⟩
abbrev cX11_text : ByteArray := prog_1_method_13_code
def yX11_text : MethodName := ⟨RX11, "text", "(I)I"⟩
abbrev cX11_law : ByteArray := prog_1_method_14_code
def yX11_law : MethodName := ⟨RX11, "law", "(IIII)I"⟩
abbrev cX11_ride : ByteArray := prog_1_method_15_code
def yX11_ride : MethodName := ⟨RX11, "ride", "(I)I"⟩
abbrev cX11_days : ByteArray := prog_1_method_16_code
def yX11_days : MethodName := ⟨RX11, "days", "(I)I"⟩
abbrev cX11_rumours : ByteArray := prog_1_method_17_code
def yX11_rumours : MethodName := ⟨RX11, "rumours", "(I)I"⟩
abbrev cX11_together : ByteArray := prog_1_method_18_code
def yX11_together : MethodName := ⟨RX11, "together", "(I)I"⟩
abbrev cX11_bestWith : ByteArray := prog_1_method_19_code
def yX11_bestWith : MethodName := ⟨RX11, "bestWith", "(II)I"⟩
abbrev cX11_shortest : ByteArray := prog_1_method_20_code
def yX11_shortest : MethodName := ⟨RX11, "shortest", "(II)I"⟩
abbrev cX11_truest : ByteArray := prog_1_method_21_code
def yX11_truest : MethodName := ⟨RX11, "truest", "(II)I"⟩
abbrev cX11_out : ByteArray := prog_1_method_22_code
def yX11_out : MethodName := ⟨RX11, "out", "(II)I"⟩
abbrev cX11_when : ByteArray := prog_1_method_23_code
def yX11_when : MethodName := ⟨RX11, "when", "(II)I"⟩
abbrev cX11_still : ByteArray := prog_1_method_24_code
def yX11_still : MethodName := ⟨RX11, "still", "()I"⟩
abbrev cX11_then : ByteArray := prog_1_method_25_code
def yX11_then : MethodName := ⟨RX11, "then", "(I)I"⟩
abbrev cX11_believed : ByteArray := prog_1_method_26_code
def yX11_believed : MethodName := ⟨RX11, "believed", "(II)I"⟩
abbrev cX11_word : ByteArray := prog_1_method_27_code
def yX11_word : MethodName := ⟨RX11, "word", "(III)I"⟩
abbrev cX11_seed : ByteArray := prog_1_method_28_code
def yX11_seed : MethodName := ⟨RX11, "seed", "(I)I"⟩
abbrev cX11_voice : ByteArray := prog_1_method_29_code
def yX11_voice : MethodName := ⟨RX11, "voice", "(III)I"⟩
abbrev cX11_trace : ByteArray := prog_1_method_30_code
def yX11_trace : MethodName := ⟨RX11, "trace", "(I)I"⟩
abbrev cX11_sheet : ByteArray := prog_1_method_31_code
def yX11_sheet : MethodName := ⟨RX11, "sheet", "(III)I"⟩
abbrev cX11_put : ByteArray := prog_1_method_32_code
def yX11_put : MethodName := ⟨RX11, "put", "(III)I"⟩
abbrev cX11_move : ByteArray := prog_1_method_33_code
def yX11_move : MethodName := ⟨RX11, "move", "(IIIII)I"⟩
abbrev cX11_stories : ByteArray := prog_1_method_34_code
def yX11_stories : MethodName := ⟨RX11, "stories", "(I)I"⟩
abbrev cX11_judge : ByteArray := prog_1_method_35_code
def yX11_judge : MethodName := ⟨RX11, "judge", "(I)I"⟩
abbrev cX11_image : ByteArray := prog_1_method_36_code
def yX11_image : MethodName := ⟨RX11, "image", "()I"⟩
abbrev cX11_restore : ByteArray := prog_1_method_37_code
def yX11_restore : MethodName := ⟨RX11, "restore", "()I"⟩
abbrev cX11_tell : ByteArray := prog_1_method_38_code
def yX11_tell : MethodName := ⟨RX11, "tell", "(I)I"⟩
abbrev cX11_check : ByteArray := prog_1_method_39_code
def yX11_check : MethodName := ⟨RX11, "check", "()I"⟩
abbrev cX11_count : ByteArray := prog_1_method_40_code
def yX11_count : MethodName := ⟨RX11, "count", "(I)I"⟩
abbrev cX11_told : ByteArray := prog_1_method_41_code
def yX11_told : MethodName := ⟨RX11, "told", "(I)I"⟩
abbrev cX11_error : ByteArray := prog_1_method_42_code
def yX11_error : MethodName := ⟨RX11, "error", "(I)I"⟩
abbrev cX11_isRider : ByteArray := prog_1_method_43_code
def yX11_isRider : MethodName := ⟨RX11, "isRider", "(I)Z"⟩
abbrev cX11_isFact : ByteArray := prog_1_method_44_code
def yX11_isFact : MethodName := ⟨RX11, "isFact", "(I)Z"⟩
abbrev cX11_isSaying : ByteArray := prog_1_method_45_code
def yX11_isSaying : MethodName := ⟨RX11, "isSaying", "(I)Z"⟩
abbrev cX11_isStory : ByteArray := prog_1_method_46_code
def yX11_isStory : MethodName := ⟨RX11, "isStory", "(I)Z"⟩
abbrev cX11_isKindWithNumber : ByteArray := prog_1_method_47_code
def yX11_isKindWithNumber : MethodName := ⟨RX11, "isKindWithNumber", "(I)Z"⟩
abbrev cX11_isUse : ByteArray := prog_1_method_48_code
def yX11_isUse : MethodName := ⟨RX11, "isUse", "(I)Z"⟩
abbrev cX11_isGoal : ByteArray := prog_1_method_49_code
def yX11_isGoal : MethodName := ⟨RX11, "isGoal", "(I)Z"⟩
abbrev cX11_isSheet : ByteArray := prog_1_method_50_code
def yX11_isSheet : MethodName := ⟨RX11, "isSheet", "(I)Z"⟩
abbrev cX11_tellsFloors : ByteArray := prog_1_method_51_code
def yX11_tellsFloors : MethodName := ⟨RX11, "tellsFloors", "(LLiftCredit$Sheet;)Z"⟩
abbrev cX11_shortestOf : ByteArray := prog_1_method_52_code
def yX11_shortestOf : MethodName := ⟨RX11, "shortestOf", "(III)I"⟩
abbrev cX11_bestWord : ByteArray := prog_1_method_53_code
def yX11_bestWord : MethodName := ⟨RX11, "bestWord", "(IIII)I"⟩
abbrev cX11_unlikeFloors : ByteArray := prog_1_method_54_code
def yX11_unlikeFloors : MethodName := ⟨RX11, "unlikeFloors", "(IIII)I"⟩
abbrev cX11_sayingOf : ByteArray := prog_1_method_55_code
def yX11_sayingOf : MethodName := ⟨RX11, "sayingOf", "(II)I"⟩
abbrev cX11_withSaying : ByteArray := prog_1_method_56_code
def yX11_withSaying : MethodName := ⟨RX11, "withSaying", "(III)I"⟩
abbrev cX11_numberOf : ByteArray := prog_1_method_57_code
def yX11_numberOf : MethodName := ⟨RX11, "numberOf", "(I)I"⟩
abbrev cX11_sayingsOf : ByteArray := prog_1_method_58_code
def yX11_sayingsOf : MethodName := ⟨RX11, "sayingsOf", "(I)I"⟩
abbrev cX11_next : ByteArray := prog_1_method_59_code
def yX11_next : MethodName := ⟨RX11, "next", "(I)I"⟩
abbrev cX11_bothWays : ByteArray := prog_1_method_60_code
def yX11_bothWays : MethodName := ⟨RX11, "bothWays", "(I)I"⟩
abbrev cX11_factsOf : ByteArray := prog_1_method_61_code
def yX11_factsOf : MethodName := ⟨RX11, "factsOf", "(I)I"⟩
abbrev cX11_turned : ByteArray := prog_1_method_62_code
def yX11_turned : MethodName := ⟨RX11, "turned", "(I)I"⟩
abbrev cX11_truth : ByteArray := prog_1_method_63_code
def yX11_truth : MethodName := ⟨RX11, "truth", "(I)I"⟩
abbrev cX11_isWithin : ByteArray := prog_1_method_64_code
def yX11_isWithin : MethodName := ⟨RX11, "isWithin", "(II)Z"⟩
abbrev cX11_asHeard : ByteArray := prog_1_method_65_code
def yX11_asHeard : MethodName := ⟨RX11, "asHeard", "(II)I"⟩
abbrev cX11_otherWay : ByteArray := prog_1_method_66_code
def yX11_otherWay : MethodName := ⟨RX11, "otherWay", "(II)I"⟩
abbrev cX11_unheard : ByteArray := prog_1_method_67_code
def yX11_unheard : MethodName := ⟨RX11, "unheard", "(II)I"⟩
abbrev cX11_placeOf : ByteArray := prog_1_method_68_code
def yX11_placeOf : MethodName := ⟨RX11, "placeOf", "(III)I"⟩
abbrev cX11_held : ByteArray := prog_1_method_69_code
def yX11_held : MethodName := ⟨RX11, "held", "(III)I"⟩
abbrev cX11_riderOf : ByteArray := prog_1_method_70_code
def yX11_riderOf : MethodName := ⟨RX11, "riderOf", "(II)LLiftCredit$Rider;"⟩
abbrev cX11_isOfKind : ByteArray := prog_1_method_71_code
def yX11_isOfKind : MethodName := ⟨RX11, "isOfKind", "(LLiftCredit$Rider;I)Z"⟩
def RX12 : String := "LiftCreditModel"
def TX12 : u_T := fun k => match k with
  | 0 => ("LiftCreditModel", "row", "[I", true)
  | 1 => ("LiftCreditModel", "kept", "[I", true)
  | 2 => ("LiftCreditModel", "tried", "[I", true)
  | 3 => ("LiftCreditModel", "before", "[I", true)
  | 4 => ("LiftCreditModel", "power", "[I", true)
  | 5 => ("LiftCreditModel", "isKept", "Z", false)
  | 6 => ("LiftCreditModel", "images", "I", false)
  | 7 => ("LiftCreditModel", "found", "[I", true)
  | 8 => ("LiftCreditModel", "as", "I", false)
  | 9 => ("LiftCreditModel", "other", "I", false)
  | 10 => ("LiftCreditModel", "fresh", "I", false)
  | 11 => ("LiftCreditModel", "use", "I", false)
  | 12 => ("LiftCreditModel", "at", "I", false)
  | 13 => ("LiftCreditModel", "end", "I", false)
  | 14 => ("LiftCreditModel", "open", "I", false)
  | 15 => ("LiftCreditModel", "namedA", "I", false)
  | 16 => ("LiftCreditModel", "namedB", "I", false)
  | 17 => ("LiftCreditModel", "namedC", "I", false)
  | 18 => ("LiftCreditModel", "good", "Z", false)
  | 19 => ("LiftCreditModel", "bitsOf", "[I", true)
  | 20 => ("LiftCreditModel", "sizeOf", "[I", true)
  | 21 => ("LiftCreditModel", "sheets", "[I", true)
  | 22 => ("LiftCreditModel", "moved", "[I", true)
  | 23 => ("LiftCreditModel", "floors", "[I", true)
  | 24 => ("LiftCreditModel", "traced", "[I", true)
  | 25 => ("LiftCreditModel", "tracedMany", "I", false)
  | 26 => ("LiftCreditModel", "voiceKind", "I", false)
  | 27 => ("LiftCreditModel", "voiceN", "I", false)
  | _ => ("LiftCreditModel", "voiceM", "I", false)
def tyX12 : Nat → FieldType := fun k => match k with
  | 0 => .array .int
  | 1 => .array .int
  | 2 => .array .int
  | 3 => .array .int
  | 4 => .array .int
  | 5 => .boolean
  | 6 => .int
  | 7 => .array .int
  | 8 => .int
  | 9 => .int
  | 10 => .int
  | 11 => .int
  | 12 => .int
  | 13 => .int
  | 14 => .int
  | 15 => .int
  | 16 => .int
  | 17 => .int
  | 18 => .boolean
  | 19 => .array .int
  | 20 => .array .int
  | 21 => .array .int
  | 22 => .array .int
  | 23 => .array .int
  | 24 => .array .int
  | 25 => .int
  | 26 => .int
  | 27 => .int
  | _ => .int
theorem nmX12 : ∀ a, a < 29 → ∀ b, b < 29 → a ≠ b → (TX12 a).2.1 ≠ (TX12 b).2.1 := by decide +kernel
theorem tyX12_ok : ∀ k, k < 29 → parseFieldDescriptor (TX12 k).2.2.1 = some (tyX12 k) := by decide +kernel
abbrev cX12_init : ByteArray := prog_14_method_1_code
def yX12_init : MethodName := ⟨RX12, "<init>", "()V"⟩
abbrev cX12_in : ByteArray := prog_14_method_2_code
def yX12_in : MethodName := ⟨RX12, "in", "(III)Z"⟩
abbrev cX12_errs : ByteArray := prog_14_method_3_code
def yX12_errs : MethodName := ⟨RX12, "errs", "(I)I"⟩
abbrev cX12_held : ByteArray := prog_14_method_4_code
def yX12_held : MethodName := ⟨RX12, "held", "(III)I"⟩
abbrev cX12_moveAll : ByteArray := prog_14_method_5_code
def yX12_moveAll : MethodName := ⟨RX12, "moveAll", "([I[I)V"⟩
abbrev cX12_isFact : ByteArray := prog_14_method_6_code
def yX12_isFact : MethodName := ⟨RX12, "isFact", "(I)Z"⟩
abbrev cX12_hear : ByteArray := prog_14_method_7_code
def yX12_hear : MethodName := ⟨RX12, "hear", "(II)I"⟩
abbrev cX12_heardAll : ByteArray := prog_14_method_8_code
def yX12_heardAll : MethodName := ⟨RX12, "heardAll", "()I"⟩
abbrev cX12_heard : ByteArray := prog_14_method_9_code
def yX12_heard : MethodName := ⟨RX12, "heard", "()I"⟩
abbrev cX12_hearsAll : ByteArray := prog_14_method_10_code
def yX12_hearsAll : MethodName := ⟨RX12, "hearsAll", "(I)V"⟩
abbrev cX12_world : ByteArray := prog_14_method_11_code
def yX12_world : MethodName := ⟨RX12, "world", "(I)I"⟩
abbrev cX12_trust : ByteArray := prog_14_method_12_code
def yX12_trust : MethodName := ⟨RX12, "trust", "(I)I"⟩
abbrev cX12_its : ByteArray := prog_14_method_13_code
def yX12_its : MethodName := ⟨RX12, "its", "(II)I"⟩
abbrev cX12_isRider : ByteArray := prog_14_method_14_code
def yX12_isRider : MethodName := ⟨RX12, "isRider", "(I)Z"⟩
abbrev cX12_rider : ByteArray := prog_14_method_15_code
def yX12_rider : MethodName := ⟨RX12, "rider", "(I)I"⟩
abbrev cX12_saying : ByteArray := prog_14_method_16_code
def yX12_saying : MethodName := ⟨RX12, "saying", "(II)I"⟩
abbrev cX12_weigh : ByteArray := prog_14_method_17_code
def yX12_weigh : MethodName := ⟨RX12, "weigh", "(I)V"⟩
abbrev cX12_creditOf : ByteArray := prog_14_method_18_code
def yX12_creditOf : MethodName := ⟨RX12, "creditOf", "(II)I"⟩
abbrev cX12_floorBy : ByteArray := prog_14_method_19_code
def yX12_floorBy : MethodName := ⟨RX12, "floorBy", "(II)I"⟩
abbrev cX12_floorOf : ByteArray := prog_14_method_20_code
def yX12_floorOf : MethodName := ⟨RX12, "floorOf", "(I)I"⟩
abbrev cX12_worldStory : ByteArray := prog_14_method_21_code
def yX12_worldStory : MethodName := ⟨RX12, "worldStory", "()I"⟩
abbrev cX12_isTrue : ByteArray := prog_14_method_22_code
def yX12_isTrue : MethodName := ⟨RX12, "isTrue", "(II)Z"⟩
abbrev cX12_ofRider : ByteArray := prog_14_method_23_code
def yX12_ofRider : MethodName := ⟨RX12, "ofRider", "(II)I"⟩
abbrev cX12_story : ByteArray := prog_14_method_24_code
def yX12_story : MethodName := ⟨RX12, "story", "(II)I"⟩
abbrev cX12_say : ByteArray := prog_14_method_25_code
def yX12_say : MethodName := ⟨RX12, "say", "(III)I"⟩
abbrev cX12_become : ByteArray := prog_14_method_26_code
def yX12_become : MethodName := ⟨RX12, "become", "(II)I"⟩
abbrev cX12_above : ByteArray := prog_14_method_27_code
def yX12_above : MethodName := ⟨RX12, "above", "(I)I"⟩
abbrev cX12_as : ByteArray := prog_14_method_28_code
def yX12_as : MethodName := ⟨RX12, "as", "(II)I"⟩
abbrev cX12_byteAt : ByteArray := prog_14_method_29_code
def yX12_byteAt : MethodName := ⟨RX12, "byteAt", "(I)I"⟩
abbrev cX12_isDigit : ByteArray := prog_14_method_30_code
def yX12_isDigit : MethodName := ⟨RX12, "isDigit", "(I)Z"⟩
abbrev cX12_fails : ByteArray := prog_14_method_31_code
def yX12_fails : MethodName := ⟨RX12, "fails", "()I"⟩
abbrev cX12_number : ByteArray := prog_14_method_32_code
def yX12_number : MethodName := ⟨RX12, "number", "()I"⟩
abbrev cX12_named : ByteArray := prog_14_method_33_code
def yX12_named : MethodName := ⟨RX12, "named", "(I)I"⟩
abbrev cX12_factor : ByteArray := prog_14_method_34_code
def yX12_factor : MethodName := ⟨RX12, "factor", "()I"⟩
abbrev cX12_product : ByteArray := prog_14_method_35_code
def yX12_product : MethodName := ⟨RX12, "product", "()I"⟩
abbrev cX12_sum : ByteArray := prog_14_method_36_code
def yX12_sum : MethodName := ⟨RX12, "sum", "()I"⟩
abbrev cX12_compared : ByteArray := prog_14_method_37_code
def yX12_compared : MethodName := ⟨RX12, "compared", "()I"⟩
abbrev cX12_both : ByteArray := prog_14_method_38_code
def yX12_both : MethodName := ⟨RX12, "both", "()I"⟩
abbrev cX12_whole : ByteArray := prog_14_method_39_code
def yX12_whole : MethodName := ⟨RX12, "whole", "()I"⟩
abbrev cX12_walks : ByteArray := prog_14_method_40_code
def yX12_walks : MethodName := ⟨RX12, "walks", "(IIII)I"⟩
abbrev cX12_lawOf : ByteArray := prog_14_method_41_code
def yX12_lawOf : MethodName := ⟨RX12, "lawOf", "(IIII)I"⟩
abbrev cX12_law : ByteArray := prog_14_method_42_code
def yX12_law : MethodName := ⟨RX12, "law", "(IIII)I"⟩
abbrev cX12_feed : ByteArray := prog_14_method_43_code
def yX12_feed : MethodName := ⟨RX12, "feed", "(JI)I"⟩
abbrev cX12_text : ByteArray := prog_14_method_44_code
def yX12_text : MethodName := ⟨RX12, "text", "(I)I"⟩
abbrev cX12_rides : ByteArray := prog_14_method_45_code
def yX12_rides : MethodName := ⟨RX12, "rides", "(I)I"⟩
abbrev cX12_ride : ByteArray := prog_14_method_46_code
def yX12_ride : MethodName := ⟨RX12, "ride", "(I)I"⟩
abbrev cX12_oneDay : ByteArray := prog_14_method_47_code
def yX12_oneDay : MethodName := ⟨RX12, "oneDay", "()V"⟩
abbrev cX12_days : ByteArray := prog_14_method_48_code
def yX12_days : MethodName := ⟨RX12, "days", "(I)I"⟩
abbrev cX12_drawn : ByteArray := prog_14_method_49_code
def yX12_drawn : MethodName := ⟨RX12, "drawn", "(I)I"⟩
abbrev cX12_rumours : ByteArray := prog_14_method_50_code
def yX12_rumours : MethodName := ⟨RX12, "rumours", "(I)I"⟩
abbrev cX12_bits : ByteArray := prog_14_method_51_code
def yX12_bits : MethodName := ⟨RX12, "bits", "(I)I"⟩
abbrev cX12_floorTogether : ByteArray := prog_14_method_52_code
def yX12_floorTogether : MethodName := ⟨RX12, "floorTogether", "(I)I"⟩
abbrev cX12_together : ByteArray := prog_14_method_53_code
def yX12_together : MethodName := ⟨RX12, "together", "(I)I"⟩
abbrev cX12_bestWith : ByteArray := prog_14_method_54_code
def yX12_bestWith : MethodName := ⟨RX12, "bestWith", "(II)I"⟩
abbrev cX12_longOf : ByteArray := prog_14_method_55_code
def yX12_longOf : MethodName := ⟨RX12, "longOf", "(I)I"⟩
abbrev cX12_shortestTo : ByteArray := prog_14_method_56_code
def yX12_shortestTo : MethodName := ⟨RX12, "shortestTo", "(IIZ)I"⟩
abbrev cX12_isFloor : ByteArray := prog_14_method_57_code
def yX12_isFloor : MethodName := ⟨RX12, "isFloor", "(I)Z"⟩
abbrev cX12_shortest : ByteArray := prog_14_method_58_code
def yX12_shortest : MethodName := ⟨RX12, "shortest", "(II)I"⟩
abbrev cX12_truest : ByteArray := prog_14_method_59_code
def yX12_truest : MethodName := ⟨RX12, "truest", "(II)I"⟩
abbrev cX12_out : ByteArray := prog_14_method_60_code
def yX12_out : MethodName := ⟨RX12, "out", "(II)I"⟩
abbrev cX12_when : ByteArray := prog_14_method_61_code
def yX12_when : MethodName := ⟨RX12, "when", "(II)I"⟩
abbrev cX12_still : ByteArray := prog_14_method_62_code
def yX12_still : MethodName := ⟨RX12, "still", "()I"⟩
abbrev cX12_then : ByteArray := prog_14_method_63_code
def yX12_then : MethodName := ⟨RX12, "then", "(I)I"⟩
abbrev cX12_isSheet : ByteArray := prog_14_method_64_code
def yX12_isSheet : MethodName := ⟨RX12, "isSheet", "(I)Z"⟩
abbrev cX12_areSo : ByteArray := prog_14_method_65_code
def yX12_areSo : MethodName := ⟨RX12, "areSo", "(I)Z"⟩
abbrev cX12_believed : ByteArray := prog_14_method_66_code
def yX12_believed : MethodName := ⟨RX12, "believed", "(II)I"⟩
abbrev cX12_word : ByteArray := prog_14_method_67_code
def yX12_word : MethodName := ⟨RX12, "word", "(III)I"⟩
abbrev cX12_seed : ByteArray := prog_14_method_68_code
def yX12_seed : MethodName := ⟨RX12, "seed", "(I)I"⟩
abbrev cX12_ran : ByteArray := prog_14_method_69_code
def yX12_ran : MethodName := ⟨RX12, "ran", "(I)V"⟩
abbrev cX12_saysIn : ByteArray := prog_14_method_70_code
def yX12_saysIn : MethodName := ⟨RX12, "saysIn", "(II)I"⟩
abbrev cX12_doubtsIn : ByteArray := prog_14_method_71_code
def yX12_doubtsIn : MethodName := ⟨RX12, "doubtsIn", "(II)I"⟩
abbrev cX12_risesIn : ByteArray := prog_14_method_72_code
def yX12_risesIn : MethodName := ⟨RX12, "risesIn", "(II)I"⟩
abbrev cX12_tellsIn : ByteArray := prog_14_method_73_code
def yX12_tellsIn : MethodName := ⟨RX12, "tellsIn", "(II)I"⟩
abbrev cX12_voice : ByteArray := prog_14_method_74_code
def yX12_voice : MethodName := ⟨RX12, "voice", "(III)I"⟩
abbrev cX12_trace : ByteArray := prog_14_method_75_code
def yX12_trace : MethodName := ⟨RX12, "trace", "(I)I"⟩
abbrev cX12_narrow : ByteArray := prog_14_method_76_code
def yX12_narrow : MethodName := ⟨RX12, "narrow", "(II)I"⟩
abbrev cX12_sheet : ByteArray := prog_14_method_77_code
def yX12_sheet : MethodName := ⟨RX12, "sheet", "(III)I"⟩
abbrev cX12_put : ByteArray := prog_14_method_78_code
def yX12_put : MethodName := ⟨RX12, "put", "(III)I"⟩
abbrev cX12_move : ByteArray := prog_14_method_79_code
def yX12_move : MethodName := ⟨RX12, "move", "(IIIII)I"⟩
abbrev cX12_stories : ByteArray := prog_14_method_80_code
def yX12_stories : MethodName := ⟨RX12, "stories", "(I)I"⟩
abbrev cX12_judge : ByteArray := prog_14_method_81_code
def yX12_judge : MethodName := ⟨RX12, "judge", "(I)I"⟩
abbrev cX12_image : ByteArray := prog_14_method_82_code
def yX12_image : MethodName := ⟨RX12, "image", "()I"⟩
abbrev cX12_restore : ByteArray := prog_14_method_83_code
def yX12_restore : MethodName := ⟨RX12, "restore", "()I"⟩
abbrev cX12_tell : ByteArray := prog_14_method_84_code
def yX12_tell : MethodName := ⟨RX12, "tell", "(I)I"⟩
abbrev cX12_check : ByteArray := prog_14_method_85_code
def yX12_check : MethodName := ⟨RX12, "check", "()I"⟩
abbrev cX12_heardMany : ByteArray := prog_14_method_86_code
def yX12_heardMany : MethodName := ⟨RX12, "heardMany", "(Z)I"⟩
abbrev cX12_count : ByteArray := prog_14_method_87_code
def yX12_count : MethodName := ⟨RX12, "count", "(I)I"⟩
abbrev cX12_told : ByteArray := prog_14_method_88_code
def yX12_told : MethodName := ⟨RX12, "told", "(I)I"⟩
def RJx145de : String := "java/io/Serializable"
def TJx145de : u_T := fun k => match k with
  | _ => ("", "", "", false)
def tyJx145de : Nat → FieldType := fun k => match k with
  | _ => .int
theorem nmJx145de : ∀ a, a < 0 → ∀ b, b < 0 → a ≠ b → (TJx145de a).2.1 ≠ (TJx145de b).2.1 := by decide +kernel
theorem tyJx145de_ok : ∀ k, k < 0 → parseFieldDescriptor (TJx145de k).2.2.1 = some (tyJx145de k) := by decide +kernel
def RJx9f9b0 : String := "java/lang/CharSequence"
def TJx9f9b0 : u_T := fun k => match k with
  | _ => ("", "", "", false)
def tyJx9f9b0 : Nat → FieldType := fun k => match k with
  | _ => .int
theorem nmJx9f9b0 : ∀ a, a < 0 → ∀ b, b < 0 → a ≠ b → (TJx9f9b0 a).2.1 ≠ (TJx9f9b0 b).2.1 := by decide +kernel
theorem tyJx9f9b0_ok : ∀ k, k < 0 → parseFieldDescriptor (TJx9f9b0 k).2.2.1 = some (tyJx9f9b0 k) := by decide +kernel
def RJ11 : String := "java/lang/Character"
def TJ11 : u_T := fun k => match k with
  | _ => ("", "", "", false)
def tyJ11 : Nat → FieldType := fun k => match k with
  | _ => .int
theorem nmJ11 : ∀ a, a < 0 → ∀ b, b < 0 → a ≠ b → (TJ11 a).2.1 ≠ (TJ11 b).2.1 := by decide +kernel
theorem tyJ11_ok : ∀ k, k < 0 → parseFieldDescriptor (TJ11 k).2.2.1 = some (tyJ11 k) := by decide +kernel
abbrev cJ11_isValidCodePoint_9a6ad : ByteArray := prog_15_method_11_code
def yJ11_isValidCodePoint_9a6ad : MethodName := ⟨RJ11, "isValidCodePoint", "(I)Z"⟩
abbrev cJ11_highSurrogate_5068e : ByteArray := prog_15_method_28_code
def yJ11_highSurrogate_5068e : MethodName := ⟨RJ11, "highSurrogate", "(I)C"⟩
abbrev cJ11_lowSurrogate_5068e : ByteArray := prog_15_method_29_code
def yJ11_lowSurrogate_5068e : MethodName := ⟨RJ11, "lowSurrogate", "(I)C"⟩
def RJxb160c : String := "java/lang/Comparable"
def TJxb160c : u_T := fun k => match k with
  | _ => ("", "", "", false)
def tyJxb160c : Nat → FieldType := fun k => match k with
  | _ => .int
theorem nmJxb160c : ∀ a, a < 0 → ∀ b, b < 0 → a ≠ b → (TJxb160c a).2.1 ≠ (TJxb160c b).2.1 := by decide +kernel
theorem tyJxb160c_ok : ∀ k, k < 0 → parseFieldDescriptor (TJxb160c k).2.2.1 = some (tyJxb160c k) := by decide +kernel
def RJ6 : String := "java/lang/Integer"
def TJ6 : u_T := fun k => match k with
  | _ => ("", "", "", false)
def tyJ6 : Nat → FieldType := fun k => match k with
  | _ => .int
theorem nmJ6 : ∀ a, a < 0 → ∀ b, b < 0 → a ≠ b → (TJ6 a).2.1 ≠ (TJ6 b).2.1 := by decide +kernel
theorem tyJ6_ok : ∀ k, k < 0 → parseFieldDescriptor (TJ6 k).2.2.1 = some (tyJ6 k) := by decide +kernel
abbrev cJ6_bitCount_0f7a4 : ByteArray := prog_16_method_49_code
def yJ6_bitCount_0f7a4 : MethodName := ⟨RJ6, "bitCount", "(I)I"⟩
def RJ9 : String := "java/lang/Math"
def TJ9 : u_T := fun k => match k with
  | _ => ("", "", "", false)
def tyJ9 : Nat → FieldType := fun k => match k with
  | _ => .int
theorem nmJ9 : ∀ a, a < 0 → ∀ b, b < 0 → a ≠ b → (TJ9 a).2.1 ≠ (TJ9 b).2.1 := by decide +kernel
theorem tyJ9_ok : ∀ k, k < 0 → parseFieldDescriptor (TJ9 k).2.2.1 = some (tyJ9 k) := by decide +kernel
abbrev cJ9_max_7cf53 : ByteArray := prog_17_method_65_code
def yJ9_max_7cf53 : MethodName := ⟨RJ9, "max", "(II)I"⟩
abbrev cJ9_min_7cf53 : ByteArray := prog_17_method_69_code
def yJ9_min_7cf53 : MethodName := ⟨RJ9, "min", "(II)I"⟩
def RJ0 : String := "java/lang/String"
def TJ0 : u_T := fun k => match k with
  | _ => ("", "", "", false)
def tyJ0 : Nat → FieldType := fun k => match k with
  | _ => .int
theorem nmJ0 : ∀ a, a < 0 → ∀ b, b < 0 → a ≠ b → (TJ0 a).2.1 ≠ (TJ0 b).2.1 := by decide +kernel
theorem tyJ0_ok : ∀ k, k < 0 → parseFieldDescriptor (TJ0 k).2.2.1 = some (tyJ0 k) := by decide +kernel
abbrev cJ0_length_8abf5 : ByteArray := prog_18_method_54_code
def yJ0_length_8abf5 : MethodName := ⟨RJ0, "length", "()I"⟩
abbrev cJ0_charAt_5068e : ByteArray := prog_18_method_56_code
def yJ0_charAt_5068e : MethodName := ⟨RJ0, "charAt", "(I)C"⟩
abbrev cJ0_indexOf_0f7a4 : ByteArray := prog_18_method_79_code
def yJ0_indexOf_0f7a4 : MethodName := ⟨RJ0, "indexOf", "(I)I"⟩
abbrev cJ0_indexOf_7cf53 : ByteArray := prog_18_method_80_code
def yJ0_indexOf_7cf53 : MethodName := ⟨RJ0, "indexOf", "(II)I"⟩
abbrev cJ0_coder_7d493 : ByteArray := prog_18_method_152_code
def yJ0_coder_7d493 : MethodName := ⟨RJ0, "coder", "()B"⟩
abbrev cJ0_isLatin1_aae02 : ByteArray := prog_18_method_154_code
def yJ0_isLatin1_aae02 : MethodName := ⟨RJ0, "isLatin1", "()Z"⟩
abbrev cJ0_checkIndex_df160 : ByteArray := prog_18_method_155_code
def yJ0_checkIndex_df160 : MethodName := ⟨RJ0, "checkIndex", "(II)V"⟩
abbrev cJ0_checkBoundsBeginEnd_23922 : ByteArray := prog_18_method_158_code
def yJ0_checkBoundsBeginEnd_23922 : MethodName := ⟨RJ0, "checkBoundsBeginEnd", "(III)V"⟩
def RJ1 : String := "java/lang/StringLatin1"
def TJ1 : u_T := fun k => match k with
  | _ => ("", "", "", false)
def tyJ1 : Nat → FieldType := fun k => match k with
  | _ => .int
theorem nmJ1 : ∀ a, a < 0 → ∀ b, b < 0 → a ≠ b → (TJ1 a).2.1 ≠ (TJ1 b).2.1 := by decide +kernel
theorem tyJ1_ok : ∀ k, k < 0 → parseFieldDescriptor (TJ1 k).2.2.1 = some (tyJ1 k) := by decide +kernel
abbrev cJ1_charAt_3b067 : ByteArray := prog_19_method_2_code
def yJ1_charAt_3b067 : MethodName := ⟨RJ1, "charAt", "([BI)C"⟩
abbrev cJ1_canEncode_9a6ad : ByteArray := prog_19_method_4_code
def yJ1_canEncode_9a6ad : MethodName := ⟨RJ1, "canEncode", "(I)Z"⟩
abbrev cJ1_indexOf_4cfef : ByteArray := prog_19_method_22_code
def yJ1_indexOf_4cfef : MethodName := ⟨RJ1, "indexOf", "([BIII)I"⟩
abbrev cJ1_indexOfChar_4cfef : ByteArray := prog_19_method_23_code
def yJ1_indexOfChar_4cfef : MethodName := ⟨RJ1, "indexOfChar", "([BIII)I"⟩
def RJ2 : String := "java/lang/StringUTF16"
def TJ2 : u_T := fun k => match k with
  | _ => ("", "", "", false)
def tyJ2 : Nat → FieldType := fun k => match k with
  | _ => .int
theorem nmJ2 : ∀ a, a < 0 → ∀ b, b < 0 → a ≠ b → (TJ2 a).2.1 ≠ (TJ2 b).2.1 := by decide +kernel
theorem tyJ2_ok : ∀ k, k < 0 → parseFieldDescriptor (TJ2 k).2.2.1 = some (tyJ2 k) := by decide +kernel
abbrev cJ2_getChar_3b067 : ByteArray := prog_20_method_5_code
def yJ2_getChar_3b067 : MethodName := ⟨RJ2, "getChar", "([BI)C"⟩
abbrev cJ2_length_9d52b : ByteArray := prog_20_method_6_code
def yJ2_length_9d52b : MethodName := ⟨RJ2, "length", "([B)I"⟩
abbrev cJ2_indexOf_4cfef : ByteArray := prog_20_method_40_code
def yJ2_indexOf_4cfef : MethodName := ⟨RJ2, "indexOf", "([BIII)I"⟩
abbrev cJ2_indexOfChar_4cfef : ByteArray := prog_20_method_47_code
def yJ2_indexOfChar_4cfef : MethodName := ⟨RJ2, "indexOfChar", "([BIII)I"⟩
abbrev cJ2_indexOfCharUnsafe_4cfef : ByteArray := prog_20_method_48_code
def yJ2_indexOfCharUnsafe_4cfef : MethodName := ⟨RJ2, "indexOfCharUnsafe", "([BIII)I"⟩
abbrev cJ2_indexOfSupplementary_4cfef : ByteArray := prog_20_method_49_code
def yJ2_indexOfSupplementary_4cfef : MethodName := ⟨RJ2, "indexOfSupplementary", "([BIII)I"⟩
abbrev cJ2_charAt_3b067 : ByteArray := prog_20_method_83_code
def yJ2_charAt_3b067 : MethodName := ⟨RJ2, "charAt", "([BI)C"⟩
abbrev cJ2_checkIndex_2214a : ByteArray := prog_20_method_91_code
def yJ2_checkIndex_2214a : MethodName := ⟨RJ2, "checkIndex", "(I[B)V"⟩
abbrev cJ2_checkBoundsBeginEnd_d044e : ByteArray := prog_20_method_93_code
def yJ2_checkBoundsBeginEnd_d044e : MethodName := ⟨RJ2, "checkBoundsBeginEnd", "(II[B)V"⟩
def RJ10 : String := "java/lang/System"
def TJ10 : u_T := fun k => match k with
  | _ => ("", "", "", false)
def tyJ10 : Nat → FieldType := fun k => match k with
  | _ => .int
theorem nmJ10 : ∀ a, a < 0 → ∀ b, b < 0 → a ≠ b → (TJ10 a).2.1 ≠ (TJ10 b).2.1 := by decide +kernel
theorem tyJ10_ok : ∀ k, k < 0 → parseFieldDescriptor (TJ10 k).2.2.1 = some (tyJ10 k) := by decide +kernel
def RJxfd54e : String := "java/lang/constant/Constable"
def TJxfd54e : u_T := fun k => match k with
  | _ => ("", "", "", false)
def tyJxfd54e : Nat → FieldType := fun k => match k with
  | _ => .int
theorem nmJxfd54e : ∀ a, a < 0 → ∀ b, b < 0 → a ≠ b → (TJxfd54e a).2.1 ≠ (TJxfd54e b).2.1 := by decide +kernel
theorem tyJxfd54e_ok : ∀ k, k < 0 → parseFieldDescriptor (TJxfd54e k).2.2.1 = some (tyJxfd54e k) := by decide +kernel
def RJx3cf43 : String := "java/lang/constant/ConstantDesc"
def TJx3cf43 : u_T := fun k => match k with
  | _ => ("", "", "", false)
def tyJx3cf43 : Nat → FieldType := fun k => match k with
  | _ => .int
theorem nmJx3cf43 : ∀ a, a < 0 → ∀ b, b < 0 → a ≠ b → (TJx3cf43 a).2.1 ≠ (TJx3cf43 b).2.1 := by decide +kernel
theorem tyJx3cf43_ok : ∀ k, k < 0 → parseFieldDescriptor (TJx3cf43 k).2.2.1 = some (tyJx3cf43 k) := by decide +kernel
def RJ7 : String := "java/util/Arrays"
def TJ7 : u_T := fun k => match k with
  | _ => ("", "", "", false)
def tyJ7 : Nat → FieldType := fun k => match k with
  | _ => .int
theorem nmJ7 : ∀ a, a < 0 → ∀ b, b < 0 → a ≠ b → (TJ7 a).2.1 ≠ (TJ7 b).2.1 := by decide +kernel
theorem tyJ7_ok : ∀ k, k < 0 → parseFieldDescriptor (TJ7 k).2.2.1 = some (tyJ7 k) := by decide +kernel
abbrev cJ7_fill_53178 : ByteArray := prog_22_method_103_code
def yJ7_fill_53178 : MethodName := ⟨RJ7, "fill", "([II)V"⟩
def RJ3 : String := "jdk/internal/util/Preconditions"
def TJ3 : u_T := fun k => match k with
  | _ => ("", "", "", false)
def tyJ3 : Nat → FieldType := fun k => match k with
  | _ => .int
theorem nmJ3 : ∀ a, a < 0 → ∀ b, b < 0 → a ≠ b → (TJ3 a).2.1 ≠ (TJ3 b).2.1 := by decide +kernel
theorem tyJ3_ok : ∀ k, k < 0 → parseFieldDescriptor (TJ3 k).2.2.1 = some (tyJ3 k) := by decide +kernel
abbrev cJ3_checkIndex_8e157 : ByteArray := prog_23_method_11_code
def yJ3_checkIndex_8e157 : MethodName := ⟨RJ3, "checkIndex", "(IILjava/util/function/BiFunction;)I"⟩
abbrev cJ3_checkFromToIndex_8c36e : ByteArray := prog_23_method_12_code
def yJ3_checkFromToIndex_8c36e : MethodName := ⟨RJ3, "checkFromToIndex", "(IIILjava/util/function/BiFunction;)I"⟩
def RL : String := "LiftCreditLaw"
abbrev cL_law : ByteArray := code
def yL_law : MethodName := ⟨RL, "law", "([I)Z"⟩
def wU : List Cond := lw_tbl.filter goodWord
theorem wU_in {w : Cond} (h : w ∈ lw_tbl) (g : goodWord w = true) : w ∈ wU := List.mem_filter.mpr ⟨h, g⟩
theorem wU_good {big : List Cond} (h : ∀ w ∈ wU, w ∈ big) : GoodIn big wU := fun w hw => ⟨h w hw, good_of_word (List.mem_filter.mp hw).2⟩
theorem tb0 {w : Cond} (h : w ∈ tables_1) : w ∈ lw_tbl := List.mem_append_right _ h
theorem tb1 {w : Cond} {j : Nat} (h : tables_1_1[j]? = some w) : w ∈ lw_tbl := tb0 (List.mem_append_left _ (List.mem_of_getElem? h))
theorem tb2 {w : Cond} {j : Nat} (h : tables_1_2[j]? = some w) : w ∈ lw_tbl := tb0 (List.mem_append_right _ (List.mem_append_left _ (List.mem_of_getElem? h)))
theorem tb3 {w : Cond} {j : Nat} (h : tables_1_3[j]? = some w) : w ∈ lw_tbl := tb0 (List.mem_append_right _ (List.mem_append_right _ (List.mem_append_left _ (List.mem_of_getElem? h))))
theorem tb4 {w : Cond} {j : Nat} (h : tables_1_4[j]? = some w) : w ∈ lw_tbl := tb0 (List.mem_append_right _ (List.mem_append_right _ (List.mem_append_right _ (List.mem_append_left _ (List.mem_of_getElem? h)))))
theorem tb5 {w : Cond} {j : Nat} (h : tables_1_5[j]? = some w) : w ∈ lw_tbl := tb0 (List.mem_append_right _ (List.mem_append_right _ (List.mem_append_right _ (List.mem_append_right _ (List.mem_append_left _ (List.mem_of_getElem? h))))))
theorem tb6 {w : Cond} {j : Nat} (h : tables_1_6[j]? = some w) : w ∈ lw_tbl := tb0 (List.mem_append_right _ (List.mem_append_right _ (List.mem_append_right _ (List.mem_append_right _ (List.mem_append_right _ (List.mem_of_getElem? h))))))
theorem tbs {w : Cond} {j : Nat} (h : (k2_sels lw_privs)[j]? = some w) : w ∈ lw_tbl := List.mem_append_left _ (List.mem_of_getElem? h)
theorem wd_1_0 : Cond.initialized RL ∈ wU := wU_in (tb1 (j := 0) (by decide +kernel)) (by decide +kernel)
theorem wd_1_1 : Cond.initialized RX11 ∈ wU := wU_in (tb1 (j := 1) (by decide +kernel)) (by decide +kernel)
theorem wd_1_2 : Cond.initialized RX4 ∈ wU := wU_in (tb1 (j := 2) (by decide +kernel)) (by decide +kernel)
theorem wd_1_3 : Cond.initialized RX2 ∈ wU := wU_in (tb1 (j := 3) (by decide +kernel)) (by decide +kernel)
theorem wd_1_4 : Cond.initialized "java/lang/String" ∈ wU := wU_in (tb1 (j := 4) (by decide +kernel)) (by decide +kernel)
theorem wd_1_5 : Cond.initialized "java/lang/Math" ∈ wU := wU_in (tb1 (j := 5) (by decide +kernel)) (by decide +kernel)
theorem wd_1_6 : Cond.initialized "java/lang/StringLatin1" ∈ wU := wU_in (tb1 (j := 6) (by decide +kernel)) (by decide +kernel)
theorem wd_1_7 : Cond.initialized "jdk/internal/util/Preconditions" ∈ wU := wU_in (tb1 (j := 7) (by decide +kernel)) (by decide +kernel)
theorem wd_1_8 : Cond.initialized "java/lang/StringUTF16" ∈ wU := wU_in (tb1 (j := 8) (by decide +kernel)) (by decide +kernel)
theorem wd_1_9 : Cond.initialized RX6 ∈ wU := wU_in (tb1 (j := 9) (by decide +kernel)) (by decide +kernel)
theorem wd_1_10 : Cond.initialized RX0 ∈ wU := wU_in (tb1 (j := 10) (by decide +kernel)) (by decide +kernel)
theorem wd_1_11 : Cond.initialized RX3 ∈ wU := wU_in (tb1 (j := 11) (by decide +kernel)) (by decide +kernel)
theorem wd_1_12 : Cond.initialized RX10 ∈ wU := wU_in (tb1 (j := 12) (by decide +kernel)) (by decide +kernel)
theorem wd_1_13 : Cond.initialized RX1 ∈ wU := wU_in (tb1 (j := 13) (by decide +kernel)) (by decide +kernel)
theorem wd_1_14 : Cond.initialized RX5 ∈ wU := wU_in (tb1 (j := 14) (by decide +kernel)) (by decide +kernel)
theorem wd_1_15 : Cond.initialized RX8 ∈ wU := wU_in (tb1 (j := 15) (by decide +kernel)) (by decide +kernel)
theorem wd_1_16 : Cond.initialized "java/lang/Character" ∈ wU := wU_in (tb1 (j := 16) (by decide +kernel)) (by decide +kernel)
theorem wd_1_17 : Cond.initialized RX9 ∈ wU := wU_in (tb1 (j := 17) (by decide +kernel)) (by decide +kernel)
theorem wd_1_18 : Cond.initialized RX7 ∈ wU := wU_in (tb1 (j := 18) (by decide +kernel)) (by decide +kernel)
theorem wd_1_19 : Cond.initialized RX12 ∈ wU := wU_in (tb1 (j := 19) (by decide +kernel)) (by decide +kernel)
theorem wd_1_20 : Cond.initialized "java/lang/Integer" ∈ wU := wU_in (tb1 (j := 20) (by decide +kernel)) (by decide +kernel)
theorem wd_1_21 : Cond.initialized "java/lang/System" ∈ wU := wU_in (tb1 (j := 21) (by decide +kernel)) (by decide +kernel)
theorem wd_1_22 : Cond.initialized "java/util/Arrays" ∈ wU := wU_in (tb1 (j := 22) (by decide +kernel)) (by decide +kernel)
theorem wd_1_23 : Cond.classLink RL 7 RX11 ∈ wU := wU_in (tb1 (j := 23) (by decide +kernel)) (by decide +kernel)
theorem wd_1_24 : Cond.instantiable RX11 6 ∈ wU := wU_in (tb1 (j := 24) (by decide +kernel)) (by decide +kernel)
theorem wd_1_25 : Cond.methodLink RL 9 yX11_init ∈ wU := wU_in (tb1 (j := 25) (by decide +kernel)) (by decide +kernel)
theorem wd_1_26 : Cond.instanceMethod yX11_init ∈ wU := wU_in (tb1 (j := 26) (by decide +kernel)) (by decide +kernel)
theorem wd_1_27 : Cond.code yX11_init cX11_init 2 none ∈ wU := wU_in (tb1 (j := 27) (by decide +kernel)) (by decide +kernel)
theorem wd_1_28 : Cond.methodLink RX11 1 (⟨"java/lang/Object", "<init>", "()V"⟩ : MethodName) ∈ wU := wU_in (tb1 (j := 28) (by decide +kernel)) (by decide +kernel)
theorem wd_1_29 : Cond.instanceMethod (⟨"java/lang/Object", "<init>", "()V"⟩ : MethodName) ∈ wU := wU_in (tb1 (j := 29) (by decide +kernel)) (by decide +kernel)
theorem wd_1_30 : Cond.code (⟨"java/lang/Object", "<init>", "()V"⟩ : MethodName) object_method_1_code 1 none ∈ wU := wU_in (tb1 (j := 30) (by decide +kernel)) (by decide +kernel)
theorem wd_1_31 : Cond.classLink RX11 7 RX4 ∈ wU := wU_in (tb1 (j := 31) (by decide +kernel)) (by decide +kernel)
theorem wd_1_32 : Cond.instantiable RX4 16 ∈ wU := wU_in (tb1 (j := 32) (by decide +kernel)) (by decide +kernel)
theorem wd_1_33 : Cond.methodLink RX11 9 yX4_init ∈ wU := wU_in (tb1 (j := 33) (by decide +kernel)) (by decide +kernel)
theorem wd_1_34 : Cond.instanceMethod yX4_init ∈ wU := wU_in (tb1 (j := 34) (by decide +kernel)) (by decide +kernel)
theorem wd_1_35 : Cond.code yX4_init cX4_init 2 none ∈ wU := wU_in (tb1 (j := 35) (by decide +kernel)) (by decide +kernel)
theorem wd_1_36 : Cond.methodLink RX4 3 (⟨"java/lang/Object", "<init>", "()V"⟩ : MethodName) ∈ wU := wU_in (tb1 (j := 36) (by decide +kernel)) (by decide +kernel)
theorem wd_1_37 : Cond.classLink RX4 33 RX6 ∈ wU := wU_in (tb1 (j := 37) (by decide +kernel)) (by decide +kernel)
theorem nd_1_38 : Cond.arrayOver (.object RX6) ∈ lw_tbl := tb1 (j := 38) (by decide +kernel)
theorem wd_1_39 : Cond.classLink RX4 56 RX2 ∈ wU := wU_in (tb1 (j := 39) (by decide +kernel)) (by decide +kernel)
theorem wd_1_40 : Cond.instantiable RX2 10 ∈ wU := wU_in (tb1 (j := 40) (by decide +kernel)) (by decide +kernel)
theorem nd_1_41 : Cond.stringRef RX4 58 "hcn" ∈ lw_tbl := tb1 (j := 41) (by decide +kernel)
theorem nd_1_42 : Cond.stringRef RX4 60 "h*2+n-c*4" ∈ lw_tbl := tb1 (j := 42) (by decide +kernel)
theorem wd_1_43 : Cond.methodLink RX4 62 yX2_init ∈ wU := wU_in (tb1 (j := 43) (by decide +kernel)) (by decide +kernel)
theorem wd_1_44 : Cond.instanceMethod yX2_init ∈ wU := wU_in (tb1 (j := 44) (by decide +kernel)) (by decide +kernel)
theorem wd_1_45 : Cond.code yX2_init cX2_init 4 none ∈ wU := wU_in (tb1 (j := 45) (by decide +kernel)) (by decide +kernel)
theorem wd_1_46 : Cond.methodLink RX2 3 (⟨"java/lang/Object", "<init>", "()V"⟩ : MethodName) ∈ wU := wU_in (tb1 (j := 46) (by decide +kernel)) (by decide +kernel)
theorem wd_1_47 : Cond.methodLink RX2 45 yJ0_length_8abf5 ∈ wU := wU_in (tb1 (j := 47) (by decide +kernel)) (by decide +kernel)
theorem wd_1_48 : Cond.instanceMethod yJ0_length_8abf5 ∈ wU := wU_in (tb1 (j := 48) (by decide +kernel)) (by decide +kernel)
theorem wd_1_49 : Cond.selects "java/lang/String" yJ0_length_8abf5 yJ0_length_8abf5 ∈ wU := wU_in (tb1 (j := 49) (by decide +kernel)) (by decide +kernel)
theorem wd_1_50 : Cond.code yJ0_length_8abf5 cJ0_length_8abf5 1 (some .int) ∈ wU := wU_in (tb1 (j := 50) (by decide +kernel)) (by decide +kernel)
theorem wd_1_51 : Cond.methodLink "java/lang/String" 335 yJ0_coder_7d493 ∈ wU := wU_in (tb1 (j := 51) (by decide +kernel)) (by decide +kernel)
theorem wd_1_52 : Cond.instanceMethod yJ0_coder_7d493 ∈ wU := wU_in (tb1 (j := 52) (by decide +kernel)) (by decide +kernel)
theorem wd_1_53 : Cond.selects "java/lang/String" yJ0_coder_7d493 yJ0_coder_7d493 ∈ wU := wU_in (tb1 (j := 53) (by decide +kernel)) (by decide +kernel)
theorem wd_1_54 : Cond.code yJ0_coder_7d493 cJ0_coder_7d493 1 (some .byte) ∈ wU := wU_in (tb1 (j := 54) (by decide +kernel)) (by decide +kernel)
theorem wd_1_55 : Cond.fieldLink "java/lang/String" 38 "java/lang/String" "COMPACT_STRINGS" "Z" ∈ wU := wU_in (tb1 (j := 55) (by decide +kernel)) (by decide +kernel)
theorem nd_1_56 : Cond.laysStatic "java/lang/String" "COMPACT_STRINGS" "Z" ∈ lw_tbl := tb1 (j := 56) (by decide +kernel)
theorem wd_1_57 : Cond.methodLink RX2 50 yJ9_min_7cf53 ∈ wU := wU_in (tb1 (j := 57) (by decide +kernel)) (by decide +kernel)
theorem wd_1_58 : Cond.static yJ9_min_7cf53 ∈ wU := wU_in (tb1 (j := 58) (by decide +kernel)) (by decide +kernel)
theorem wd_1_59 : Cond.code yJ9_min_7cf53 cJ9_min_7cf53 2 (some .int) ∈ wU := wU_in (tb1 (j := 59) (by decide +kernel)) (by decide +kernel)
theorem wd_1_60 : Cond.methodLink RX2 56 yJ0_charAt_5068e ∈ wU := wU_in (tb1 (j := 60) (by decide +kernel)) (by decide +kernel)
theorem wd_1_61 : Cond.instanceMethod yJ0_charAt_5068e ∈ wU := wU_in (tb1 (j := 61) (by decide +kernel)) (by decide +kernel)
theorem wd_1_62 : Cond.selects "java/lang/String" yJ0_charAt_5068e yJ0_charAt_5068e ∈ wU := wU_in (tb1 (j := 62) (by decide +kernel)) (by decide +kernel)
theorem wd_1_63 : Cond.code yJ0_charAt_5068e cJ0_charAt_5068e 2 (some .char) ∈ wU := wU_in (tb1 (j := 63) (by decide +kernel)) (by decide +kernel)
theorem wd_1_64 : Cond.methodLink "java/lang/String" 492 yJ0_isLatin1_aae02 ∈ wU := wU_in (tb1 (j := 64) (by decide +kernel)) (by decide +kernel)
theorem wd_1_65 : Cond.instanceMethod yJ0_isLatin1_aae02 ∈ wU := wU_in (tb1 (j := 65) (by decide +kernel)) (by decide +kernel)
theorem wd_1_66 : Cond.selects "java/lang/String" yJ0_isLatin1_aae02 yJ0_isLatin1_aae02 ∈ wU := wU_in (tb1 (j := 66) (by decide +kernel)) (by decide +kernel)
theorem wd_1_67 : Cond.code yJ0_isLatin1_aae02 cJ0_isLatin1_aae02 1 (some .boolean) ∈ wU := wU_in (tb1 (j := 67) (by decide +kernel)) (by decide +kernel)
theorem wd_1_68 : Cond.methodLink "java/lang/String" 495 yJ1_charAt_3b067 ∈ wU := wU_in (tb1 (j := 68) (by decide +kernel)) (by decide +kernel)
theorem wd_1_69 : Cond.static yJ1_charAt_3b067 ∈ wU := wU_in (tb1 (j := 69) (by decide +kernel)) (by decide +kernel)
theorem wd_1_70 : Cond.code yJ1_charAt_3b067 cJ1_charAt_3b067 2 (some .char) ∈ wU := wU_in (tb1 (j := 70) (by decide +kernel)) (by decide +kernel)
theorem wd_1_71 : Cond.methodLink "java/lang/StringLatin1" 9 yJ0_checkIndex_df160 ∈ wU := wU_in (tb1 (j := 71) (by decide +kernel)) (by decide +kernel)
theorem wd_1_72 : Cond.static yJ0_checkIndex_df160 ∈ wU := wU_in (tb1 (j := 72) (by decide +kernel)) (by decide +kernel)
theorem wd_1_73 : Cond.code yJ0_checkIndex_df160 cJ0_checkIndex_df160 2 none ∈ wU := wU_in (tb1 (j := 73) (by decide +kernel)) (by decide +kernel)
theorem wd_1_74 : Cond.fieldLink "java/lang/String" 1053 "jdk/internal/util/Preconditions" "SIOOBE_FORMATTER" "Ljava/util/function/BiFunction;" ∈ wU := wU_in (tb1 (j := 74) (by decide +kernel)) (by decide +kernel)
theorem nd_1_75 : Cond.laysStatic "jdk/internal/util/Preconditions" "SIOOBE_FORMATTER" "Ljava/util/function/BiFunction;" ∈ lw_tbl := tb1 (j := 75) (by decide +kernel)
theorem wd_1_76 : Cond.methodLink "java/lang/String" 1059 yJ3_checkIndex_8e157 ∈ wU := wU_in (tb1 (j := 76) (by decide +kernel)) (by decide +kernel)
theorem wd_1_77 : Cond.static yJ3_checkIndex_8e157 ∈ wU := wU_in (tb1 (j := 77) (by decide +kernel)) (by decide +kernel)
theorem wd_1_78 : Cond.code yJ3_checkIndex_8e157 cJ3_checkIndex_8e157 3 (some .int) ∈ wU := wU_in (tb1 (j := 78) (by decide +kernel)) (by decide +kernel)
theorem wd_1_79 : Cond.methodLink "java/lang/String" 498 yJ2_charAt_3b067 ∈ wU := wU_in (tb1 (j := 79) (by decide +kernel)) (by decide +kernel)
theorem wd_1_80 : Cond.static yJ2_charAt_3b067 ∈ wU := wU_in (tb1 (j := 80) (by decide +kernel)) (by decide +kernel)
theorem wd_1_81 : Cond.code yJ2_charAt_3b067 cJ2_charAt_3b067 2 (some .char) ∈ wU := wU_in (tb1 (j := 81) (by decide +kernel)) (by decide +kernel)
theorem wd_1_82 : Cond.methodLink "java/lang/StringUTF16" 67 yJ2_checkIndex_2214a ∈ wU := wU_in (tb1 (j := 82) (by decide +kernel)) (by decide +kernel)
theorem wd_1_83 : Cond.static yJ2_checkIndex_2214a ∈ wU := wU_in (tb1 (j := 83) (by decide +kernel)) (by decide +kernel)
theorem wd_1_84 : Cond.code yJ2_checkIndex_2214a cJ2_checkIndex_2214a 2 none ∈ wU := wU_in (tb1 (j := 84) (by decide +kernel)) (by decide +kernel)
theorem wd_1_85 : Cond.methodLink "java/lang/StringUTF16" 48 yJ2_length_9d52b ∈ wU := wU_in (tb1 (j := 85) (by decide +kernel)) (by decide +kernel)
theorem wd_1_86 : Cond.static yJ2_length_9d52b ∈ wU := wU_in (tb1 (j := 86) (by decide +kernel)) (by decide +kernel)
theorem wd_1_87 : Cond.code yJ2_length_9d52b cJ2_length_9d52b 1 (some .int) ∈ wU := wU_in (tb1 (j := 87) (by decide +kernel)) (by decide +kernel)
theorem wd_1_88 : Cond.methodLink "java/lang/StringUTF16" 414 yJ0_checkIndex_df160 ∈ wU := wU_in (tb1 (j := 88) (by decide +kernel)) (by decide +kernel)
theorem wd_1_89 : Cond.methodLink "java/lang/StringUTF16" 71 yJ2_getChar_3b067 ∈ wU := wU_in (tb1 (j := 89) (by decide +kernel)) (by decide +kernel)
theorem wd_1_90 : Cond.static yJ2_getChar_3b067 ∈ wU := wU_in (tb1 (j := 90) (by decide +kernel)) (by decide +kernel)
theorem wd_1_91 : Cond.code yJ2_getChar_3b067 cJ2_getChar_3b067 2 (some .char) ∈ wU := wU_in (tb1 (j := 91) (by decide +kernel)) (by decide +kernel)
theorem wd_1_92 : Cond.fieldLink "java/lang/StringUTF16" 44 "java/lang/StringUTF16" "$assertionsDisabled" "Z" ∈ wU := wU_in (tb1 (j := 92) (by decide +kernel)) (by decide +kernel)
theorem nd_1_93 : Cond.laysStatic "java/lang/StringUTF16" "$assertionsDisabled" "Z" ∈ lw_tbl := tb1 (j := 93) (by decide +kernel)
theorem wd_1_94 : Cond.fieldLink "java/lang/StringUTF16" 59 "java/lang/StringUTF16" "HI_BYTE_SHIFT" "I" ∈ wU := wU_in (tb1 (j := 94) (by decide +kernel)) (by decide +kernel)
theorem nd_1_95 : Cond.laysStatic "java/lang/StringUTF16" "HI_BYTE_SHIFT" "I" ∈ lw_tbl := tb1 (j := 95) (by decide +kernel)
theorem wd_1_96 : Cond.fieldLink "java/lang/StringUTF16" 63 "java/lang/StringUTF16" "LO_BYTE_SHIFT" "I" ∈ wU := wU_in (tb1 (j := 96) (by decide +kernel)) (by decide +kernel)
theorem nd_1_97 : Cond.laysStatic "java/lang/StringUTF16" "LO_BYTE_SHIFT" "I" ∈ lw_tbl := tb1 (j := 97) (by decide +kernel)
theorem wd_1_98 : Cond.fieldLink RX2 41 RX2 "names" "Ljava/lang/String;" ∈ wU := wU_in (tb1 (j := 98) (by decide +kernel)) (by decide +kernel)
theorem wd_1_99 : Cond.fieldLink RX2 9 RX2 "text" "[B" ∈ wU := wU_in (tb1 (j := 99) (by decide +kernel)) (by decide +kernel)
theorem wd_1_100 : Cond.fieldLink RX2 15 RX2 "length" "I" ∈ wU := wU_in (tb1 (j := 100) (by decide +kernel)) (by decide +kernel)
theorem wd_1_101 : Cond.fieldLink RX2 19 RX2 "row" "[B" ∈ wU := wU_in (tb1 (j := 101) (by decide +kernel)) (by decide +kernel)
theorem wd_1_102 : Cond.fieldLink RX2 22 RX2 "end" "I" ∈ wU := wU_in (tb1 (j := 102) (by decide +kernel)) (by decide +kernel)
theorem wd_1_103 : Cond.fieldLink RX2 25 RX2 "place" "I" ∈ wU := wU_in (tb1 (j := 103) (by decide +kernel)) (by decide +kernel)
theorem wd_1_104 : Cond.fieldLink RX2 28 RX2 "faulty" "Z" ∈ wU := wU_in (tb1 (j := 104) (by decide +kernel)) (by decide +kernel)
theorem wd_1_105 : Cond.fieldLink RX2 32 RX2 "first" "I" ∈ wU := wU_in (tb1 (j := 105) (by decide +kernel)) (by decide +kernel)
theorem wd_1_106 : Cond.fieldLink RX2 35 RX2 "second" "I" ∈ wU := wU_in (tb1 (j := 106) (by decide +kernel)) (by decide +kernel)
theorem wd_1_107 : Cond.fieldLink RX2 38 RX2 "third" "I" ∈ wU := wU_in (tb1 (j := 107) (by decide +kernel)) (by decide +kernel)
theorem wd_1_108 : Cond.laysFinal "LiftCredit$Law" "LiftCredit$Law" "names" "Ljava/lang/String;" ∈ wU := wU_in (tb1 (j := 108) (by decide +kernel)) (by decide +kernel)
theorem wd_1_110 : Cond.laysFinal "LiftCredit$Law" "LiftCredit$Law" "text" "[B" ∈ wU := wU_in (tb1 (j := 110) (by decide +kernel)) (by decide +kernel)
theorem wd_1_112 : Cond.lays "LiftCredit$Law" "LiftCredit$Law" "length" "I" ∈ wU := wU_in (tb1 (j := 112) (by decide +kernel)) (by decide +kernel)
theorem wd_1_114 : Cond.lays "LiftCredit$Law" "LiftCredit$Law" "row" "[B" ∈ wU := wU_in (tb1 (j := 114) (by decide +kernel)) (by decide +kernel)
theorem wd_1_116 : Cond.lays "LiftCredit$Law" "LiftCredit$Law" "end" "I" ∈ wU := wU_in (tb1 (j := 116) (by decide +kernel)) (by decide +kernel)
theorem wd_1_118 : Cond.lays "LiftCredit$Law" "LiftCredit$Law" "place" "I" ∈ wU := wU_in (tb1 (j := 118) (by decide +kernel)) (by decide +kernel)
theorem wd_1_120 : Cond.lays "LiftCredit$Law" "LiftCredit$Law" "faulty" "Z" ∈ wU := wU_in (tb1 (j := 120) (by decide +kernel)) (by decide +kernel)
theorem wd_1_122 : Cond.lays "LiftCredit$Law" "LiftCredit$Law" "first" "I" ∈ wU := wU_in (tb1 (j := 122) (by decide +kernel)) (by decide +kernel)
theorem wd_1_124 : Cond.lays "LiftCredit$Law" "LiftCredit$Law" "second" "I" ∈ wU := wU_in (tb1 (j := 124) (by decide +kernel)) (by decide +kernel)
theorem wd_1_126 : Cond.lays "LiftCredit$Law" "LiftCredit$Law" "third" "I" ∈ wU := wU_in (tb1 (j := 126) (by decide +kernel)) (by decide +kernel)
theorem wd_1_128 : Cond.superclass RX2 "java/lang/Object" ∈ wU := wU_in (tb1 (j := 128) (by decide +kernel)) (by decide +kernel)
theorem wd_1_129 : Cond.arrayClass .int ∈ wU := wU_in (tb1 (j := 129) (by decide +kernel)) (by decide +kernel)
theorem wd_1_130 : Cond.arrayClass .byte ∈ wU := wU_in (tb1 (j := 130) (by decide +kernel)) (by decide +kernel)
theorem nd_1_131 : Cond.stringRef RX4 69 "skd" ∈ lw_tbl := tb1 (j := 131) (by decide +kernel)
theorem nd_1_132 : Cond.stringRef RX4 71 "s/k-d*2" ∈ lw_tbl := tb1 (j := 132) (by decide +kernel)
theorem nd_1_133 : Cond.methodLinkNest RX4 79 yX11_riderOf RX11 ∈ lw_tbl := tb1 (j := 133) (by decide +kernel)
theorem wd_1_134 : Cond.static yX11_riderOf ∈ wU := wU_in (tb1 (j := 134) (by decide +kernel)) (by decide +kernel)
theorem wd_1_135 : Cond.code yX11_riderOf cX11_riderOf 4 (some (.object RX6)) ∈ wU := wU_in (tb1 (j := 135) (by decide +kernel)) (by decide +kernel)
theorem wd_1_136 : Cond.classLink RX11 289 RX0 ∈ wU := wU_in (tb1 (j := 136) (by decide +kernel)) (by decide +kernel)
theorem wd_1_137 : Cond.instantiable RX0 3 ∈ wU := wU_in (tb1 (j := 137) (by decide +kernel)) (by decide +kernel)
theorem wd_1_138 : Cond.methodLink RX11 291 yX0_init ∈ wU := wU_in (tb1 (j := 138) (by decide +kernel)) (by decide +kernel)
theorem wd_1_139 : Cond.instanceMethod yX0_init ∈ wU := wU_in (tb1 (j := 139) (by decide +kernel)) (by decide +kernel)
theorem wd_1_140 : Cond.code yX0_init cX0_init 4 none ∈ wU := wU_in (tb1 (j := 140) (by decide +kernel)) (by decide +kernel)
theorem wd_1_141 : Cond.methodLink RX0 1 yX6_init ∈ wU := wU_in (tb1 (j := 141) (by decide +kernel)) (by decide +kernel)
theorem wd_1_142 : Cond.instanceMethod yX6_init ∈ wU := wU_in (tb1 (j := 142) (by decide +kernel)) (by decide +kernel)
theorem wd_1_143 : Cond.code yX6_init cX6_init 4 none ∈ wU := wU_in (tb1 (j := 143) (by decide +kernel)) (by decide +kernel)
theorem wd_1_144 : Cond.methodLink RX6 1 (⟨"java/lang/Object", "<init>", "()V"⟩ : MethodName) ∈ wU := wU_in (tb1 (j := 144) (by decide +kernel)) (by decide +kernel)
theorem wd_1_145 : Cond.fieldLink RX6 7 RX6 "kind" "I" ∈ wU := wU_in (tb1 (j := 145) (by decide +kernel)) (by decide +kernel)
theorem wd_1_146 : Cond.fieldLink RX11 92 RX6 "kind" "I" ∈ wU := wU_in (tb1 (j := 146) (by decide +kernel)) (by decide +kernel)
theorem wd_1_147 : Cond.fieldLink RX6 13 RX6 "m" "I" ∈ wU := wU_in (tb1 (j := 147) (by decide +kernel)) (by decide +kernel)
theorem wd_1_148 : Cond.fieldLink RX1 11 RX1 "m" "I" ∈ wU := wU_in (tb1 (j := 148) (by decide +kernel)) (by decide +kernel)
theorem wd_1_149 : Cond.sameField RX1 RX6 "m" "I" ∈ wU := wU_in (tb1 (j := 149) (by decide +kernel)) (by decide +kernel)
theorem wd_1_150 : Cond.fieldLink RX11 97 RX6 "m" "I" ∈ wU := wU_in (tb1 (j := 150) (by decide +kernel)) (by decide +kernel)
theorem wd_1_151 : Cond.fieldLink RX6 16 RX6 "number" "I" ∈ wU := wU_in (tb1 (j := 151) (by decide +kernel)) (by decide +kernel)
theorem wd_1_152 : Cond.fieldLink RX8 21 RX8 "number" "I" ∈ wU := wU_in (tb1 (j := 152) (by decide +kernel)) (by decide +kernel)
theorem wd_1_153 : Cond.sameField RX8 RX6 "number" "I" ∈ wU := wU_in (tb1 (j := 153) (by decide +kernel)) (by decide +kernel)
theorem wd_1_154 : Cond.laysFinal "LiftCredit$Clerk" "LiftCredit$Rider" "kind" "I" ∈ wU := wU_in (tb1 (j := 154) (by decide +kernel)) (by decide +kernel)
theorem wd_1_156 : Cond.laysFinal "LiftCredit$Clerk" "LiftCredit$Rider" "m" "I" ∈ wU := wU_in (tb1 (j := 156) (by decide +kernel)) (by decide +kernel)
theorem wd_1_158 : Cond.laysFinal "LiftCredit$Clerk" "LiftCredit$Rider" "number" "I" ∈ wU := wU_in (tb1 (j := 158) (by decide +kernel)) (by decide +kernel)
theorem wd_1_160 : Cond.superclass RX0 RX6 ∈ wU := wU_in (tb1 (j := 160) (by decide +kernel)) (by decide +kernel)
theorem wd_1_161 : Cond.classLink RX11 294 RX3 ∈ wU := wU_in (tb1 (j := 161) (by decide +kernel)) (by decide +kernel)
theorem wd_1_162 : Cond.instantiable RX3 3 ∈ wU := wU_in (tb1 (j := 162) (by decide +kernel)) (by decide +kernel)
theorem wd_1_163 : Cond.methodLink RX11 296 yX3_init ∈ wU := wU_in (tb1 (j := 163) (by decide +kernel)) (by decide +kernel)
theorem wd_1_164 : Cond.instanceMethod yX3_init ∈ wU := wU_in (tb1 (j := 164) (by decide +kernel)) (by decide +kernel)
theorem wd_1_165 : Cond.code yX3_init cX3_init 4 none ∈ wU := wU_in (tb1 (j := 165) (by decide +kernel)) (by decide +kernel)
theorem wd_1_166 : Cond.methodLink RX3 1 yX6_init ∈ wU := wU_in (tb1 (j := 166) (by decide +kernel)) (by decide +kernel)
theorem wd_1_167 : Cond.laysFinal "LiftCredit$Liar" "LiftCredit$Rider" "kind" "I" ∈ wU := wU_in (tb1 (j := 167) (by decide +kernel)) (by decide +kernel)
theorem wd_1_168 : Cond.laysFinal "LiftCredit$Liar" "LiftCredit$Rider" "m" "I" ∈ wU := wU_in (tb1 (j := 168) (by decide +kernel)) (by decide +kernel)
theorem wd_1_169 : Cond.laysFinal "LiftCredit$Liar" "LiftCredit$Rider" "number" "I" ∈ wU := wU_in (tb1 (j := 169) (by decide +kernel)) (by decide +kernel)
theorem wd_1_170 : Cond.superclass RX3 RX6 ∈ wU := wU_in (tb1 (j := 170) (by decide +kernel)) (by decide +kernel)
theorem wd_1_171 : Cond.classLink RX11 297 RX10 ∈ wU := wU_in (tb1 (j := 171) (by decide +kernel)) (by decide +kernel)
theorem wd_1_172 : Cond.instantiable RX10 3 ∈ wU := wU_in (tb1 (j := 172) (by decide +kernel)) (by decide +kernel)
theorem wd_1_173 : Cond.methodLink RX11 299 yX10_init ∈ wU := wU_in (tb1 (j := 173) (by decide +kernel)) (by decide +kernel)
theorem wd_1_174 : Cond.instanceMethod yX10_init ∈ wU := wU_in (tb1 (j := 174) (by decide +kernel)) (by decide +kernel)
theorem wd_1_175 : Cond.code yX10_init cX10_init 4 none ∈ wU := wU_in (tb1 (j := 175) (by decide +kernel)) (by decide +kernel)
theorem wd_1_176 : Cond.methodLink RX10 1 yX6_init ∈ wU := wU_in (tb1 (j := 176) (by decide +kernel)) (by decide +kernel)
theorem wd_1_177 : Cond.laysFinal "LiftCredit$Widow" "LiftCredit$Rider" "kind" "I" ∈ wU := wU_in (tb1 (j := 177) (by decide +kernel)) (by decide +kernel)
theorem wd_1_178 : Cond.laysFinal "LiftCredit$Widow" "LiftCredit$Rider" "m" "I" ∈ wU := wU_in (tb1 (j := 178) (by decide +kernel)) (by decide +kernel)
theorem wd_1_179 : Cond.laysFinal "LiftCredit$Widow" "LiftCredit$Rider" "number" "I" ∈ wU := wU_in (tb1 (j := 179) (by decide +kernel)) (by decide +kernel)
theorem wd_1_180 : Cond.superclass RX10 RX6 ∈ wU := wU_in (tb1 (j := 180) (by decide +kernel)) (by decide +kernel)
theorem wd_1_181 : Cond.classLink RX11 300 RX1 ∈ wU := wU_in (tb1 (j := 181) (by decide +kernel)) (by decide +kernel)
theorem wd_1_182 : Cond.instantiable RX1 3 ∈ wU := wU_in (tb1 (j := 182) (by decide +kernel)) (by decide +kernel)
theorem wd_1_183 : Cond.methodLink RX11 302 yX1_init ∈ wU := wU_in (tb1 (j := 183) (by decide +kernel)) (by decide +kernel)
theorem wd_1_184 : Cond.instanceMethod yX1_init ∈ wU := wU_in (tb1 (j := 184) (by decide +kernel)) (by decide +kernel)
theorem wd_1_185 : Cond.code yX1_init cX1_init 4 none ∈ wU := wU_in (tb1 (j := 185) (by decide +kernel)) (by decide +kernel)
theorem wd_1_186 : Cond.methodLink RX1 1 yX0_init ∈ wU := wU_in (tb1 (j := 186) (by decide +kernel)) (by decide +kernel)
theorem wd_1_187 : Cond.laysFinal "LiftCredit$Inspector" "LiftCredit$Rider" "kind" "I" ∈ wU := wU_in (tb1 (j := 187) (by decide +kernel)) (by decide +kernel)
theorem wd_1_188 : Cond.laysFinal "LiftCredit$Inspector" "LiftCredit$Rider" "m" "I" ∈ wU := wU_in (tb1 (j := 188) (by decide +kernel)) (by decide +kernel)
theorem wd_1_189 : Cond.laysFinal "LiftCredit$Inspector" "LiftCredit$Rider" "number" "I" ∈ wU := wU_in (tb1 (j := 189) (by decide +kernel)) (by decide +kernel)
theorem wd_1_190 : Cond.superclass RX1 RX0 ∈ wU := wU_in (tb1 (j := 190) (by decide +kernel)) (by decide +kernel)
theorem wd_1_191 : Cond.classLink RX11 303 RX5 ∈ wU := wU_in (tb1 (j := 191) (by decide +kernel)) (by decide +kernel)
theorem wd_1_192 : Cond.instantiable RX5 3 ∈ wU := wU_in (tb1 (j := 192) (by decide +kernel)) (by decide +kernel)
theorem wd_1_193 : Cond.methodLink RX11 305 yX5_init ∈ wU := wU_in (tb1 (j := 193) (by decide +kernel)) (by decide +kernel)
theorem wd_1_194 : Cond.instanceMethod yX5_init ∈ wU := wU_in (tb1 (j := 194) (by decide +kernel)) (by decide +kernel)
theorem wd_1_195 : Cond.code yX5_init cX5_init 4 none ∈ wU := wU_in (tb1 (j := 195) (by decide +kernel)) (by decide +kernel)
theorem wd_1_196 : Cond.methodLink RX5 1 yX3_init ∈ wU := wU_in (tb1 (j := 196) (by decide +kernel)) (by decide +kernel)
theorem wd_1_197 : Cond.laysFinal "LiftCredit$Poet" "LiftCredit$Rider" "kind" "I" ∈ wU := wU_in (tb1 (j := 197) (by decide +kernel)) (by decide +kernel)
theorem wd_1_198 : Cond.laysFinal "LiftCredit$Poet" "LiftCredit$Rider" "m" "I" ∈ wU := wU_in (tb1 (j := 198) (by decide +kernel)) (by decide +kernel)
theorem wd_1_199 : Cond.laysFinal "LiftCredit$Poet" "LiftCredit$Rider" "number" "I" ∈ wU := wU_in (tb1 (j := 199) (by decide +kernel)) (by decide +kernel)
theorem wd_1_200 : Cond.superclass RX5 RX3 ∈ wU := wU_in (tb1 (j := 200) (by decide +kernel)) (by decide +kernel)
theorem wd_1_201 : Cond.classLink RX11 306 RX8 ∈ wU := wU_in (tb1 (j := 201) (by decide +kernel)) (by decide +kernel)
theorem wd_1_202 : Cond.instantiable RX8 3 ∈ wU := wU_in (tb1 (j := 202) (by decide +kernel)) (by decide +kernel)
theorem wd_1_203 : Cond.methodLink RX11 308 yX8_init ∈ wU := wU_in (tb1 (j := 203) (by decide +kernel)) (by decide +kernel)
theorem wd_1_204 : Cond.instanceMethod yX8_init ∈ wU := wU_in (tb1 (j := 204) (by decide +kernel)) (by decide +kernel)
theorem wd_1_205 : Cond.code yX8_init cX8_init 4 none ∈ wU := wU_in (tb1 (j := 205) (by decide +kernel)) (by decide +kernel)
theorem wd_1_206 : Cond.methodLink RX8 1 yX10_init ∈ wU := wU_in (tb1 (j := 206) (by decide +kernel)) (by decide +kernel)
theorem wd_1_207 : Cond.laysFinal "LiftCredit$Silent" "LiftCredit$Rider" "kind" "I" ∈ wU := wU_in (tb1 (j := 207) (by decide +kernel)) (by decide +kernel)
theorem wd_1_208 : Cond.laysFinal "LiftCredit$Silent" "LiftCredit$Rider" "m" "I" ∈ wU := wU_in (tb1 (j := 208) (by decide +kernel)) (by decide +kernel)
theorem wd_1_209 : Cond.laysFinal "LiftCredit$Silent" "LiftCredit$Rider" "number" "I" ∈ wU := wU_in (tb1 (j := 209) (by decide +kernel)) (by decide +kernel)
theorem wd_1_210 : Cond.superclass RX8 RX10 ∈ wU := wU_in (tb1 (j := 210) (by decide +kernel)) (by decide +kernel)
theorem wd_1_211 : Cond.classLink RX11 93 RX6 ∈ wU := wU_in (tb1 (j := 211) (by decide +kernel)) (by decide +kernel)
theorem wd_1_212 : Cond.instantiable RX6 3 ∈ wU := wU_in (tb1 (j := 212) (by decide +kernel)) (by decide +kernel)
theorem wd_1_213 : Cond.methodLink RX11 309 yX6_init ∈ wU := wU_in (tb1 (j := 213) (by decide +kernel)) (by decide +kernel)
theorem wd_1_214 : Cond.laysFinal "LiftCredit$Rider" "LiftCredit$Rider" "kind" "I" ∈ wU := wU_in (tb1 (j := 214) (by decide +kernel)) (by decide +kernel)
theorem wd_1_215 : Cond.laysFinal "LiftCredit$Rider" "LiftCredit$Rider" "m" "I" ∈ wU := wU_in (tb1 (j := 215) (by decide +kernel)) (by decide +kernel)
theorem wd_1_216 : Cond.laysFinal "LiftCredit$Rider" "LiftCredit$Rider" "number" "I" ∈ wU := wU_in (tb1 (j := 216) (by decide +kernel)) (by decide +kernel)
theorem wd_1_217 : Cond.superclass RX6 "java/lang/Object" ∈ wU := wU_in (tb1 (j := 217) (by decide +kernel)) (by decide +kernel)
theorem wd_1_218 : Cond.methodLink RX4 83 yX4_workOutWorth ∈ wU := wU_in (tb1 (j := 218) (by decide +kernel)) (by decide +kernel)
theorem wd_1_220 : Cond.instanceMethod yX4_workOutWorth ∈ wU := wU_in (tb1 (j := 220) (by decide +kernel)) (by decide +kernel)
theorem wd_1_221 : Cond.code yX4_workOutWorth cX4_workOutWorth 4 none ∈ wU := wU_in (tb1 (j := 221) (by decide +kernel)) (by decide +kernel)
theorem nd_1_222 : Cond.methodLinkNest RX4 104 yX11_placeOf RX11 ∈ lw_tbl := tb1 (j := 222) (by decide +kernel)
theorem wd_1_223 : Cond.static yX11_placeOf ∈ wU := wU_in (tb1 (j := 223) (by decide +kernel)) (by decide +kernel)
theorem wd_1_224 : Cond.code yX11_placeOf cX11_placeOf 3 (some .int) ∈ wU := wU_in (tb1 (j := 224) (by decide +kernel)) (by decide +kernel)
theorem wd_1_225 : Cond.methodLink RX4 108 yX2_gives ∈ wU := wU_in (tb1 (j := 225) (by decide +kernel)) (by decide +kernel)
theorem wd_1_226 : Cond.instanceMethod yX2_gives ∈ wU := wU_in (tb1 (j := 226) (by decide +kernel)) (by decide +kernel)
theorem wd_1_227 : Cond.selects RX2 yX2_gives yX2_gives ∈ wU := wU_in (tb1 (j := 227) (by decide +kernel)) (by decide +kernel)
theorem wd_1_228 : Cond.code yX2_gives cX2_gives 4 (some .int) ∈ wU := wU_in (tb1 (j := 228) (by decide +kernel)) (by decide +kernel)
theorem wd_1_229 : Cond.methodLink RX2 66 yX2_read ∈ wU := wU_in (tb1 (j := 229) (by decide +kernel)) (by decide +kernel)
theorem wd_1_231 : Cond.instanceMethod yX2_read ∈ wU := wU_in (tb1 (j := 231) (by decide +kernel)) (by decide +kernel)
theorem wd_1_232 : Cond.code yX2_read cX2_read 4 (some .int) ∈ wU := wU_in (tb1 (j := 232) (by decide +kernel)) (by decide +kernel)
theorem wd_1_233 : Cond.methodLink RX2 74 yX2_either ∈ wU := wU_in (tb1 (j := 233) (by decide +kernel)) (by decide +kernel)
theorem wd_1_235 : Cond.instanceMethod yX2_either ∈ wU := wU_in (tb1 (j := 235) (by decide +kernel)) (by decide +kernel)
theorem wd_1_236 : Cond.code yX2_either cX2_either 4 (some .int) ∈ wU := wU_in (tb1 (j := 236) (by decide +kernel)) (by decide +kernel)
theorem wd_1_237 : Cond.methodLink RX2 81 yX2_both ∈ wU := wU_in (tb1 (j := 237) (by decide +kernel)) (by decide +kernel)
theorem wd_1_239 : Cond.instanceMethod yX2_both ∈ wU := wU_in (tb1 (j := 239) (by decide +kernel)) (by decide +kernel)
theorem wd_2_0 : Cond.code yX2_both cX2_both 4 (some .int) ∈ wU := wU_in (tb2 (j := 0) (by decide +kernel)) (by decide +kernel)
theorem wd_2_1 : Cond.methodLink RX2 84 yX2_compared ∈ wU := wU_in (tb2 (j := 1) (by decide +kernel)) (by decide +kernel)
theorem wd_2_3 : Cond.instanceMethod yX2_compared ∈ wU := wU_in (tb2 (j := 3) (by decide +kernel)) (by decide +kernel)
theorem wd_2_4 : Cond.code yX2_compared cX2_compared 6 (some .int) ∈ wU := wU_in (tb2 (j := 4) (by decide +kernel)) (by decide +kernel)
theorem wd_2_5 : Cond.methodLink RX2 87 yX2_sum ∈ wU := wU_in (tb2 (j := 5) (by decide +kernel)) (by decide +kernel)
theorem wd_2_7 : Cond.instanceMethod yX2_sum ∈ wU := wU_in (tb2 (j := 7) (by decide +kernel)) (by decide +kernel)
theorem wd_2_8 : Cond.code yX2_sum cX2_sum 5 (some .int) ∈ wU := wU_in (tb2 (j := 8) (by decide +kernel)) (by decide +kernel)
theorem wd_2_9 : Cond.methodLink RX2 90 yX2_product ∈ wU := wU_in (tb2 (j := 9) (by decide +kernel)) (by decide +kernel)
theorem wd_2_11 : Cond.instanceMethod yX2_product ∈ wU := wU_in (tb2 (j := 11) (by decide +kernel)) (by decide +kernel)
theorem wd_2_12 : Cond.code yX2_product cX2_product 5 (some .int) ∈ wU := wU_in (tb2 (j := 12) (by decide +kernel)) (by decide +kernel)
theorem wd_2_13 : Cond.methodLink RX2 93 yX2_part ∈ wU := wU_in (tb2 (j := 13) (by decide +kernel)) (by decide +kernel)
theorem wd_2_15 : Cond.instanceMethod yX2_part ∈ wU := wU_in (tb2 (j := 15) (by decide +kernel)) (by decide +kernel)
theorem wd_2_16 : Cond.code yX2_part cX2_part 4 (some .int) ∈ wU := wU_in (tb2 (j := 16) (by decide +kernel)) (by decide +kernel)
theorem wd_2_17 : Cond.methodLink RX2 78 yX2_fail ∈ wU := wU_in (tb2 (j := 17) (by decide +kernel)) (by decide +kernel)
theorem wd_2_19 : Cond.instanceMethod yX2_fail ∈ wU := wU_in (tb2 (j := 19) (by decide +kernel)) (by decide +kernel)
theorem wd_2_20 : Cond.code yX2_fail cX2_fail 1 (some .int) ∈ wU := wU_in (tb2 (j := 20) (by decide +kernel)) (by decide +kernel)
theorem wd_2_21 : Cond.methodLink RX2 96 yX2_isDigit ∈ wU := wU_in (tb2 (j := 21) (by decide +kernel)) (by decide +kernel)
theorem wd_2_22 : Cond.static yX2_isDigit ∈ wU := wU_in (tb2 (j := 22) (by decide +kernel)) (by decide +kernel)
theorem wd_2_23 : Cond.code yX2_isDigit cX2_isDigit 1 (some .boolean) ∈ wU := wU_in (tb2 (j := 23) (by decide +kernel)) (by decide +kernel)
theorem wd_2_24 : Cond.methodLink RX2 100 yX2_number ∈ wU := wU_in (tb2 (j := 24) (by decide +kernel)) (by decide +kernel)
theorem wd_2_26 : Cond.instanceMethod yX2_number ∈ wU := wU_in (tb2 (j := 26) (by decide +kernel)) (by decide +kernel)
theorem wd_2_27 : Cond.code yX2_number cX2_number 3 (some .int) ∈ wU := wU_in (tb2 (j := 27) (by decide +kernel)) (by decide +kernel)
theorem wd_2_28 : Cond.methodLink RX2 103 yX2_name ∈ wU := wU_in (tb2 (j := 28) (by decide +kernel)) (by decide +kernel)
theorem wd_2_30 : Cond.instanceMethod yX2_name ∈ wU := wU_in (tb2 (j := 30) (by decide +kernel)) (by decide +kernel)
theorem wd_2_31 : Cond.code yX2_name cX2_name 3 (some .int) ∈ wU := wU_in (tb2 (j := 31) (by decide +kernel)) (by decide +kernel)
theorem wd_2_32 : Cond.methodLink RX2 106 yJ0_indexOf_0f7a4 ∈ wU := wU_in (tb2 (j := 32) (by decide +kernel)) (by decide +kernel)
theorem wd_2_33 : Cond.instanceMethod yJ0_indexOf_0f7a4 ∈ wU := wU_in (tb2 (j := 33) (by decide +kernel)) (by decide +kernel)
theorem wd_2_34 : Cond.selects "java/lang/String" yJ0_indexOf_0f7a4 yJ0_indexOf_0f7a4 ∈ wU := wU_in (tb2 (j := 34) (by decide +kernel)) (by decide +kernel)
theorem wd_2_35 : Cond.code yJ0_indexOf_0f7a4 cJ0_indexOf_0f7a4 2 (some .int) ∈ wU := wU_in (tb2 (j := 35) (by decide +kernel)) (by decide +kernel)
theorem wd_2_36 : Cond.methodLink "java/lang/String" 633 yJ0_indexOf_7cf53 ∈ wU := wU_in (tb2 (j := 36) (by decide +kernel)) (by decide +kernel)
theorem wd_2_37 : Cond.instanceMethod yJ0_indexOf_7cf53 ∈ wU := wU_in (tb2 (j := 37) (by decide +kernel)) (by decide +kernel)
theorem wd_2_38 : Cond.selects "java/lang/String" yJ0_indexOf_7cf53 yJ0_indexOf_7cf53 ∈ wU := wU_in (tb2 (j := 38) (by decide +kernel)) (by decide +kernel)
theorem wd_2_39 : Cond.code yJ0_indexOf_7cf53 cJ0_indexOf_7cf53 3 (some .int) ∈ wU := wU_in (tb2 (j := 39) (by decide +kernel)) (by decide +kernel)
theorem wd_2_40 : Cond.methodLink "java/lang/String" 505 yJ0_length_8abf5 ∈ wU := wU_in (tb2 (j := 40) (by decide +kernel)) (by decide +kernel)
theorem wd_2_41 : Cond.methodLink "java/lang/String" 637 yJ1_indexOf_4cfef ∈ wU := wU_in (tb2 (j := 41) (by decide +kernel)) (by decide +kernel)
theorem wd_2_42 : Cond.static yJ1_indexOf_4cfef ∈ wU := wU_in (tb2 (j := 42) (by decide +kernel)) (by decide +kernel)
theorem wd_2_43 : Cond.code yJ1_indexOf_4cfef cJ1_indexOf_4cfef 4 (some .int) ∈ wU := wU_in (tb2 (j := 43) (by decide +kernel)) (by decide +kernel)
theorem wd_2_44 : Cond.methodLink "java/lang/StringLatin1" 88 yJ1_canEncode_9a6ad ∈ wU := wU_in (tb2 (j := 44) (by decide +kernel)) (by decide +kernel)
theorem wd_2_45 : Cond.static yJ1_canEncode_9a6ad ∈ wU := wU_in (tb2 (j := 45) (by decide +kernel)) (by decide +kernel)
theorem wd_2_46 : Cond.code yJ1_canEncode_9a6ad cJ1_canEncode_9a6ad 1 (some .boolean) ∈ wU := wU_in (tb2 (j := 46) (by decide +kernel)) (by decide +kernel)
theorem wd_2_47 : Cond.methodLink "java/lang/StringLatin1" 92 yJ9_max_7cf53 ∈ wU := wU_in (tb2 (j := 47) (by decide +kernel)) (by decide +kernel)
theorem wd_2_48 : Cond.static yJ9_max_7cf53 ∈ wU := wU_in (tb2 (j := 48) (by decide +kernel)) (by decide +kernel)
theorem wd_2_49 : Cond.code yJ9_max_7cf53 cJ9_max_7cf53 2 (some .int) ∈ wU := wU_in (tb2 (j := 49) (by decide +kernel)) (by decide +kernel)
theorem wd_2_50 : Cond.methodLink "java/lang/StringLatin1" 38 yJ9_min_7cf53 ∈ wU := wU_in (tb2 (j := 50) (by decide +kernel)) (by decide +kernel)
theorem wd_2_51 : Cond.methodLink "java/lang/StringLatin1" 95 yJ1_indexOfChar_4cfef ∈ wU := wU_in (tb2 (j := 51) (by decide +kernel)) (by decide +kernel)
theorem wd_2_52 : Cond.static yJ1_indexOfChar_4cfef ∈ wU := wU_in (tb2 (j := 52) (by decide +kernel)) (by decide +kernel)
theorem wd_2_53 : Cond.code yJ1_indexOfChar_4cfef cJ1_indexOfChar_4cfef 6 (some .int) ∈ wU := wU_in (tb2 (j := 53) (by decide +kernel)) (by decide +kernel)
theorem wd_2_54 : Cond.methodLink "java/lang/String" 640 yJ2_indexOf_4cfef ∈ wU := wU_in (tb2 (j := 54) (by decide +kernel)) (by decide +kernel)
theorem wd_2_55 : Cond.static yJ2_indexOf_4cfef ∈ wU := wU_in (tb2 (j := 55) (by decide +kernel)) (by decide +kernel)
theorem wd_2_56 : Cond.code yJ2_indexOf_4cfef cJ2_indexOf_4cfef 4 (some .int) ∈ wU := wU_in (tb2 (j := 56) (by decide +kernel)) (by decide +kernel)
theorem wd_2_57 : Cond.methodLink "java/lang/StringUTF16" 224 yJ9_max_7cf53 ∈ wU := wU_in (tb2 (j := 57) (by decide +kernel)) (by decide +kernel)
theorem wd_2_58 : Cond.methodLink "java/lang/StringUTF16" 183 yJ9_min_7cf53 ∈ wU := wU_in (tb2 (j := 58) (by decide +kernel)) (by decide +kernel)
theorem wd_2_59 : Cond.constant "java/lang/StringUTF16" 227 (65536) ∈ wU := wU_in (tb2 (j := 59) (by decide +kernel)) (by decide +kernel)
theorem wd_2_60 : Cond.methodLink "java/lang/StringUTF16" 228 yJ2_indexOfChar_4cfef ∈ wU := wU_in (tb2 (j := 60) (by decide +kernel)) (by decide +kernel)
theorem wd_2_61 : Cond.static yJ2_indexOfChar_4cfef ∈ wU := wU_in (tb2 (j := 61) (by decide +kernel)) (by decide +kernel)
theorem wd_2_62 : Cond.code yJ2_indexOfChar_4cfef cJ2_indexOfChar_4cfef 4 (some .int) ∈ wU := wU_in (tb2 (j := 62) (by decide +kernel)) (by decide +kernel)
theorem wd_2_63 : Cond.methodLink "java/lang/StringUTF16" 96 yJ2_checkBoundsBeginEnd_d044e ∈ wU := wU_in (tb2 (j := 63) (by decide +kernel)) (by decide +kernel)
theorem wd_2_64 : Cond.static yJ2_checkBoundsBeginEnd_d044e ∈ wU := wU_in (tb2 (j := 64) (by decide +kernel)) (by decide +kernel)
theorem wd_2_65 : Cond.code yJ2_checkBoundsBeginEnd_d044e cJ2_checkBoundsBeginEnd_d044e 3 none ∈ wU := wU_in (tb2 (j := 65) (by decide +kernel)) (by decide +kernel)
theorem wd_2_66 : Cond.methodLink "java/lang/StringUTF16" 241 yJ0_checkBoundsBeginEnd_23922 ∈ wU := wU_in (tb2 (j := 66) (by decide +kernel)) (by decide +kernel)
theorem wd_2_67 : Cond.static yJ0_checkBoundsBeginEnd_23922 ∈ wU := wU_in (tb2 (j := 67) (by decide +kernel)) (by decide +kernel)
theorem wd_2_68 : Cond.code yJ0_checkBoundsBeginEnd_23922 cJ0_checkBoundsBeginEnd_23922 3 none ∈ wU := wU_in (tb2 (j := 68) (by decide +kernel)) (by decide +kernel)
theorem wd_2_69 : Cond.methodLink "java/lang/String" 1062 yJ3_checkFromToIndex_8c36e ∈ wU := wU_in (tb2 (j := 69) (by decide +kernel)) (by decide +kernel)
theorem wd_2_70 : Cond.static yJ3_checkFromToIndex_8c36e ∈ wU := wU_in (tb2 (j := 70) (by decide +kernel)) (by decide +kernel)
theorem wd_2_71 : Cond.code yJ3_checkFromToIndex_8c36e cJ3_checkFromToIndex_8c36e 4 (some .int) ∈ wU := wU_in (tb2 (j := 71) (by decide +kernel)) (by decide +kernel)
theorem wd_2_72 : Cond.methodLink "java/lang/StringUTF16" 244 yJ2_indexOfCharUnsafe_4cfef ∈ wU := wU_in (tb2 (j := 72) (by decide +kernel)) (by decide +kernel)
theorem wd_2_73 : Cond.static yJ2_indexOfCharUnsafe_4cfef ∈ wU := wU_in (tb2 (j := 73) (by decide +kernel)) (by decide +kernel)
theorem wd_2_74 : Cond.code yJ2_indexOfCharUnsafe_4cfef cJ2_indexOfCharUnsafe_4cfef 5 (some .int) ∈ wU := wU_in (tb2 (j := 74) (by decide +kernel)) (by decide +kernel)
theorem wd_2_75 : Cond.methodLink "java/lang/StringUTF16" 232 yJ2_indexOfSupplementary_4cfef ∈ wU := wU_in (tb2 (j := 75) (by decide +kernel)) (by decide +kernel)
theorem wd_2_76 : Cond.static yJ2_indexOfSupplementary_4cfef ∈ wU := wU_in (tb2 (j := 76) (by decide +kernel)) (by decide +kernel)
theorem wd_2_77 : Cond.code yJ2_indexOfSupplementary_4cfef cJ2_indexOfSupplementary_4cfef 7 (some .int) ∈ wU := wU_in (tb2 (j := 77) (by decide +kernel)) (by decide +kernel)
theorem wd_2_78 : Cond.methodLink "java/lang/StringUTF16" 164 yJ11_isValidCodePoint_9a6ad ∈ wU := wU_in (tb2 (j := 78) (by decide +kernel)) (by decide +kernel)
theorem wd_2_79 : Cond.static yJ11_isValidCodePoint_9a6ad ∈ wU := wU_in (tb2 (j := 79) (by decide +kernel)) (by decide +kernel)
theorem wd_2_80 : Cond.code yJ11_isValidCodePoint_9a6ad cJ11_isValidCodePoint_9a6ad 2 (some .boolean) ∈ wU := wU_in (tb2 (j := 80) (by decide +kernel)) (by decide +kernel)
theorem wd_2_81 : Cond.methodLink "java/lang/StringUTF16" 157 yJ11_highSurrogate_5068e ∈ wU := wU_in (tb2 (j := 81) (by decide +kernel)) (by decide +kernel)
theorem wd_2_82 : Cond.static yJ11_highSurrogate_5068e ∈ wU := wU_in (tb2 (j := 82) (by decide +kernel)) (by decide +kernel)
theorem wd_2_83 : Cond.code yJ11_highSurrogate_5068e cJ11_highSurrogate_5068e 1 (some .char) ∈ wU := wU_in (tb2 (j := 83) (by decide +kernel)) (by decide +kernel)
theorem wd_2_84 : Cond.constant "java/lang/Character" 110 (55232) ∈ wU := wU_in (tb2 (j := 84) (by decide +kernel)) (by decide +kernel)
theorem wd_2_85 : Cond.methodLink "java/lang/StringUTF16" 161 yJ11_lowSurrogate_5068e ∈ wU := wU_in (tb2 (j := 85) (by decide +kernel)) (by decide +kernel)
theorem wd_2_86 : Cond.static yJ11_lowSurrogate_5068e ∈ wU := wU_in (tb2 (j := 86) (by decide +kernel)) (by decide +kernel)
theorem wd_2_87 : Cond.code yJ11_lowSurrogate_5068e cJ11_lowSurrogate_5068e 1 (some .char) ∈ wU := wU_in (tb2 (j := 87) (by decide +kernel)) (by decide +kernel)
theorem wd_2_88 : Cond.constant "java/lang/Character" 76 (56320) ∈ wU := wU_in (tb2 (j := 88) (by decide +kernel)) (by decide +kernel)
theorem nd_2_89 : Cond.methodLinkNest RX2 70 yX11_held RX11 ∈ lw_tbl := tb2 (j := 89) (by decide +kernel)
theorem wd_2_90 : Cond.static yX11_held ∈ wU := wU_in (tb2 (j := 90) (by decide +kernel)) (by decide +kernel)
theorem wd_2_91 : Cond.code yX11_held cX11_held 3 (some .int) ∈ wU := wU_in (tb2 (j := 91) (by decide +kernel)) (by decide +kernel)
theorem wd_2_92 : Cond.methodLink RX11 281 yJ9_min_7cf53 ∈ wU := wU_in (tb2 (j := 92) (by decide +kernel)) (by decide +kernel)
theorem wd_2_93 : Cond.methodLink RX11 286 yJ9_max_7cf53 ∈ wU := wU_in (tb2 (j := 93) (by decide +kernel)) (by decide +kernel)
theorem wd_2_94 : Cond.fieldLink RX4 9 RX4 "heard" "I" ∈ wU := wU_in (tb2 (j := 94) (by decide +kernel)) (by decide +kernel)
theorem wd_2_95 : Cond.fieldLink RX11 52 RX4 "heard" "I" ∈ wU := wU_in (tb2 (j := 95) (by decide +kernel)) (by decide +kernel)
theorem wd_2_96 : Cond.fieldLink RX4 15 RX4 "world" "I" ∈ wU := wU_in (tb2 (j := 96) (by decide +kernel)) (by decide +kernel)
theorem wd_2_97 : Cond.fieldLink RX11 66 RX4 "world" "I" ∈ wU := wU_in (tb2 (j := 97) (by decide +kernel)) (by decide +kernel)
theorem wd_2_98 : Cond.fieldLink RX4 18 RX4 "trust" "I" ∈ wU := wU_in (tb2 (j := 98) (by decide +kernel)) (by decide +kernel)
theorem wd_2_99 : Cond.fieldLink RX11 69 RX4 "trust" "I" ∈ wU := wU_in (tb2 (j := 99) (by decide +kernel)) (by decide +kernel)
theorem wd_2_100 : Cond.fieldLink RX4 21 RX4 "day" "I" ∈ wU := wU_in (tb2 (j := 100) (by decide +kernel)) (by decide +kernel)
theorem wd_2_101 : Cond.fieldLink RX11 166 RX4 "day" "I" ∈ wU := wU_in (tb2 (j := 101) (by decide +kernel)) (by decide +kernel)
theorem wd_2_102 : Cond.fieldLink RX4 24 RX4 "rides" "I" ∈ wU := wU_in (tb2 (j := 102) (by decide +kernel)) (by decide +kernel)
theorem wd_2_103 : Cond.fieldLink RX11 271 RX4 "rides" "I" ∈ wU := wU_in (tb2 (j := 103) (by decide +kernel)) (by decide +kernel)
theorem wd_2_104 : Cond.fieldLink RX4 27 RX4 "z" "I" ∈ wU := wU_in (tb2 (j := 104) (by decide +kernel)) (by decide +kernel)
theorem wd_2_105 : Cond.fieldLink RX11 212 RX4 "z" "I" ∈ wU := wU_in (tb2 (j := 105) (by decide +kernel)) (by decide +kernel)
theorem wd_2_106 : Cond.fieldLink RX4 30 RX4 "riderCount" "I" ∈ wU := wU_in (tb2 (j := 106) (by decide +kernel)) (by decide +kernel)
theorem wd_2_107 : Cond.fieldLink RX11 75 RX4 "riderCount" "I" ∈ wU := wU_in (tb2 (j := 107) (by decide +kernel)) (by decide +kernel)
theorem wd_2_108 : Cond.fieldLink RX4 35 RX4 "riders" "[LLiftCredit$Rider;" ∈ wU := wU_in (tb2 (j := 108) (by decide +kernel)) (by decide +kernel)
theorem wd_2_109 : Cond.fieldLink RX11 78 RX4 "riders" "[LLiftCredit$Rider;" ∈ wU := wU_in (tb2 (j := 109) (by decide +kernel)) (by decide +kernel)
theorem wd_2_110 : Cond.fieldLink RX4 39 RX4 "stories" "[I" ∈ wU := wU_in (tb2 (j := 110) (by decide +kernel)) (by decide +kernel)
theorem wd_2_111 : Cond.fieldLink RX11 86 RX4 "stories" "[I" ∈ wU := wU_in (tb2 (j := 111) (by decide +kernel)) (by decide +kernel)
theorem wd_2_112 : Cond.fieldLink RX4 43 RX4 "tapeLength" "I" ∈ wU := wU_in (tb2 (j := 112) (by decide +kernel)) (by decide +kernel)
theorem wd_2_113 : Cond.fieldLink RX11 137 RX4 "tapeLength" "I" ∈ wU := wU_in (tb2 (j := 113) (by decide +kernel)) (by decide +kernel)
theorem wd_2_114 : Cond.fieldLink RX4 46 RX4 "tape" "[B" ∈ wU := wU_in (tb2 (j := 114) (by decide +kernel)) (by decide +kernel)
theorem wd_2_115 : Cond.fieldLink RX11 140 RX4 "tape" "[B" ∈ wU := wU_in (tb2 (j := 115) (by decide +kernel)) (by decide +kernel)
theorem wd_2_116 : Cond.fieldLink RX4 50 RX4 "waitingCount" "I" ∈ wU := wU_in (tb2 (j := 116) (by decide +kernel)) (by decide +kernel)
theorem wd_2_117 : Cond.fieldLink RX11 265 RX4 "waitingCount" "I" ∈ wU := wU_in (tb2 (j := 117) (by decide +kernel)) (by decide +kernel)
theorem wd_2_118 : Cond.fieldLink RX4 53 RX4 "waiting" "[I" ∈ wU := wU_in (tb2 (j := 118) (by decide +kernel)) (by decide +kernel)
theorem wd_2_119 : Cond.fieldLink RX11 268 RX4 "waiting" "[I" ∈ wU := wU_in (tb2 (j := 119) (by decide +kernel)) (by decide +kernel)
theorem wd_2_120 : Cond.fieldLink RX4 65 RX4 "creditLaw" "LLiftCredit$Law;" ∈ wU := wU_in (tb2 (j := 120) (by decide +kernel)) (by decide +kernel)
theorem wd_2_121 : Cond.fieldLink RX4 73 RX4 "crowdLaw" "LLiftCredit$Law;" ∈ wU := wU_in (tb2 (j := 121) (by decide +kernel)) (by decide +kernel)
theorem wd_2_122 : Cond.fieldLink RX4 76 RX4 "worth" "[I" ∈ wU := wU_in (tb2 (j := 122) (by decide +kernel)) (by decide +kernel)
theorem wd_2_123 : Cond.lays "LiftCredit$Lift" "LiftCredit$Lift" "heard" "I" ∈ wU := wU_in (tb2 (j := 123) (by decide +kernel)) (by decide +kernel)
theorem wd_2_125 : Cond.lays "LiftCredit$Lift" "LiftCredit$Lift" "world" "I" ∈ wU := wU_in (tb2 (j := 125) (by decide +kernel)) (by decide +kernel)
theorem wd_2_127 : Cond.lays "LiftCredit$Lift" "LiftCredit$Lift" "trust" "I" ∈ wU := wU_in (tb2 (j := 127) (by decide +kernel)) (by decide +kernel)
theorem wd_2_129 : Cond.lays "LiftCredit$Lift" "LiftCredit$Lift" "day" "I" ∈ wU := wU_in (tb2 (j := 129) (by decide +kernel)) (by decide +kernel)
theorem wd_2_131 : Cond.lays "LiftCredit$Lift" "LiftCredit$Lift" "rides" "I" ∈ wU := wU_in (tb2 (j := 131) (by decide +kernel)) (by decide +kernel)
theorem wd_2_133 : Cond.lays "LiftCredit$Lift" "LiftCredit$Lift" "z" "I" ∈ wU := wU_in (tb2 (j := 133) (by decide +kernel)) (by decide +kernel)
theorem wd_2_135 : Cond.lays "LiftCredit$Lift" "LiftCredit$Lift" "riderCount" "I" ∈ wU := wU_in (tb2 (j := 135) (by decide +kernel)) (by decide +kernel)
theorem wd_2_137 : Cond.laysFinal "LiftCredit$Lift" "LiftCredit$Lift" "riders" "[LLiftCredit$Rider;" ∈ wU := wU_in (tb2 (j := 137) (by decide +kernel)) (by decide +kernel)
theorem wd_2_139 : Cond.laysFinal "LiftCredit$Lift" "LiftCredit$Lift" "stories" "[I" ∈ wU := wU_in (tb2 (j := 139) (by decide +kernel)) (by decide +kernel)
theorem wd_2_141 : Cond.lays "LiftCredit$Lift" "LiftCredit$Lift" "tapeLength" "I" ∈ wU := wU_in (tb2 (j := 141) (by decide +kernel)) (by decide +kernel)
theorem wd_2_143 : Cond.laysFinal "LiftCredit$Lift" "LiftCredit$Lift" "tape" "[B" ∈ wU := wU_in (tb2 (j := 143) (by decide +kernel)) (by decide +kernel)
theorem wd_2_145 : Cond.lays "LiftCredit$Lift" "LiftCredit$Lift" "waitingCount" "I" ∈ wU := wU_in (tb2 (j := 145) (by decide +kernel)) (by decide +kernel)
theorem wd_2_147 : Cond.laysFinal "LiftCredit$Lift" "LiftCredit$Lift" "waiting" "[I" ∈ wU := wU_in (tb2 (j := 147) (by decide +kernel)) (by decide +kernel)
theorem wd_2_149 : Cond.laysFinal "LiftCredit$Lift" "LiftCredit$Lift" "creditLaw" "LLiftCredit$Law;" ∈ wU := wU_in (tb2 (j := 149) (by decide +kernel)) (by decide +kernel)
theorem wd_2_151 : Cond.laysFinal "LiftCredit$Lift" "LiftCredit$Lift" "crowdLaw" "LLiftCredit$Law;" ∈ wU := wU_in (tb2 (j := 151) (by decide +kernel)) (by decide +kernel)
theorem wd_2_153 : Cond.laysFinal "LiftCredit$Lift" "LiftCredit$Lift" "worth" "[I" ∈ wU := wU_in (tb2 (j := 153) (by decide +kernel)) (by decide +kernel)
theorem wd_2_155 : Cond.superclass RX4 "java/lang/Object" ∈ wU := wU_in (tb2 (j := 155) (by decide +kernel)) (by decide +kernel)
theorem wd_2_156 : Cond.classLink RX11 23 RX7 ∈ wU := wU_in (tb2 (j := 156) (by decide +kernel)) (by decide +kernel)
theorem nd_2_157 : Cond.arrayOver (.object RX7) ∈ lw_tbl := tb2 (j := 157) (by decide +kernel)
theorem wd_2_158 : Cond.classLink RX11 29 RX9 ∈ wU := wU_in (tb2 (j := 158) (by decide +kernel)) (by decide +kernel)
theorem wd_2_159 : Cond.instantiable RX9 2 ∈ wU := wU_in (tb2 (j := 159) (by decide +kernel)) (by decide +kernel)
theorem nd_2_160 : Cond.methodLinkNest RX11 31 yX9_init RX11 ∈ lw_tbl := tb2 (j := 160) (by decide +kernel)
theorem wd_2_161 : Cond.instanceMethod yX9_init ∈ wU := wU_in (tb2 (j := 161) (by decide +kernel)) (by decide +kernel)
theorem wd_2_162 : Cond.code yX9_init cX9_init 1 none ∈ wU := wU_in (tb2 (j := 162) (by decide +kernel)) (by decide +kernel)
theorem wd_2_163 : Cond.methodLink RX9 3 (⟨"java/lang/Object", "<init>", "()V"⟩ : MethodName) ∈ wU := wU_in (tb2 (j := 163) (by decide +kernel)) (by decide +kernel)
theorem wd_2_164 : Cond.fieldLink RX9 9 RX9 "bodies" "[I" ∈ wU := wU_in (tb2 (j := 164) (by decide +kernel)) (by decide +kernel)
theorem wd_2_165 : Cond.fieldLink RX11 231 RX9 "bodies" "[I" ∈ wU := wU_in (tb2 (j := 165) (by decide +kernel)) (by decide +kernel)
theorem wd_2_166 : Cond.fieldLink RX9 15 RX9 "length" "I" ∈ wU := wU_in (tb2 (j := 166) (by decide +kernel)) (by decide +kernel)
theorem wd_2_167 : Cond.fieldLink RX11 215 RX9 "length" "I" ∈ wU := wU_in (tb2 (j := 167) (by decide +kernel)) (by decide +kernel)
theorem wd_2_168 : Cond.laysFinal "LiftCredit$Trace" "LiftCredit$Trace" "bodies" "[I" ∈ wU := wU_in (tb2 (j := 168) (by decide +kernel)) (by decide +kernel)
theorem wd_2_170 : Cond.lays "LiftCredit$Trace" "LiftCredit$Trace" "length" "I" ∈ wU := wU_in (tb2 (j := 170) (by decide +kernel)) (by decide +kernel)
theorem wd_2_172 : Cond.superclass RX9 "java/lang/Object" ∈ wU := wU_in (tb2 (j := 172) (by decide +kernel)) (by decide +kernel)
theorem wd_2_173 : Cond.instantiable RX7 3 ∈ wU := wU_in (tb2 (j := 173) (by decide +kernel)) (by decide +kernel)
theorem nd_2_174 : Cond.methodLinkNest RX11 40 yX7_init RX11 ∈ lw_tbl := tb2 (j := 174) (by decide +kernel)
theorem wd_2_175 : Cond.instanceMethod yX7_init ∈ wU := wU_in (tb2 (j := 175) (by decide +kernel)) (by decide +kernel)
theorem wd_2_176 : Cond.code yX7_init cX7_init 1 none ∈ wU := wU_in (tb2 (j := 176) (by decide +kernel)) (by decide +kernel)
theorem wd_2_177 : Cond.methodLink RX7 3 (⟨"java/lang/Object", "<init>", "()V"⟩ : MethodName) ∈ wU := wU_in (tb2 (j := 177) (by decide +kernel)) (by decide +kernel)
theorem wd_2_178 : Cond.fieldLink RX7 9 RX7 "numbers" "[I" ∈ wU := wU_in (tb2 (j := 178) (by decide +kernel)) (by decide +kernel)
theorem wd_2_179 : Cond.fieldLink RX4 147 RX7 "numbers" "[I" ∈ wU := wU_in (tb2 (j := 179) (by decide +kernel)) (by decide +kernel)
theorem wd_2_180 : Cond.fieldLink RX11 243 RX7 "numbers" "[I" ∈ wU := wU_in (tb2 (j := 180) (by decide +kernel)) (by decide +kernel)
theorem wd_2_181 : Cond.fieldLink RX7 15 RX7 "bits" "I" ∈ wU := wU_in (tb2 (j := 181) (by decide +kernel)) (by decide +kernel)
theorem wd_2_182 : Cond.fieldLink RX11 249 RX7 "bits" "I" ∈ wU := wU_in (tb2 (j := 182) (by decide +kernel)) (by decide +kernel)
theorem wd_2_183 : Cond.fieldLink RX7 19 RX7 "length" "I" ∈ wU := wU_in (tb2 (j := 183) (by decide +kernel)) (by decide +kernel)
theorem wd_2_184 : Cond.fieldLink RX4 139 RX7 "length" "I" ∈ wU := wU_in (tb2 (j := 184) (by decide +kernel)) (by decide +kernel)
theorem wd_2_185 : Cond.fieldLink RX11 242 RX7 "length" "I" ∈ wU := wU_in (tb2 (j := 185) (by decide +kernel)) (by decide +kernel)
theorem wd_2_186 : Cond.laysFinal "LiftCredit$Sheet" "LiftCredit$Sheet" "numbers" "[I" ∈ wU := wU_in (tb2 (j := 186) (by decide +kernel)) (by decide +kernel)
theorem wd_2_188 : Cond.lays "LiftCredit$Sheet" "LiftCredit$Sheet" "bits" "I" ∈ wU := wU_in (tb2 (j := 188) (by decide +kernel)) (by decide +kernel)
theorem wd_2_190 : Cond.lays "LiftCredit$Sheet" "LiftCredit$Sheet" "length" "I" ∈ wU := wU_in (tb2 (j := 190) (by decide +kernel)) (by decide +kernel)
theorem wd_2_192 : Cond.superclass RX7 "java/lang/Object" ∈ wU := wU_in (tb2 (j := 192) (by decide +kernel)) (by decide +kernel)
theorem wd_2_193 : Cond.fieldLink RX11 10 RX11 "lift" "LLiftCredit$Lift;" ∈ wU := wU_in (tb2 (j := 193) (by decide +kernel)) (by decide +kernel)
theorem wd_2_194 : Cond.fieldLink RX11 16 RX11 "kept" "LLiftCredit$Lift;" ∈ wU := wU_in (tb2 (j := 194) (by decide +kernel)) (by decide +kernel)
theorem wd_2_195 : Cond.fieldLink RX11 19 RX11 "images" "I" ∈ wU := wU_in (tb2 (j := 195) (by decide +kernel)) (by decide +kernel)
theorem wd_2_196 : Cond.fieldLink RX11 25 RX11 "sheets" "[LLiftCredit$Sheet;" ∈ wU := wU_in (tb2 (j := 196) (by decide +kernel)) (by decide +kernel)
theorem wd_2_197 : Cond.fieldLink RX11 32 RX11 "trace" "LLiftCredit$Trace;" ∈ wU := wU_in (tb2 (j := 197) (by decide +kernel)) (by decide +kernel)
theorem wd_2_198 : Cond.fieldLink RX11 36 RX11 "errors" "[I" ∈ wU := wU_in (tb2 (j := 198) (by decide +kernel)) (by decide +kernel)
theorem wd_2_199 : Cond.laysFinal "LiftCredit" "LiftCredit" "lift" "LLiftCredit$Lift;" ∈ wU := wU_in (tb2 (j := 199) (by decide +kernel)) (by decide +kernel)
theorem wd_2_201 : Cond.lays "LiftCredit" "LiftCredit" "kept" "LLiftCredit$Lift;" ∈ wU := wU_in (tb2 (j := 201) (by decide +kernel)) (by decide +kernel)
theorem wd_2_203 : Cond.lays "LiftCredit" "LiftCredit" "images" "I" ∈ wU := wU_in (tb2 (j := 203) (by decide +kernel)) (by decide +kernel)
theorem wd_2_205 : Cond.laysFinal "LiftCredit" "LiftCredit" "sheets" "[LLiftCredit$Sheet;" ∈ wU := wU_in (tb2 (j := 205) (by decide +kernel)) (by decide +kernel)
theorem wd_2_207 : Cond.laysFinal "LiftCredit" "LiftCredit" "trace" "LLiftCredit$Trace;" ∈ wU := wU_in (tb2 (j := 207) (by decide +kernel)) (by decide +kernel)
theorem wd_2_209 : Cond.laysFinal "LiftCredit" "LiftCredit" "errors" "[I" ∈ wU := wU_in (tb2 (j := 209) (by decide +kernel)) (by decide +kernel)
theorem wd_2_211 : Cond.superclass RX11 "java/lang/Object" ∈ wU := wU_in (tb2 (j := 211) (by decide +kernel)) (by decide +kernel)
theorem wd_2_212 : Cond.methodLink RL 13 yX11_hear ∈ wU := wU_in (tb2 (j := 212) (by decide +kernel)) (by decide +kernel)
theorem wd_2_213 : Cond.instanceMethod yX11_hear ∈ wU := wU_in (tb2 (j := 213) (by decide +kernel)) (by decide +kernel)
theorem wd_2_214 : Cond.selects RX11 yX11_hear yX11_hear ∈ wU := wU_in (tb2 (j := 214) (by decide +kernel)) (by decide +kernel)
theorem wd_2_215 : Cond.code yX11_hear cX11_hear 4 (some .int) ∈ wU := wU_in (tb2 (j := 215) (by decide +kernel)) (by decide +kernel)
theorem wd_2_216 : Cond.methodLink RX11 41 yX11_isFact ∈ wU := wU_in (tb2 (j := 216) (by decide +kernel)) (by decide +kernel)
theorem wd_2_217 : Cond.static yX11_isFact ∈ wU := wU_in (tb2 (j := 217) (by decide +kernel)) (by decide +kernel)
theorem wd_2_218 : Cond.code yX11_isFact cX11_isFact 1 (some .boolean) ∈ wU := wU_in (tb2 (j := 218) (by decide +kernel)) (by decide +kernel)
theorem wd_2_219 : Cond.methodLink RX11 45 yX11_isSaying ∈ wU := wU_in (tb2 (j := 219) (by decide +kernel)) (by decide +kernel)
theorem wd_2_220 : Cond.static yX11_isSaying ∈ wU := wU_in (tb2 (j := 220) (by decide +kernel)) (by decide +kernel)
theorem wd_2_221 : Cond.code yX11_isSaying cX11_isSaying 1 (some .boolean) ∈ wU := wU_in (tb2 (j := 221) (by decide +kernel)) (by decide +kernel)
theorem wd_2_222 : Cond.methodLink RX11 48 yX11_error ∈ wU := wU_in (tb2 (j := 222) (by decide +kernel)) (by decide +kernel)
theorem wd_2_224 : Cond.instanceMethod yX11_error ∈ wU := wU_in (tb2 (j := 224) (by decide +kernel)) (by decide +kernel)
theorem wd_2_225 : Cond.code yX11_error cX11_error 2 (some .int) ∈ wU := wU_in (tb2 (j := 225) (by decide +kernel)) (by decide +kernel)
theorem wd_2_226 : Cond.constant RX11 274 (-1000000000) ∈ wU := wU_in (tb2 (j := 226) (by decide +kernel)) (by decide +kernel)
theorem wd_2_227 : Cond.methodLink RX11 55 yX11_sayingOf ∈ wU := wU_in (tb2 (j := 227) (by decide +kernel)) (by decide +kernel)
theorem wd_2_228 : Cond.static yX11_sayingOf ∈ wU := wU_in (tb2 (j := 228) (by decide +kernel)) (by decide +kernel)
theorem wd_2_229 : Cond.code yX11_sayingOf cX11_sayingOf 2 (some .int) ∈ wU := wU_in (tb2 (j := 229) (by decide +kernel)) (by decide +kernel)
theorem wd_2_230 : Cond.methodLink RX11 59 yX11_withSaying ∈ wU := wU_in (tb2 (j := 230) (by decide +kernel)) (by decide +kernel)
theorem wd_2_231 : Cond.static yX11_withSaying ∈ wU := wU_in (tb2 (j := 231) (by decide +kernel)) (by decide +kernel)
theorem wd_2_232 : Cond.code yX11_withSaying cX11_withSaying 4 (some .int) ∈ wU := wU_in (tb2 (j := 232) (by decide +kernel)) (by decide +kernel)
theorem wd_2_233 : Cond.methodLink RX11 185 yX11_bothWays ∈ wU := wU_in (tb2 (j := 233) (by decide +kernel)) (by decide +kernel)
theorem wd_2_234 : Cond.static yX11_bothWays ∈ wU := wU_in (tb2 (j := 234) (by decide +kernel)) (by decide +kernel)
theorem wd_2_235 : Cond.code yX11_bothWays cX11_bothWays 1 (some .int) ∈ wU := wU_in (tb2 (j := 235) (by decide +kernel)) (by decide +kernel)
theorem wd_2_236 : Cond.methodLink RL 18 yX11_heard ∈ wU := wU_in (tb2 (j := 236) (by decide +kernel)) (by decide +kernel)
theorem wd_2_237 : Cond.instanceMethod yX11_heard ∈ wU := wU_in (tb2 (j := 237) (by decide +kernel)) (by decide +kernel)
theorem wd_2_238 : Cond.selects RX11 yX11_heard yX11_heard ∈ wU := wU_in (tb2 (j := 238) (by decide +kernel)) (by decide +kernel)
theorem wd_2_239 : Cond.code yX11_heard cX11_heard 1 (some .int) ∈ wU := wU_in (tb2 (j := 239) (by decide +kernel)) (by decide +kernel)
theorem wd_3_0 : Cond.methodLink RX11 63 yX11_numberOf ∈ wU := wU_in (tb3 (j := 0) (by decide +kernel)) (by decide +kernel)
theorem wd_3_1 : Cond.static yX11_numberOf ∈ wU := wU_in (tb3 (j := 1) (by decide +kernel)) (by decide +kernel)
theorem wd_3_2 : Cond.code yX11_numberOf cX11_numberOf 3 (some .int) ∈ wU := wU_in (tb3 (j := 2) (by decide +kernel)) (by decide +kernel)
theorem wd_3_3 : Cond.methodLink RL 23 yX11_world ∈ wU := wU_in (tb3 (j := 3) (by decide +kernel)) (by decide +kernel)
theorem wd_3_4 : Cond.instanceMethod yX11_world ∈ wU := wU_in (tb3 (j := 4) (by decide +kernel)) (by decide +kernel)
theorem wd_3_5 : Cond.selects RX11 yX11_world yX11_world ∈ wU := wU_in (tb3 (j := 5) (by decide +kernel)) (by decide +kernel)
theorem wd_3_6 : Cond.code yX11_world cX11_world 3 (some .int) ∈ wU := wU_in (tb3 (j := 6) (by decide +kernel)) (by decide +kernel)
theorem wd_3_7 : Cond.methodLink RL 28 yX11_trust ∈ wU := wU_in (tb3 (j := 7) (by decide +kernel)) (by decide +kernel)
theorem wd_3_8 : Cond.instanceMethod yX11_trust ∈ wU := wU_in (tb3 (j := 8) (by decide +kernel)) (by decide +kernel)
theorem wd_3_9 : Cond.selects RX11 yX11_trust yX11_trust ∈ wU := wU_in (tb3 (j := 9) (by decide +kernel)) (by decide +kernel)
theorem wd_3_10 : Cond.code yX11_trust cX11_trust 3 (some .int) ∈ wU := wU_in (tb3 (j := 10) (by decide +kernel)) (by decide +kernel)
theorem wd_3_11 : Cond.methodLink RL 32 yX11_rider ∈ wU := wU_in (tb3 (j := 11) (by decide +kernel)) (by decide +kernel)
theorem wd_3_12 : Cond.instanceMethod yX11_rider ∈ wU := wU_in (tb3 (j := 12) (by decide +kernel)) (by decide +kernel)
theorem wd_3_13 : Cond.selects RX11 yX11_rider yX11_rider ∈ wU := wU_in (tb3 (j := 13) (by decide +kernel)) (by decide +kernel)
theorem wd_3_14 : Cond.code yX11_rider cX11_rider 3 (some .int) ∈ wU := wU_in (tb3 (j := 14) (by decide +kernel)) (by decide +kernel)
theorem wd_3_15 : Cond.methodLink RX11 72 yX11_isKindWithNumber ∈ wU := wU_in (tb3 (j := 15) (by decide +kernel)) (by decide +kernel)
theorem wd_3_16 : Cond.static yX11_isKindWithNumber ∈ wU := wU_in (tb3 (j := 16) (by decide +kernel)) (by decide +kernel)
theorem wd_3_17 : Cond.code yX11_isKindWithNumber cX11_isKindWithNumber 1 (some .boolean) ∈ wU := wU_in (tb3 (j := 17) (by decide +kernel)) (by decide +kernel)
theorem wd_3_18 : Cond.methodLink RX11 82 yX11_riderOf ∈ wU := wU_in (tb3 (j := 18) (by decide +kernel)) (by decide +kernel)
theorem wd_3_19 : Cond.methodLink RL 36 yX11_ofRider ∈ wU := wU_in (tb3 (j := 19) (by decide +kernel)) (by decide +kernel)
theorem wd_3_20 : Cond.instanceMethod yX11_ofRider ∈ wU := wU_in (tb3 (j := 20) (by decide +kernel)) (by decide +kernel)
theorem wd_3_21 : Cond.selects RX11 yX11_ofRider yX11_ofRider ∈ wU := wU_in (tb3 (j := 21) (by decide +kernel)) (by decide +kernel)
theorem wd_3_22 : Cond.code yX11_ofRider cX11_ofRider 4 (some .int) ∈ wU := wU_in (tb3 (j := 22) (by decide +kernel)) (by decide +kernel)
theorem wd_3_23 : Cond.methodLink RX11 89 yX11_isRider ∈ wU := wU_in (tb3 (j := 23) (by decide +kernel)) (by decide +kernel)
theorem wd_3_25 : Cond.instanceMethod yX11_isRider ∈ wU := wU_in (tb3 (j := 25) (by decide +kernel)) (by decide +kernel)
theorem wd_3_26 : Cond.code yX11_isRider cX11_isRider 2 (some .boolean) ∈ wU := wU_in (tb3 (j := 26) (by decide +kernel)) (by decide +kernel)
theorem wd_3_27 : Cond.methodLink RX11 100 yJ6_bitCount_0f7a4 ∈ wU := wU_in (tb3 (j := 27) (by decide +kernel)) (by decide +kernel)
theorem wd_3_28 : Cond.static yJ6_bitCount_0f7a4 ∈ wU := wU_in (tb3 (j := 28) (by decide +kernel)) (by decide +kernel)
theorem wd_3_29 : Cond.code yJ6_bitCount_0f7a4 cJ6_bitCount_0f7a4 1 (some .int) ∈ wU := wU_in (tb3 (j := 29) (by decide +kernel)) (by decide +kernel)
theorem wd_3_30 : Cond.constant "java/lang/Integer" 265 (1431655765) ∈ wU := wU_in (tb3 (j := 30) (by decide +kernel)) (by decide +kernel)
theorem wd_3_31 : Cond.constant "java/lang/Integer" 266 (858993459) ∈ wU := wU_in (tb3 (j := 31) (by decide +kernel)) (by decide +kernel)
theorem wd_3_32 : Cond.constant "java/lang/Integer" 267 (252645135) ∈ wU := wU_in (tb3 (j := 32) (by decide +kernel)) (by decide +kernel)
theorem wd_3_33 : Cond.methodLink RX11 105 yX11_asHeard ∈ wU := wU_in (tb3 (j := 33) (by decide +kernel)) (by decide +kernel)
theorem wd_3_34 : Cond.static yX11_asHeard ∈ wU := wU_in (tb3 (j := 34) (by decide +kernel)) (by decide +kernel)
theorem wd_3_35 : Cond.code yX11_asHeard cX11_asHeard 2 (some .int) ∈ wU := wU_in (tb3 (j := 35) (by decide +kernel)) (by decide +kernel)
theorem wd_3_36 : Cond.methodLink RX11 108 yX11_otherWay ∈ wU := wU_in (tb3 (j := 36) (by decide +kernel)) (by decide +kernel)
theorem wd_3_37 : Cond.static yX11_otherWay ∈ wU := wU_in (tb3 (j := 37) (by decide +kernel)) (by decide +kernel)
theorem wd_3_38 : Cond.code yX11_otherWay cX11_otherWay 2 (some .int) ∈ wU := wU_in (tb3 (j := 38) (by decide +kernel)) (by decide +kernel)
theorem wd_3_39 : Cond.methodLink RX11 278 yX11_turned ∈ wU := wU_in (tb3 (j := 39) (by decide +kernel)) (by decide +kernel)
theorem wd_3_40 : Cond.static yX11_turned ∈ wU := wU_in (tb3 (j := 40) (by decide +kernel)) (by decide +kernel)
theorem wd_3_41 : Cond.code yX11_turned cX11_turned 1 (some .int) ∈ wU := wU_in (tb3 (j := 41) (by decide +kernel)) (by decide +kernel)
theorem wd_3_42 : Cond.methodLink RX11 111 yX11_unheard ∈ wU := wU_in (tb3 (j := 42) (by decide +kernel)) (by decide +kernel)
theorem wd_3_43 : Cond.static yX11_unheard ∈ wU := wU_in (tb3 (j := 43) (by decide +kernel)) (by decide +kernel)
theorem wd_3_44 : Cond.code yX11_unheard cX11_unheard 2 (some .int) ∈ wU := wU_in (tb3 (j := 44) (by decide +kernel)) (by decide +kernel)
theorem wd_3_45 : Cond.methodLink RX11 191 yX11_factsOf ∈ wU := wU_in (tb3 (j := 45) (by decide +kernel)) (by decide +kernel)
theorem wd_3_46 : Cond.static yX11_factsOf ∈ wU := wU_in (tb3 (j := 46) (by decide +kernel)) (by decide +kernel)
theorem wd_3_47 : Cond.code yX11_factsOf cX11_factsOf 1 (some .int) ∈ wU := wU_in (tb3 (j := 47) (by decide +kernel)) (by decide +kernel)
theorem wd_3_48 : Cond.methodLink RX11 114 yX4_credit ∈ wU := wU_in (tb3 (j := 48) (by decide +kernel)) (by decide +kernel)
theorem wd_3_49 : Cond.instanceMethod yX4_credit ∈ wU := wU_in (tb3 (j := 49) (by decide +kernel)) (by decide +kernel)
theorem wd_3_50 : Cond.selects RX4 yX4_credit yX4_credit ∈ wU := wU_in (tb3 (j := 50) (by decide +kernel)) (by decide +kernel)
theorem wd_3_51 : Cond.code yX4_credit cX4_credit 8 (some .int) ∈ wU := wU_in (tb3 (j := 51) (by decide +kernel)) (by decide +kernel)
theorem nd_3_52 : Cond.methodLinkNest RX4 111 yX11_asHeard RX11 ∈ lw_tbl := tb3 (j := 52) (by decide +kernel)
theorem nd_3_53 : Cond.methodLinkNest RX4 115 yX11_otherWay RX11 ∈ lw_tbl := tb3 (j := 53) (by decide +kernel)
theorem nd_3_54 : Cond.methodLinkNest RX4 118 yX11_unheard RX11 ∈ lw_tbl := tb3 (j := 54) (by decide +kernel)
theorem wd_3_55 : Cond.methodLink RX4 121 yX6_counted ∈ wU := wU_in (tb3 (j := 55) (by decide +kernel)) (by decide +kernel)
theorem wd_3_56 : Cond.instanceMethod yX6_counted ∈ wU := wU_in (tb3 (j := 56) (by decide +kernel)) (by decide +kernel)
theorem wd_3_57 : Cond.selects RX6 yX6_counted yX6_counted ∈ wU := wU_in (tb3 (j := 57) (by decide +kernel)) (by decide +kernel)
theorem wd_3_58 : Cond.sameMethod RX6 RX6 "counted" "(I)I" ∈ wU := wU_in (tb3 (j := 58) (by decide +kernel)) (by decide +kernel)
theorem wd_3_59 : Cond.selects RX0 yX6_counted yX6_counted ∈ wU := wU_in (tb3 (j := 59) (by decide +kernel)) (by decide +kernel)
theorem wd_3_60 : Cond.selects RX1 yX6_counted yX6_counted ∈ wU := wU_in (tb3 (j := 60) (by decide +kernel)) (by decide +kernel)
theorem wd_3_61 : Cond.selects RX3 yX6_counted yX3_counted ∈ wU := wU_in (tb3 (j := 61) (by decide +kernel)) (by decide +kernel)
theorem wd_3_62 : Cond.instanceMethod yX3_counted ∈ wU := wU_in (tb3 (j := 62) (by decide +kernel)) (by decide +kernel)
theorem wd_3_63 : Cond.code yX3_counted cX3_counted 2 (some .int) ∈ wU := wU_in (tb3 (j := 63) (by decide +kernel)) (by decide +kernel)
theorem wd_3_64 : Cond.selects RX5 yX6_counted yX3_counted ∈ wU := wU_in (tb3 (j := 64) (by decide +kernel)) (by decide +kernel)
theorem wd_3_65 : Cond.selects RX8 yX6_counted yX6_counted ∈ wU := wU_in (tb3 (j := 65) (by decide +kernel)) (by decide +kernel)
theorem wd_3_66 : Cond.selects RX10 yX6_counted yX6_counted ∈ wU := wU_in (tb3 (j := 66) (by decide +kernel)) (by decide +kernel)
theorem wd_3_67 : Cond.code yX6_counted cX6_counted 2 (some .int) ∈ wU := wU_in (tb3 (j := 67) (by decide +kernel)) (by decide +kernel)
theorem wd_3_68 : Cond.methodLink RX4 125 yX6_credit ∈ wU := wU_in (tb3 (j := 68) (by decide +kernel)) (by decide +kernel)
theorem wd_3_69 : Cond.instanceMethod yX6_credit ∈ wU := wU_in (tb3 (j := 69) (by decide +kernel)) (by decide +kernel)
theorem wd_3_70 : Cond.selects RX6 yX6_credit yX6_credit ∈ wU := wU_in (tb3 (j := 70) (by decide +kernel)) (by decide +kernel)
theorem wd_3_71 : Cond.sameMethod RX6 RX6 "credit" "(IIII)I" ∈ wU := wU_in (tb3 (j := 71) (by decide +kernel)) (by decide +kernel)
theorem wd_3_72 : Cond.selects RX0 yX6_credit yX0_credit ∈ wU := wU_in (tb3 (j := 72) (by decide +kernel)) (by decide +kernel)
theorem wd_3_73 : Cond.instanceMethod yX0_credit ∈ wU := wU_in (tb3 (j := 73) (by decide +kernel)) (by decide +kernel)
theorem wd_3_74 : Cond.code yX0_credit cX0_credit 5 (some .int) ∈ wU := wU_in (tb3 (j := 74) (by decide +kernel)) (by decide +kernel)
theorem wd_3_75 : Cond.methodLink RX0 7 yJ9_min_7cf53 ∈ wU := wU_in (tb3 (j := 75) (by decide +kernel)) (by decide +kernel)
theorem wd_3_76 : Cond.selects RX1 yX6_credit yX1_credit ∈ wU := wU_in (tb3 (j := 76) (by decide +kernel)) (by decide +kernel)
theorem wd_3_77 : Cond.instanceMethod yX1_credit ∈ wU := wU_in (tb3 (j := 77) (by decide +kernel)) (by decide +kernel)
theorem wd_3_78 : Cond.code yX1_credit cX1_credit 5 (some .int) ∈ wU := wU_in (tb3 (j := 78) (by decide +kernel)) (by decide +kernel)
theorem wd_3_79 : Cond.methodLink RX1 7 yX0_credit ∈ wU := wU_in (tb3 (j := 79) (by decide +kernel)) (by decide +kernel)
theorem wd_3_80 : Cond.selects RX3 yX6_credit yX6_credit ∈ wU := wU_in (tb3 (j := 80) (by decide +kernel)) (by decide +kernel)
theorem wd_3_81 : Cond.selects RX5 yX6_credit yX5_credit ∈ wU := wU_in (tb3 (j := 81) (by decide +kernel)) (by decide +kernel)
theorem wd_3_82 : Cond.instanceMethod yX5_credit ∈ wU := wU_in (tb3 (j := 82) (by decide +kernel)) (by decide +kernel)
theorem wd_3_83 : Cond.code yX5_credit cX5_credit 5 (some .int) ∈ wU := wU_in (tb3 (j := 83) (by decide +kernel)) (by decide +kernel)
theorem wd_3_84 : Cond.methodLink RX5 7 (⟨RX3, "credit", "(IIII)I"⟩ : MethodName) ∈ wU := wU_in (tb3 (j := 84) (by decide +kernel)) (by decide +kernel)
theorem wd_3_85 : Cond.sameMethod RX3 RX6 "credit" "(IIII)I" ∈ wU := wU_in (tb3 (j := 85) (by decide +kernel)) (by decide +kernel)
theorem nd_3_86 : Cond.declares yX6_credit ∈ lw_tbl := tb3 (j := 86) (by decide +kernel)
theorem wd_3_87 : Cond.selects RX8 yX6_credit yX8_credit ∈ wU := wU_in (tb3 (j := 87) (by decide +kernel)) (by decide +kernel)
theorem wd_3_88 : Cond.instanceMethod yX8_credit ∈ wU := wU_in (tb3 (j := 88) (by decide +kernel)) (by decide +kernel)
theorem wd_3_89 : Cond.code yX8_credit cX8_credit 5 (some .int) ∈ wU := wU_in (tb3 (j := 89) (by decide +kernel)) (by decide +kernel)
theorem wd_3_90 : Cond.methodLink RX8 7 yX10_credit ∈ wU := wU_in (tb3 (j := 90) (by decide +kernel)) (by decide +kernel)
theorem wd_3_91 : Cond.instanceMethod yX10_credit ∈ wU := wU_in (tb3 (j := 91) (by decide +kernel)) (by decide +kernel)
theorem wd_3_92 : Cond.code yX10_credit cX10_credit 5 (some .int) ∈ wU := wU_in (tb3 (j := 92) (by decide +kernel)) (by decide +kernel)
theorem wd_3_93 : Cond.selects RX10 yX6_credit yX10_credit ∈ wU := wU_in (tb3 (j := 93) (by decide +kernel)) (by decide +kernel)
theorem wd_3_94 : Cond.code yX6_credit cX6_credit 5 (some .int) ∈ wU := wU_in (tb3 (j := 94) (by decide +kernel)) (by decide +kernel)
theorem wd_3_95 : Cond.methodLink RX11 117 yX4_floor ∈ wU := wU_in (tb3 (j := 95) (by decide +kernel)) (by decide +kernel)
theorem wd_3_96 : Cond.instanceMethod yX4_floor ∈ wU := wU_in (tb3 (j := 96) (by decide +kernel)) (by decide +kernel)
theorem wd_3_97 : Cond.selects RX4 yX4_floor yX4_floor ∈ wU := wU_in (tb3 (j := 97) (by decide +kernel)) (by decide +kernel)
theorem wd_3_98 : Cond.code yX4_floor cX4_floor 4 (some .int) ∈ wU := wU_in (tb3 (j := 98) (by decide +kernel)) (by decide +kernel)
theorem wd_3_99 : Cond.methodLink RX4 129 yX4_credit ∈ wU := wU_in (tb3 (j := 99) (by decide +kernel)) (by decide +kernel)
theorem nd_3_100 : Cond.methodLinkNest RX4 131 yX11_held RX11 ∈ lw_tbl := tb3 (j := 100) (by decide +kernel)
theorem wd_3_101 : Cond.methodLink RX11 120 yX11_truth ∈ wU := wU_in (tb3 (j := 101) (by decide +kernel)) (by decide +kernel)
theorem wd_3_102 : Cond.static yX11_truth ∈ wU := wU_in (tb3 (j := 102) (by decide +kernel)) (by decide +kernel)
theorem wd_3_103 : Cond.code yX11_truth cX11_truth 1 (some .int) ∈ wU := wU_in (tb3 (j := 103) (by decide +kernel)) (by decide +kernel)
theorem wd_3_104 : Cond.methodLink RX11 123 yX11_isWithin ∈ wU := wU_in (tb3 (j := 104) (by decide +kernel)) (by decide +kernel)
theorem wd_3_105 : Cond.static yX11_isWithin ∈ wU := wU_in (tb3 (j := 105) (by decide +kernel)) (by decide +kernel)
theorem wd_3_106 : Cond.code yX11_isWithin cX11_isWithin 2 (some .boolean) ∈ wU := wU_in (tb3 (j := 106) (by decide +kernel)) (by decide +kernel)
theorem wd_3_107 : Cond.methodLink RL 40 yX11_story ∈ wU := wU_in (tb3 (j := 107) (by decide +kernel)) (by decide +kernel)
theorem wd_3_108 : Cond.instanceMethod yX11_story ∈ wU := wU_in (tb3 (j := 108) (by decide +kernel)) (by decide +kernel)
theorem wd_3_109 : Cond.selects RX11 yX11_story yX11_story ∈ wU := wU_in (tb3 (j := 109) (by decide +kernel)) (by decide +kernel)
theorem wd_3_110 : Cond.code yX11_story cX11_story 4 (some .int) ∈ wU := wU_in (tb3 (j := 110) (by decide +kernel)) (by decide +kernel)
theorem wd_3_111 : Cond.methodLink RX11 127 yX11_isStory ∈ wU := wU_in (tb3 (j := 111) (by decide +kernel)) (by decide +kernel)
theorem wd_3_112 : Cond.static yX11_isStory ∈ wU := wU_in (tb3 (j := 112) (by decide +kernel)) (by decide +kernel)
theorem wd_3_113 : Cond.code yX11_isStory cX11_isStory 1 (some .boolean) ∈ wU := wU_in (tb3 (j := 113) (by decide +kernel)) (by decide +kernel)
theorem wd_3_114 : Cond.methodLink RX11 130 yX11_sayingsOf ∈ wU := wU_in (tb3 (j := 114) (by decide +kernel)) (by decide +kernel)
theorem wd_3_115 : Cond.static yX11_sayingsOf ∈ wU := wU_in (tb3 (j := 115) (by decide +kernel)) (by decide +kernel)
theorem wd_3_116 : Cond.code yX11_sayingsOf cX11_sayingsOf 4 (some .int) ∈ wU := wU_in (tb3 (j := 116) (by decide +kernel)) (by decide +kernel)
theorem wd_3_117 : Cond.methodLink RL 44 yX11_say ∈ wU := wU_in (tb3 (j := 117) (by decide +kernel)) (by decide +kernel)
theorem wd_3_118 : Cond.instanceMethod yX11_say ∈ wU := wU_in (tb3 (j := 118) (by decide +kernel)) (by decide +kernel)
theorem wd_3_119 : Cond.selects RX11 yX11_say yX11_say ∈ wU := wU_in (tb3 (j := 119) (by decide +kernel)) (by decide +kernel)
theorem wd_3_120 : Cond.code yX11_say cX11_say 5 (some .int) ∈ wU := wU_in (tb3 (j := 120) (by decide +kernel)) (by decide +kernel)
theorem wd_3_121 : Cond.methodLink RL 49 yX11_become ∈ wU := wU_in (tb3 (j := 121) (by decide +kernel)) (by decide +kernel)
theorem wd_3_122 : Cond.instanceMethod yX11_become ∈ wU := wU_in (tb3 (j := 122) (by decide +kernel)) (by decide +kernel)
theorem wd_3_123 : Cond.selects RX11 yX11_become yX11_become ∈ wU := wU_in (tb3 (j := 123) (by decide +kernel)) (by decide +kernel)
theorem wd_3_124 : Cond.code yX11_become cX11_become 4 (some .int) ∈ wU := wU_in (tb3 (j := 124) (by decide +kernel)) (by decide +kernel)
theorem wd_3_125 : Cond.methodLink RL 53 yX11_as ∈ wU := wU_in (tb3 (j := 125) (by decide +kernel)) (by decide +kernel)
theorem wd_3_126 : Cond.instanceMethod yX11_as ∈ wU := wU_in (tb3 (j := 126) (by decide +kernel)) (by decide +kernel)
theorem wd_3_127 : Cond.selects RX11 yX11_as yX11_as ∈ wU := wU_in (tb3 (j := 127) (by decide +kernel)) (by decide +kernel)
theorem wd_3_128 : Cond.code yX11_as cX11_as 4 (some .int) ∈ wU := wU_in (tb3 (j := 128) (by decide +kernel)) (by decide +kernel)
theorem wd_3_129 : Cond.methodLink RX11 133 yX11_isOfKind ∈ wU := wU_in (tb3 (j := 129) (by decide +kernel)) (by decide +kernel)
theorem wd_3_130 : Cond.static yX11_isOfKind ∈ wU := wU_in (tb3 (j := 130) (by decide +kernel)) (by decide +kernel)
theorem wd_3_131 : Cond.code yX11_isOfKind cX11_isOfKind 2 (some .boolean) ∈ wU := wU_in (tb3 (j := 131) (by decide +kernel)) (by decide +kernel)
theorem wd_3_132 : Cond.methodLink RL 59 yX11_feed ∈ wU := wU_in (tb3 (j := 132) (by decide +kernel)) (by decide +kernel)
theorem wd_3_133 : Cond.instanceMethod yX11_feed ∈ wU := wU_in (tb3 (j := 133) (by decide +kernel)) (by decide +kernel)
theorem wd_3_134 : Cond.selects RX11 yX11_feed yX11_feed ∈ wU := wU_in (tb3 (j := 134) (by decide +kernel)) (by decide +kernel)
theorem wd_3_135 : Cond.code yX11_feed cX11_feed 5 (some .int) ∈ wU := wU_in (tb3 (j := 135) (by decide +kernel)) (by decide +kernel)
theorem wd_3_136 : Cond.methodLink RL 64 yX11_text ∈ wU := wU_in (tb3 (j := 136) (by decide +kernel)) (by decide +kernel)
theorem wd_3_137 : Cond.instanceMethod yX11_text ∈ wU := wU_in (tb3 (j := 137) (by decide +kernel)) (by decide +kernel)
theorem wd_3_138 : Cond.selects RX11 yX11_text yX11_text ∈ wU := wU_in (tb3 (j := 138) (by decide +kernel)) (by decide +kernel)
theorem wd_3_139 : Cond.code yX11_text cX11_text 3 (some .int) ∈ wU := wU_in (tb3 (j := 139) (by decide +kernel)) (by decide +kernel)
theorem wd_3_140 : Cond.methodLink RX11 144 yX11_isUse ∈ wU := wU_in (tb3 (j := 140) (by decide +kernel)) (by decide +kernel)
theorem wd_3_141 : Cond.static yX11_isUse ∈ wU := wU_in (tb3 (j := 141) (by decide +kernel)) (by decide +kernel)
theorem wd_3_142 : Cond.code yX11_isUse cX11_isUse 1 (some .boolean) ∈ wU := wU_in (tb3 (j := 142) (by decide +kernel)) (by decide +kernel)
theorem wd_3_143 : Cond.methodLink RX11 147 yX4_takeTape ∈ wU := wU_in (tb3 (j := 143) (by decide +kernel)) (by decide +kernel)
theorem wd_3_144 : Cond.instanceMethod yX4_takeTape ∈ wU := wU_in (tb3 (j := 144) (by decide +kernel)) (by decide +kernel)
theorem wd_3_145 : Cond.selects RX4 yX4_takeTape yX4_takeTape ∈ wU := wU_in (tb3 (j := 145) (by decide +kernel)) (by decide +kernel)
theorem wd_3_146 : Cond.code yX4_takeTape cX4_takeTape 3 (some .int) ∈ wU := wU_in (tb3 (j := 146) (by decide +kernel)) (by decide +kernel)
theorem wd_3_147 : Cond.methodLink RX4 96 yX4_lawOf ∈ wU := wU_in (tb3 (j := 147) (by decide +kernel)) (by decide +kernel)
theorem wd_3_148 : Cond.instanceMethod yX4_lawOf ∈ wU := wU_in (tb3 (j := 148) (by decide +kernel)) (by decide +kernel)
theorem wd_3_149 : Cond.selects RX4 yX4_lawOf yX4_lawOf ∈ wU := wU_in (tb3 (j := 149) (by decide +kernel)) (by decide +kernel)
theorem wd_3_150 : Cond.code yX4_lawOf cX4_lawOf 2 (some (.object RX2)) ∈ wU := wU_in (tb3 (j := 150) (by decide +kernel)) (by decide +kernel)
theorem wd_3_151 : Cond.methodLink RX4 100 yX2_take ∈ wU := wU_in (tb3 (j := 151) (by decide +kernel)) (by decide +kernel)
theorem wd_3_152 : Cond.instanceMethod yX2_take ∈ wU := wU_in (tb3 (j := 152) (by decide +kernel)) (by decide +kernel)
theorem wd_3_153 : Cond.selects RX2 yX2_take yX2_take ∈ wU := wU_in (tb3 (j := 153) (by decide +kernel)) (by decide +kernel)
theorem wd_3_154 : Cond.code yX2_take cX2_take 3 (some .int) ∈ wU := wU_in (tb3 (j := 154) (by decide +kernel)) (by decide +kernel)
theorem wd_3_155 : Cond.methodLink RX2 60 (⟨RJ10, "arraycopy", "(Ljava/lang/Object;ILjava/lang/Object;II)V"⟩ : MethodName) ∈ wU := wU_in (tb3 (j := 155) (by decide +kernel)) (by decide +kernel)
theorem wd_3_156 : Cond.static (⟨RJ10, "arraycopy", "(Ljava/lang/Object;ILjava/lang/Object;II)V"⟩ : MethodName) ∈ wU := wU_in (tb3 (j := 156) (by decide +kernel)) (by decide +kernel)
theorem wd_3_157 : Cond.native (⟨RJ10, "arraycopy", "(Ljava/lang/Object;ILjava/lang/Object;II)V"⟩ : MethodName) ∈ wU := wU_in (tb3 (j := 157) (by decide +kernel)) (by decide +kernel)
theorem wd_3_158 : Cond.methodLink RL 68 yX11_law ∈ wU := wU_in (tb3 (j := 158) (by decide +kernel)) (by decide +kernel)
theorem wd_3_159 : Cond.instanceMethod yX11_law ∈ wU := wU_in (tb3 (j := 159) (by decide +kernel)) (by decide +kernel)
theorem wd_3_160 : Cond.selects RX11 yX11_law yX11_law ∈ wU := wU_in (tb3 (j := 160) (by decide +kernel)) (by decide +kernel)
theorem wd_3_161 : Cond.code yX11_law cX11_law 5 (some .int) ∈ wU := wU_in (tb3 (j := 161) (by decide +kernel)) (by decide +kernel)
theorem wd_3_162 : Cond.methodLink RX11 150 yX4_lawOf ∈ wU := wU_in (tb3 (j := 162) (by decide +kernel)) (by decide +kernel)
theorem wd_3_163 : Cond.methodLink RX11 154 yX2_gives ∈ wU := wU_in (tb3 (j := 163) (by decide +kernel)) (by decide +kernel)
theorem wd_3_164 : Cond.methodLink RL 73 yX11_ride ∈ wU := wU_in (tb3 (j := 164) (by decide +kernel)) (by decide +kernel)
theorem wd_3_165 : Cond.instanceMethod yX11_ride ∈ wU := wU_in (tb3 (j := 165) (by decide +kernel)) (by decide +kernel)
theorem wd_3_166 : Cond.selects RX11 yX11_ride yX11_ride ∈ wU := wU_in (tb3 (j := 166) (by decide +kernel)) (by decide +kernel)
theorem wd_3_167 : Cond.code yX11_ride cX11_ride 3 (some .int) ∈ wU := wU_in (tb3 (j := 167) (by decide +kernel)) (by decide +kernel)
theorem wd_3_168 : Cond.methodLink RX11 159 yX4_afterRide ∈ wU := wU_in (tb3 (j := 168) (by decide +kernel)) (by decide +kernel)
theorem wd_3_169 : Cond.instanceMethod yX4_afterRide ∈ wU := wU_in (tb3 (j := 169) (by decide +kernel)) (by decide +kernel)
theorem wd_3_170 : Cond.selects RX4 yX4_afterRide yX4_afterRide ∈ wU := wU_in (tb3 (j := 170) (by decide +kernel)) (by decide +kernel)
theorem wd_3_171 : Cond.code yX4_afterRide cX4_afterRide 7 (some .int) ∈ wU := wU_in (tb3 (j := 171) (by decide +kernel)) (by decide +kernel)
theorem wd_3_172 : Cond.methodLink RX4 144 yX4_floor ∈ wU := wU_in (tb3 (j := 172) (by decide +kernel)) (by decide +kernel)
theorem nd_3_173 : Cond.methodLinkNest RX4 150 yX11_factsOf RX11 ∈ lw_tbl := tb3 (j := 173) (by decide +kernel)
theorem nd_3_174 : Cond.methodLinkNest RX4 153 yX11_bothWays RX11 ∈ lw_tbl := tb3 (j := 174) (by decide +kernel)
theorem nd_3_175 : Cond.methodLinkNest RX4 156 yX11_turned RX11 ∈ lw_tbl := tb3 (j := 175) (by decide +kernel)
theorem wd_3_176 : Cond.methodLink RX11 162 yX4_countRides ∈ wU := wU_in (tb3 (j := 176) (by decide +kernel)) (by decide +kernel)
theorem wd_3_177 : Cond.instanceMethod yX4_countRides ∈ wU := wU_in (tb3 (j := 177) (by decide +kernel)) (by decide +kernel)
theorem wd_3_178 : Cond.selects RX4 yX4_countRides yX4_countRides ∈ wU := wU_in (tb3 (j := 178) (by decide +kernel)) (by decide +kernel)
theorem wd_3_179 : Cond.code yX4_countRides cX4_countRides 2 none ∈ wU := wU_in (tb3 (j := 179) (by decide +kernel)) (by decide +kernel)
theorem wd_3_180 : Cond.methodLink RX4 166 yJ9_min_7cf53 ∈ wU := wU_in (tb3 (j := 180) (by decide +kernel)) (by decide +kernel)
theorem wd_3_181 : Cond.methodLink RL 77 yX11_days ∈ wU := wU_in (tb3 (j := 181) (by decide +kernel)) (by decide +kernel)
theorem wd_3_182 : Cond.instanceMethod yX11_days ∈ wU := wU_in (tb3 (j := 182) (by decide +kernel)) (by decide +kernel)
theorem wd_3_183 : Cond.selects RX11 yX11_days yX11_days ∈ wU := wU_in (tb3 (j := 183) (by decide +kernel)) (by decide +kernel)
theorem wd_3_184 : Cond.code yX11_days cX11_days 3 (some .int) ∈ wU := wU_in (tb3 (j := 184) (by decide +kernel)) (by decide +kernel)
theorem wd_3_185 : Cond.methodLink RX11 169 yX4_afterDay ∈ wU := wU_in (tb3 (j := 185) (by decide +kernel)) (by decide +kernel)
theorem wd_3_186 : Cond.instanceMethod yX4_afterDay ∈ wU := wU_in (tb3 (j := 186) (by decide +kernel)) (by decide +kernel)
theorem wd_3_187 : Cond.selects RX4 yX4_afterDay yX4_afterDay ∈ wU := wU_in (tb3 (j := 187) (by decide +kernel)) (by decide +kernel)
theorem wd_3_188 : Cond.code yX4_afterDay cX4_afterDay 4 (some .int) ∈ wU := wU_in (tb3 (j := 188) (by decide +kernel)) (by decide +kernel)
theorem wd_3_189 : Cond.methodLink RX4 159 yX4_afterRide ∈ wU := wU_in (tb3 (j := 189) (by decide +kernel)) (by decide +kernel)
theorem wd_3_190 : Cond.methodLink RX11 172 yX4_countDays ∈ wU := wU_in (tb3 (j := 190) (by decide +kernel)) (by decide +kernel)
theorem wd_3_191 : Cond.instanceMethod yX4_countDays ∈ wU := wU_in (tb3 (j := 191) (by decide +kernel)) (by decide +kernel)
theorem wd_3_192 : Cond.selects RX4 yX4_countDays yX4_countDays ∈ wU := wU_in (tb3 (j := 192) (by decide +kernel)) (by decide +kernel)
theorem wd_3_193 : Cond.code yX4_countDays cX4_countDays 2 none ∈ wU := wU_in (tb3 (j := 193) (by decide +kernel)) (by decide +kernel)
theorem wd_3_194 : Cond.methodLink RX4 162 yX4_countRides ∈ wU := wU_in (tb3 (j := 194) (by decide +kernel)) (by decide +kernel)
theorem wd_3_195 : Cond.methodLink RL 81 yX11_rumours ∈ wU := wU_in (tb3 (j := 195) (by decide +kernel)) (by decide +kernel)
theorem wd_3_196 : Cond.instanceMethod yX11_rumours ∈ wU := wU_in (tb3 (j := 196) (by decide +kernel)) (by decide +kernel)
theorem wd_3_197 : Cond.selects RX11 yX11_rumours yX11_rumours ∈ wU := wU_in (tb3 (j := 197) (by decide +kernel)) (by decide +kernel)
theorem wd_3_198 : Cond.code yX11_rumours cX11_rumours 5 (some .int) ∈ wU := wU_in (tb3 (j := 198) (by decide +kernel)) (by decide +kernel)
theorem wd_3_199 : Cond.methodLink RX11 175 yX4_draw ∈ wU := wU_in (tb3 (j := 199) (by decide +kernel)) (by decide +kernel)
theorem wd_3_200 : Cond.instanceMethod yX4_draw ∈ wU := wU_in (tb3 (j := 200) (by decide +kernel)) (by decide +kernel)
theorem wd_3_201 : Cond.selects RX4 yX4_draw yX4_draw ∈ wU := wU_in (tb3 (j := 201) (by decide +kernel)) (by decide +kernel)
theorem wd_3_202 : Cond.code yX4_draw cX4_draw 1 (some .int) ∈ wU := wU_in (tb3 (j := 202) (by decide +kernel)) (by decide +kernel)
theorem wd_3_203 : Cond.constant RX4 171 (1103515245) ∈ wU := wU_in (tb3 (j := 203) (by decide +kernel)) (by decide +kernel)
theorem wd_3_204 : Cond.methodLink RL 85 yX11_together ∈ wU := wU_in (tb3 (j := 204) (by decide +kernel)) (by decide +kernel)
theorem wd_3_205 : Cond.instanceMethod yX11_together ∈ wU := wU_in (tb3 (j := 205) (by decide +kernel)) (by decide +kernel)
theorem wd_3_206 : Cond.selects RX11 yX11_together yX11_together ∈ wU := wU_in (tb3 (j := 206) (by decide +kernel)) (by decide +kernel)
theorem wd_3_207 : Cond.code yX11_together cX11_together 2 (some .int) ∈ wU := wU_in (tb3 (j := 207) (by decide +kernel)) (by decide +kernel)
theorem wd_3_208 : Cond.methodLink RX11 179 yX4_crowdFloor ∈ wU := wU_in (tb3 (j := 208) (by decide +kernel)) (by decide +kernel)
theorem wd_3_209 : Cond.instanceMethod yX4_crowdFloor ∈ wU := wU_in (tb3 (j := 209) (by decide +kernel)) (by decide +kernel)
theorem wd_3_210 : Cond.selects RX4 yX4_crowdFloor yX4_crowdFloor ∈ wU := wU_in (tb3 (j := 210) (by decide +kernel)) (by decide +kernel)
theorem wd_3_211 : Cond.code yX4_crowdFloor cX4_crowdFloor 6 (some .int) ∈ wU := wU_in (tb3 (j := 211) (by decide +kernel)) (by decide +kernel)
theorem wd_3_212 : Cond.methodLink RX4 134 yJ6_bitCount_0f7a4 ∈ wU := wU_in (tb3 (j := 212) (by decide +kernel)) (by decide +kernel)
theorem wd_3_213 : Cond.methodLink RL 89 yX11_bestWith ∈ wU := wU_in (tb3 (j := 213) (by decide +kernel)) (by decide +kernel)
theorem wd_3_214 : Cond.instanceMethod yX11_bestWith ∈ wU := wU_in (tb3 (j := 214) (by decide +kernel)) (by decide +kernel)
theorem wd_3_215 : Cond.selects RX11 yX11_bestWith yX11_bestWith ∈ wU := wU_in (tb3 (j := 215) (by decide +kernel)) (by decide +kernel)
theorem wd_3_216 : Cond.code yX11_bestWith cX11_bestWith 8 (some .int) ∈ wU := wU_in (tb3 (j := 216) (by decide +kernel)) (by decide +kernel)
theorem wd_3_217 : Cond.methodLink RL 93 yX11_shortest ∈ wU := wU_in (tb3 (j := 217) (by decide +kernel)) (by decide +kernel)
theorem wd_3_218 : Cond.instanceMethod yX11_shortest ∈ wU := wU_in (tb3 (j := 218) (by decide +kernel)) (by decide +kernel)
theorem wd_3_219 : Cond.selects RX11 yX11_shortest yX11_shortest ∈ wU := wU_in (tb3 (j := 219) (by decide +kernel)) (by decide +kernel)
theorem wd_3_220 : Cond.code yX11_shortest cX11_shortest 3 (some .int) ∈ wU := wU_in (tb3 (j := 220) (by decide +kernel)) (by decide +kernel)
theorem wd_3_221 : Cond.methodLink RX11 182 yX11_isGoal ∈ wU := wU_in (tb3 (j := 221) (by decide +kernel)) (by decide +kernel)
theorem wd_3_222 : Cond.static yX11_isGoal ∈ wU := wU_in (tb3 (j := 222) (by decide +kernel)) (by decide +kernel)
theorem wd_3_223 : Cond.code yX11_isGoal cX11_isGoal 1 (some .boolean) ∈ wU := wU_in (tb3 (j := 223) (by decide +kernel)) (by decide +kernel)
theorem wd_3_224 : Cond.methodLink RX11 188 yX11_shortestOf ∈ wU := wU_in (tb3 (j := 224) (by decide +kernel)) (by decide +kernel)
theorem wd_3_226 : Cond.instanceMethod yX11_shortestOf ∈ wU := wU_in (tb3 (j := 226) (by decide +kernel)) (by decide +kernel)
theorem wd_3_227 : Cond.code yX11_shortestOf cX11_shortestOf 8 (some .int) ∈ wU := wU_in (tb3 (j := 227) (by decide +kernel)) (by decide +kernel)
theorem wd_3_228 : Cond.methodLink RX11 205 yX11_next ∈ wU := wU_in (tb3 (j := 228) (by decide +kernel)) (by decide +kernel)
theorem wd_3_229 : Cond.static yX11_next ∈ wU := wU_in (tb3 (j := 229) (by decide +kernel)) (by decide +kernel)
theorem wd_3_230 : Cond.code yX11_next cX11_next 5 (some .int) ∈ wU := wU_in (tb3 (j := 230) (by decide +kernel)) (by decide +kernel)
theorem wd_3_231 : Cond.methodLink RL 97 yX11_truest ∈ wU := wU_in (tb3 (j := 231) (by decide +kernel)) (by decide +kernel)
theorem wd_3_232 : Cond.instanceMethod yX11_truest ∈ wU := wU_in (tb3 (j := 232) (by decide +kernel)) (by decide +kernel)
theorem wd_3_233 : Cond.selects RX11 yX11_truest yX11_truest ∈ wU := wU_in (tb3 (j := 233) (by decide +kernel)) (by decide +kernel)
theorem wd_3_234 : Cond.code yX11_truest cX11_truest 3 (some .int) ∈ wU := wU_in (tb3 (j := 234) (by decide +kernel)) (by decide +kernel)
theorem wd_3_235 : Cond.methodLink RL 101 yX11_out ∈ wU := wU_in (tb3 (j := 235) (by decide +kernel)) (by decide +kernel)
theorem wd_3_236 : Cond.instanceMethod yX11_out ∈ wU := wU_in (tb3 (j := 236) (by decide +kernel)) (by decide +kernel)
theorem wd_3_237 : Cond.selects RX11 yX11_out yX11_out ∈ wU := wU_in (tb3 (j := 237) (by decide +kernel)) (by decide +kernel)
theorem wd_3_238 : Cond.code yX11_out cX11_out 8 (some .int) ∈ wU := wU_in (tb3 (j := 238) (by decide +kernel)) (by decide +kernel)
theorem wd_3_239 : Cond.methodLink RL 105 yX11_when ∈ wU := wU_in (tb3 (j := 239) (by decide +kernel)) (by decide +kernel)
theorem wd_4_0 : Cond.instanceMethod yX11_when ∈ wU := wU_in (tb4 (j := 0) (by decide +kernel)) (by decide +kernel)
theorem wd_4_1 : Cond.selects RX11 yX11_when yX11_when ∈ wU := wU_in (tb4 (j := 1) (by decide +kernel)) (by decide +kernel)
theorem wd_4_2 : Cond.code yX11_when cX11_when 5 (some .int) ∈ wU := wU_in (tb4 (j := 2) (by decide +kernel)) (by decide +kernel)
theorem wd_4_3 : Cond.methodLink RL 109 yX11_still ∈ wU := wU_in (tb4 (j := 3) (by decide +kernel)) (by decide +kernel)
theorem wd_4_4 : Cond.instanceMethod yX11_still ∈ wU := wU_in (tb4 (j := 4) (by decide +kernel)) (by decide +kernel)
theorem wd_4_5 : Cond.selects RX11 yX11_still yX11_still ∈ wU := wU_in (tb4 (j := 5) (by decide +kernel)) (by decide +kernel)
theorem wd_4_6 : Cond.code yX11_still cX11_still 4 (some .int) ∈ wU := wU_in (tb4 (j := 6) (by decide +kernel)) (by decide +kernel)
theorem wd_4_7 : Cond.methodLink RL 113 yX11_then ∈ wU := wU_in (tb4 (j := 7) (by decide +kernel)) (by decide +kernel)
theorem wd_4_8 : Cond.instanceMethod yX11_then ∈ wU := wU_in (tb4 (j := 8) (by decide +kernel)) (by decide +kernel)
theorem wd_4_9 : Cond.selects RX11 yX11_then yX11_then ∈ wU := wU_in (tb4 (j := 9) (by decide +kernel)) (by decide +kernel)
theorem wd_4_10 : Cond.code yX11_then cX11_then 4 (some .int) ∈ wU := wU_in (tb4 (j := 10) (by decide +kernel)) (by decide +kernel)
theorem wd_4_11 : Cond.methodLink RL 117 yX11_believed ∈ wU := wU_in (tb4 (j := 11) (by decide +kernel)) (by decide +kernel)
theorem wd_4_12 : Cond.instanceMethod yX11_believed ∈ wU := wU_in (tb4 (j := 12) (by decide +kernel)) (by decide +kernel)
theorem wd_4_13 : Cond.selects RX11 yX11_believed yX11_believed ∈ wU := wU_in (tb4 (j := 13) (by decide +kernel)) (by decide +kernel)
theorem wd_4_14 : Cond.code yX11_believed cX11_believed 8 (some .int) ∈ wU := wU_in (tb4 (j := 14) (by decide +kernel)) (by decide +kernel)
theorem wd_4_15 : Cond.methodLink RX11 194 yX11_isSheet ∈ wU := wU_in (tb4 (j := 15) (by decide +kernel)) (by decide +kernel)
theorem wd_4_16 : Cond.static yX11_isSheet ∈ wU := wU_in (tb4 (j := 16) (by decide +kernel)) (by decide +kernel)
theorem wd_4_17 : Cond.code yX11_isSheet cX11_isSheet 1 (some .boolean) ∈ wU := wU_in (tb4 (j := 17) (by decide +kernel)) (by decide +kernel)
theorem wd_4_18 : Cond.methodLink RX11 197 yX11_tellsFloors ∈ wU := wU_in (tb4 (j := 18) (by decide +kernel)) (by decide +kernel)
theorem wd_4_20 : Cond.instanceMethod yX11_tellsFloors ∈ wU := wU_in (tb4 (j := 20) (by decide +kernel)) (by decide +kernel)
theorem wd_4_21 : Cond.code yX11_tellsFloors cX11_tellsFloors 2 (some .boolean) ∈ wU := wU_in (tb4 (j := 21) (by decide +kernel)) (by decide +kernel)
theorem wd_4_22 : Cond.methodLink RX11 238 yX7_isMissing ∈ wU := wU_in (tb4 (j := 22) (by decide +kernel)) (by decide +kernel)
theorem wd_4_23 : Cond.instanceMethod yX7_isMissing ∈ wU := wU_in (tb4 (j := 23) (by decide +kernel)) (by decide +kernel)
theorem wd_4_24 : Cond.selects RX7 yX7_isMissing yX7_isMissing ∈ wU := wU_in (tb4 (j := 24) (by decide +kernel)) (by decide +kernel)
theorem wd_4_25 : Cond.code yX7_isMissing cX7_isMissing 1 (some .boolean) ∈ wU := wU_in (tb4 (j := 25) (by decide +kernel)) (by decide +kernel)
theorem wd_4_26 : Cond.methodLink RX11 201 yX4_hasFloors ∈ wU := wU_in (tb4 (j := 26) (by decide +kernel)) (by decide +kernel)
theorem wd_4_27 : Cond.instanceMethod yX4_hasFloors ∈ wU := wU_in (tb4 (j := 27) (by decide +kernel)) (by decide +kernel)
theorem wd_4_28 : Cond.selects RX4 yX4_hasFloors yX4_hasFloors ∈ wU := wU_in (tb4 (j := 28) (by decide +kernel)) (by decide +kernel)
theorem wd_4_29 : Cond.code yX4_hasFloors cX4_hasFloors 4 (some .boolean) ∈ wU := wU_in (tb4 (j := 29) (by decide +kernel)) (by decide +kernel)
theorem wd_4_30 : Cond.methodLink RL 121 yX11_word ∈ wU := wU_in (tb4 (j := 30) (by decide +kernel)) (by decide +kernel)
theorem wd_4_31 : Cond.instanceMethod yX11_word ∈ wU := wU_in (tb4 (j := 31) (by decide +kernel)) (by decide +kernel)
theorem wd_4_32 : Cond.selects RX11 yX11_word yX11_word ∈ wU := wU_in (tb4 (j := 32) (by decide +kernel)) (by decide +kernel)
theorem wd_4_33 : Cond.code yX11_word cX11_word 9 (some .int) ∈ wU := wU_in (tb4 (j := 33) (by decide +kernel)) (by decide +kernel)
theorem wd_4_34 : Cond.methodLink RX11 208 yX11_bestWord ∈ wU := wU_in (tb4 (j := 34) (by decide +kernel)) (by decide +kernel)
theorem wd_4_36 : Cond.instanceMethod yX11_bestWord ∈ wU := wU_in (tb4 (j := 36) (by decide +kernel)) (by decide +kernel)
theorem wd_4_37 : Cond.code yX11_bestWord cX11_bestWord 9 (some .int) ∈ wU := wU_in (tb4 (j := 37) (by decide +kernel)) (by decide +kernel)
theorem wd_4_38 : Cond.methodLink RX11 275 yX11_unlikeFloors ∈ wU := wU_in (tb4 (j := 38) (by decide +kernel)) (by decide +kernel)
theorem wd_4_40 : Cond.instanceMethod yX11_unlikeFloors ∈ wU := wU_in (tb4 (j := 40) (by decide +kernel)) (by decide +kernel)
theorem wd_4_41 : Cond.code yX11_unlikeFloors cX11_unlikeFloors 8 (some .int) ∈ wU := wU_in (tb4 (j := 41) (by decide +kernel)) (by decide +kernel)
theorem wd_4_42 : Cond.methodLink RL 125 yX11_seed ∈ wU := wU_in (tb4 (j := 42) (by decide +kernel)) (by decide +kernel)
theorem wd_4_43 : Cond.instanceMethod yX11_seed ∈ wU := wU_in (tb4 (j := 43) (by decide +kernel)) (by decide +kernel)
theorem wd_4_44 : Cond.selects RX11 yX11_seed yX11_seed ∈ wU := wU_in (tb4 (j := 44) (by decide +kernel)) (by decide +kernel)
theorem wd_4_45 : Cond.code yX11_seed cX11_seed 3 (some .int) ∈ wU := wU_in (tb4 (j := 45) (by decide +kernel)) (by decide +kernel)
theorem wd_4_46 : Cond.methodLink RL 129 yX11_voice ∈ wU := wU_in (tb4 (j := 46) (by decide +kernel)) (by decide +kernel)
theorem wd_4_47 : Cond.instanceMethod yX11_voice ∈ wU := wU_in (tb4 (j := 47) (by decide +kernel)) (by decide +kernel)
theorem wd_4_48 : Cond.selects RX11 yX11_voice yX11_voice ∈ wU := wU_in (tb4 (j := 48) (by decide +kernel)) (by decide +kernel)
theorem wd_4_49 : Cond.code yX11_voice cX11_voice 5 (some .int) ∈ wU := wU_in (tb4 (j := 49) (by decide +kernel)) (by decide +kernel)
theorem wd_4_50 : Cond.methodLink RX11 218 yX6_says ∈ wU := wU_in (tb4 (j := 50) (by decide +kernel)) (by decide +kernel)
theorem wd_4_51 : Cond.instanceMethod yX6_says ∈ wU := wU_in (tb4 (j := 51) (by decide +kernel)) (by decide +kernel)
theorem wd_4_52 : Cond.selects RX6 yX6_says yX6_says ∈ wU := wU_in (tb4 (j := 52) (by decide +kernel)) (by decide +kernel)
theorem wd_4_53 : Cond.sameMethod RX6 RX6 "says" "(LLiftCredit$Trace;I)I" ∈ wU := wU_in (tb4 (j := 53) (by decide +kernel)) (by decide +kernel)
theorem wd_4_54 : Cond.selects RX0 yX6_says yX0_says ∈ wU := wU_in (tb4 (j := 54) (by decide +kernel)) (by decide +kernel)
theorem wd_4_55 : Cond.instanceMethod yX0_says ∈ wU := wU_in (tb4 (j := 55) (by decide +kernel)) (by decide +kernel)
theorem wd_4_56 : Cond.code yX0_says cX0_says 3 (some .int) ∈ wU := wU_in (tb4 (j := 56) (by decide +kernel)) (by decide +kernel)
theorem wd_4_57 : Cond.methodLink RX0 13 yX9_begins ∈ wU := wU_in (tb4 (j := 57) (by decide +kernel)) (by decide +kernel)
theorem wd_4_58 : Cond.instanceMethod yX9_begins ∈ wU := wU_in (tb4 (j := 58) (by decide +kernel)) (by decide +kernel)
theorem wd_4_59 : Cond.selects RX9 yX9_begins yX9_begins ∈ wU := wU_in (tb4 (j := 59) (by decide +kernel)) (by decide +kernel)
theorem wd_4_60 : Cond.code yX9_begins cX9_begins 2 none ∈ wU := wU_in (tb4 (j := 60) (by decide +kernel)) (by decide +kernel)
theorem wd_4_61 : Cond.methodLink RX0 19 yX6_says ∈ wU := wU_in (tb4 (j := 61) (by decide +kernel)) (by decide +kernel)
theorem wd_4_62 : Cond.selects RX1 yX6_says yX0_says ∈ wU := wU_in (tb4 (j := 62) (by decide +kernel)) (by decide +kernel)
theorem wd_4_63 : Cond.selects RX3 yX6_says yX6_says ∈ wU := wU_in (tb4 (j := 63) (by decide +kernel)) (by decide +kernel)
theorem wd_4_64 : Cond.selects RX5 yX6_says yX6_says ∈ wU := wU_in (tb4 (j := 64) (by decide +kernel)) (by decide +kernel)
theorem wd_4_65 : Cond.selects RX8 yX6_says yX6_says ∈ wU := wU_in (tb4 (j := 65) (by decide +kernel)) (by decide +kernel)
theorem wd_4_66 : Cond.selects RX10 yX6_says yX6_says ∈ wU := wU_in (tb4 (j := 66) (by decide +kernel)) (by decide +kernel)
theorem wd_4_67 : Cond.code yX6_says cX6_says 3 (some .int) ∈ wU := wU_in (tb4 (j := 67) (by decide +kernel)) (by decide +kernel)
theorem wd_4_68 : Cond.methodLink RX6 19 yX9_begins ∈ wU := wU_in (tb4 (j := 68) (by decide +kernel)) (by decide +kernel)
theorem wd_4_69 : Cond.methodLink RX11 222 yX6_rises ∈ wU := wU_in (tb4 (j := 69) (by decide +kernel)) (by decide +kernel)
theorem wd_4_70 : Cond.instanceMethod yX6_rises ∈ wU := wU_in (tb4 (j := 70) (by decide +kernel)) (by decide +kernel)
theorem wd_4_71 : Cond.selects RX6 yX6_rises yX6_rises ∈ wU := wU_in (tb4 (j := 71) (by decide +kernel)) (by decide +kernel)
theorem wd_4_72 : Cond.sameMethod RX6 RX6 "rises" "(LLiftCredit$Trace;I)I" ∈ wU := wU_in (tb4 (j := 72) (by decide +kernel)) (by decide +kernel)
theorem wd_4_73 : Cond.selects RX0 yX6_rises yX6_rises ∈ wU := wU_in (tb4 (j := 73) (by decide +kernel)) (by decide +kernel)
theorem wd_4_74 : Cond.selects RX1 yX6_rises yX6_rises ∈ wU := wU_in (tb4 (j := 74) (by decide +kernel)) (by decide +kernel)
theorem wd_4_75 : Cond.selects RX3 yX6_rises yX3_rises ∈ wU := wU_in (tb4 (j := 75) (by decide +kernel)) (by decide +kernel)
theorem wd_4_76 : Cond.instanceMethod yX3_rises ∈ wU := wU_in (tb4 (j := 76) (by decide +kernel)) (by decide +kernel)
theorem wd_4_77 : Cond.code yX3_rises cX3_rises 3 (some .int) ∈ wU := wU_in (tb4 (j := 77) (by decide +kernel)) (by decide +kernel)
theorem wd_4_78 : Cond.methodLink RX3 7 yX9_begins ∈ wU := wU_in (tb4 (j := 78) (by decide +kernel)) (by decide +kernel)
theorem wd_4_79 : Cond.methodLink RX3 13 yX6_rises ∈ wU := wU_in (tb4 (j := 79) (by decide +kernel)) (by decide +kernel)
theorem wd_4_80 : Cond.methodLink RX3 17 (⟨RX3, "doubts", "(LLiftCredit$Trace;I)I"⟩ : MethodName) ∈ wU := wU_in (tb4 (j := 80) (by decide +kernel)) (by decide +kernel)
theorem wd_4_81 : Cond.sameMethod RX3 RX6 "doubts" "(LLiftCredit$Trace;I)I" ∈ wU := wU_in (tb4 (j := 81) (by decide +kernel)) (by decide +kernel)
theorem nd_4_82 : Cond.declares yX6_doubts ∈ lw_tbl := tb4 (j := 82) (by decide +kernel)
theorem wd_4_83 : Cond.selects RX3 (⟨RX3, "doubts", "(LLiftCredit$Trace;I)I"⟩ : MethodName) yX6_doubts ∈ wU := wU_in (tb4 (j := 83) (by decide +kernel)) (by decide +kernel)
theorem wd_4_84 : Cond.selects RX5 (⟨RX3, "doubts", "(LLiftCredit$Trace;I)I"⟩ : MethodName) yX6_doubts ∈ wU := wU_in (tb4 (j := 84) (by decide +kernel)) (by decide +kernel)
theorem wd_4_85 : Cond.instanceMethod yX6_doubts ∈ wU := wU_in (tb4 (j := 85) (by decide +kernel)) (by decide +kernel)
theorem wd_4_86 : Cond.code yX6_doubts cX6_doubts 3 (some .int) ∈ wU := wU_in (tb4 (j := 86) (by decide +kernel)) (by decide +kernel)
theorem wd_4_87 : Cond.selects RX5 yX6_rises yX5_rises ∈ wU := wU_in (tb4 (j := 87) (by decide +kernel)) (by decide +kernel)
theorem wd_4_88 : Cond.instanceMethod yX5_rises ∈ wU := wU_in (tb4 (j := 88) (by decide +kernel)) (by decide +kernel)
theorem wd_4_89 : Cond.code yX5_rises cX5_rises 3 (some .int) ∈ wU := wU_in (tb4 (j := 89) (by decide +kernel)) (by decide +kernel)
theorem wd_4_90 : Cond.methodLink RX5 11 yX9_begins ∈ wU := wU_in (tb4 (j := 90) (by decide +kernel)) (by decide +kernel)
theorem wd_4_91 : Cond.methodLink RX5 17 yX3_rises ∈ wU := wU_in (tb4 (j := 91) (by decide +kernel)) (by decide +kernel)
theorem wd_4_92 : Cond.selects RX8 yX6_rises yX6_rises ∈ wU := wU_in (tb4 (j := 92) (by decide +kernel)) (by decide +kernel)
theorem wd_4_93 : Cond.selects RX10 yX6_rises yX6_rises ∈ wU := wU_in (tb4 (j := 93) (by decide +kernel)) (by decide +kernel)
theorem wd_4_94 : Cond.code yX6_rises cX6_rises 3 (some .int) ∈ wU := wU_in (tb4 (j := 94) (by decide +kernel)) (by decide +kernel)
theorem wd_4_95 : Cond.methodLink RX6 25 yX6_says ∈ wU := wU_in (tb4 (j := 95) (by decide +kernel)) (by decide +kernel)
theorem wd_4_96 : Cond.methodLink RX11 225 yX6_doubts ∈ wU := wU_in (tb4 (j := 96) (by decide +kernel)) (by decide +kernel)
theorem wd_4_97 : Cond.instanceMethod yX8_doubts ∈ wU := wU_in (tb4 (j := 97) (by decide +kernel)) (by decide +kernel)
theorem wd_4_98 : Cond.code yX8_doubts cX8_doubts 3 (some .int) ∈ wU := wU_in (tb4 (j := 98) (by decide +kernel)) (by decide +kernel)
theorem wd_4_99 : Cond.methodLink RX8 11 yX9_begins ∈ wU := wU_in (tb4 (j := 99) (by decide +kernel)) (by decide +kernel)
theorem wd_4_100 : Cond.methodLink RX8 17 yX10_doubts ∈ wU := wU_in (tb4 (j := 100) (by decide +kernel)) (by decide +kernel)
theorem wd_4_101 : Cond.instanceMethod yX10_doubts ∈ wU := wU_in (tb4 (j := 101) (by decide +kernel)) (by decide +kernel)
theorem wd_4_102 : Cond.code yX10_doubts cX10_doubts 3 (some .int) ∈ wU := wU_in (tb4 (j := 102) (by decide +kernel)) (by decide +kernel)
theorem wd_4_103 : Cond.methodLink RX10 7 yX9_begins ∈ wU := wU_in (tb4 (j := 103) (by decide +kernel)) (by decide +kernel)
theorem wd_4_104 : Cond.methodLink RX10 13 yX6_doubts ∈ wU := wU_in (tb4 (j := 104) (by decide +kernel)) (by decide +kernel)
theorem wd_4_105 : Cond.methodLink RX11 228 yX6_tells ∈ wU := wU_in (tb4 (j := 105) (by decide +kernel)) (by decide +kernel)
theorem wd_4_106 : Cond.instanceMethod yX6_tells ∈ wU := wU_in (tb4 (j := 106) (by decide +kernel)) (by decide +kernel)
theorem wd_4_107 : Cond.selects RX6 yX6_tells yX6_tells ∈ wU := wU_in (tb4 (j := 107) (by decide +kernel)) (by decide +kernel)
theorem wd_4_108 : Cond.sameMethod RX6 RX6 "tells" "(LLiftCredit$Trace;I)I" ∈ wU := wU_in (tb4 (j := 108) (by decide +kernel)) (by decide +kernel)
theorem wd_4_109 : Cond.selects RX0 yX6_tells yX6_tells ∈ wU := wU_in (tb4 (j := 109) (by decide +kernel)) (by decide +kernel)
theorem wd_4_110 : Cond.selects RX1 yX6_tells yX1_tells ∈ wU := wU_in (tb4 (j := 110) (by decide +kernel)) (by decide +kernel)
theorem wd_4_111 : Cond.instanceMethod yX1_tells ∈ wU := wU_in (tb4 (j := 111) (by decide +kernel)) (by decide +kernel)
theorem wd_4_112 : Cond.code yX1_tells cX1_tells 3 (some .int) ∈ wU := wU_in (tb4 (j := 112) (by decide +kernel)) (by decide +kernel)
theorem wd_4_113 : Cond.methodLink RX1 17 yX9_begins ∈ wU := wU_in (tb4 (j := 113) (by decide +kernel)) (by decide +kernel)
theorem wd_4_114 : Cond.methodLink RX1 23 (⟨RX0, "tells", "(LLiftCredit$Trace;I)I"⟩ : MethodName) ∈ wU := wU_in (tb4 (j := 114) (by decide +kernel)) (by decide +kernel)
theorem wd_4_115 : Cond.sameMethod RX0 RX6 "tells" "(LLiftCredit$Trace;I)I" ∈ wU := wU_in (tb4 (j := 115) (by decide +kernel)) (by decide +kernel)
theorem nd_4_116 : Cond.declares yX6_tells ∈ lw_tbl := tb4 (j := 116) (by decide +kernel)
theorem wd_4_117 : Cond.methodLink RX1 27 (⟨RX1, "says", "(LLiftCredit$Trace;I)I"⟩ : MethodName) ∈ wU := wU_in (tb4 (j := 117) (by decide +kernel)) (by decide +kernel)
theorem wd_4_118 : Cond.sameMethod RX1 RX0 "says" "(LLiftCredit$Trace;I)I" ∈ wU := wU_in (tb4 (j := 118) (by decide +kernel)) (by decide +kernel)
theorem nd_4_119 : Cond.declares yX0_says ∈ lw_tbl := tb4 (j := 119) (by decide +kernel)
theorem wd_4_120 : Cond.selects RX1 (⟨RX1, "says", "(LLiftCredit$Trace;I)I"⟩ : MethodName) yX0_says ∈ wU := wU_in (tb4 (j := 120) (by decide +kernel)) (by decide +kernel)
theorem wd_4_121 : Cond.selects RX3 yX6_tells yX6_tells ∈ wU := wU_in (tb4 (j := 121) (by decide +kernel)) (by decide +kernel)
theorem wd_4_122 : Cond.selects RX5 yX6_tells yX6_tells ∈ wU := wU_in (tb4 (j := 122) (by decide +kernel)) (by decide +kernel)
theorem wd_4_123 : Cond.selects RX8 yX6_tells yX8_tells ∈ wU := wU_in (tb4 (j := 123) (by decide +kernel)) (by decide +kernel)
theorem wd_4_124 : Cond.instanceMethod yX8_tells ∈ wU := wU_in (tb4 (j := 124) (by decide +kernel)) (by decide +kernel)
theorem wd_4_125 : Cond.code yX8_tells cX8_tells 3 (some .int) ∈ wU := wU_in (tb4 (j := 125) (by decide +kernel)) (by decide +kernel)
theorem wd_4_126 : Cond.methodLink RX8 27 (⟨RX8, "rises", "(LLiftCredit$Trace;I)I"⟩ : MethodName) ∈ wU := wU_in (tb4 (j := 126) (by decide +kernel)) (by decide +kernel)
theorem wd_4_127 : Cond.sameMethod RX8 RX6 "rises" "(LLiftCredit$Trace;I)I" ∈ wU := wU_in (tb4 (j := 127) (by decide +kernel)) (by decide +kernel)
theorem nd_4_128 : Cond.declares yX6_rises ∈ lw_tbl := tb4 (j := 128) (by decide +kernel)
theorem wd_4_129 : Cond.selects RX8 (⟨RX8, "rises", "(LLiftCredit$Trace;I)I"⟩ : MethodName) yX6_rises ∈ wU := wU_in (tb4 (j := 129) (by decide +kernel)) (by decide +kernel)
theorem wd_4_130 : Cond.methodLink RX8 30 (⟨RX10, "tells", "(LLiftCredit$Trace;I)I"⟩ : MethodName) ∈ wU := wU_in (tb4 (j := 130) (by decide +kernel)) (by decide +kernel)
theorem wd_4_131 : Cond.sameMethod RX10 RX6 "tells" "(LLiftCredit$Trace;I)I" ∈ wU := wU_in (tb4 (j := 131) (by decide +kernel)) (by decide +kernel)
theorem wd_4_132 : Cond.selects RX10 yX6_tells yX6_tells ∈ wU := wU_in (tb4 (j := 132) (by decide +kernel)) (by decide +kernel)
theorem wd_4_133 : Cond.code yX6_tells cX6_tells 3 (some .int) ∈ wU := wU_in (tb4 (j := 133) (by decide +kernel)) (by decide +kernel)
theorem wd_4_134 : Cond.methodLink RX6 29 yX6_rises ∈ wU := wU_in (tb4 (j := 134) (by decide +kernel)) (by decide +kernel)
theorem wd_4_135 : Cond.methodLink RX6 32 yX6_doubts ∈ wU := wU_in (tb4 (j := 135) (by decide +kernel)) (by decide +kernel)
theorem wd_4_136 : Cond.methodLink RL 133 yX11_trace ∈ wU := wU_in (tb4 (j := 136) (by decide +kernel)) (by decide +kernel)
theorem wd_4_137 : Cond.instanceMethod yX11_trace ∈ wU := wU_in (tb4 (j := 137) (by decide +kernel)) (by decide +kernel)
theorem wd_4_138 : Cond.selects RX11 yX11_trace yX11_trace ∈ wU := wU_in (tb4 (j := 138) (by decide +kernel)) (by decide +kernel)
theorem wd_4_139 : Cond.code yX11_trace cX11_trace 2 (some .int) ∈ wU := wU_in (tb4 (j := 139) (by decide +kernel)) (by decide +kernel)
theorem wd_4_140 : Cond.methodLink RL 137 yX11_sheet ∈ wU := wU_in (tb4 (j := 140) (by decide +kernel)) (by decide +kernel)
theorem wd_4_141 : Cond.instanceMethod yX11_sheet ∈ wU := wU_in (tb4 (j := 141) (by decide +kernel)) (by decide +kernel)
theorem wd_4_142 : Cond.selects RX11 yX11_sheet yX11_sheet ∈ wU := wU_in (tb4 (j := 142) (by decide +kernel)) (by decide +kernel)
theorem wd_4_143 : Cond.code yX11_sheet cX11_sheet 4 (some .int) ∈ wU := wU_in (tb4 (j := 143) (by decide +kernel)) (by decide +kernel)
theorem wd_4_144 : Cond.methodLink RX11 234 yX7_renew ∈ wU := wU_in (tb4 (j := 144) (by decide +kernel)) (by decide +kernel)
theorem wd_4_145 : Cond.instanceMethod yX7_renew ∈ wU := wU_in (tb4 (j := 145) (by decide +kernel)) (by decide +kernel)
theorem wd_4_146 : Cond.selects RX7 yX7_renew yX7_renew ∈ wU := wU_in (tb4 (j := 146) (by decide +kernel)) (by decide +kernel)
theorem wd_4_147 : Cond.code yX7_renew cX7_renew 3 none ∈ wU := wU_in (tb4 (j := 147) (by decide +kernel)) (by decide +kernel)
theorem wd_4_148 : Cond.methodLink RX7 22 yJ7_fill_53178 ∈ wU := wU_in (tb4 (j := 148) (by decide +kernel)) (by decide +kernel)
theorem wd_4_149 : Cond.static yJ7_fill_53178 ∈ wU := wU_in (tb4 (j := 149) (by decide +kernel)) (by decide +kernel)
theorem wd_4_150 : Cond.code yJ7_fill_53178 cJ7_fill_53178 4 none ∈ wU := wU_in (tb4 (j := 150) (by decide +kernel)) (by decide +kernel)
theorem nd_4_151 : Cond.methodLinkNest RX7 28 yX11_held RX11 ∈ lw_tbl := tb4 (j := 151) (by decide +kernel)
theorem wd_4_152 : Cond.methodLink RL 141 yX11_put ∈ wU := wU_in (tb4 (j := 152) (by decide +kernel)) (by decide +kernel)
theorem wd_4_153 : Cond.instanceMethod yX11_put ∈ wU := wU_in (tb4 (j := 153) (by decide +kernel)) (by decide +kernel)
theorem wd_4_154 : Cond.selects RX11 yX11_put yX11_put ∈ wU := wU_in (tb4 (j := 154) (by decide +kernel)) (by decide +kernel)
theorem wd_4_155 : Cond.code yX11_put cX11_put 5 (some .int) ∈ wU := wU_in (tb4 (j := 155) (by decide +kernel)) (by decide +kernel)
theorem wd_4_156 : Cond.methodLink RX11 246 yX7_cut ∈ wU := wU_in (tb4 (j := 156) (by decide +kernel)) (by decide +kernel)
theorem wd_4_157 : Cond.instanceMethod yX7_cut ∈ wU := wU_in (tb4 (j := 157) (by decide +kernel)) (by decide +kernel)
theorem wd_4_158 : Cond.selects RX7 yX7_cut yX7_cut ∈ wU := wU_in (tb4 (j := 158) (by decide +kernel)) (by decide +kernel)
theorem wd_4_159 : Cond.code yX7_cut cX7_cut 2 (some .int) ∈ wU := wU_in (tb4 (j := 159) (by decide +kernel)) (by decide +kernel)
theorem wd_4_160 : Cond.methodLink RL 145 yX11_move ∈ wU := wU_in (tb4 (j := 160) (by decide +kernel)) (by decide +kernel)
theorem wd_4_161 : Cond.instanceMethod yX11_move ∈ wU := wU_in (tb4 (j := 161) (by decide +kernel)) (by decide +kernel)
theorem wd_4_162 : Cond.selects RX11 yX11_move yX11_move ∈ wU := wU_in (tb4 (j := 162) (by decide +kernel)) (by decide +kernel)
theorem wd_4_163 : Cond.code yX11_move cX11_move 8 (some .int) ∈ wU := wU_in (tb4 (j := 163) (by decide +kernel)) (by decide +kernel)
theorem wd_4_164 : Cond.methodLink RX11 252 yX7_holds ∈ wU := wU_in (tb4 (j := 164) (by decide +kernel)) (by decide +kernel)
theorem wd_4_165 : Cond.instanceMethod yX7_holds ∈ wU := wU_in (tb4 (j := 165) (by decide +kernel)) (by decide +kernel)
theorem wd_4_166 : Cond.selects RX7 yX7_holds yX7_holds ∈ wU := wU_in (tb4 (j := 166) (by decide +kernel)) (by decide +kernel)
theorem wd_4_167 : Cond.code yX7_holds cX7_holds 3 (some .boolean) ∈ wU := wU_in (tb4 (j := 167) (by decide +kernel)) (by decide +kernel)
theorem wd_4_168 : Cond.methodLink RX11 255 (⟨RJ10, "arraycopy", "(Ljava/lang/Object;ILjava/lang/Object;II)V"⟩ : MethodName) ∈ wU := wU_in (tb4 (j := 168) (by decide +kernel)) (by decide +kernel)
theorem wd_4_169 : Cond.methodLink RL 150 yX11_stories ∈ wU := wU_in (tb4 (j := 169) (by decide +kernel)) (by decide +kernel)
theorem wd_4_170 : Cond.instanceMethod yX11_stories ∈ wU := wU_in (tb4 (j := 170) (by decide +kernel)) (by decide +kernel)
theorem wd_4_171 : Cond.selects RX11 yX11_stories yX11_stories ∈ wU := wU_in (tb4 (j := 171) (by decide +kernel)) (by decide +kernel)
theorem wd_4_172 : Cond.code yX11_stories cX11_stories 4 (some .int) ∈ wU := wU_in (tb4 (j := 172) (by decide +kernel)) (by decide +kernel)
theorem wd_4_173 : Cond.methodLink RL 154 yX11_judge ∈ wU := wU_in (tb4 (j := 173) (by decide +kernel)) (by decide +kernel)
theorem wd_4_174 : Cond.instanceMethod yX11_judge ∈ wU := wU_in (tb4 (j := 174) (by decide +kernel)) (by decide +kernel)
theorem wd_4_175 : Cond.selects RX11 yX11_judge yX11_judge ∈ wU := wU_in (tb4 (j := 175) (by decide +kernel)) (by decide +kernel)
theorem wd_4_176 : Cond.code yX11_judge cX11_judge 4 (some .int) ∈ wU := wU_in (tb4 (j := 176) (by decide +kernel)) (by decide +kernel)
theorem wd_4_177 : Cond.methodLink RL 158 yX11_image ∈ wU := wU_in (tb4 (j := 177) (by decide +kernel)) (by decide +kernel)
theorem wd_4_178 : Cond.instanceMethod yX11_image ∈ wU := wU_in (tb4 (j := 178) (by decide +kernel)) (by decide +kernel)
theorem wd_4_179 : Cond.selects RX11 yX11_image yX11_image ∈ wU := wU_in (tb4 (j := 179) (by decide +kernel)) (by decide +kernel)
theorem wd_4_180 : Cond.code yX11_image cX11_image 1 (some .int) ∈ wU := wU_in (tb4 (j := 180) (by decide +kernel)) (by decide +kernel)
theorem wd_4_181 : Cond.methodLink RX11 261 yX4_copy ∈ wU := wU_in (tb4 (j := 181) (by decide +kernel)) (by decide +kernel)
theorem wd_4_182 : Cond.instanceMethod yX4_copy ∈ wU := wU_in (tb4 (j := 182) (by decide +kernel)) (by decide +kernel)
theorem wd_4_183 : Cond.selects RX4 yX4_copy yX4_copy ∈ wU := wU_in (tb4 (j := 183) (by decide +kernel)) (by decide +kernel)
theorem wd_4_184 : Cond.code yX4_copy cX4_copy 3 none ∈ wU := wU_in (tb4 (j := 184) (by decide +kernel)) (by decide +kernel)
theorem wd_4_185 : Cond.methodLink RX4 86 (⟨RJ10, "arraycopy", "(Ljava/lang/Object;ILjava/lang/Object;II)V"⟩ : MethodName) ∈ wU := wU_in (tb4 (j := 185) (by decide +kernel)) (by decide +kernel)
theorem wd_4_186 : Cond.methodLink RX4 92 yX2_copy ∈ wU := wU_in (tb4 (j := 186) (by decide +kernel)) (by decide +kernel)
theorem wd_4_187 : Cond.instanceMethod yX2_copy ∈ wU := wU_in (tb4 (j := 187) (by decide +kernel)) (by decide +kernel)
theorem wd_4_188 : Cond.selects RX2 yX2_copy yX2_copy ∈ wU := wU_in (tb4 (j := 188) (by decide +kernel)) (by decide +kernel)
theorem wd_4_189 : Cond.code yX2_copy cX2_copy 2 none ∈ wU := wU_in (tb4 (j := 189) (by decide +kernel)) (by decide +kernel)
theorem wd_4_190 : Cond.methodLink RL 162 yX11_restore ∈ wU := wU_in (tb4 (j := 190) (by decide +kernel)) (by decide +kernel)
theorem wd_4_191 : Cond.instanceMethod yX11_restore ∈ wU := wU_in (tb4 (j := 191) (by decide +kernel)) (by decide +kernel)
theorem wd_4_192 : Cond.selects RX11 yX11_restore yX11_restore ∈ wU := wU_in (tb4 (j := 192) (by decide +kernel)) (by decide +kernel)
theorem wd_4_193 : Cond.code yX11_restore cX11_restore 1 (some .int) ∈ wU := wU_in (tb4 (j := 193) (by decide +kernel)) (by decide +kernel)
theorem wd_4_194 : Cond.methodLink RL 166 yX11_tell ∈ wU := wU_in (tb4 (j := 194) (by decide +kernel)) (by decide +kernel)
theorem wd_4_195 : Cond.instanceMethod yX11_tell ∈ wU := wU_in (tb4 (j := 195) (by decide +kernel)) (by decide +kernel)
theorem wd_4_196 : Cond.selects RX11 yX11_tell yX11_tell ∈ wU := wU_in (tb4 (j := 196) (by decide +kernel)) (by decide +kernel)
theorem wd_4_197 : Cond.code yX11_tell cX11_tell 2 (some .int) ∈ wU := wU_in (tb4 (j := 197) (by decide +kernel)) (by decide +kernel)
theorem wd_4_198 : Cond.methodLink RL 170 yX11_check ∈ wU := wU_in (tb4 (j := 198) (by decide +kernel)) (by decide +kernel)
theorem wd_4_199 : Cond.instanceMethod yX11_check ∈ wU := wU_in (tb4 (j := 199) (by decide +kernel)) (by decide +kernel)
theorem wd_4_200 : Cond.selects RX11 yX11_check yX11_check ∈ wU := wU_in (tb4 (j := 200) (by decide +kernel)) (by decide +kernel)
theorem wd_4_201 : Cond.code yX11_check cX11_check 4 (some .int) ∈ wU := wU_in (tb4 (j := 201) (by decide +kernel)) (by decide +kernel)
theorem wd_4_202 : Cond.methodLink RL 174 yX11_count ∈ wU := wU_in (tb4 (j := 202) (by decide +kernel)) (by decide +kernel)
theorem wd_4_203 : Cond.instanceMethod yX11_count ∈ wU := wU_in (tb4 (j := 203) (by decide +kernel)) (by decide +kernel)
theorem wd_4_204 : Cond.selects RX11 yX11_count yX11_count ∈ wU := wU_in (tb4 (j := 204) (by decide +kernel)) (by decide +kernel)
theorem wd_4_205 : Cond.code yX11_count cX11_count 2 (some .int) ∈ wU := wU_in (tb4 (j := 205) (by decide +kernel)) (by decide +kernel)
theorem wd_4_206 : Cond.methodLink RL 178 yX11_told ∈ wU := wU_in (tb4 (j := 206) (by decide +kernel)) (by decide +kernel)
theorem wd_4_207 : Cond.instanceMethod yX11_told ∈ wU := wU_in (tb4 (j := 207) (by decide +kernel)) (by decide +kernel)
theorem wd_4_208 : Cond.selects RX11 yX11_told yX11_told ∈ wU := wU_in (tb4 (j := 208) (by decide +kernel)) (by decide +kernel)
theorem wd_4_209 : Cond.code yX11_told cX11_told 2 (some .int) ∈ wU := wU_in (tb4 (j := 209) (by decide +kernel)) (by decide +kernel)
theorem wd_4_210 : Cond.classLink RL 10 RX12 ∈ wU := wU_in (tb4 (j := 210) (by decide +kernel)) (by decide +kernel)
theorem wd_4_211 : Cond.instantiable RX12 29 ∈ wU := wU_in (tb4 (j := 211) (by decide +kernel)) (by decide +kernel)
theorem wd_4_212 : Cond.methodLink RL 12 yX12_init ∈ wU := wU_in (tb4 (j := 212) (by decide +kernel)) (by decide +kernel)
theorem wd_4_213 : Cond.instanceMethod yX12_init ∈ wU := wU_in (tb4 (j := 213) (by decide +kernel)) (by decide +kernel)
theorem wd_4_214 : Cond.code yX12_init cX12_init 1 none ∈ wU := wU_in (tb4 (j := 214) (by decide +kernel)) (by decide +kernel)
theorem wd_4_215 : Cond.methodLink RX12 1 (⟨"java/lang/Object", "<init>", "()V"⟩ : MethodName) ∈ wU := wU_in (tb4 (j := 215) (by decide +kernel)) (by decide +kernel)
theorem wd_4_216 : Cond.fieldLink RX12 7 RX12 "row" "[I" ∈ wU := wU_in (tb4 (j := 216) (by decide +kernel)) (by decide +kernel)
theorem wd_4_217 : Cond.fieldLink RX12 13 RX12 "kept" "[I" ∈ wU := wU_in (tb4 (j := 217) (by decide +kernel)) (by decide +kernel)
theorem wd_4_218 : Cond.fieldLink RX12 16 RX12 "tried" "[I" ∈ wU := wU_in (tb4 (j := 218) (by decide +kernel)) (by decide +kernel)
theorem wd_4_219 : Cond.fieldLink RX12 19 RX12 "before" "[I" ∈ wU := wU_in (tb4 (j := 219) (by decide +kernel)) (by decide +kernel)
theorem wd_4_220 : Cond.fieldLink RX12 22 RX12 "power" "[I" ∈ wU := wU_in (tb4 (j := 220) (by decide +kernel)) (by decide +kernel)
theorem wd_4_221 : Cond.fieldLink RX12 251 RX12 "isKept" "Z" ∈ wU := wU_in (tb4 (j := 221) (by decide +kernel)) (by decide +kernel)
theorem wd_4_222 : Cond.fieldLink RX12 254 RX12 "images" "I" ∈ wU := wU_in (tb4 (j := 222) (by decide +kernel)) (by decide +kernel)
theorem wd_4_223 : Cond.fieldLink RX12 25 RX12 "found" "[I" ∈ wU := wU_in (tb4 (j := 223) (by decide +kernel)) (by decide +kernel)
theorem wd_4_224 : Cond.fieldLink RX12 65 RX12 "as" "I" ∈ wU := wU_in (tb4 (j := 224) (by decide +kernel)) (by decide +kernel)
theorem wd_4_225 : Cond.fieldLink RX12 69 RX12 "other" "I" ∈ wU := wU_in (tb4 (j := 225) (by decide +kernel)) (by decide +kernel)
theorem wd_4_226 : Cond.fieldLink RX12 72 RX12 "fresh" "I" ∈ wU := wU_in (tb4 (j := 226) (by decide +kernel)) (by decide +kernel)
theorem wd_4_227 : Cond.fieldLink RX12 120 RX12 "use" "I" ∈ wU := wU_in (tb4 (j := 227) (by decide +kernel)) (by decide +kernel)
theorem wd_4_228 : Cond.fieldLink RX12 127 RX12 "at" "I" ∈ wU := wU_in (tb4 (j := 228) (by decide +kernel)) (by decide +kernel)
theorem wd_4_229 : Cond.fieldLink RX12 117 RX12 "end" "I" ∈ wU := wU_in (tb4 (j := 229) (by decide +kernel)) (by decide +kernel)
theorem wd_4_230 : Cond.fieldLink RX12 154 RX12 "open" "I" ∈ wU := wU_in (tb4 (j := 230) (by decide +kernel)) (by decide +kernel)
theorem wd_4_231 : Cond.fieldLink RX12 139 RX12 "namedA" "I" ∈ wU := wU_in (tb4 (j := 231) (by decide +kernel)) (by decide +kernel)
theorem wd_4_232 : Cond.fieldLink RX12 142 RX12 "namedB" "I" ∈ wU := wU_in (tb4 (j := 232) (by decide +kernel)) (by decide +kernel)
theorem wd_4_233 : Cond.fieldLink RX12 145 RX12 "namedC" "I" ∈ wU := wU_in (tb4 (j := 233) (by decide +kernel)) (by decide +kernel)
theorem wd_4_234 : Cond.fieldLink RX12 123 RX12 "good" "Z" ∈ wU := wU_in (tb4 (j := 234) (by decide +kernel)) (by decide +kernel)
theorem wd_4_235 : Cond.fieldLink RX12 28 RX12 "bitsOf" "[I" ∈ wU := wU_in (tb4 (j := 235) (by decide +kernel)) (by decide +kernel)
theorem wd_4_236 : Cond.fieldLink RX12 31 RX12 "sizeOf" "[I" ∈ wU := wU_in (tb4 (j := 236) (by decide +kernel)) (by decide +kernel)
theorem wd_4_237 : Cond.fieldLink RX12 34 RX12 "sheets" "[I" ∈ wU := wU_in (tb4 (j := 237) (by decide +kernel)) (by decide +kernel)
theorem wd_4_238 : Cond.fieldLink RX12 37 RX12 "moved" "[I" ∈ wU := wU_in (tb4 (j := 238) (by decide +kernel)) (by decide +kernel)
theorem wd_4_239 : Cond.fieldLink RX12 40 RX12 "floors" "[I" ∈ wU := wU_in (tb4 (j := 239) (by decide +kernel)) (by decide +kernel)
theorem wd_5_0 : Cond.fieldLink RX12 43 RX12 "traced" "[I" ∈ wU := wU_in (tb5 (j := 0) (by decide +kernel)) (by decide +kernel)
theorem wd_5_1 : Cond.fieldLink RX12 221 RX12 "tracedMany" "I" ∈ wU := wU_in (tb5 (j := 1) (by decide +kernel)) (by decide +kernel)
theorem wd_5_2 : Cond.fieldLink RX12 239 RX12 "voiceKind" "I" ∈ wU := wU_in (tb5 (j := 2) (by decide +kernel)) (by decide +kernel)
theorem wd_5_3 : Cond.fieldLink RX12 227 RX12 "voiceN" "I" ∈ wU := wU_in (tb5 (j := 3) (by decide +kernel)) (by decide +kernel)
theorem wd_5_4 : Cond.fieldLink RX12 233 RX12 "voiceM" "I" ∈ wU := wU_in (tb5 (j := 4) (by decide +kernel)) (by decide +kernel)
theorem wd_5_5 : Cond.laysFinal "LiftCreditModel" "LiftCreditModel" "row" "[I" ∈ wU := wU_in (tb5 (j := 5) (by decide +kernel)) (by decide +kernel)
theorem wd_5_7 : Cond.laysFinal "LiftCreditModel" "LiftCreditModel" "kept" "[I" ∈ wU := wU_in (tb5 (j := 7) (by decide +kernel)) (by decide +kernel)
theorem wd_5_9 : Cond.laysFinal "LiftCreditModel" "LiftCreditModel" "tried" "[I" ∈ wU := wU_in (tb5 (j := 9) (by decide +kernel)) (by decide +kernel)
theorem wd_5_11 : Cond.laysFinal "LiftCreditModel" "LiftCreditModel" "before" "[I" ∈ wU := wU_in (tb5 (j := 11) (by decide +kernel)) (by decide +kernel)
theorem wd_5_13 : Cond.laysFinal "LiftCreditModel" "LiftCreditModel" "power" "[I" ∈ wU := wU_in (tb5 (j := 13) (by decide +kernel)) (by decide +kernel)
theorem wd_5_15 : Cond.lays "LiftCreditModel" "LiftCreditModel" "isKept" "Z" ∈ wU := wU_in (tb5 (j := 15) (by decide +kernel)) (by decide +kernel)
theorem wd_5_17 : Cond.lays "LiftCreditModel" "LiftCreditModel" "images" "I" ∈ wU := wU_in (tb5 (j := 17) (by decide +kernel)) (by decide +kernel)
theorem wd_5_19 : Cond.laysFinal "LiftCreditModel" "LiftCreditModel" "found" "[I" ∈ wU := wU_in (tb5 (j := 19) (by decide +kernel)) (by decide +kernel)
theorem wd_5_21 : Cond.lays "LiftCreditModel" "LiftCreditModel" "as" "I" ∈ wU := wU_in (tb5 (j := 21) (by decide +kernel)) (by decide +kernel)
theorem wd_5_23 : Cond.lays "LiftCreditModel" "LiftCreditModel" "other" "I" ∈ wU := wU_in (tb5 (j := 23) (by decide +kernel)) (by decide +kernel)
theorem wd_5_25 : Cond.lays "LiftCreditModel" "LiftCreditModel" "fresh" "I" ∈ wU := wU_in (tb5 (j := 25) (by decide +kernel)) (by decide +kernel)
theorem wd_5_27 : Cond.lays "LiftCreditModel" "LiftCreditModel" "use" "I" ∈ wU := wU_in (tb5 (j := 27) (by decide +kernel)) (by decide +kernel)
theorem wd_5_29 : Cond.lays "LiftCreditModel" "LiftCreditModel" "at" "I" ∈ wU := wU_in (tb5 (j := 29) (by decide +kernel)) (by decide +kernel)
theorem wd_5_31 : Cond.lays "LiftCreditModel" "LiftCreditModel" "end" "I" ∈ wU := wU_in (tb5 (j := 31) (by decide +kernel)) (by decide +kernel)
theorem wd_5_33 : Cond.lays "LiftCreditModel" "LiftCreditModel" "open" "I" ∈ wU := wU_in (tb5 (j := 33) (by decide +kernel)) (by decide +kernel)
theorem wd_5_35 : Cond.lays "LiftCreditModel" "LiftCreditModel" "namedA" "I" ∈ wU := wU_in (tb5 (j := 35) (by decide +kernel)) (by decide +kernel)
theorem wd_5_37 : Cond.lays "LiftCreditModel" "LiftCreditModel" "namedB" "I" ∈ wU := wU_in (tb5 (j := 37) (by decide +kernel)) (by decide +kernel)
theorem wd_5_39 : Cond.lays "LiftCreditModel" "LiftCreditModel" "namedC" "I" ∈ wU := wU_in (tb5 (j := 39) (by decide +kernel)) (by decide +kernel)
theorem wd_5_41 : Cond.lays "LiftCreditModel" "LiftCreditModel" "good" "Z" ∈ wU := wU_in (tb5 (j := 41) (by decide +kernel)) (by decide +kernel)
theorem wd_5_43 : Cond.laysFinal "LiftCreditModel" "LiftCreditModel" "bitsOf" "[I" ∈ wU := wU_in (tb5 (j := 43) (by decide +kernel)) (by decide +kernel)
theorem wd_5_45 : Cond.laysFinal "LiftCreditModel" "LiftCreditModel" "sizeOf" "[I" ∈ wU := wU_in (tb5 (j := 45) (by decide +kernel)) (by decide +kernel)
theorem wd_5_47 : Cond.laysFinal "LiftCreditModel" "LiftCreditModel" "sheets" "[I" ∈ wU := wU_in (tb5 (j := 47) (by decide +kernel)) (by decide +kernel)
theorem wd_5_49 : Cond.laysFinal "LiftCreditModel" "LiftCreditModel" "moved" "[I" ∈ wU := wU_in (tb5 (j := 49) (by decide +kernel)) (by decide +kernel)
theorem wd_5_51 : Cond.laysFinal "LiftCreditModel" "LiftCreditModel" "floors" "[I" ∈ wU := wU_in (tb5 (j := 51) (by decide +kernel)) (by decide +kernel)
theorem wd_5_53 : Cond.laysFinal "LiftCreditModel" "LiftCreditModel" "traced" "[I" ∈ wU := wU_in (tb5 (j := 53) (by decide +kernel)) (by decide +kernel)
theorem wd_5_55 : Cond.lays "LiftCreditModel" "LiftCreditModel" "tracedMany" "I" ∈ wU := wU_in (tb5 (j := 55) (by decide +kernel)) (by decide +kernel)
theorem wd_5_57 : Cond.lays "LiftCreditModel" "LiftCreditModel" "voiceKind" "I" ∈ wU := wU_in (tb5 (j := 57) (by decide +kernel)) (by decide +kernel)
theorem wd_5_59 : Cond.lays "LiftCreditModel" "LiftCreditModel" "voiceN" "I" ∈ wU := wU_in (tb5 (j := 59) (by decide +kernel)) (by decide +kernel)
theorem wd_5_61 : Cond.lays "LiftCreditModel" "LiftCreditModel" "voiceM" "I" ∈ wU := wU_in (tb5 (j := 61) (by decide +kernel)) (by decide +kernel)
theorem wd_5_63 : Cond.superclass RX12 "java/lang/Object" ∈ wU := wU_in (tb5 (j := 63) (by decide +kernel)) (by decide +kernel)
theorem wd_5_64 : Cond.methodLink RL 17 yX12_hear ∈ wU := wU_in (tb5 (j := 64) (by decide +kernel)) (by decide +kernel)
theorem wd_5_65 : Cond.instanceMethod yX12_hear ∈ wU := wU_in (tb5 (j := 65) (by decide +kernel)) (by decide +kernel)
theorem wd_5_66 : Cond.selects RX12 yX12_hear yX12_hear ∈ wU := wU_in (tb5 (j := 66) (by decide +kernel)) (by decide +kernel)
theorem wd_5_67 : Cond.code yX12_hear cX12_hear 4 (some .int) ∈ wU := wU_in (tb5 (j := 67) (by decide +kernel)) (by decide +kernel)
theorem wd_5_68 : Cond.methodLink RX12 51 yX12_isFact ∈ wU := wU_in (tb5 (j := 68) (by decide +kernel)) (by decide +kernel)
theorem wd_5_69 : Cond.static yX12_isFact ∈ wU := wU_in (tb5 (j := 69) (by decide +kernel)) (by decide +kernel)
theorem wd_5_70 : Cond.code yX12_isFact cX12_isFact 1 (some .boolean) ∈ wU := wU_in (tb5 (j := 70) (by decide +kernel)) (by decide +kernel)
theorem wd_5_71 : Cond.methodLink RX12 47 yX12_in ∈ wU := wU_in (tb5 (j := 71) (by decide +kernel)) (by decide +kernel)
theorem wd_5_72 : Cond.static yX12_in ∈ wU := wU_in (tb5 (j := 72) (by decide +kernel)) (by decide +kernel)
theorem wd_5_73 : Cond.code yX12_in cX12_in 3 (some .boolean) ∈ wU := wU_in (tb5 (j := 73) (by decide +kernel)) (by decide +kernel)
theorem wd_5_74 : Cond.constant RX12 55 (-1000000001) ∈ wU := wU_in (tb5 (j := 74) (by decide +kernel)) (by decide +kernel)
theorem wd_5_75 : Cond.methodLink RX12 56 yX12_errs ∈ wU := wU_in (tb5 (j := 75) (by decide +kernel)) (by decide +kernel)
theorem wd_5_77 : Cond.instanceMethod yX12_errs ∈ wU := wU_in (tb5 (j := 77) (by decide +kernel)) (by decide +kernel)
theorem wd_5_78 : Cond.code yX12_errs cX12_errs 2 (some .int) ∈ wU := wU_in (tb5 (j := 78) (by decide +kernel)) (by decide +kernel)
theorem wd_5_79 : Cond.constant RX12 46 (-1000000000) ∈ wU := wU_in (tb5 (j := 79) (by decide +kernel)) (by decide +kernel)
theorem wd_5_80 : Cond.methodLink RL 22 yX12_heard ∈ wU := wU_in (tb5 (j := 80) (by decide +kernel)) (by decide +kernel)
theorem wd_5_81 : Cond.instanceMethod yX12_heard ∈ wU := wU_in (tb5 (j := 81) (by decide +kernel)) (by decide +kernel)
theorem wd_5_82 : Cond.selects RX12 yX12_heard yX12_heard ∈ wU := wU_in (tb5 (j := 82) (by decide +kernel)) (by decide +kernel)
theorem wd_5_83 : Cond.code yX12_heard cX12_heard 1 (some .int) ∈ wU := wU_in (tb5 (j := 83) (by decide +kernel)) (by decide +kernel)
theorem wd_5_84 : Cond.methodLink RX12 60 yX12_heardAll ∈ wU := wU_in (tb5 (j := 84) (by decide +kernel)) (by decide +kernel)
theorem wd_5_86 : Cond.instanceMethod yX12_heardAll ∈ wU := wU_in (tb5 (j := 86) (by decide +kernel)) (by decide +kernel)
theorem wd_5_87 : Cond.code yX12_heardAll cX12_heardAll 3 (some .int) ∈ wU := wU_in (tb5 (j := 87) (by decide +kernel)) (by decide +kernel)
theorem wd_5_88 : Cond.methodLink RL 27 yX12_world ∈ wU := wU_in (tb5 (j := 88) (by decide +kernel)) (by decide +kernel)
theorem wd_5_89 : Cond.instanceMethod yX12_world ∈ wU := wU_in (tb5 (j := 89) (by decide +kernel)) (by decide +kernel)
theorem wd_5_90 : Cond.selects RX12 yX12_world yX12_world ∈ wU := wU_in (tb5 (j := 90) (by decide +kernel)) (by decide +kernel)
theorem wd_5_91 : Cond.code yX12_world cX12_world 3 (some .int) ∈ wU := wU_in (tb5 (j := 91) (by decide +kernel)) (by decide +kernel)
theorem wd_5_92 : Cond.methodLink RL 31 yX12_trust ∈ wU := wU_in (tb5 (j := 92) (by decide +kernel)) (by decide +kernel)
theorem wd_5_93 : Cond.instanceMethod yX12_trust ∈ wU := wU_in (tb5 (j := 93) (by decide +kernel)) (by decide +kernel)
theorem wd_5_94 : Cond.selects RX12 yX12_trust yX12_trust ∈ wU := wU_in (tb5 (j := 94) (by decide +kernel)) (by decide +kernel)
theorem wd_5_95 : Cond.code yX12_trust cX12_trust 3 (some .int) ∈ wU := wU_in (tb5 (j := 95) (by decide +kernel)) (by decide +kernel)
theorem wd_5_96 : Cond.methodLink RL 35 yX12_rider ∈ wU := wU_in (tb5 (j := 96) (by decide +kernel)) (by decide +kernel)
theorem wd_5_97 : Cond.instanceMethod yX12_rider ∈ wU := wU_in (tb5 (j := 97) (by decide +kernel)) (by decide +kernel)
theorem wd_5_98 : Cond.selects RX12 yX12_rider yX12_rider ∈ wU := wU_in (tb5 (j := 98) (by decide +kernel)) (by decide +kernel)
theorem wd_5_99 : Cond.code yX12_rider cX12_rider 3 (some .int) ∈ wU := wU_in (tb5 (j := 99) (by decide +kernel)) (by decide +kernel)
theorem wd_5_100 : Cond.constant RX12 64 (-1000000004) ∈ wU := wU_in (tb5 (j := 100) (by decide +kernel)) (by decide +kernel)
theorem wd_5_101 : Cond.methodLink RL 39 yX12_ofRider ∈ wU := wU_in (tb5 (j := 101) (by decide +kernel)) (by decide +kernel)
theorem wd_5_102 : Cond.instanceMethod yX12_ofRider ∈ wU := wU_in (tb5 (j := 102) (by decide +kernel)) (by decide +kernel)
theorem wd_5_103 : Cond.selects RX12 yX12_ofRider yX12_ofRider ∈ wU := wU_in (tb5 (j := 103) (by decide +kernel)) (by decide +kernel)
theorem wd_5_104 : Cond.code yX12_ofRider cX12_ofRider 4 (some .int) ∈ wU := wU_in (tb5 (j := 104) (by decide +kernel)) (by decide +kernel)
theorem wd_5_105 : Cond.methodLink RX12 100 yX12_isRider ∈ wU := wU_in (tb5 (j := 105) (by decide +kernel)) (by decide +kernel)
theorem wd_5_107 : Cond.instanceMethod yX12_isRider ∈ wU := wU_in (tb5 (j := 107) (by decide +kernel)) (by decide +kernel)
theorem wd_5_108 : Cond.code yX12_isRider cX12_isRider 2 (some .boolean) ∈ wU := wU_in (tb5 (j := 108) (by decide +kernel)) (by decide +kernel)
theorem wd_5_109 : Cond.methodLink RX12 83 yX12_its ∈ wU := wU_in (tb5 (j := 109) (by decide +kernel)) (by decide +kernel)
theorem wd_5_111 : Cond.instanceMethod yX12_its ∈ wU := wU_in (tb5 (j := 111) (by decide +kernel)) (by decide +kernel)
theorem wd_5_112 : Cond.code yX12_its cX12_its 3 (some .int) ∈ wU := wU_in (tb5 (j := 112) (by decide +kernel)) (by decide +kernel)
theorem wd_5_113 : Cond.methodLink RX12 79 yX12_weigh ∈ wU := wU_in (tb5 (j := 113) (by decide +kernel)) (by decide +kernel)
theorem wd_5_115 : Cond.instanceMethod yX12_weigh ∈ wU := wU_in (tb5 (j := 115) (by decide +kernel)) (by decide +kernel)
theorem wd_5_116 : Cond.code yX12_weigh cX12_weigh 5 none ∈ wU := wU_in (tb5 (j := 116) (by decide +kernel)) (by decide +kernel)
theorem wd_5_117 : Cond.methodLink RX12 75 yX12_saying ∈ wU := wU_in (tb5 (j := 117) (by decide +kernel)) (by decide +kernel)
theorem wd_5_119 : Cond.instanceMethod yX12_saying ∈ wU := wU_in (tb5 (j := 119) (by decide +kernel)) (by decide +kernel)
theorem wd_5_120 : Cond.code yX12_saying cX12_saying 3 (some .int) ∈ wU := wU_in (tb5 (j := 120) (by decide +kernel)) (by decide +kernel)
theorem wd_5_121 : Cond.methodLink RX12 90 yX12_creditOf ∈ wU := wU_in (tb5 (j := 121) (by decide +kernel)) (by decide +kernel)
theorem wd_5_123 : Cond.instanceMethod yX12_creditOf ∈ wU := wU_in (tb5 (j := 123) (by decide +kernel)) (by decide +kernel)
theorem wd_5_124 : Cond.code yX12_creditOf cX12_creditOf 7 (some .int) ∈ wU := wU_in (tb5 (j := 124) (by decide +kernel)) (by decide +kernel)
theorem wd_5_125 : Cond.methodLink RX12 86 yX12_lawOf ∈ wU := wU_in (tb5 (j := 125) (by decide +kernel)) (by decide +kernel)
theorem wd_5_127 : Cond.instanceMethod yX12_lawOf ∈ wU := wU_in (tb5 (j := 127) (by decide +kernel)) (by decide +kernel)
theorem wd_5_128 : Cond.code yX12_lawOf cX12_lawOf 5 (some .int) ∈ wU := wU_in (tb5 (j := 128) (by decide +kernel)) (by decide +kernel)
theorem wd_5_129 : Cond.methodLink RX12 175 yX12_walks ∈ wU := wU_in (tb5 (j := 129) (by decide +kernel)) (by decide +kernel)
theorem wd_5_131 : Cond.instanceMethod yX12_walks ∈ wU := wU_in (tb5 (j := 131) (by decide +kernel)) (by decide +kernel)
theorem wd_5_132 : Cond.code yX12_walks cX12_walks 6 (some .int) ∈ wU := wU_in (tb5 (j := 132) (by decide +kernel)) (by decide +kernel)
theorem wd_5_133 : Cond.methodLink RX12 160 yX12_whole ∈ wU := wU_in (tb5 (j := 133) (by decide +kernel)) (by decide +kernel)
theorem wd_5_135 : Cond.instanceMethod yX12_whole ∈ wU := wU_in (tb5 (j := 135) (by decide +kernel)) (by decide +kernel)
theorem wd_5_136 : Cond.code yX12_whole cX12_whole 3 (some .int) ∈ wU := wU_in (tb5 (j := 136) (by decide +kernel)) (by decide +kernel)
theorem wd_5_137 : Cond.methodLink RX12 172 yX12_both ∈ wU := wU_in (tb5 (j := 137) (by decide +kernel)) (by decide +kernel)
theorem wd_5_139 : Cond.instanceMethod yX12_both ∈ wU := wU_in (tb5 (j := 139) (by decide +kernel)) (by decide +kernel)
theorem wd_5_140 : Cond.code yX12_both cX12_both 3 (some .int) ∈ wU := wU_in (tb5 (j := 140) (by decide +kernel)) (by decide +kernel)
theorem wd_5_141 : Cond.methodLink RX12 169 yX12_compared ∈ wU := wU_in (tb5 (j := 141) (by decide +kernel)) (by decide +kernel)
theorem wd_5_143 : Cond.instanceMethod yX12_compared ∈ wU := wU_in (tb5 (j := 143) (by decide +kernel)) (by decide +kernel)
theorem wd_5_144 : Cond.code yX12_compared cX12_compared 5 (some .int) ∈ wU := wU_in (tb5 (j := 144) (by decide +kernel)) (by decide +kernel)
theorem wd_5_145 : Cond.methodLink RX12 166 yX12_sum ∈ wU := wU_in (tb5 (j := 145) (by decide +kernel)) (by decide +kernel)
theorem wd_5_147 : Cond.instanceMethod yX12_sum ∈ wU := wU_in (tb5 (j := 147) (by decide +kernel)) (by decide +kernel)
theorem wd_5_148 : Cond.code yX12_sum cX12_sum 4 (some .int) ∈ wU := wU_in (tb5 (j := 148) (by decide +kernel)) (by decide +kernel)
theorem wd_5_149 : Cond.methodLink RX12 163 yX12_product ∈ wU := wU_in (tb5 (j := 149) (by decide +kernel)) (by decide +kernel)
theorem wd_5_151 : Cond.instanceMethod yX12_product ∈ wU := wU_in (tb5 (j := 151) (by decide +kernel)) (by decide +kernel)
theorem wd_5_152 : Cond.code yX12_product cX12_product 4 (some .int) ∈ wU := wU_in (tb5 (j := 152) (by decide +kernel)) (by decide +kernel)
theorem wd_5_153 : Cond.methodLink RX12 157 yX12_factor ∈ wU := wU_in (tb5 (j := 153) (by decide +kernel)) (by decide +kernel)
theorem wd_5_155 : Cond.instanceMethod yX12_factor ∈ wU := wU_in (tb5 (j := 155) (by decide +kernel)) (by decide +kernel)
theorem wd_5_156 : Cond.code yX12_factor cX12_factor 3 (some .int) ∈ wU := wU_in (tb5 (j := 156) (by decide +kernel)) (by decide +kernel)
theorem wd_5_157 : Cond.methodLink RX12 130 yX12_byteAt ∈ wU := wU_in (tb5 (j := 157) (by decide +kernel)) (by decide +kernel)
theorem wd_5_159 : Cond.instanceMethod yX12_byteAt ∈ wU := wU_in (tb5 (j := 159) (by decide +kernel)) (by decide +kernel)
theorem wd_5_160 : Cond.code yX12_byteAt cX12_byteAt 2 (some .int) ∈ wU := wU_in (tb5 (j := 160) (by decide +kernel)) (by decide +kernel)
theorem wd_5_161 : Cond.methodLink RX12 133 yX12_isDigit ∈ wU := wU_in (tb5 (j := 161) (by decide +kernel)) (by decide +kernel)
theorem wd_5_162 : Cond.static yX12_isDigit ∈ wU := wU_in (tb5 (j := 162) (by decide +kernel)) (by decide +kernel)
theorem wd_5_163 : Cond.code yX12_isDigit cX12_isDigit 1 (some .boolean) ∈ wU := wU_in (tb5 (j := 163) (by decide +kernel)) (by decide +kernel)
theorem wd_5_164 : Cond.methodLink RX12 148 yX12_number ∈ wU := wU_in (tb5 (j := 164) (by decide +kernel)) (by decide +kernel)
theorem wd_5_166 : Cond.instanceMethod yX12_number ∈ wU := wU_in (tb5 (j := 166) (by decide +kernel)) (by decide +kernel)
theorem wd_5_167 : Cond.code yX12_number cX12_number 3 (some .int) ∈ wU := wU_in (tb5 (j := 167) (by decide +kernel)) (by decide +kernel)
theorem wd_5_168 : Cond.methodLink RX12 151 yX12_named ∈ wU := wU_in (tb5 (j := 168) (by decide +kernel)) (by decide +kernel)
theorem wd_5_170 : Cond.instanceMethod yX12_named ∈ wU := wU_in (tb5 (j := 170) (by decide +kernel)) (by decide +kernel)
theorem wd_5_171 : Cond.code yX12_named cX12_named 5 (some .int) ∈ wU := wU_in (tb5 (j := 171) (by decide +kernel)) (by decide +kernel)
theorem wd_5_172 : Cond.methodLink RX12 136 yX12_fails ∈ wU := wU_in (tb5 (j := 172) (by decide +kernel)) (by decide +kernel)
theorem wd_5_174 : Cond.instanceMethod yX12_fails ∈ wU := wU_in (tb5 (j := 174) (by decide +kernel)) (by decide +kernel)
theorem wd_5_175 : Cond.code yX12_fails cX12_fails 1 (some .int) ∈ wU := wU_in (tb5 (j := 175) (by decide +kernel)) (by decide +kernel)
theorem wd_5_176 : Cond.methodLink RX12 93 yX12_held ∈ wU := wU_in (tb5 (j := 176) (by decide +kernel)) (by decide +kernel)
theorem wd_5_177 : Cond.static yX12_held ∈ wU := wU_in (tb5 (j := 177) (by decide +kernel)) (by decide +kernel)
theorem wd_5_178 : Cond.code yX12_held cX12_held 3 (some .int) ∈ wU := wU_in (tb5 (j := 178) (by decide +kernel)) (by decide +kernel)
theorem wd_5_179 : Cond.methodLink RX12 103 yX12_floorOf ∈ wU := wU_in (tb5 (j := 179) (by decide +kernel)) (by decide +kernel)
theorem wd_5_181 : Cond.instanceMethod yX12_floorOf ∈ wU := wU_in (tb5 (j := 181) (by decide +kernel)) (by decide +kernel)
theorem wd_5_182 : Cond.code yX12_floorOf cX12_floorOf 2 (some .int) ∈ wU := wU_in (tb5 (j := 182) (by decide +kernel)) (by decide +kernel)
theorem wd_5_183 : Cond.methodLink RX12 97 yX12_floorBy ∈ wU := wU_in (tb5 (j := 183) (by decide +kernel)) (by decide +kernel)
theorem wd_5_185 : Cond.instanceMethod yX12_floorBy ∈ wU := wU_in (tb5 (j := 185) (by decide +kernel)) (by decide +kernel)
theorem wd_5_186 : Cond.code yX12_floorBy cX12_floorBy 4 (some .int) ∈ wU := wU_in (tb5 (j := 186) (by decide +kernel)) (by decide +kernel)
theorem wd_5_187 : Cond.methodLink RX12 106 yX12_worldStory ∈ wU := wU_in (tb5 (j := 187) (by decide +kernel)) (by decide +kernel)
theorem wd_5_189 : Cond.instanceMethod yX12_worldStory ∈ wU := wU_in (tb5 (j := 189) (by decide +kernel)) (by decide +kernel)
theorem wd_5_190 : Cond.code yX12_worldStory cX12_worldStory 3 (some .int) ∈ wU := wU_in (tb5 (j := 190) (by decide +kernel)) (by decide +kernel)
theorem wd_5_191 : Cond.methodLink RX12 109 yX12_isTrue ∈ wU := wU_in (tb5 (j := 191) (by decide +kernel)) (by decide +kernel)
theorem wd_5_193 : Cond.instanceMethod yX12_isTrue ∈ wU := wU_in (tb5 (j := 193) (by decide +kernel)) (by decide +kernel)
theorem wd_5_194 : Cond.code yX12_isTrue cX12_isTrue 6 (some .boolean) ∈ wU := wU_in (tb5 (j := 194) (by decide +kernel)) (by decide +kernel)
theorem wd_5_195 : Cond.methodLink RL 43 yX12_story ∈ wU := wU_in (tb5 (j := 195) (by decide +kernel)) (by decide +kernel)
theorem wd_5_196 : Cond.instanceMethod yX12_story ∈ wU := wU_in (tb5 (j := 196) (by decide +kernel)) (by decide +kernel)
theorem wd_5_197 : Cond.selects RX12 yX12_story yX12_story ∈ wU := wU_in (tb5 (j := 197) (by decide +kernel)) (by decide +kernel)
theorem wd_5_198 : Cond.code yX12_story cX12_story 4 (some .int) ∈ wU := wU_in (tb5 (j := 198) (by decide +kernel)) (by decide +kernel)
theorem wd_5_199 : Cond.methodLink RL 48 yX12_say ∈ wU := wU_in (tb5 (j := 199) (by decide +kernel)) (by decide +kernel)
theorem wd_5_200 : Cond.instanceMethod yX12_say ∈ wU := wU_in (tb5 (j := 200) (by decide +kernel)) (by decide +kernel)
theorem wd_5_201 : Cond.selects RX12 yX12_say yX12_say ∈ wU := wU_in (tb5 (j := 201) (by decide +kernel)) (by decide +kernel)
theorem wd_5_202 : Cond.code yX12_say cX12_say 5 (some .int) ∈ wU := wU_in (tb5 (j := 202) (by decide +kernel)) (by decide +kernel)
theorem wd_5_203 : Cond.methodLink RL 52 yX12_become ∈ wU := wU_in (tb5 (j := 203) (by decide +kernel)) (by decide +kernel)
theorem wd_5_204 : Cond.instanceMethod yX12_become ∈ wU := wU_in (tb5 (j := 204) (by decide +kernel)) (by decide +kernel)
theorem wd_5_205 : Cond.selects RX12 yX12_become yX12_become ∈ wU := wU_in (tb5 (j := 205) (by decide +kernel)) (by decide +kernel)
theorem wd_5_206 : Cond.code yX12_become cX12_become 4 (some .int) ∈ wU := wU_in (tb5 (j := 206) (by decide +kernel)) (by decide +kernel)
theorem wd_5_207 : Cond.methodLink RL 56 yX12_as ∈ wU := wU_in (tb5 (j := 207) (by decide +kernel)) (by decide +kernel)
theorem wd_5_208 : Cond.instanceMethod yX12_as ∈ wU := wU_in (tb5 (j := 208) (by decide +kernel)) (by decide +kernel)
theorem wd_5_209 : Cond.selects RX12 yX12_as yX12_as ∈ wU := wU_in (tb5 (j := 209) (by decide +kernel)) (by decide +kernel)
theorem wd_5_210 : Cond.code yX12_as cX12_as 4 (some .int) ∈ wU := wU_in (tb5 (j := 210) (by decide +kernel)) (by decide +kernel)
theorem wd_5_211 : Cond.methodLink RX12 113 yX12_above ∈ wU := wU_in (tb5 (j := 211) (by decide +kernel)) (by decide +kernel)
theorem wd_5_212 : Cond.static yX12_above ∈ wU := wU_in (tb5 (j := 212) (by decide +kernel)) (by decide +kernel)
theorem wd_5_213 : Cond.code yX12_above cX12_above 1 (some .int) ∈ wU := wU_in (tb5 (j := 213) (by decide +kernel)) (by decide +kernel)
theorem wd_5_214 : Cond.constant RX12 116 (-1000000005) ∈ wU := wU_in (tb5 (j := 214) (by decide +kernel)) (by decide +kernel)
theorem wd_5_215 : Cond.methodLink RL 72 yX12_law ∈ wU := wU_in (tb5 (j := 215) (by decide +kernel)) (by decide +kernel)
theorem wd_5_216 : Cond.instanceMethod yX12_law ∈ wU := wU_in (tb5 (j := 216) (by decide +kernel)) (by decide +kernel)
theorem wd_5_217 : Cond.selects RX12 yX12_law yX12_law ∈ wU := wU_in (tb5 (j := 217) (by decide +kernel)) (by decide +kernel)
theorem wd_5_218 : Cond.code yX12_law cX12_law 5 (some .int) ∈ wU := wU_in (tb5 (j := 218) (by decide +kernel)) (by decide +kernel)
theorem wd_5_219 : Cond.methodLink RL 63 yX12_feed ∈ wU := wU_in (tb5 (j := 219) (by decide +kernel)) (by decide +kernel)
theorem wd_5_220 : Cond.instanceMethod yX12_feed ∈ wU := wU_in (tb5 (j := 220) (by decide +kernel)) (by decide +kernel)
theorem wd_5_221 : Cond.selects RX12 yX12_feed yX12_feed ∈ wU := wU_in (tb5 (j := 221) (by decide +kernel)) (by decide +kernel)
theorem wd_5_222 : Cond.code yX12_feed cX12_feed 5 (some .int) ∈ wU := wU_in (tb5 (j := 222) (by decide +kernel)) (by decide +kernel)
theorem wd_5_223 : Cond.constantLong RX12 178 (255) ∈ wU := wU_in (tb5 (j := 223) (by decide +kernel)) (by decide +kernel)
theorem wd_5_224 : Cond.methodLink RL 67 yX12_text ∈ wU := wU_in (tb5 (j := 224) (by decide +kernel)) (by decide +kernel)
theorem wd_5_225 : Cond.instanceMethod yX12_text ∈ wU := wU_in (tb5 (j := 225) (by decide +kernel)) (by decide +kernel)
theorem wd_5_226 : Cond.selects RX12 yX12_text yX12_text ∈ wU := wU_in (tb5 (j := 226) (by decide +kernel)) (by decide +kernel)
theorem wd_5_227 : Cond.code yX12_text cX12_text 5 (some .int) ∈ wU := wU_in (tb5 (j := 227) (by decide +kernel)) (by decide +kernel)
theorem wd_5_228 : Cond.methodLink RX12 180 yX12_moveAll ∈ wU := wU_in (tb5 (j := 228) (by decide +kernel)) (by decide +kernel)
theorem wd_5_230 : Cond.instanceMethod yX12_moveAll ∈ wU := wU_in (tb5 (j := 230) (by decide +kernel)) (by decide +kernel)
theorem wd_5_231 : Cond.code yX12_moveAll cX12_moveAll 4 none ∈ wU := wU_in (tb5 (j := 231) (by decide +kernel)) (by decide +kernel)
theorem wd_5_232 : Cond.methodLink RL 76 yX12_ride ∈ wU := wU_in (tb5 (j := 232) (by decide +kernel)) (by decide +kernel)
theorem wd_5_233 : Cond.instanceMethod yX12_ride ∈ wU := wU_in (tb5 (j := 233) (by decide +kernel)) (by decide +kernel)
theorem wd_5_234 : Cond.selects RX12 yX12_ride yX12_ride ∈ wU := wU_in (tb5 (j := 234) (by decide +kernel)) (by decide +kernel)
theorem wd_5_235 : Cond.code yX12_ride cX12_ride 2 (some .int) ∈ wU := wU_in (tb5 (j := 235) (by decide +kernel)) (by decide +kernel)
theorem wd_5_236 : Cond.methodLink RX12 184 yX12_rides ∈ wU := wU_in (tb5 (j := 236) (by decide +kernel)) (by decide +kernel)
theorem wd_5_238 : Cond.instanceMethod yX12_rides ∈ wU := wU_in (tb5 (j := 238) (by decide +kernel)) (by decide +kernel)
theorem wd_5_239 : Cond.code yX12_rides cX12_rides 7 (some .int) ∈ wU := wU_in (tb5 (j := 239) (by decide +kernel)) (by decide +kernel)
theorem wd_6_0 : Cond.methodLink RL 80 yX12_days ∈ wU := wU_in (tb6 (j := 0) (by decide +kernel)) (by decide +kernel)
theorem wd_6_1 : Cond.instanceMethod yX12_days ∈ wU := wU_in (tb6 (j := 1) (by decide +kernel)) (by decide +kernel)
theorem wd_6_2 : Cond.selects RX12 yX12_days yX12_days ∈ wU := wU_in (tb6 (j := 2) (by decide +kernel)) (by decide +kernel)
theorem wd_6_3 : Cond.code yX12_days cX12_days 3 (some .int) ∈ wU := wU_in (tb6 (j := 3) (by decide +kernel)) (by decide +kernel)
theorem wd_6_4 : Cond.constant RX12 187 (-1000000003) ∈ wU := wU_in (tb6 (j := 4) (by decide +kernel)) (by decide +kernel)
theorem wd_6_5 : Cond.methodLink RX12 188 yX12_oneDay ∈ wU := wU_in (tb6 (j := 5) (by decide +kernel)) (by decide +kernel)
theorem wd_6_7 : Cond.instanceMethod yX12_oneDay ∈ wU := wU_in (tb6 (j := 7) (by decide +kernel)) (by decide +kernel)
theorem wd_6_8 : Cond.code yX12_oneDay cX12_oneDay 2 none ∈ wU := wU_in (tb6 (j := 8) (by decide +kernel)) (by decide +kernel)
theorem wd_6_9 : Cond.methodLink RL 84 yX12_rumours ∈ wU := wU_in (tb6 (j := 9) (by decide +kernel)) (by decide +kernel)
theorem wd_6_10 : Cond.instanceMethod yX12_rumours ∈ wU := wU_in (tb6 (j := 10) (by decide +kernel)) (by decide +kernel)
theorem wd_6_11 : Cond.selects RX12 yX12_rumours yX12_rumours ∈ wU := wU_in (tb6 (j := 11) (by decide +kernel)) (by decide +kernel)
theorem wd_6_12 : Cond.code yX12_rumours cX12_rumours 4 (some .int) ∈ wU := wU_in (tb6 (j := 12) (by decide +kernel)) (by decide +kernel)
theorem wd_6_13 : Cond.methodLink RX12 192 yX12_drawn ∈ wU := wU_in (tb6 (j := 13) (by decide +kernel)) (by decide +kernel)
theorem wd_6_15 : Cond.instanceMethod yX12_drawn ∈ wU := wU_in (tb6 (j := 15) (by decide +kernel)) (by decide +kernel)
theorem wd_6_16 : Cond.code yX12_drawn cX12_drawn 2 (some .int) ∈ wU := wU_in (tb6 (j := 16) (by decide +kernel)) (by decide +kernel)
theorem wd_6_17 : Cond.constant RX12 191 (1103515245) ∈ wU := wU_in (tb6 (j := 17) (by decide +kernel)) (by decide +kernel)
theorem wd_6_18 : Cond.methodLink RL 88 yX12_together ∈ wU := wU_in (tb6 (j := 18) (by decide +kernel)) (by decide +kernel)
theorem wd_6_19 : Cond.instanceMethod yX12_together ∈ wU := wU_in (tb6 (j := 19) (by decide +kernel)) (by decide +kernel)
theorem wd_6_20 : Cond.selects RX12 yX12_together yX12_together ∈ wU := wU_in (tb6 (j := 20) (by decide +kernel)) (by decide +kernel)
theorem wd_6_21 : Cond.code yX12_together cX12_together 2 (some .int) ∈ wU := wU_in (tb6 (j := 21) (by decide +kernel)) (by decide +kernel)
theorem wd_6_22 : Cond.methodLink RX12 198 yX12_floorTogether ∈ wU := wU_in (tb6 (j := 22) (by decide +kernel)) (by decide +kernel)
theorem wd_6_24 : Cond.instanceMethod yX12_floorTogether ∈ wU := wU_in (tb6 (j := 24) (by decide +kernel)) (by decide +kernel)
theorem wd_6_25 : Cond.code yX12_floorTogether cX12_floorTogether 8 (some .int) ∈ wU := wU_in (tb6 (j := 25) (by decide +kernel)) (by decide +kernel)
theorem wd_6_26 : Cond.methodLink RX12 195 yX12_bits ∈ wU := wU_in (tb6 (j := 26) (by decide +kernel)) (by decide +kernel)
theorem wd_6_27 : Cond.static yX12_bits ∈ wU := wU_in (tb6 (j := 27) (by decide +kernel)) (by decide +kernel)
theorem wd_6_28 : Cond.code yX12_bits cX12_bits 3 (some .int) ∈ wU := wU_in (tb6 (j := 28) (by decide +kernel)) (by decide +kernel)
theorem wd_6_29 : Cond.methodLink RL 92 yX12_bestWith ∈ wU := wU_in (tb6 (j := 29) (by decide +kernel)) (by decide +kernel)
theorem wd_6_30 : Cond.instanceMethod yX12_bestWith ∈ wU := wU_in (tb6 (j := 30) (by decide +kernel)) (by decide +kernel)
theorem wd_6_31 : Cond.selects RX12 yX12_bestWith yX12_bestWith ∈ wU := wU_in (tb6 (j := 31) (by decide +kernel)) (by decide +kernel)
theorem wd_6_32 : Cond.code yX12_bestWith cX12_bestWith 8 (some .int) ∈ wU := wU_in (tb6 (j := 32) (by decide +kernel)) (by decide +kernel)
theorem wd_6_33 : Cond.methodLink RL 96 yX12_shortest ∈ wU := wU_in (tb6 (j := 33) (by decide +kernel)) (by decide +kernel)
theorem wd_6_34 : Cond.instanceMethod yX12_shortest ∈ wU := wU_in (tb6 (j := 34) (by decide +kernel)) (by decide +kernel)
theorem wd_6_35 : Cond.selects RX12 yX12_shortest yX12_shortest ∈ wU := wU_in (tb6 (j := 35) (by decide +kernel)) (by decide +kernel)
theorem wd_6_36 : Cond.code yX12_shortest cX12_shortest 4 (some .int) ∈ wU := wU_in (tb6 (j := 36) (by decide +kernel)) (by decide +kernel)
theorem wd_6_37 : Cond.methodLink RX12 204 yX12_isFloor ∈ wU := wU_in (tb6 (j := 37) (by decide +kernel)) (by decide +kernel)
theorem wd_6_38 : Cond.static yX12_isFloor ∈ wU := wU_in (tb6 (j := 38) (by decide +kernel)) (by decide +kernel)
theorem wd_6_39 : Cond.code yX12_isFloor cX12_isFloor 1 (some .boolean) ∈ wU := wU_in (tb6 (j := 39) (by decide +kernel)) (by decide +kernel)
theorem wd_6_40 : Cond.methodLink RX12 207 yX12_shortestTo ∈ wU := wU_in (tb6 (j := 40) (by decide +kernel)) (by decide +kernel)
theorem wd_6_42 : Cond.instanceMethod yX12_shortestTo ∈ wU := wU_in (tb6 (j := 42) (by decide +kernel)) (by decide +kernel)
theorem wd_6_43 : Cond.code yX12_shortestTo cX12_shortestTo 9 (some .int) ∈ wU := wU_in (tb6 (j := 43) (by decide +kernel)) (by decide +kernel)
theorem wd_6_44 : Cond.methodLink RX12 201 yX12_longOf ∈ wU := wU_in (tb6 (j := 44) (by decide +kernel)) (by decide +kernel)
theorem wd_6_46 : Cond.instanceMethod yX12_longOf ∈ wU := wU_in (tb6 (j := 46) (by decide +kernel)) (by decide +kernel)
theorem wd_6_47 : Cond.code yX12_longOf cX12_longOf 4 (some .int) ∈ wU := wU_in (tb6 (j := 47) (by decide +kernel)) (by decide +kernel)
theorem wd_6_48 : Cond.constant RX12 211 (-1000000002) ∈ wU := wU_in (tb6 (j := 48) (by decide +kernel)) (by decide +kernel)
theorem wd_6_49 : Cond.methodLink RL 100 yX12_truest ∈ wU := wU_in (tb6 (j := 49) (by decide +kernel)) (by decide +kernel)
theorem wd_6_50 : Cond.instanceMethod yX12_truest ∈ wU := wU_in (tb6 (j := 50) (by decide +kernel)) (by decide +kernel)
theorem wd_6_51 : Cond.selects RX12 yX12_truest yX12_truest ∈ wU := wU_in (tb6 (j := 51) (by decide +kernel)) (by decide +kernel)
theorem wd_6_52 : Cond.code yX12_truest cX12_truest 4 (some .int) ∈ wU := wU_in (tb6 (j := 52) (by decide +kernel)) (by decide +kernel)
theorem wd_6_53 : Cond.methodLink RL 104 yX12_out ∈ wU := wU_in (tb6 (j := 53) (by decide +kernel)) (by decide +kernel)
theorem wd_6_54 : Cond.instanceMethod yX12_out ∈ wU := wU_in (tb6 (j := 54) (by decide +kernel)) (by decide +kernel)
theorem wd_6_55 : Cond.selects RX12 yX12_out yX12_out ∈ wU := wU_in (tb6 (j := 55) (by decide +kernel)) (by decide +kernel)
theorem wd_6_56 : Cond.code yX12_out cX12_out 9 (some .int) ∈ wU := wU_in (tb6 (j := 56) (by decide +kernel)) (by decide +kernel)
theorem wd_6_57 : Cond.methodLink RL 108 yX12_when ∈ wU := wU_in (tb6 (j := 57) (by decide +kernel)) (by decide +kernel)
theorem wd_6_58 : Cond.instanceMethod yX12_when ∈ wU := wU_in (tb6 (j := 58) (by decide +kernel)) (by decide +kernel)
theorem wd_6_59 : Cond.selects RX12 yX12_when yX12_when ∈ wU := wU_in (tb6 (j := 59) (by decide +kernel)) (by decide +kernel)
theorem wd_6_60 : Cond.code yX12_when cX12_when 4 (some .int) ∈ wU := wU_in (tb6 (j := 60) (by decide +kernel)) (by decide +kernel)
theorem wd_6_61 : Cond.methodLink RL 112 yX12_still ∈ wU := wU_in (tb6 (j := 61) (by decide +kernel)) (by decide +kernel)
theorem wd_6_62 : Cond.instanceMethod yX12_still ∈ wU := wU_in (tb6 (j := 62) (by decide +kernel)) (by decide +kernel)
theorem wd_6_63 : Cond.selects RX12 yX12_still yX12_still ∈ wU := wU_in (tb6 (j := 63) (by decide +kernel)) (by decide +kernel)
theorem wd_6_64 : Cond.code yX12_still cX12_still 3 (some .int) ∈ wU := wU_in (tb6 (j := 64) (by decide +kernel)) (by decide +kernel)
theorem wd_6_65 : Cond.methodLink RL 116 yX12_then ∈ wU := wU_in (tb6 (j := 65) (by decide +kernel)) (by decide +kernel)
theorem wd_6_66 : Cond.instanceMethod yX12_then ∈ wU := wU_in (tb6 (j := 66) (by decide +kernel)) (by decide +kernel)
theorem wd_6_67 : Cond.selects RX12 yX12_then yX12_then ∈ wU := wU_in (tb6 (j := 67) (by decide +kernel)) (by decide +kernel)
theorem wd_6_68 : Cond.code yX12_then cX12_then 3 (some .int) ∈ wU := wU_in (tb6 (j := 68) (by decide +kernel)) (by decide +kernel)
theorem wd_6_69 : Cond.methodLink RL 120 yX12_believed ∈ wU := wU_in (tb6 (j := 69) (by decide +kernel)) (by decide +kernel)
theorem wd_6_70 : Cond.instanceMethod yX12_believed ∈ wU := wU_in (tb6 (j := 70) (by decide +kernel)) (by decide +kernel)
theorem wd_6_71 : Cond.selects RX12 yX12_believed yX12_believed ∈ wU := wU_in (tb6 (j := 71) (by decide +kernel)) (by decide +kernel)
theorem wd_6_72 : Cond.code yX12_believed cX12_believed 6 (some .int) ∈ wU := wU_in (tb6 (j := 72) (by decide +kernel)) (by decide +kernel)
theorem wd_6_73 : Cond.methodLink RX12 212 yX12_isSheet ∈ wU := wU_in (tb6 (j := 73) (by decide +kernel)) (by decide +kernel)
theorem wd_6_74 : Cond.static yX12_isSheet ∈ wU := wU_in (tb6 (j := 74) (by decide +kernel)) (by decide +kernel)
theorem wd_6_75 : Cond.code yX12_isSheet cX12_isSheet 1 (some .boolean) ∈ wU := wU_in (tb6 (j := 75) (by decide +kernel)) (by decide +kernel)
theorem wd_6_76 : Cond.methodLink RX12 215 yX12_hearsAll ∈ wU := wU_in (tb6 (j := 76) (by decide +kernel)) (by decide +kernel)
theorem wd_6_78 : Cond.instanceMethod yX12_hearsAll ∈ wU := wU_in (tb6 (j := 78) (by decide +kernel)) (by decide +kernel)
theorem wd_6_79 : Cond.code yX12_hearsAll cX12_hearsAll 3 none ∈ wU := wU_in (tb6 (j := 79) (by decide +kernel)) (by decide +kernel)
theorem wd_6_80 : Cond.methodLink RX12 218 yX12_areSo ∈ wU := wU_in (tb6 (j := 80) (by decide +kernel)) (by decide +kernel)
theorem wd_6_82 : Cond.instanceMethod yX12_areSo ∈ wU := wU_in (tb6 (j := 82) (by decide +kernel)) (by decide +kernel)
theorem wd_6_83 : Cond.code yX12_areSo cX12_areSo 4 (some .boolean) ∈ wU := wU_in (tb6 (j := 83) (by decide +kernel)) (by decide +kernel)
theorem wd_6_84 : Cond.methodLink RL 124 yX12_word ∈ wU := wU_in (tb6 (j := 84) (by decide +kernel)) (by decide +kernel)
theorem wd_6_85 : Cond.instanceMethod yX12_word ∈ wU := wU_in (tb6 (j := 85) (by decide +kernel)) (by decide +kernel)
theorem wd_6_86 : Cond.selects RX12 yX12_word yX12_word ∈ wU := wU_in (tb6 (j := 86) (by decide +kernel)) (by decide +kernel)
theorem wd_6_87 : Cond.code yX12_word cX12_word 8 (some .int) ∈ wU := wU_in (tb6 (j := 87) (by decide +kernel)) (by decide +kernel)
theorem wd_6_88 : Cond.methodLink RL 128 yX12_seed ∈ wU := wU_in (tb6 (j := 88) (by decide +kernel)) (by decide +kernel)
theorem wd_6_89 : Cond.instanceMethod yX12_seed ∈ wU := wU_in (tb6 (j := 89) (by decide +kernel)) (by decide +kernel)
theorem wd_6_90 : Cond.selects RX12 yX12_seed yX12_seed ∈ wU := wU_in (tb6 (j := 90) (by decide +kernel)) (by decide +kernel)
theorem wd_6_91 : Cond.code yX12_seed cX12_seed 3 (some .int) ∈ wU := wU_in (tb6 (j := 91) (by decide +kernel)) (by decide +kernel)
theorem wd_6_92 : Cond.methodLink RL 132 yX12_voice ∈ wU := wU_in (tb6 (j := 92) (by decide +kernel)) (by decide +kernel)
theorem wd_6_93 : Cond.instanceMethod yX12_voice ∈ wU := wU_in (tb6 (j := 93) (by decide +kernel)) (by decide +kernel)
theorem wd_6_94 : Cond.selects RX12 yX12_voice yX12_voice ∈ wU := wU_in (tb6 (j := 94) (by decide +kernel)) (by decide +kernel)
theorem wd_6_95 : Cond.code yX12_voice cX12_voice 4 (some .int) ∈ wU := wU_in (tb6 (j := 95) (by decide +kernel)) (by decide +kernel)
theorem wd_6_96 : Cond.methodLink RX12 230 yX12_saysIn ∈ wU := wU_in (tb6 (j := 96) (by decide +kernel)) (by decide +kernel)
theorem wd_6_98 : Cond.instanceMethod yX12_saysIn ∈ wU := wU_in (tb6 (j := 98) (by decide +kernel)) (by decide +kernel)
theorem wd_6_99 : Cond.code yX12_saysIn cX12_saysIn 3 (some .int) ∈ wU := wU_in (tb6 (j := 99) (by decide +kernel)) (by decide +kernel)
theorem wd_6_100 : Cond.methodLink RX12 224 yX12_ran ∈ wU := wU_in (tb6 (j := 100) (by decide +kernel)) (by decide +kernel)
theorem wd_6_102 : Cond.instanceMethod yX12_ran ∈ wU := wU_in (tb6 (j := 102) (by decide +kernel)) (by decide +kernel)
theorem wd_6_103 : Cond.code yX12_ran cX12_ran 2 none ∈ wU := wU_in (tb6 (j := 103) (by decide +kernel)) (by decide +kernel)
theorem wd_6_104 : Cond.methodLink RX12 242 yX12_risesIn ∈ wU := wU_in (tb6 (j := 104) (by decide +kernel)) (by decide +kernel)
theorem wd_6_106 : Cond.instanceMethod yX12_risesIn ∈ wU := wU_in (tb6 (j := 106) (by decide +kernel)) (by decide +kernel)
theorem wd_6_107 : Cond.code yX12_risesIn cX12_risesIn 4 (some .int) ∈ wU := wU_in (tb6 (j := 107) (by decide +kernel)) (by decide +kernel)
theorem wd_6_108 : Cond.methodLink RX12 236 yX12_doubtsIn ∈ wU := wU_in (tb6 (j := 108) (by decide +kernel)) (by decide +kernel)
theorem wd_6_110 : Cond.instanceMethod yX12_doubtsIn ∈ wU := wU_in (tb6 (j := 110) (by decide +kernel)) (by decide +kernel)
theorem wd_6_111 : Cond.code yX12_doubtsIn cX12_doubtsIn 3 (some .int) ∈ wU := wU_in (tb6 (j := 111) (by decide +kernel)) (by decide +kernel)
theorem wd_6_112 : Cond.methodLink RX12 245 yX12_tellsIn ∈ wU := wU_in (tb6 (j := 112) (by decide +kernel)) (by decide +kernel)
theorem wd_6_114 : Cond.instanceMethod yX12_tellsIn ∈ wU := wU_in (tb6 (j := 114) (by decide +kernel)) (by decide +kernel)
theorem wd_6_115 : Cond.code yX12_tellsIn cX12_tellsIn 4 (some .int) ∈ wU := wU_in (tb6 (j := 115) (by decide +kernel)) (by decide +kernel)
theorem wd_6_116 : Cond.methodLink RL 136 yX12_trace ∈ wU := wU_in (tb6 (j := 116) (by decide +kernel)) (by decide +kernel)
theorem wd_6_117 : Cond.instanceMethod yX12_trace ∈ wU := wU_in (tb6 (j := 117) (by decide +kernel)) (by decide +kernel)
theorem wd_6_118 : Cond.selects RX12 yX12_trace yX12_trace ∈ wU := wU_in (tb6 (j := 118) (by decide +kernel)) (by decide +kernel)
theorem wd_6_119 : Cond.code yX12_trace cX12_trace 2 (some .int) ∈ wU := wU_in (tb6 (j := 119) (by decide +kernel)) (by decide +kernel)
theorem wd_6_120 : Cond.methodLink RL 140 yX12_sheet ∈ wU := wU_in (tb6 (j := 120) (by decide +kernel)) (by decide +kernel)
theorem wd_6_121 : Cond.instanceMethod yX12_sheet ∈ wU := wU_in (tb6 (j := 121) (by decide +kernel)) (by decide +kernel)
theorem wd_6_122 : Cond.selects RX12 yX12_sheet yX12_sheet ∈ wU := wU_in (tb6 (j := 122) (by decide +kernel)) (by decide +kernel)
theorem wd_6_123 : Cond.code yX12_sheet cX12_sheet 5 (some .int) ∈ wU := wU_in (tb6 (j := 123) (by decide +kernel)) (by decide +kernel)
theorem wd_6_124 : Cond.methodLink RL 144 yX12_put ∈ wU := wU_in (tb6 (j := 124) (by decide +kernel)) (by decide +kernel)
theorem wd_6_125 : Cond.instanceMethod yX12_put ∈ wU := wU_in (tb6 (j := 125) (by decide +kernel)) (by decide +kernel)
theorem wd_6_126 : Cond.selects RX12 yX12_put yX12_put ∈ wU := wU_in (tb6 (j := 126) (by decide +kernel)) (by decide +kernel)
theorem wd_6_127 : Cond.code yX12_put cX12_put 4 (some .int) ∈ wU := wU_in (tb6 (j := 127) (by decide +kernel)) (by decide +kernel)
theorem wd_6_128 : Cond.methodLink RX12 248 yX12_narrow ∈ wU := wU_in (tb6 (j := 128) (by decide +kernel)) (by decide +kernel)
theorem wd_6_129 : Cond.static yX12_narrow ∈ wU := wU_in (tb6 (j := 129) (by decide +kernel)) (by decide +kernel)
theorem wd_6_130 : Cond.code yX12_narrow cX12_narrow 2 (some .int) ∈ wU := wU_in (tb6 (j := 130) (by decide +kernel)) (by decide +kernel)
theorem wd_6_131 : Cond.methodLink RL 149 yX12_move ∈ wU := wU_in (tb6 (j := 131) (by decide +kernel)) (by decide +kernel)
theorem wd_6_132 : Cond.instanceMethod yX12_move ∈ wU := wU_in (tb6 (j := 132) (by decide +kernel)) (by decide +kernel)
theorem wd_6_133 : Cond.selects RX12 yX12_move yX12_move ∈ wU := wU_in (tb6 (j := 133) (by decide +kernel)) (by decide +kernel)
theorem wd_6_134 : Cond.code yX12_move cX12_move 7 (some .int) ∈ wU := wU_in (tb6 (j := 134) (by decide +kernel)) (by decide +kernel)
theorem wd_6_135 : Cond.methodLink RL 153 yX12_stories ∈ wU := wU_in (tb6 (j := 135) (by decide +kernel)) (by decide +kernel)
theorem wd_6_136 : Cond.instanceMethod yX12_stories ∈ wU := wU_in (tb6 (j := 136) (by decide +kernel)) (by decide +kernel)
theorem wd_6_137 : Cond.selects RX12 yX12_stories yX12_stories ∈ wU := wU_in (tb6 (j := 137) (by decide +kernel)) (by decide +kernel)
theorem wd_6_138 : Cond.code yX12_stories cX12_stories 3 (some .int) ∈ wU := wU_in (tb6 (j := 138) (by decide +kernel)) (by decide +kernel)
theorem wd_6_139 : Cond.methodLink RL 157 yX12_judge ∈ wU := wU_in (tb6 (j := 139) (by decide +kernel)) (by decide +kernel)
theorem wd_6_140 : Cond.instanceMethod yX12_judge ∈ wU := wU_in (tb6 (j := 140) (by decide +kernel)) (by decide +kernel)
theorem wd_6_141 : Cond.selects RX12 yX12_judge yX12_judge ∈ wU := wU_in (tb6 (j := 141) (by decide +kernel)) (by decide +kernel)
theorem wd_6_142 : Cond.code yX12_judge cX12_judge 3 (some .int) ∈ wU := wU_in (tb6 (j := 142) (by decide +kernel)) (by decide +kernel)
theorem wd_6_143 : Cond.methodLink RL 161 yX12_image ∈ wU := wU_in (tb6 (j := 143) (by decide +kernel)) (by decide +kernel)
theorem wd_6_144 : Cond.instanceMethod yX12_image ∈ wU := wU_in (tb6 (j := 144) (by decide +kernel)) (by decide +kernel)
theorem wd_6_145 : Cond.selects RX12 yX12_image yX12_image ∈ wU := wU_in (tb6 (j := 145) (by decide +kernel)) (by decide +kernel)
theorem wd_6_146 : Cond.code yX12_image cX12_image 1 (some .int) ∈ wU := wU_in (tb6 (j := 146) (by decide +kernel)) (by decide +kernel)
theorem wd_6_147 : Cond.methodLink RL 165 yX12_restore ∈ wU := wU_in (tb6 (j := 147) (by decide +kernel)) (by decide +kernel)
theorem wd_6_148 : Cond.instanceMethod yX12_restore ∈ wU := wU_in (tb6 (j := 148) (by decide +kernel)) (by decide +kernel)
theorem wd_6_149 : Cond.selects RX12 yX12_restore yX12_restore ∈ wU := wU_in (tb6 (j := 149) (by decide +kernel)) (by decide +kernel)
theorem wd_6_150 : Cond.code yX12_restore cX12_restore 1 (some .int) ∈ wU := wU_in (tb6 (j := 150) (by decide +kernel)) (by decide +kernel)
theorem wd_6_151 : Cond.methodLink RL 169 yX12_tell ∈ wU := wU_in (tb6 (j := 151) (by decide +kernel)) (by decide +kernel)
theorem wd_6_152 : Cond.instanceMethod yX12_tell ∈ wU := wU_in (tb6 (j := 152) (by decide +kernel)) (by decide +kernel)
theorem wd_6_153 : Cond.selects RX12 yX12_tell yX12_tell ∈ wU := wU_in (tb6 (j := 153) (by decide +kernel)) (by decide +kernel)
theorem wd_6_154 : Cond.code yX12_tell cX12_tell 2 (some .int) ∈ wU := wU_in (tb6 (j := 154) (by decide +kernel)) (by decide +kernel)
theorem wd_6_155 : Cond.methodLink RL 173 yX12_check ∈ wU := wU_in (tb6 (j := 155) (by decide +kernel)) (by decide +kernel)
theorem wd_6_156 : Cond.instanceMethod yX12_check ∈ wU := wU_in (tb6 (j := 156) (by decide +kernel)) (by decide +kernel)
theorem wd_6_157 : Cond.selects RX12 yX12_check yX12_check ∈ wU := wU_in (tb6 (j := 157) (by decide +kernel)) (by decide +kernel)
theorem wd_6_158 : Cond.code yX12_check cX12_check 4 (some .int) ∈ wU := wU_in (tb6 (j := 158) (by decide +kernel)) (by decide +kernel)
theorem wd_6_159 : Cond.methodLink RL 177 yX12_count ∈ wU := wU_in (tb6 (j := 159) (by decide +kernel)) (by decide +kernel)
theorem wd_6_160 : Cond.instanceMethod yX12_count ∈ wU := wU_in (tb6 (j := 160) (by decide +kernel)) (by decide +kernel)
theorem wd_6_161 : Cond.selects RX12 yX12_count yX12_count ∈ wU := wU_in (tb6 (j := 161) (by decide +kernel)) (by decide +kernel)
theorem wd_6_162 : Cond.code yX12_count cX12_count 2 (some .int) ∈ wU := wU_in (tb6 (j := 162) (by decide +kernel)) (by decide +kernel)
theorem wd_6_163 : Cond.methodLink RX12 257 yX12_heardMany ∈ wU := wU_in (tb6 (j := 163) (by decide +kernel)) (by decide +kernel)
theorem wd_6_165 : Cond.instanceMethod yX12_heardMany ∈ wU := wU_in (tb6 (j := 165) (by decide +kernel)) (by decide +kernel)
theorem wd_6_166 : Cond.code yX12_heardMany cX12_heardMany 6 (some .int) ∈ wU := wU_in (tb6 (j := 166) (by decide +kernel)) (by decide +kernel)
theorem wd_6_167 : Cond.methodLink RL 181 yX12_told ∈ wU := wU_in (tb6 (j := 167) (by decide +kernel)) (by decide +kernel)
theorem wd_6_168 : Cond.instanceMethod yX12_told ∈ wU := wU_in (tb6 (j := 168) (by decide +kernel)) (by decide +kernel)
theorem wd_6_169 : Cond.selects RX12 yX12_told yX12_told ∈ wU := wU_in (tb6 (j := 169) (by decide +kernel)) (by decide +kernel)
theorem wd_6_170 : Cond.code yX12_told cX12_told 2 (some .int) ∈ wU := wU_in (tb6 (j := 170) (by decide +kernel)) (by decide +kernel)
theorem wd_6_171 : Cond.constantLong RL 57 (4294967295) ∈ wU := wU_in (tb6 (j := 171) (by decide +kernel)) (by decide +kernel)
theorem wd_6_172 : Cond.sameMethod RX0 RX0 "credit" "(IIII)I" ∈ wU := wU_in (tb6 (j := 172) (by decide +kernel)) (by decide +kernel)
theorem wd_6_173 : Cond.sameMethod RX10 RX10 "credit" "(IIII)I" ∈ wU := wU_in (tb6 (j := 173) (by decide +kernel)) (by decide +kernel)
theorem wd_6_174 : Cond.sameMethod RX3 RX3 "rises" "(LLiftCredit$Trace;I)I" ∈ wU := wU_in (tb6 (j := 174) (by decide +kernel)) (by decide +kernel)
theorem wd_6_175 : Cond.sameMethod RX6 RX6 "doubts" "(LLiftCredit$Trace;I)I" ∈ wU := wU_in (tb6 (j := 175) (by decide +kernel)) (by decide +kernel)
theorem wd_6_176 : Cond.selects RX0 yX6_doubts yX6_doubts ∈ wU := wU_in (tb6 (j := 176) (by decide +kernel)) (by decide +kernel)
theorem wd_6_177 : Cond.selects RX1 yX6_doubts yX6_doubts ∈ wU := wU_in (tb6 (j := 177) (by decide +kernel)) (by decide +kernel)
theorem wd_6_178 : Cond.selects RX3 yX6_doubts yX6_doubts ∈ wU := wU_in (tb6 (j := 178) (by decide +kernel)) (by decide +kernel)
theorem wd_6_179 : Cond.selects RX5 yX6_doubts yX6_doubts ∈ wU := wU_in (tb6 (j := 179) (by decide +kernel)) (by decide +kernel)
theorem wd_6_180 : Cond.selects RX6 yX6_doubts yX6_doubts ∈ wU := wU_in (tb6 (j := 180) (by decide +kernel)) (by decide +kernel)
theorem wd_6_181 : Cond.selects RX8 yX6_doubts yX8_doubts ∈ wU := wU_in (tb6 (j := 181) (by decide +kernel)) (by decide +kernel)
theorem wd_6_182 : Cond.sameMethod RX10 RX10 "doubts" "(LLiftCredit$Trace;I)I" ∈ wU := wU_in (tb6 (j := 182) (by decide +kernel)) (by decide +kernel)
theorem wd_6_183 : Cond.selects RX10 yX6_doubts yX10_doubts ∈ wU := wU_in (tb6 (j := 183) (by decide +kernel)) (by decide +kernel)
theorem nd_6_184 : Cond.castable RX1 RX0 ∈ lw_tbl := tb6 (j := 184) (by decide +kernel)
theorem nd_6_185 : Cond.castable RX5 RX3 ∈ lw_tbl := tb6 (j := 185) (by decide +kernel)
theorem nd_6_186 : Cond.castable RX8 RX10 ∈ lw_tbl := tb6 (j := 186) (by decide +kernel)
theorem nd_6_187 : Cond.castable RX0 RX6 ∈ lw_tbl := tb6 (j := 187) (by decide +kernel)
theorem nd_6_188 : Cond.castable RX3 RX6 ∈ lw_tbl := tb6 (j := 188) (by decide +kernel)
theorem nd_6_189 : Cond.castable RX10 RX6 ∈ lw_tbl := tb6 (j := 189) (by decide +kernel)
theorem nd_6_190 : Cond.castable RX1 RX6 ∈ lw_tbl := tb6 (j := 190) (by decide +kernel)
theorem nd_6_191 : Cond.castable RX5 RX6 ∈ lw_tbl := tb6 (j := 191) (by decide +kernel)
theorem nd_6_192 : Cond.castable RX8 RX6 ∈ lw_tbl := tb6 (j := 192) (by decide +kernel)
theorem wd_6_193 : Cond.fieldLink "java/lang/String" 9 "java/lang/String" "value" "[B" ∈ wU := wU_in (tb6 (j := 193) (by decide +kernel)) (by decide +kernel)
theorem wd_6_194 : Cond.fieldLink "java/lang/String" 15 "java/lang/String" "coder" "B" ∈ wU := wU_in (tb6 (j := 194) (by decide +kernel)) (by decide +kernel)
theorem wd_s_0 : Cond.selects RX4 yX4_workOutWorth yX4_workOutWorth ∈ wU := wU_in (tbs (j := 0) (by decide +kernel)) (by decide +kernel)
theorem wd_s_1 : Cond.selects RX2 yX2_read yX2_read ∈ wU := wU_in (tbs (j := 1) (by decide +kernel)) (by decide +kernel)
theorem wd_s_2 : Cond.selects RX2 yX2_either yX2_either ∈ wU := wU_in (tbs (j := 2) (by decide +kernel)) (by decide +kernel)
theorem wd_s_3 : Cond.selects RX2 yX2_both yX2_both ∈ wU := wU_in (tbs (j := 3) (by decide +kernel)) (by decide +kernel)
theorem wd_s_4 : Cond.selects RX2 yX2_compared yX2_compared ∈ wU := wU_in (tbs (j := 4) (by decide +kernel)) (by decide +kernel)
theorem wd_s_5 : Cond.selects RX2 yX2_sum yX2_sum ∈ wU := wU_in (tbs (j := 5) (by decide +kernel)) (by decide +kernel)
theorem wd_s_6 : Cond.selects RX2 yX2_product yX2_product ∈ wU := wU_in (tbs (j := 6) (by decide +kernel)) (by decide +kernel)
theorem wd_s_7 : Cond.selects RX2 yX2_part yX2_part ∈ wU := wU_in (tbs (j := 7) (by decide +kernel)) (by decide +kernel)
theorem wd_s_8 : Cond.selects RX2 yX2_fail yX2_fail ∈ wU := wU_in (tbs (j := 8) (by decide +kernel)) (by decide +kernel)
theorem wd_s_9 : Cond.selects RX2 yX2_number yX2_number ∈ wU := wU_in (tbs (j := 9) (by decide +kernel)) (by decide +kernel)
theorem wd_s_10 : Cond.selects RX2 yX2_name yX2_name ∈ wU := wU_in (tbs (j := 10) (by decide +kernel)) (by decide +kernel)
theorem wd_s_11 : Cond.selects RX11 yX11_error yX11_error ∈ wU := wU_in (tbs (j := 11) (by decide +kernel)) (by decide +kernel)
theorem wd_s_12 : Cond.selects RX11 yX11_isRider yX11_isRider ∈ wU := wU_in (tbs (j := 12) (by decide +kernel)) (by decide +kernel)
theorem wd_s_13 : Cond.selects RX11 yX11_shortestOf yX11_shortestOf ∈ wU := wU_in (tbs (j := 13) (by decide +kernel)) (by decide +kernel)
theorem wd_s_14 : Cond.selects RX11 yX11_tellsFloors yX11_tellsFloors ∈ wU := wU_in (tbs (j := 14) (by decide +kernel)) (by decide +kernel)
theorem wd_s_15 : Cond.selects RX11 yX11_bestWord yX11_bestWord ∈ wU := wU_in (tbs (j := 15) (by decide +kernel)) (by decide +kernel)
theorem wd_s_16 : Cond.selects RX11 yX11_unlikeFloors yX11_unlikeFloors ∈ wU := wU_in (tbs (j := 16) (by decide +kernel)) (by decide +kernel)
theorem wd_s_17 : Cond.selects RX12 yX12_errs yX12_errs ∈ wU := wU_in (tbs (j := 17) (by decide +kernel)) (by decide +kernel)
theorem wd_s_18 : Cond.selects RX12 yX12_heardAll yX12_heardAll ∈ wU := wU_in (tbs (j := 18) (by decide +kernel)) (by decide +kernel)
theorem wd_s_19 : Cond.selects RX12 yX12_isRider yX12_isRider ∈ wU := wU_in (tbs (j := 19) (by decide +kernel)) (by decide +kernel)
theorem wd_s_20 : Cond.selects RX12 yX12_its yX12_its ∈ wU := wU_in (tbs (j := 20) (by decide +kernel)) (by decide +kernel)
theorem wd_s_21 : Cond.selects RX12 yX12_weigh yX12_weigh ∈ wU := wU_in (tbs (j := 21) (by decide +kernel)) (by decide +kernel)
theorem wd_s_22 : Cond.selects RX12 yX12_saying yX12_saying ∈ wU := wU_in (tbs (j := 22) (by decide +kernel)) (by decide +kernel)
theorem wd_s_23 : Cond.selects RX12 yX12_creditOf yX12_creditOf ∈ wU := wU_in (tbs (j := 23) (by decide +kernel)) (by decide +kernel)
theorem wd_s_24 : Cond.selects RX12 yX12_lawOf yX12_lawOf ∈ wU := wU_in (tbs (j := 24) (by decide +kernel)) (by decide +kernel)
theorem wd_s_25 : Cond.selects RX12 yX12_walks yX12_walks ∈ wU := wU_in (tbs (j := 25) (by decide +kernel)) (by decide +kernel)
theorem wd_s_26 : Cond.selects RX12 yX12_whole yX12_whole ∈ wU := wU_in (tbs (j := 26) (by decide +kernel)) (by decide +kernel)
theorem wd_s_27 : Cond.selects RX12 yX12_both yX12_both ∈ wU := wU_in (tbs (j := 27) (by decide +kernel)) (by decide +kernel)
theorem wd_s_28 : Cond.selects RX12 yX12_compared yX12_compared ∈ wU := wU_in (tbs (j := 28) (by decide +kernel)) (by decide +kernel)
theorem wd_s_29 : Cond.selects RX12 yX12_sum yX12_sum ∈ wU := wU_in (tbs (j := 29) (by decide +kernel)) (by decide +kernel)
theorem wd_s_30 : Cond.selects RX12 yX12_product yX12_product ∈ wU := wU_in (tbs (j := 30) (by decide +kernel)) (by decide +kernel)
theorem wd_s_31 : Cond.selects RX12 yX12_factor yX12_factor ∈ wU := wU_in (tbs (j := 31) (by decide +kernel)) (by decide +kernel)
theorem wd_s_32 : Cond.selects RX12 yX12_byteAt yX12_byteAt ∈ wU := wU_in (tbs (j := 32) (by decide +kernel)) (by decide +kernel)
theorem wd_s_33 : Cond.selects RX12 yX12_number yX12_number ∈ wU := wU_in (tbs (j := 33) (by decide +kernel)) (by decide +kernel)
theorem wd_s_34 : Cond.selects RX12 yX12_named yX12_named ∈ wU := wU_in (tbs (j := 34) (by decide +kernel)) (by decide +kernel)
theorem wd_s_35 : Cond.selects RX12 yX12_fails yX12_fails ∈ wU := wU_in (tbs (j := 35) (by decide +kernel)) (by decide +kernel)
theorem wd_s_36 : Cond.selects RX12 yX12_floorOf yX12_floorOf ∈ wU := wU_in (tbs (j := 36) (by decide +kernel)) (by decide +kernel)
theorem wd_s_37 : Cond.selects RX12 yX12_floorBy yX12_floorBy ∈ wU := wU_in (tbs (j := 37) (by decide +kernel)) (by decide +kernel)
theorem wd_s_38 : Cond.selects RX12 yX12_worldStory yX12_worldStory ∈ wU := wU_in (tbs (j := 38) (by decide +kernel)) (by decide +kernel)
theorem wd_s_39 : Cond.selects RX12 yX12_isTrue yX12_isTrue ∈ wU := wU_in (tbs (j := 39) (by decide +kernel)) (by decide +kernel)
theorem wd_s_40 : Cond.selects RX12 yX12_moveAll yX12_moveAll ∈ wU := wU_in (tbs (j := 40) (by decide +kernel)) (by decide +kernel)
theorem wd_s_41 : Cond.selects RX12 yX12_rides yX12_rides ∈ wU := wU_in (tbs (j := 41) (by decide +kernel)) (by decide +kernel)
theorem wd_s_42 : Cond.selects RX12 yX12_oneDay yX12_oneDay ∈ wU := wU_in (tbs (j := 42) (by decide +kernel)) (by decide +kernel)
theorem wd_s_43 : Cond.selects RX12 yX12_drawn yX12_drawn ∈ wU := wU_in (tbs (j := 43) (by decide +kernel)) (by decide +kernel)
theorem wd_s_44 : Cond.selects RX12 yX12_floorTogether yX12_floorTogether ∈ wU := wU_in (tbs (j := 44) (by decide +kernel)) (by decide +kernel)
theorem wd_s_45 : Cond.selects RX12 yX12_shortestTo yX12_shortestTo ∈ wU := wU_in (tbs (j := 45) (by decide +kernel)) (by decide +kernel)
theorem wd_s_46 : Cond.selects RX12 yX12_longOf yX12_longOf ∈ wU := wU_in (tbs (j := 46) (by decide +kernel)) (by decide +kernel)
theorem wd_s_47 : Cond.selects RX12 yX12_hearsAll yX12_hearsAll ∈ wU := wU_in (tbs (j := 47) (by decide +kernel)) (by decide +kernel)
theorem wd_s_48 : Cond.selects RX12 yX12_areSo yX12_areSo ∈ wU := wU_in (tbs (j := 48) (by decide +kernel)) (by decide +kernel)
theorem wd_s_49 : Cond.selects RX12 yX12_saysIn yX12_saysIn ∈ wU := wU_in (tbs (j := 49) (by decide +kernel)) (by decide +kernel)
theorem wd_s_50 : Cond.selects RX12 yX12_ran yX12_ran ∈ wU := wU_in (tbs (j := 50) (by decide +kernel)) (by decide +kernel)
theorem wd_s_51 : Cond.selects RX12 yX12_risesIn yX12_risesIn ∈ wU := wU_in (tbs (j := 51) (by decide +kernel)) (by decide +kernel)
theorem wd_s_52 : Cond.selects RX12 yX12_doubtsIn yX12_doubtsIn ∈ wU := wU_in (tbs (j := 52) (by decide +kernel)) (by decide +kernel)
theorem wd_s_53 : Cond.selects RX12 yX12_tellsIn yX12_tellsIn ∈ wU := wU_in (tbs (j := 53) (by decide +kernel)) (by decide +kernel)
theorem wd_s_54 : Cond.selects RX12 yX12_heardMany yX12_heardMany ∈ wU := wU_in (tbs (j := 54) (by decide +kernel)) (by decide +kernel)
abbrev vwCl : List vw_C := [(RX0, TX0, 3), (RX1, TX1, 3), (RX2, TX2, 10), (RX3, TX3, 3), (RX4, TX4, 16), (RX5, TX5, 3), (RX6, TX6, 3), (RX7, TX7, 3), (RX8, TX8, 3), (RX9, TX9, 2), (RX10, TX10, 3), (RX11, TX11, 6), (RX12, TX12, 29)]
end
section
/-! ===== the box: one judgement over the kit's, with the world, the locals and the stack in the goal ===== -/
/-- what a launch gives: the classes' numbers, the numbers of int[], byte[], Rider[], Sheet[], the addresses of the four String constants and of their bytes -/
abbrev En : Type := va_G × ClassId × ClassId × ClassId × ClassId × (Nat → Nat) × (Nat → Nat)
abbrev En.D (E : En) : va_G := E.1
abbrev En.cI (E : En) : ClassId := E.2.1
abbrev En.cB (E : En) : ClassId := E.2.2.1
abbrev En.cR (E : En) : ClassId := E.2.2.2.1
abbrev En.cS (E : En) : ClassId := E.2.2.2.2.1
abbrev En.aK (E : En) : Nat → Nat := E.2.2.2.2.2.1
abbrev En.aV (E : En) : Nat → Nat := E.2.2.2.2.2.2
abbrev En.tys (E : En) : List (ClassId × FieldType) := [(E.cI, .int), (E.cB, .byte), (E.cR, .object RX6), (E.cS, .object RX7)]
def strLen : List Nat := [3, 9, 3, 7]
def strByt : List (List Int32) := [[104, 99, 110], [104, 42, 50, 43, 110, 45, 99, 42, 52], [115, 107, 100], [115, 47, 107, 45, 100, 42, 50]]
def nestQ : List (String × Nat × MethodName × String) := [(RX4, 79, yX11_riderOf, RX11), (RX4, 104, yX11_placeOf, RX11), (RX2, 70, yX11_held, RX11), (RX11, 31, yX9_init, RX11), (RX11, 40, yX7_init, RX11), (RX4, 111, yX11_asHeard, RX11), (RX4, 115, yX11_otherWay, RX11), (RX4, 118, yX11_unheard, RX11), (RX4, 131, yX11_held, RX11), (RX4, 150, yX11_factsOf, RX11), (RX4, 153, yX11_bothWays, RX11), (RX4, 156, yX11_turned, RX11), (RX7, 28, yX11_held, RX11)]
def castQ : List (String × String) := [(RX1, RX0), (RX5, RX3), (RX8, RX10), (RX0, RX6), (RX3, RX6), (RX10, RX6), (RX1, RX6), (RX5, RX6), (RX8, RX6)]
def declQ : List MethodName := [yX6_credit, yX6_doubts, yX6_tells, yX0_says, yX6_rises]
def ncQ : List (String × String) := [(RX6, RX0), (RX6, RX3), (RX6, RX10), (RX6, RX1), (RX6, RX5), (RX6, RX8), (RX0, RX3), (RX0, RX10), (RX0, RX1), (RX0, RX5), (RX0, RX8), (RX3, RX0), (RX3, RX10), (RX3, RX1), (RX3, RX5), (RX3, RX8), (RX10, RX0), (RX10, RX3), (RX10, RX1), (RX10, RX5), (RX10, RX8), (RX1, RX3), (RX1, RX10), (RX1, RX5), (RX1, RX8), (RX5, RX0), (RX5, RX10), (RX5, RX1), (RX5, RX8), (RX8, RX0), (RX8, RX3), (RX8, RX1), (RX8, RX5)]
/-- what the tables say beside the words -/
def EnOk (E : En) (U : State) : Prop := va_K E.D vwCl E.tys U ∧ (∀ q ∈ nestQ, va_Nw (.methodLinkNest q.1 q.2.1 q.2.2.1 q.2.2.2) U) ∧ (∀ q ∈ castQ, va_Nw (.castable q.1 q.2) U) ∧ (∀ q ∈ ncQ, va_Nc q.1 q.2 U) ∧ va_AO RX6 U ∧ va_AO RX7 U ∧ (vk_R RX4 58 "hcn" (E.aK 0) U ∧ vk_R RX4 60 "h*2+n-c*4" (E.aK 1) U ∧ vk_R RX4 69 "skd" (E.aK 2) U ∧ vk_R RX4 71 "s/k-d*2" (E.aK 3) U) ∧ (∀ q ∈ declQ, va_Nw (.declares q) U)
theorem EnOk.warm {E : En} {s U : State} (hW : s.WarmedH U.vm) (h : EnOk E s) : EnOk E U :=
  ⟨va_K.moved hW.alike h.1, fun q hq => va_Nw.warmM hW (h.2.1 q hq), fun q hq => va_Nw.warmC hW (h.2.2.1 q hq), fun q hq => va_Nc.moved hW.alike (h.2.2.2.1 q hq), va_AO.moved hW.alike h.2.2.2.2.1, va_AO.moved hW.alike h.2.2.2.2.2.1, ⟨vk_R.warm hW h.2.2.2.2.2.2.1.1, vk_R.warm hW h.2.2.2.2.2.2.1.2.1, vk_R.warm hW h.2.2.2.2.2.2.1.2.2.1, vk_R.warm hW h.2.2.2.2.2.2.1.2.2.2⟩, fun q hq => va_Nw.warmD hW (h.2.2.2.2.2.2.2 q hq)⟩
theorem EnOk.call {E : En} {U : State} {g : JFrame} {mk : MethodId} {a : Array Value} (h : EnOk E U) : EnOk E (U.calling g mk a) :=
  ⟨va_K.moved (u := U) (U := U.calling g mk a) (Vm.Alike.refl U.vm) h.1, fun q hq => va_Nw.same (u := U) (U := U.calling g mk a) rfl rfl (h.2.1 q hq), fun q hq => va_Nw.same (u := U) (U := U.calling g mk a) rfl rfl (h.2.2.1 q hq), fun q hq => va_Nc.moved (u := U) (U := U.calling g mk a) (Vm.Alike.refl U.vm) (h.2.2.2.1 q hq), va_AO.moved (u := U) (U := U.calling g mk a) (Vm.Alike.refl U.vm) h.2.2.2.2.1, va_AO.moved (u := U) (U := U.calling g mk a) (Vm.Alike.refl U.vm) h.2.2.2.2.2.1, ⟨vk_R.same (u := U) (U := U.calling g mk a) rfl h.2.2.2.2.2.2.1.1, vk_R.same (u := U) (U := U.calling g mk a) rfl h.2.2.2.2.2.2.1.2.1, vk_R.same (u := U) (U := U.calling g mk a) rfl h.2.2.2.2.2.2.1.2.2.1, vk_R.same (u := U) (U := U.calling g mk a) rfl h.2.2.2.2.2.2.1.2.2.2⟩, fun q hq => va_Nw.same (u := U) (U := U.calling g mk a) rfl rfl (h.2.2.2.2.2.2.2 q hq)⟩
/-- what is only read: cells outside A, the String constants, two statics -/
def RoOK (E : En) (ro : va_W) (A : Nat → Prop) (U : State) (H : Heap) : Prop := va_P E.D vwCl ro H ∧ (∀ (k : Nat) (q : Nat × va_E), ro[k]? = some q → ¬ A q.1) ∧ vk_S 4 strLen strByt E.aK E.aV A U H ∧ va_Z "java/lang/String" "COMPACT_STRINGS" "Z" (.int 1) A U H ∧ va_Zq "jdk/internal/util/Preconditions" "SIOOBE_FORMATTER" "Ljava/util/function/BiFunction;" A U H
theorem RoOK.kept {E : En} {ro : va_W} {A : Nat → Prop} {U : State} {H H1 : Heap} (h : RoOK E ro A U H) (hq : ∀ a : Nat, a < H.size → ¬ A a → H1[a]? = H[a]?) : RoOK E ro A U H1 :=
  ⟨h.1.kept (fun k q hk => hq q.1 (h.1 k q hk).lt (h.2.1 k q hk)), h.2.1, h.2.2.1.kept hq, h.2.2.2.1.kept hq, h.2.2.2.2.kept hq⟩
theorem RoOK.narrow {E : En} {ro : va_W} {A B : Nat → Prop} {U : State} {H : Heap} (h : RoOK E ro A U H) (hAB : ∀ q, B q → A q) : RoOK E ro B U H :=
  ⟨h.1, fun k q hk hb => h.2.1 k q hk (hAB _ hb), h.2.2.1.narrow hAB, h.2.2.2.1.narrow hAB, h.2.2.2.2.narrow hAB⟩
theorem RoOK.moved {E : En} {ro : va_W} {A : Nat → Prop} {u U : State} {H : Heap} (hvm : u.vm.Alike U.vm) (h : RoOK E ro A u H) : RoOK E ro A U H :=
  ⟨h.1, h.2.1, h.2.2.1.moved hvm, h.2.2.2.1.moved hvm, h.2.2.2.2.moved hvm⟩
theorem RoOK.sub {E : En} {ro ro' : va_W} {A : Nat → Prop} {U : State} {H : Heap} (h : RoOK E ro A U H) (hs : ∀ q ∈ ro', q ∈ ro) : RoOK E ro' A U H := by
  refine ⟨fun k q hk => ?_, fun k q hk => ?_, h.2.2⟩
  · obtain ⟨i, hi⟩ := List.getElem?_of_mem (hs q (List.mem_of_getElem? hk))
    exact h.1 i q hi
  · obtain ⟨i, hi⟩ := List.getElem?_of_mem (hs q (List.mem_of_getElem? hk))
    exact h.2.1 i q hi
/-- the surroundings of a walk: program, launch, environment, room, the start's state, method's number, arguments, frames below, method, code, the cells that may change, the end, En, what is only read -/
abbrev Cx : Type := Program × Launch × Env × Jvm.Room × State × MethodId × Array Value × List Frame × Method × Code × (Nat → Prop) × (State → Prop) × En × va_W
abbrev Cx.p (X : Cx) : Program := X.1
abbrev Cx.l (X : Cx) : Launch := X.2.1
abbrev Cx.e (X : Cx) : Env := X.2.2.1
abbrev Cx.R (X : Cx) : Jvm.Room := X.2.2.2.1
abbrev Cx.s (X : Cx) : State := X.2.2.2.2.1
abbrev Cx.m (X : Cx) : MethodId := X.2.2.2.2.2.1
abbrev Cx.args (X : Cx) : Array Value := X.2.2.2.2.2.2.1
abbrev Cx.below (X : Cx) : List Frame := X.2.2.2.2.2.2.2.1
abbrev Cx.meth (X : Cx) : Method := X.2.2.2.2.2.2.2.2.1
abbrev Cx.c (X : Cx) : Code := X.2.2.2.2.2.2.2.2.2.1
abbrev Cx.A (X : Cx) : Nat → Prop := X.2.2.2.2.2.2.2.2.2.2.1
abbrev Cx.Q (X : Cx) : State → Prop := X.2.2.2.2.2.2.2.2.2.2.2.1
abbrev Cx.E (X : Cx) : En := X.2.2.2.2.2.2.2.2.2.2.2.2.1
abbrev Cx.ro (X : Cx) : va_W := X.2.2.2.2.2.2.2.2.2.2.2.2.2
def G (X : Cx) (nL ce sl pc : Nat) (lv : List (Nat × Value)) (st : List Value) (ws : va_W) : Prop :=
  ∀ (H : Heap) (locs : List Loc) (ls : Array Slot), va_P X.E.D vwCl ws H → va_D X.A ws → va_S X.A X.s.heap H locs → lv_has ls nL lv → W X.p X.l X.e X.R X.s X.m X.args X.below X.meth X.c H locs ce sl X.Q (F0 X.m pc ls st)
def Ok (X : Cx) (cc : ByteArray) (nL : Nat) (own : String) : Prop :=
  X.p.tables.exec = Jvm.exec ∧ X.c.code = cc ∧ X.c.maxLocals = nL ∧ X.s.vm.findClass own = some X.m.cls ∧ (∀ w ∈ wU, w.before X.args X.s = true) ∧ EnOk X.E X.s ∧ (∀ q, X.s.heap.size ≤ q → X.A q) ∧ RoOK X.E X.ro X.A X.s X.s.heap
/-- the room of a method whose calls stand at most d deep -/
def rmD (d mc ms : Nat) : Jvm.Room := { frames := d, cells := mc, slots := ms, locals := 64 * d }
def QcOf (E : En) (A : Nat → Prop) (Post : Option Value → va_W → Prop) : Array Value → State → Outcome → State → Prop := fun _ st oc t => (∃ rv ws', Post rv ws' ∧ oc = .returned rv ∧ va_P E.D vwCl ws' t.heap ∧ va_D A ws') ∧ va_F A st t
/-- the end of a method: its room, its answer's type, what it owes -/
def Rq (X : Cx) (d mc ms : Nat) (ret : Option FieldType) (Post : Option Value → va_W → Prop) : Prop :=
  X.R = rmD d mc ms ∧ X.meth.sig.returnType = ret ∧ X.meth.locks = false ∧ X.Q = MQ X.below (QcOf X.E X.A Post) X.args X.s mc ms X.A
/-- a method's contract: called with av where the cells ws are (and ro are only read), it returns; its answer and what the cells are then are as Post says -/
def CP (l : Launch) (E : En) (y : MethodName) (cc : ByteArray) (nL : Nat) (ret : Option FieldType) (d mc ms : Nat) (ro : va_W) (av : List Value) (ws : va_W) (Post : Option Value → va_W → Prop) : Prop :=
  ∀ sz : Nat, Met l y (.code y cc nL ret :: wU) (rmD d mc ms) (va_Pc av (fun U => U.heap.size = sz ∧ va_P E.D vwCl ws U.heap ∧ va_D (fun _ => True) ws ∧ EnOk E U ∧ RoOK E ro (va_A ws sz) U U.heap)) (QcOf E (va_A ws sz) Post) mc ms (va_A ws sz)
theorem CP.of {l : Launch} {E : En} {y : MethodName} {cc : ByteArray} {nL : Nat} {ret : Option FieldType} {d mc ms : Nat} {ro : va_W} {av : List Value} {ws : va_W} {Post : Option Value → va_W → Prop} {lv : List (Nat × Value)}
    (hy : plainName y.cls = true) (hn : (lg_sl av).length ≤ nL) (hlv : lv_args 0 av = lv)
    (body : ∀ X : Cx, X.l = l → X.E = E → X.ro = ro → Ok X cc nL y.cls → Rq X d mc ms ret Post → X.meth.name = y.name → G X nL 0 0 0 lv [] ws) : CP l E y cc nL ret d mc ms ro av ws Post := by
  intro sz
  refine Met.ofW (cc := cc) (maxL := nL) (ret := ret) hy rfl ?_
  intro p e s m args below meth c s₁ B hml hv
  obtain ⟨rfl, hsz, hP, hD0, hE, hRo⟩ := hv
  have hts := atoms_spec (ws := .code y cc nL ret :: wU) B.pre
  subst hsz
  have hD : va_D (va_A ws s.heap.size) ws := hD0.self (sz := s.heap.size)
  have hl := lv_entry av (n := nL) hn
  rw [lg_entry_eq]
  rw [hlv] at hl
  exact body (p, l, e, rmD d mc ms, s, m, av.toArray, below, meth, c, va_A ws s.heap.size, MQ below (QcOf E (va_A ws s.heap.size) Post) av.toArray s mc ms (va_A ws s.heap.size), E, ro) rfl rfl rfl
    ⟨B.exec, B.bytes, hml, findClass_of_methodNamed B.named, fun w hw => hts w (List.mem_cons_of_mem _ hw), hE, fun q h => Or.inr h, hRo⟩
    ⟨rfl, B.returns, B.notSynchronized, rfl⟩ (name_of_methodNamed B.named B.method).1 s.heap [] _ hP hD va_S.rf hl
section BOX
variable {X : Cx} {cc : ByteArray} {nL ce sl pc : Nat} {own : String} {lv lv' : List (Nat × Value)} {st : List Value} {ws : va_W}
theorem Ok.hx (h : Ok X cc nL own) : X.p.tables.exec = Jvm.exec := h.1
theorem Ok.hb (h : Ok X cc nL own) : X.c.code = cc := h.2.1
theorem Ok.hml (h : Ok X cc nL own) : X.c.maxLocals = nL := h.2.2.1
theorem Ok.hown (h : Ok X cc nL own) : X.s.vm.findClass own = some X.m.cls := h.2.2.2.1
theorem Ok.hts (h : Ok X cc nL own) : ∀ w ∈ wU, w.before X.args X.s = true := h.2.2.2.2.1
theorem Ok.hE (h : Ok X cc nL own) : EnOk X.E X.s := h.2.2.2.2.2.1
theorem Ok.hK (h : Ok X cc nL own) : va_K X.E.D vwCl X.E.tys X.s := h.2.2.2.2.2.1.1
theorem Ok.hA (h : Ok X cc nL own) : ∀ q, X.s.heap.size ≤ q → X.A q := h.2.2.2.2.2.2.1
theorem Ok.hRo (h : Ok X cc nL own) : RoOK X.E X.ro X.A X.s X.s.heap := h.2.2.2.2.2.2.2
theorem Ok.roP (h : Ok X cc nL own) {H : Heap} {locs : List Loc} (hS : va_S X.A X.s.heap H locs) : va_P X.E.D vwCl X.ro H := (h.hRo.kept hS.2.1).1
theorem g_eqW {ws2 : va_W} (h : ws2 = ws) (k : G X nL ce sl pc lv st ws2) : G X nL ce sl pc lv st ws := h ▸ k
theorem g_lv {lv2 : List (Nat × Value)} (ks : List Nat) (hl : lv_pick lv ks = lv2) (k : G X nL ce sl pc lv2 st ws) : G X nL ce sl pc lv st ws := fun H locs ls hP hD hS h => k H locs ls hP hD hS (lv_sub h ks hl)
theorem g_ws {ws2 : va_W} (is : List Nat) (hn : va_nd is = true) (hs : is.map (fun i => ws[i]?) = ws2.map some) (hf : is.filterMap (fun i => ws[i]?) = ws2) (k : G X nL ce sl pc lv st ws2) : G X nL ce sl pc lv st ws := fun H locs ls hP hD hS h => k H locs ls (hP.sub is hf) (hD.sub is hn hs) hS h
theorem g_widen {ce2 sl2 : Nat} (h1 : ce ≤ ce2) (h2 : sl ≤ sl2) (k : G X nL ce2 sl2 pc lv st ws) : G X nL ce sl pc lv st ws := fun H locs ls hP hD hS h => W.widen h1 h2 (k H locs ls hP hD hS h)
theorem g_nm {x y : Int32} (e : y = x) (k : G X nL ce sl pc lv (.int y :: st) ws) : G X nL ce sl pc lv (.int x :: st) ws := e ▸ k
theorem g_iconst (hX : Ok X cc nL own) {n : Int} {v : Int32} (hv : Int32.ofInt n = v) (hdg : decode cc pc = .ok (.iconst n, 1)) (k : G X nL ce sl (pc + 1) lv (.int v :: st) ws) : G X nL ce sl pc lv st ws :=
  fun H locs ls hP hD hS h => lv_iconst hX.hx hX.hb hdg hv (k H locs ls hP hD hS h)
theorem g_bipush (hX : Ok X cc nL own) {n : Int} {v : Int32} (hv : (Int8.ofInt n).toInt32 = v) (hdg : decode cc pc = .ok (.bipush n, 2)) (k : G X nL ce sl (pc + 2) lv (.int v :: st) ws) : G X nL ce sl pc lv st ws :=
  fun H locs ls hP hD hS h => lv_bipush hX.hx hX.hb hdg hv (k H locs ls hP hD hS h)
theorem g_sipush (hX : Ok X cc nL own) {n : Int} {v : Int32} (hv : (Int16.ofInt n).toInt32 = v) (hdg : decode cc pc = .ok (.sipush n, 3)) (k : G X nL ce sl (pc + 3) lv (.int v :: st) ws) : G X nL ce sl pc lv st ws :=
  fun H locs ls hP hD hS h => lv_sipush hX.hx hX.hb hdg hv (k H locs ls hP hD hS h)
theorem g_ldc (hX : Ok X cc nL own) {index : Nat} {v : Int32} (hw : Cond.constant own index v ∈ wU) (hdg : decode cc pc = .ok (.ldc index, 2)) (k : G X nL ce sl (pc + 2) lv (.int v :: st) ws) : G X nL ce sl pc lv st ws :=
  fun H locs ls hP hD hS h => lv_ldc hX.hx hX.hb hX.hown (hX.hts _ hw) hdg (k H locs ls hP hD hS h)
theorem g_ldcw (hX : Ok X cc nL own) {index : Nat} {v : Int32} (hw : Cond.constant own index v ∈ wU) (hdg : decode cc pc = .ok (.ldc_w index, 3)) (k : G X nL ce sl (pc + 3) lv (.int v :: st) ws) : G X nL ce sl pc lv st ws :=
  fun H locs ls hP hD hS h => lv_ldcw hX.hx hX.hb hX.hown (hX.hts _ hw) hdg (k H locs ls hP hD hS h)
theorem g_ldc2 (hX : Ok X cc nL own) {index : Nat} {v : Int64} (hw : Cond.constantLong own index v ∈ wU) (hdg : decode cc pc = .ok (.ldc2_w index, 3)) (k : G X nL ce sl (pc + 3) lv (.long v :: st) ws) : G X nL ce sl pc lv st ws :=
  fun H locs ls hP hD hS h => lv_ldc2 hX.hx hX.hb hX.hown (hX.hts _ hw) hdg (k H locs ls hP hD hS h)
theorem g_iloadn (hX : Ok X cc nL own) (j : Nat) {n : Fin 4} {i : Nat} {x : Int32} (hi : (n : Nat) = i) (hl : lv[j]? = some (i, .int x)) (hdg : decode cc pc = .ok (.iload_n n, 1)) (k : G X nL ce sl (pc + 1) lv (.int x :: st) ws) : G X nL ce sl pc lv st ws :=
  fun H locs ls hP hD hS h => lv_iload_n hX.hx hX.hb hdg hi (lv_at h j hl) (k H locs ls hP hD hS h)
theorem g_iload (hX : Ok X cc nL own) (j : Nat) {i : Nat} {x : Int32} (hl : lv[j]? = some (i, .int x)) (hdg : decode cc pc = .ok (.iload i, 2)) (k : G X nL ce sl (pc + 2) lv (.int x :: st) ws) : G X nL ce sl pc lv st ws :=
  fun H locs ls hP hD hS h => lv_iload hX.hx hX.hb hdg (lv_at h j hl) (k H locs ls hP hD hS h)
theorem g_lloadn (hX : Ok X cc nL own) (j : Nat) {n : Fin 4} {i : Nat} {x : Int64} (hi : (n : Nat) = i) (hl : lv[j]? = some (i, .long x)) (hdg : decode cc pc = .ok (.lload_n n, 1)) (k : G X nL ce sl (pc + 1) lv (.long x :: st) ws) : G X nL ce sl pc lv st ws :=
  fun H locs ls hP hD hS h => lv_lload_n hX.hx hX.hb hdg hi (lv_at h j hl) (k H locs ls hP hD hS h)
theorem g_aloadn (hX : Ok X cc nL own) (j : Nat) {n : Fin 4} {i : Nat} {x : Nat} (hi : (n : Nat) = i) (hl : lv[j]? = some (i, .ref x)) (hdg : decode cc pc = .ok (.aload_n n, 1)) (k : G X nL ce sl (pc + 1) lv (.ref x :: st) ws) : G X nL ce sl pc lv st ws :=
  fun H locs ls hP hD hS h => lv_aload_n hX.hx hX.hb hdg hi (lv_at h j hl) (k H locs ls hP hD hS h)
theorem g_aload (hX : Ok X cc nL own) (j : Nat) {i : Nat} {x : Nat} (hl : lv[j]? = some (i, .ref x)) (hdg : decode cc pc = .ok (.aload i, 2)) (k : G X nL ce sl (pc + 2) lv (.ref x :: st) ws) : G X nL ce sl pc lv st ws :=
  fun H locs ls hP hD hS h => lv_aload hX.hx hX.hb hdg (lv_at h j hl) (k H locs ls hP hD hS h)
theorem g_istoren (hX : Ok X cc nL own) {n : Fin 4} {i : Nat} {x : Int32} (lv' : List (Nat × Value)) (hi : (n : Nat) = i) (hn : i < nL) (hl : (i, Value.int x) :: lv.filter (fun q => !(q.1 == i) && !(q.1 + 1 == i && q.2.category == 2)) = lv') (hdg : decode cc pc = .ok (.istore_n n, 1)) (k : G X nL ce sl (pc + 1) lv' st ws) : G X nL ce sl pc lv (.int x :: st) ws :=
  fun H locs ls hP hD hS h => lv_istore_n hX.hx hX.hb hdg hi h hn hl (fun ls h => k H locs ls hP hD hS h)
theorem g_istore (hX : Ok X cc nL own) {i : Nat} {x : Int32} (lv' : List (Nat × Value)) (hn : i < nL) (hl : (i, Value.int x) :: lv.filter (fun q => !(q.1 == i) && !(q.1 + 1 == i && q.2.category == 2)) = lv') (hdg : decode cc pc = .ok (.istore i, 2)) (k : G X nL ce sl (pc + 2) lv' st ws) : G X nL ce sl pc lv (.int x :: st) ws :=
  fun H locs ls hP hD hS h => lv_istore hX.hx hX.hb hdg h hn hl (fun ls h => k H locs ls hP hD hS h)
theorem g_astoren (hX : Ok X cc nL own) {n : Fin 4} {i : Nat} {x : Nat} (lv' : List (Nat × Value)) (hi : (n : Nat) = i) (hn : i < nL) (hl : (i, Value.ref x) :: lv.filter (fun q => !(q.1 == i) && !(q.1 + 1 == i && q.2.category == 2)) = lv') (hdg : decode cc pc = .ok (.astore_n n, 1)) (k : G X nL ce sl (pc + 1) lv' st ws) : G X nL ce sl pc lv (.ref x :: st) ws :=
  fun H locs ls hP hD hS h => lv_astore_n hX.hx hX.hb hdg hi h hn hl (fun ls h => k H locs ls hP hD hS h)
theorem g_astore (hX : Ok X cc nL own) {i : Nat} {x : Nat} (lv' : List (Nat × Value)) (hn : i < nL) (hl : (i, Value.ref x) :: lv.filter (fun q => !(q.1 == i) && !(q.1 + 1 == i && q.2.category == 2)) = lv') (hdg : decode cc pc = .ok (.astore i, 2)) (k : G X nL ce sl (pc + 2) lv' st ws) : G X nL ce sl pc lv (.ref x :: st) ws :=
  fun H locs ls hP hD hS h => lv_astore hX.hx hX.hb hdg h hn hl (fun ls h => k H locs ls hP hD hS h)
theorem g_iinc (hX : Ok X cc nL own) (j : Nat) {i : Nat} {n : Int} {x v : Int32} (lv' : List (Nat × Value)) (hk : lv[j]? = some (i, .int x)) (hv : x + Int32.ofInt n = v) (hn : i < nL) (hl : (i, Value.int v) :: lv.filter (fun q => !(q.1 == i) && !(q.1 + 1 == i && q.2.category == 2)) = lv') (hdg : decode cc pc = .ok (.iinc i n, 3)) (k : G X nL ce sl (pc + 3) lv' st ws) : G X nL ce sl pc lv st ws :=
  fun H locs ls hP hD hS h => lv_iinc hX.hx hX.hb hdg h hk hv hn hl (fun ls h => k H locs ls hP hD hS h)
theorem g_iadd (hX : Ok X cc nL own) {x y : Int32} (hdg : decode cc pc = .ok (.iadd, 1)) (k : G X nL ce sl (pc + 1) lv (.int (x + y) :: st) ws) : G X nL ce sl pc lv (.int y :: .int x :: st) ws :=
  fun H locs ls hP hD hS h => lv_iadd hX.hx hX.hb hdg (k H locs ls hP hD hS h)
theorem g_isub (hX : Ok X cc nL own) {x y : Int32} (hdg : decode cc pc = .ok (.isub, 1)) (k : G X nL ce sl (pc + 1) lv (.int (x - y) :: st) ws) : G X nL ce sl pc lv (.int y :: .int x :: st) ws :=
  fun H locs ls hP hD hS h => lv_isub hX.hx hX.hb hdg (k H locs ls hP hD hS h)
theorem g_imul (hX : Ok X cc nL own) {x y : Int32} (hdg : decode cc pc = .ok (.imul, 1)) (k : G X nL ce sl (pc + 1) lv (.int (x * y) :: st) ws) : G X nL ce sl pc lv (.int y :: .int x :: st) ws :=
  fun H locs ls hP hD hS h => lv_imul hX.hx hX.hb hdg (k H locs ls hP hD hS h)
theorem g_iand (hX : Ok X cc nL own) {x y : Int32} (hdg : decode cc pc = .ok (.iand, 1)) (k : G X nL ce sl (pc + 1) lv (.int (x &&& y) :: st) ws) : G X nL ce sl pc lv (.int y :: .int x :: st) ws :=
  fun H locs ls hP hD hS h => lv_iand hX.hx hX.hb hdg (k H locs ls hP hD hS h)
theorem g_ior (hX : Ok X cc nL own) {x y : Int32} (hdg : decode cc pc = .ok (.ior, 1)) (k : G X nL ce sl (pc + 1) lv (.int (x ||| y) :: st) ws) : G X nL ce sl pc lv (.int y :: .int x :: st) ws :=
  fun H locs ls hP hD hS h => lv_ior hX.hx hX.hb hdg (k H locs ls hP hD hS h)
theorem g_ixor (hX : Ok X cc nL own) {x y : Int32} (hdg : decode cc pc = .ok (.ixor, 1)) (k : G X nL ce sl (pc + 1) lv (.int (x ^^^ y) :: st) ws) : G X nL ce sl pc lv (.int y :: .int x :: st) ws :=
  fun H locs ls hP hD hS h => lv_ixor hX.hx hX.hb hdg (k H locs ls hP hD hS h)
theorem g_ishl (hX : Ok X cc nL own) {x y : Int32} (hdg : decode cc pc = .ok (.ishl, 1)) (k : G X nL ce sl (pc + 1) lv (.int (x <<< (y &&& 31)) :: st) ws) : G X nL ce sl pc lv (.int y :: .int x :: st) ws :=
  fun H locs ls hP hD hS h => lv_ishl hX.hx hX.hb hdg (k H locs ls hP hD hS h)
theorem g_ishr (hX : Ok X cc nL own) {x y : Int32} (hdg : decode cc pc = .ok (.ishr, 1)) (k : G X nL ce sl (pc + 1) lv (.int (x >>> (y &&& 31)) :: st) ws) : G X nL ce sl pc lv (.int y :: .int x :: st) ws :=
  fun H locs ls hP hD hS h => lv_ishr hX.hx hX.hb hdg (k H locs ls hP hD hS h)
theorem g_idiv (hX : Ok X cc nL own) {x y : Int32} (hne : ¬ y = 0) (hdg : decode cc pc = .ok (.idiv, 1)) (k : G X nL ce sl (pc + 1) lv (.int (x / y) :: st) ws) : G X nL ce sl pc lv (.int y :: .int x :: st) ws :=
  fun H locs ls hP hD hS h => lv_idiv hX.hx hX.hb hdg hne (k H locs ls hP hD hS h)
theorem g_irem (hX : Ok X cc nL own) {x y : Int32} (hne : ¬ y = 0) (hdg : decode cc pc = .ok (.irem, 1)) (k : G X nL ce sl (pc + 1) lv (.int (x - x / y * y) :: st) ws) : G X nL ce sl pc lv (.int y :: .int x :: st) ws :=
  fun H locs ls hP hD hS h => lv_irem hX.hx hX.hb hdg hne (k H locs ls hP hD hS h)
theorem g_iushr (hX : Ok X cc nL own) {x y : Int32} (hdg : decode cc pc = .ok (.iushr, 1)) (k : G X nL ce sl (pc + 1) lv (.int ((x.toUInt32 >>> (y.toUInt32 &&& Int32.toUInt32 31)).toInt32) :: st) ws) : G X nL ce sl pc lv (.int y :: .int x :: st) ws :=
  fun H locs ls hP hD hS h => lv_iushr hX.hx hX.hb hdg rfl (k H locs ls hP hD hS h)
theorem g_ineg (hX : Ok X cc nL own) {x : Int32} (hdg : decode cc pc = .ok (.ineg, 1)) (k : G X nL ce sl (pc + 1) lv (.int (-x) :: st) ws) : G X nL ce sl pc lv (.int x :: st) ws :=
  fun H locs ls hP hD hS h => lv_ineg hX.hx hX.hb hdg (k H locs ls hP hD hS h)
theorem g_i2b (hX : Ok X cc nL own) {x : Int32} (hdg : decode cc pc = .ok (.i2b, 1)) (k : G X nL ce sl (pc + 1) lv (.int (x.toInt8.toInt32) :: st) ws) : G X nL ce sl pc lv (.int x :: st) ws :=
  fun H locs ls hP hD hS h => lv_i2b hX.hx hX.hb hdg rfl (k H locs ls hP hD hS h)
theorem g_i2s (hX : Ok X cc nL own) {x : Int32} (hdg : decode cc pc = .ok (.i2s, 1)) (k : G X nL ce sl (pc + 1) lv (.int (x.toInt16.toInt32) :: st) ws) : G X nL ce sl pc lv (.int x :: st) ws :=
  fun H locs ls hP hD hS h => lv_i2s hX.hx hX.hb hdg rfl (k H locs ls hP hD hS h)
theorem g_i2c (hX : Ok X cc nL own) {x : Int32} (hdg : decode cc pc = .ok (.i2c, 1)) (k : G X nL ce sl (pc + 1) lv (.int ((x.toUInt32 % 65536).toInt32) :: st) ws) : G X nL ce sl pc lv (.int x :: st) ws :=
  fun H locs ls hP hD hS h => lv_i2c hX.hx hX.hb hdg rfl (k H locs ls hP hD hS h)
theorem g_i2l (hX : Ok X cc nL own) {x : Int32} (hdg : decode cc pc = .ok (.i2l, 1)) (k : G X nL ce sl (pc + 1) lv (.long x.toInt64 :: st) ws) : G X nL ce sl pc lv (.int x :: st) ws :=
  fun H locs ls hP hD hS h => lv_i2l hX.hx hX.hb hdg rfl (k H locs ls hP hD hS h)
theorem g_l2i (hX : Ok X cc nL own) {x : Int64} (hdg : decode cc pc = .ok (.l2i, 1)) (k : G X nL ce sl (pc + 1) lv (.int x.toInt32 :: st) ws) : G X nL ce sl pc lv (.long x :: st) ws :=
  fun H locs ls hP hD hS h => lv_l2i hX.hx hX.hb hdg rfl (k H locs ls hP hD hS h)
theorem g_land (hX : Ok X cc nL own) {x y : Int64} (hdg : decode cc pc = .ok (.land, 1)) (k : G X nL ce sl (pc + 1) lv (.long (x &&& y) :: st) ws) : G X nL ce sl pc lv (.long y :: .long x :: st) ws :=
  fun H locs ls hP hD hS h => lv_land hX.hx hX.hb hdg (k H locs ls hP hD hS h)
theorem g_lor (hX : Ok X cc nL own) {x y : Int64} (hdg : decode cc pc = .ok (.lor, 1)) (k : G X nL ce sl (pc + 1) lv (.long (x ||| y) :: st) ws) : G X nL ce sl pc lv (.long y :: .long x :: st) ws :=
  fun H locs ls hP hD hS h => lv_lor hX.hx hX.hb hdg (k H locs ls hP hD hS h)
theorem g_lshl (hX : Ok X cc nL own) {x : Int64} {y : Int32} (hdg : decode cc pc = .ok (.lshl, 1)) (k : G X nL ce sl (pc + 1) lv (.long (x <<< (y.toInt64 &&& 63)) :: st) ws) : G X nL ce sl pc lv (.int y :: .long x :: st) ws :=
  fun H locs ls hP hD hS h => lv_lshl hX.hx hX.hb hdg rfl (k H locs ls hP hD hS h)
theorem g_lshr (hX : Ok X cc nL own) {x : Int64} {y : Int32} (hdg : decode cc pc = .ok (.lshr, 1)) (k : G X nL ce sl (pc + 1) lv (.long (x >>> (y.toInt64 &&& 63)) :: st) ws) : G X nL ce sl pc lv (.int y :: .long x :: st) ws :=
  fun H locs ls hP hD hS h => lv_lshr hX.hx hX.hb hdg rfl (k H locs ls hP hD hS h)
theorem g_dup (hX : Ok X cc nL own) {v : Value} (hc : v.category = 1) (hdg : decode cc pc = .ok (.dup, 1)) (k : G X nL ce sl (pc + 1) lv (v :: v :: st) ws) : G X nL ce sl pc lv (v :: st) ws :=
  fun H locs ls hP hD hS h => lv_dup hX.hx hX.hb hdg hc (k H locs ls hP hD hS h)
theorem g_dup2 (hX : Ok X cc nL own) {v w : Value} (hc : v.category = 1) (hc2 : w.category = 1) (hdg : decode cc pc = .ok (.dup2, 1)) (k : G X nL ce sl (pc + 1) lv (v :: w :: v :: w :: st) ws) : G X nL ce sl pc lv (v :: w :: st) ws :=
  fun H locs ls hP hD hS h => lv_dup2_11 hX.hx hX.hb hdg hc hc2 (k H locs ls hP hD hS h)
theorem g_pop (hX : Ok X cc nL own) {v : Value} (hc : v.category = 1) (hdg : decode cc pc = .ok (.pop, 1)) (k : G X nL ce sl (pc + 1) lv st ws) : G X nL ce sl pc lv (v :: st) ws :=
  fun H locs ls hP hD hS h => lv_pop hX.hx hX.hb hdg hc (k H locs ls hP hD hS h)
theorem g_goto (hX : Ok X cc nL own) (tgt : Nat) {off : Int} (ht : (pc : Int) + off = (tgt : Int)) (hdg : decode cc pc = .ok (.goto off, 3)) (k : G X nL ce sl tgt lv st ws) : G X nL ce sl pc lv st ws :=
  fun H locs ls hP hD hS h => lv_goto hX.hx hX.hb hdg ht (k H locs ls hP hD hS h)
theorem g_icmp_eq (hX : Ok X cc nL own) {x y : Int32} (tgt : Nat) {off : Int} (ht : (pc : Int) + off = (tgt : Int)) (hdg : decode cc pc = .ok (.if_icmp .eq off, 3)) (kt : x = y → G X nL ce sl tgt lv st ws) (kf : ¬ x = y → G X nL ce sl (pc + 3) lv st ws) : G X nL ce sl pc lv (.int y :: .int x :: st) ws :=
  fun H locs ls hP hD hS h => lv_icmp_eq hX.hx hX.hb hdg ht (fun q => kt q H locs ls hP hD hS h) (fun q => kf q H locs ls hP hD hS h)
theorem g_if_eq (hX : Ok X cc nL own) {x : Int32} (tgt : Nat) {off : Int} (ht : (pc : Int) + off = (tgt : Int)) (hdg : decode cc pc = .ok (.ifCond .eq off, 3)) (kt : x = 0 → G X nL ce sl tgt lv st ws) (kf : ¬ x = 0 → G X nL ce sl (pc + 3) lv st ws) : G X nL ce sl pc lv (.int x :: st) ws :=
  fun H locs ls hP hD hS h => lv_if_eq hX.hx hX.hb hdg ht (fun q => kt q H locs ls hP hD hS h) (fun q => kf q H locs ls hP hD hS h)
theorem g_icmp_ne (hX : Ok X cc nL own) {x y : Int32} (tgt : Nat) {off : Int} (ht : (pc : Int) + off = (tgt : Int)) (hdg : decode cc pc = .ok (.if_icmp .ne off, 3)) (kt : ¬ x = y → G X nL ce sl tgt lv st ws) (kf : x = y → G X nL ce sl (pc + 3) lv st ws) : G X nL ce sl pc lv (.int y :: .int x :: st) ws :=
  fun H locs ls hP hD hS h => lv_icmp_ne hX.hx hX.hb hdg ht (fun q => kt q H locs ls hP hD hS h) (fun q => kf q H locs ls hP hD hS h)
theorem g_if_ne (hX : Ok X cc nL own) {x : Int32} (tgt : Nat) {off : Int} (ht : (pc : Int) + off = (tgt : Int)) (hdg : decode cc pc = .ok (.ifCond .ne off, 3)) (kt : ¬ x = 0 → G X nL ce sl tgt lv st ws) (kf : x = 0 → G X nL ce sl (pc + 3) lv st ws) : G X nL ce sl pc lv (.int x :: st) ws :=
  fun H locs ls hP hD hS h => lv_if_ne hX.hx hX.hb hdg ht (fun q => kt q H locs ls hP hD hS h) (fun q => kf q H locs ls hP hD hS h)
theorem g_icmp_lt (hX : Ok X cc nL own) {x y : Int32} (tgt : Nat) {off : Int} (ht : (pc : Int) + off = (tgt : Int)) (hdg : decode cc pc = .ok (.if_icmp .lt off, 3)) (kt : x < y → G X nL ce sl tgt lv st ws) (kf : ¬ x < y → G X nL ce sl (pc + 3) lv st ws) : G X nL ce sl pc lv (.int y :: .int x :: st) ws :=
  fun H locs ls hP hD hS h => lv_icmp_lt hX.hx hX.hb hdg ht (fun q => kt q H locs ls hP hD hS h) (fun q => kf q H locs ls hP hD hS h)
theorem g_if_lt (hX : Ok X cc nL own) {x : Int32} (tgt : Nat) {off : Int} (ht : (pc : Int) + off = (tgt : Int)) (hdg : decode cc pc = .ok (.ifCond .lt off, 3)) (kt : x < 0 → G X nL ce sl tgt lv st ws) (kf : ¬ x < 0 → G X nL ce sl (pc + 3) lv st ws) : G X nL ce sl pc lv (.int x :: st) ws :=
  fun H locs ls hP hD hS h => lv_if_lt hX.hx hX.hb hdg ht (fun q => kt q H locs ls hP hD hS h) (fun q => kf q H locs ls hP hD hS h)
theorem g_icmp_ge (hX : Ok X cc nL own) {x y : Int32} (tgt : Nat) {off : Int} (ht : (pc : Int) + off = (tgt : Int)) (hdg : decode cc pc = .ok (.if_icmp .ge off, 3)) (kt : y ≤ x → G X nL ce sl tgt lv st ws) (kf : ¬ y ≤ x → G X nL ce sl (pc + 3) lv st ws) : G X nL ce sl pc lv (.int y :: .int x :: st) ws :=
  fun H locs ls hP hD hS h => lv_icmp_ge hX.hx hX.hb hdg ht (fun q => kt q H locs ls hP hD hS h) (fun q => kf q H locs ls hP hD hS h)
theorem g_if_ge (hX : Ok X cc nL own) {x : Int32} (tgt : Nat) {off : Int} (ht : (pc : Int) + off = (tgt : Int)) (hdg : decode cc pc = .ok (.ifCond .ge off, 3)) (kt : 0 ≤ x → G X nL ce sl tgt lv st ws) (kf : ¬ 0 ≤ x → G X nL ce sl (pc + 3) lv st ws) : G X nL ce sl pc lv (.int x :: st) ws :=
  fun H locs ls hP hD hS h => lv_if_ge hX.hx hX.hb hdg ht (fun q => kt q H locs ls hP hD hS h) (fun q => kf q H locs ls hP hD hS h)
theorem g_icmp_gt (hX : Ok X cc nL own) {x y : Int32} (tgt : Nat) {off : Int} (ht : (pc : Int) + off = (tgt : Int)) (hdg : decode cc pc = .ok (.if_icmp .gt off, 3)) (kt : y < x → G X nL ce sl tgt lv st ws) (kf : ¬ y < x → G X nL ce sl (pc + 3) lv st ws) : G X nL ce sl pc lv (.int y :: .int x :: st) ws :=
  fun H locs ls hP hD hS h => lv_icmp_gt hX.hx hX.hb hdg ht (fun q => kt q H locs ls hP hD hS h) (fun q => kf q H locs ls hP hD hS h)
theorem g_if_gt (hX : Ok X cc nL own) {x : Int32} (tgt : Nat) {off : Int} (ht : (pc : Int) + off = (tgt : Int)) (hdg : decode cc pc = .ok (.ifCond .gt off, 3)) (kt : 0 < x → G X nL ce sl tgt lv st ws) (kf : ¬ 0 < x → G X nL ce sl (pc + 3) lv st ws) : G X nL ce sl pc lv (.int x :: st) ws :=
  fun H locs ls hP hD hS h => lv_if_gt hX.hx hX.hb hdg ht (fun q => kt q H locs ls hP hD hS h) (fun q => kf q H locs ls hP hD hS h)
theorem g_icmp_le (hX : Ok X cc nL own) {x y : Int32} (tgt : Nat) {off : Int} (ht : (pc : Int) + off = (tgt : Int)) (hdg : decode cc pc = .ok (.if_icmp .le off, 3)) (kt : x ≤ y → G X nL ce sl tgt lv st ws) (kf : ¬ x ≤ y → G X nL ce sl (pc + 3) lv st ws) : G X nL ce sl pc lv (.int y :: .int x :: st) ws :=
  fun H locs ls hP hD hS h => lv_icmp_le hX.hx hX.hb hdg ht (fun q => kt q H locs ls hP hD hS h) (fun q => kf q H locs ls hP hD hS h)
theorem g_if_le (hX : Ok X cc nL own) {x : Int32} (tgt : Nat) {off : Int} (ht : (pc : Int) + off = (tgt : Int)) (hdg : decode cc pc = .ok (.ifCond .le off, 3)) (kt : x ≤ 0 → G X nL ce sl tgt lv st ws) (kf : ¬ x ≤ 0 → G X nL ce sl (pc + 3) lv st ws) : G X nL ce sl pc lv (.int x :: st) ws :=
  fun H locs ls hP hD hS h => lv_if_le hX.hx hX.hb hdg ht (fun q => kt q H locs ls hP hD hS h) (fun q => kf q H locs ls hP hD hS h)
end BOX
end
section
/-! ===== calls: a callee's cells lie in the middle of the world ===== -/
theorem gi_of {L : List Cond} (h : ∀ w ∈ L, w ∈ wU) : GoodIn wU L := fun w hw => ⟨h w hw, good_of_word (List.mem_filter.mp (h w hw)).2⟩
theorem mem_wsV {own : String} {idx : Nat} {C : String} {y : MethodName} {cd : Cond} (h1 : Cond.methodLink own idx y ∈ wU) (h2 : Cond.instanceMethod y ∈ wU) (h3 : Cond.selects C y y ∈ wU) (h4 : Cond.initialized C ∈ wU) (h5 : cd ∈ wU) : GoodIn wU (wsV own idx C y (cd :: wU)) := by
  refine gi_of (fun w hw => ?_)
  unfold wsV at hw
  simp only [List.mem_append, List.mem_cons, List.not_mem_nil, or_false] at hw
  rcases hw with (rfl | rfl | rfl | rfl) | rfl | hw
  · exact h1
  · exact h2
  · exact h3
  · exact h4
  · exact h5
  · exact hw
theorem mem_wsS {own : String} {idx : Nat} {y : MethodName} {cd : Cond} (h1 : Cond.methodLink own idx y ∈ wU) (h2 : Cond.static y ∈ wU) (h4 : Cond.initialized y.cls ∈ wU) (h5 : cd ∈ wU) : GoodIn wU (va_wsS own idx y (cd :: wU)) := by
  refine gi_of (fun w hw => ?_)
  unfold va_wsS at hw
  simp only [List.mem_append, List.mem_cons, List.not_mem_nil, or_false] at hw
  rcases hw with (rfl | rfl | rfl) | rfl | hw
  · exact h1
  · exact h2
  · exact h4
  · exact h5
  · exact hw
theorem mem_wsO {own : String} {idx : Nat} {C owner : String} {x y : MethodName} {cd : Cond} (h1 : Cond.methodLink own idx x ∈ wU) (h2 : Cond.sameMethod x.cls owner x.name x.desc ∈ wU) (h3 : Cond.instanceMethod ⟨owner, x.name, x.desc⟩ ∈ wU) (h6 : Cond.selects C x y ∈ wU) (h7 : Cond.instanceMethod y ∈ wU) (h4 : Cond.initialized y.cls ∈ wU) (h5 : cd ∈ wU) : GoodIn wU (va_wsO own idx C owner x y (cd :: wU)) := by
  refine gi_of (fun w hw => ?_)
  unfold va_wsO at hw
  simp only [List.mem_append, List.mem_cons, List.not_mem_nil, or_false] at hw
  rcases hw with (rfl | rfl | rfl | rfl | rfl | rfl) | rfl | hw
  · exact h1
  · exact h2
  · exact h3
  · exact h6
  · exact h7
  · exact h4
  · exact h5
  · exact hw
theorem mem_wsSU {own : String} {idx : Nat} {y : MethodName} {cd : Cond} (h1 : Cond.methodLink own idx y ∈ wU) (h2 : Cond.sameMethod y.cls y.cls y.name y.desc ∈ wU) (h3 : Cond.superclass own y.cls ∈ wU) (h7 : Cond.instanceMethod y ∈ wU) (h4 : Cond.initialized y.cls ∈ wU) (h5 : cd ∈ wU) : GoodIn wU (va_wsSU own idx y (cd :: wU)) := by
  refine gi_of (fun w hw => ?_)
  unfold va_wsSU at hw
  simp only [List.mem_append, List.mem_cons, List.not_mem_nil, or_false] at hw
  rcases hw with (rfl | rfl | rfl | rfl | rfl) | rfl | hw
  · exact h1
  · exact h2
  · exact h3
  · exact h7
  · exact h4
  · exact h5
  · exact hw
theorem mem_codeU {cd : Cond} (h5 : cd ∈ wU) : GoodIn wU (cd :: wU) := gi_of (fun w hw => by
  rcases List.mem_cons.mp hw with rfl | hw
  · exact h5
  · exact hw)
/-- what a call asks of the callee's name -/
def YOk (y : MethodName) (n : Nat) : Prop := y.cls ≠ "java/lang/invoke/MethodHandle" ∧ y.cls ≠ "java/lang/invoke/VarHandle" ∧ (parseMethodDescriptor y.desc).map (fun d => d.parameters.length) = some n
theorem fr_free {A0 : Nat → Prop} {pre mid post : va_W} {H0 H : Heap} {locs : List Loc} (hD : va_D A0 (pre ++ (mid ++ post))) (hS : va_S A0 H0 H locs) (hA : ∀ q, H0.size ≤ q → A0 q) : ∀ q, va_A mid H.size q → A0 q := by
  intro q h
  rcases h with ⟨k, e, h⟩ | h
  · obtain ⟨i, hi⟩ := List.getElem?_of_mem (List.mem_append_right pre (List.mem_append_left post (List.mem_of_getElem? h)))
    exact hD.2 i (q, e) hi
  · exact hA q (Nat.le_trans hS.1 h)
theorem fr_ne {A0 : Nat → Prop} {pre mid post : va_W} (hD : va_D A0 (pre ++ (mid ++ post))) {x y : Nat × va_E} (hx : x ∈ pre ∨ x ∈ post) (hy : y ∈ mid) : x.1 ≠ y.1 := by
  intro h
  obtain ⟨j, hj⟩ := List.getElem?_of_mem hy
  have hjl := (List.getElem?_eq_some_iff.mp hj).1
  have h2 : (pre ++ (mid ++ post))[pre.length + j]? = some y := by
    rw [List.getElem?_append_right (by omega), Nat.add_sub_cancel_left, List.getElem?_append_left hjl]
    exact hj
  rcases hx with hx | hx
  · obtain ⟨i, hi⟩ := List.getElem?_of_mem hx
    have hil := (List.getElem?_eq_some_iff.mp hi).1
    have := hD.1 i (pre.length + j) x y (by rw [List.getElem?_append_left hil]; exact hi) h2 h
    omega
  · obtain ⟨i, hi⟩ := List.getElem?_of_mem hx
    have := hD.1 (pre.length + (mid.length + i)) (pre.length + j) x y (by rw [List.getElem?_append_right (by omega), Nat.add_sub_cancel_left, List.getElem?_append_right (by omega), Nat.add_sub_cancel_left]; exact hi) h2 h
    omega
theorem fr_join {A0 : Nat → Prop} {D : va_G} {cl : List vw_C} {pre mid post w1 : va_W} {H H1 : Heap} (hP : va_P D cl (pre ++ (mid ++ post)) H) (hD : va_D A0 (pre ++ (mid ++ post)))
    (hk : ∀ q : Nat, q < H.size → ¬ va_A mid H.size q → H1[q]? = H[q]?) (hF : ∀ q, va_A mid H.size q → A0 q) (hP1 : va_P D cl w1 H1) (hD1 : va_D (va_A mid H.size) w1) : va_P D cl (pre ++ (w1 ++ post)) H1 ∧ va_D A0 (pre ++ (w1 ++ post)) := by
  have lt : ∀ x : Nat × va_E, x ∈ pre ∨ x ∈ post → x.1 < H.size ∧ ¬ va_A mid H.size x.1 ∧ va_at D cl x H := by
    intro x hx
    have hm : x ∈ pre ++ (mid ++ post) := by
      rcases hx with h | h
      · exact List.mem_append_left _ h
      · exact List.mem_append_right _ (List.mem_append_right _ h)
    obtain ⟨i, hi⟩ := List.getElem?_of_mem hm
    have hat := hP i x hi
    refine ⟨hat.lt, fun h => ?_, hat⟩
    rcases h with ⟨k, e, h⟩ | h
    · exact fr_ne hD hx (List.mem_of_getElem? h) rfl
    · have := hat.lt
      omega
  have kp : ∀ x : Nat × va_E, x ∈ pre ∨ x ∈ post → va_at D cl x H1 := fun x hx => (lt x hx).2.2.kept (hk x.1 (lt x hx).1 (lt x hx).2.1)
  have pp : va_P D cl pre H1 := fun k q h => kp q (Or.inl (List.mem_of_getElem? h))
  have pq : va_P D cl post H1 := fun k q h => kp q (Or.inr (List.mem_of_getElem? h))
  have ne1 : ∀ x y : Nat × va_E, x ∈ pre ∨ x ∈ post → y ∈ w1 → x.1 ≠ y.1 := by
    intro x y hx hy h
    obtain ⟨j, hj⟩ := List.getElem?_of_mem hy
    exact (lt x hx).2.1 (h ▸ hD1.2 j y hj)
  have dpre : va_D A0 pre := ⟨fun i j x y hi hj e => hD.1 i j x y (by rw [List.getElem?_append_left (List.getElem?_eq_some_iff.mp hi).1]; exact hi) (by rw [List.getElem?_append_left (List.getElem?_eq_some_iff.mp hj).1]; exact hj) e, fun k q h => by
    obtain ⟨i, hi⟩ := List.getElem?_of_mem (List.mem_append_left (mid ++ post) (List.mem_of_getElem? h))
    exact hD.2 i q hi⟩
  have at3 : ∀ (i : Nat) (x : Nat × va_E), post[i]? = some x → (pre ++ (mid ++ post))[pre.length + (mid.length + i)]? = some x := fun i x h => by
    rw [List.getElem?_append_right (by omega), Nat.add_sub_cancel_left, List.getElem?_append_right (by omega), Nat.add_sub_cancel_left]
    exact h
  have dpost : va_D A0 post := ⟨fun i j x y hi hj e => by
    have := hD.1 _ _ x y (at3 i x hi) (at3 j y hj) e
    omega, fun k q h => hD.2 _ q (at3 k q h)⟩
  have dmid : va_D A0 w1 := hD1.weaken (fun k q _ h => hF q.1 h)
  refine ⟨va_P.app pp (va_P.app hP1 pq), va_D.app dpre (va_D.app dmid dpost (fun i j x y hx hy h => ne1 y x (Or.inr (List.mem_of_getElem? hy)) (List.mem_of_getElem? hx) h.symm)) (fun i j x y hx hy h => ?_)⟩
  rcases List.mem_append.mp (List.mem_of_getElem? hy) with hy | hy
  · exact ne1 x y (Or.inl (List.mem_of_getElem? hx)) hy h
  · obtain ⟨i2, hi2⟩ := List.getElem?_of_mem hy
    have := hD.1 i _ x y (by rw [List.getElem?_append_left (List.getElem?_eq_some_iff.mp hx).1]; exact hx) (at3 i2 y hi2) h
    have := (List.getElem?_eq_some_iff.mp hx).1
    omega
section BOXC
variable {X : Cx} {cc : ByteArray} {nL ce sl pc : Nat} {own : String} {lv lv' : List (Nat × Value)} {st st0 : List Value} {ws : va_W} {dX mcX msX : Nat} {retX : Option FieldType} {PostX : Option Value → va_W → Prop}
theorem g_run {mc ms : Nat} {pre mid post : va_W} {Post : Option Value → va_W → Prop} {aa : Array Value} (hX : Ok X cc nL own)
    (hr : ∀ (H : Heap) (locs : List Loc) (ls : Array Slot), va_P X.E.D vwCl (pre ++ (mid ++ post)) H → va_D X.A (pre ++ (mid ++ post)) → va_S X.A X.s.heap H locs → lv_has ls nL lv → va_Run X.p X.l X.e X.R X.s X.m X.args X.below X.meth X.c H locs ce sl mc ms (F0 X.m pc ls st0) st (QcOf X.E (va_A mid H.size) Post aa) (va_A mid H.size))
    (kk : ∀ rv ws', Post rv ws' → G X nL (ce + mc) (sl + ms) (pc + 3) lv (rv.toList ++ st) (pre ++ (ws' ++ post))) : G X nL ce sl pc lv st0 (pre ++ (mid ++ post)) := by
  intro H locs ls hP hD hS hl T hT XX
  have hF := fr_free hD hS hX.hA
  obtain ⟨v, st₀, t, T', L, h0, X', hL, e1, e2, ⟨⟨rv, ws', hpost, hoc, hP1, hD1⟩, hz, hk⟩, stp⟩ := hr H locs ls hP hD hS hl T hT XX
  obtain rfl : v = rv := by cases hoc; rfl
  rw [h0] at hz hk
  obtain ⟨hP2, hD2⟩ := fr_join hP hD hk hF hP1 hD1
  rw [← e1] at hP2
  have hS2 : va_S X.A X.s.heap T'.heap (locs ++ L) := ⟨Nat.le_trans hS.1 (by rw [e1]; exact hz), fun q h1 h2 => by rw [e1, hk q (Nat.lt_of_lt_of_le h1 hS.1) (fun z => h2 (hF q z))]; exact hS.2.1 q h1 h2, fun q hq => by
    rcases List.mem_append.mp hq with h | h
    · exact hS.2.2 q h
    · exact hF _ (hL q h)⟩
  obtain ⟨t2, a1, b1⟩ := kk v ws' hpost T'.heap (locs ++ L) ls hP2 hD2 hS2 hl T' rfl X'
  exact ⟨t2, stp t2 a1, b1⟩
/-- the receiver's cell -/
def Recv (X : Cx) (C : String) (b : Nat) (W : va_W) : Prop := ∃ (ci : Nat) (fs : List Value) (T : u_T) (N : Nat), vwCl[ci]? = some (C, T, N) ∧ ((b, .inr (ci, fs)) ∈ W ∨ (b, .inr (ci, fs)) ∈ X.ro)
theorem Recv.of {X : Cx} {C : String} {b : Nat} {W : va_W} (k ci : Nat) {fs : List Value} {T : u_T} {N : Nat} (hk : W[k]? = some (b, .inr (ci, fs))) (hc : vwCl[ci]? = some (C, T, N)) : Recv X C b W := ⟨ci, fs, T, N, hc, Or.inl (List.mem_of_getElem? hk)⟩
theorem Recv.ro {X : Cx} {C : String} {b : Nat} {W : va_W} (ci : Nat) {fs : List Value} {T : u_T} {N : Nat} (hk : (b, .inr (ci, fs)) ∈ X.ro) (hc : vwCl[ci]? = some (C, T, N)) : Recv X C b W := ⟨ci, fs, T, N, hc, Or.inr hk⟩
theorem Recv.cell (hX : Ok X cc nL own) {C : String} {b : Nat} {W : va_W} (h : Recv X C b W) {H : Heap} {locs : List Loc} (hP : va_P X.E.D vwCl W H) (hS : va_S X.A X.s.heap H locs) : ∃ cell : Cell, H[b]? = some cell ∧ cell.vm.isStatics = false ∧ X.s.vm.findClass C = some cell.cls := by
  obtain ⟨ci, fs, T, N, hc, h | h⟩ := h
  · obtain ⟨i, hi⟩ := List.getElem?_of_mem h
    exact va_recv hX.hK hP hc hi
  · obtain ⟨i, hi⟩ := List.getElem?_of_mem h
    exact va_recv hX.hK (hX.roP hS) hc hi
theorem pc_blind {E : En} {ro ws : va_W} {av : List Value} {sz : Nat} : FrameBlind (va_Pc av (fun U => U.heap.size = sz ∧ va_P E.D vwCl ws U.heap ∧ va_D (fun _ => True) ws ∧ EnOk E U ∧ RoOK E ro (va_A ws sz) U U.heap)) :=
  fun a U g mk q => ⟨q.1, q.2.1, q.2.2.1, q.2.2.2.1, q.2.2.2.2.1.call, RoOK.moved (u := U) (U := U.calling g mk a) (Vm.Alike.refl U.vm) q.2.2.2.2.2⟩
theorem pc_at (hX : Ok X cc nL own) {roC pre mid post : va_W} {av : List Value} (hro : ∀ q ∈ roC, q ∈ X.ro) {H : Heap} {locs : List Loc} (hP : va_P X.E.D vwCl (pre ++ (mid ++ post)) H) (hD : va_D X.A (pre ++ (mid ++ post))) (hS : va_S X.A X.s.heap H locs) :
    ∀ U : State, U.heap = H → X.s.WarmedH U.vm → va_Pc av (fun U => U.heap.size = H.size ∧ va_P X.E.D vwCl mid U.heap ∧ va_D (fun _ => True) mid ∧ EnOk X.E U ∧ RoOK X.E roC (va_A mid H.size) U U.heap) av.toArray U := by
  intro U hU hW
  have hF := fr_free hD hS hX.hA
  have h1 : RoOK X.E roC (va_A mid H.size) U H := (((hX.hRo.kept hS.2.1).narrow hF).sub hro).moved hW.alike
  refine ⟨rfl, by rw [hU], ?_, ?_, hX.hE.warm hW, by rw [hU]; exact h1⟩
  · rw [hU]
    intro k q hk
    obtain ⟨i, hi⟩ := List.getElem?_of_mem (List.mem_append_right pre (List.mem_append_left post (List.mem_of_getElem? hk)))
    exact hP i q hi
  · have at2 : ∀ (i : Nat) (x : Nat × va_E), mid[i]? = some x → (pre ++ (mid ++ post))[pre.length + i]? = some x := fun i x h => by
      rw [List.getElem?_append_right (by omega), Nat.add_sub_cancel_left, List.getElem?_append_left (List.getElem?_eq_some_iff.mp h).1]
      exact h
    exact ⟨fun i j x y hi hj e => by
      have := hD.1 _ _ x y (at2 i x hi) (at2 j y hj) e
      omega, fun _ _ _ => trivial⟩
theorem rm_fits {d dY mcY msY nY : Nat} (hR : X.R = rmD d mcX msX) (hd : dY < d) (hn : nY + 19 ≤ 64) : (rmD dY mcY msY).frames + 1 ≤ X.R.frames ∧ 8 + (nY + 11) + (rmD dY mcY msY).locals ≤ X.R.locals := by
  rw [hR]
  simp only [rmD]
  omega
/-- invokevirtual of the receiver's class's own method -/
def KwV (own : String) (idx : Nat) (C : String) (y : MethodName) (ccY : ByteArray) (nY : Nat) (ret : Option FieldType) (n : Nat) : Prop :=
  GoodIn wU (wsV own idx C y (.code y ccY nY ret :: wU)) ∧ y.cls = C ∧ YOk y n ∧ nY + 19 ≤ 64
theorem g_callV {y : MethodName} {ccY : ByteArray} {nY idx n d mc ms : Nat} {ret : Option FieldType} {C : String} {roC pre mid post : va_W} {Post : Option Value → va_W → Prop} {b : Nat} (As : List Value) (hX : Ok X cc nL own) (hq : Rq X dX mcX msX retX PostX) (hw : KwV own idx C y ccY nY ret n)
    (hM : CP X.l X.E y ccY nY ret d mc ms roC (.ref b :: As) mid Post) (hro : ∀ q ∈ roC, q ∈ X.ro) (hd : d < dX) (hc : ce + mc ≤ mcX) (hs : sl + ms ≤ msX) (hn : As.length = n) (hrv : Recv X C b (pre ++ (mid ++ post))) (hst : As.reverse ++ .ref b :: st = st0) (hcat : (st.map fun v => v.category).sum ≤ 8) (hdg : decode cc pc = .ok (.invokevirtual idx, 3))
    (kk : ∀ rv ws', Post rv ws' → G X nL (ce + mc) (sl + ms) (pc + 3) lv (rv.toList ++ st) (pre ++ (ws' ++ post))) : G X nL ce sl pc lv st0 (pre ++ (mid ++ post)) := by
  refine g_run (aa := (Value.ref b :: As).toArray) hX (fun H locs ls hP hD hS hl => ?_) kk
  exact va_runV (As := As) (rest := st) ⟨hX.hx, hX.hb, hX.hml, hX.hown, hX.hts⟩ (hM H.size) (cwV n hX.hts hw.1 rfl rfl rfl ⟨hw.2.1, hw.2.2.1⟩ (rm_fits hq.1 hd hw.2.2.2)) ⟨pc_blind, hrv.cell hX hP hS, pc_at hX hro hP hD hS⟩ rfl hn hl.1 hst.symm (lv_room hcat) hdg (by rw [hq.1]; exact ⟨hc, hs⟩)
/-- invokestatic -/
def KwS (own : String) (idx : Nat) (y : MethodName) (ccY : ByteArray) (nY : Nat) (ret : Option FieldType) (n : Nat) : Prop :=
  GoodIn wU (va_wsS own idx y (.code y ccY nY ret :: wU)) ∧ YOk y n ∧ nY + 19 ≤ 64
theorem g_callS {y : MethodName} {ccY : ByteArray} {nY idx n d mc ms : Nat} {ret : Option FieldType} {roC pre mid post : va_W} {Post : Option Value → va_W → Prop} (As : List Value) (hX : Ok X cc nL own) (hq : Rq X dX mcX msX retX PostX) (hw : KwS own idx y ccY nY ret n)
    (hM : CP X.l X.E y ccY nY ret d mc ms roC As mid Post) (hro : ∀ q ∈ roC, q ∈ X.ro) (hd : d < dX) (hc : ce + mc ≤ mcX) (hs : sl + ms ≤ msX) (hn : As.length = n) (hst : As.reverse ++ st = st0) (hcat : (st.map fun v => v.category).sum ≤ 8) (hdg : decode cc pc = .ok (.invokestatic idx, 3))
    (kk : ∀ rv ws', Post rv ws' → G X nL (ce + mc) (sl + ms) (pc + 3) lv (rv.toList ++ st) (pre ++ (ws' ++ post))) : G X nL ce sl pc lv st0 (pre ++ (mid ++ post)) := by
  refine g_run (aa := As.toArray) hX (fun H locs ls hP hD hS hl => ?_) kk
  exact va_runS (As := As) (rest := st) ⟨hX.hx, hX.hb, hX.hml, hX.hown, hX.hts⟩ (hM H.size) (va_cwS n hX.hts hw.1 rfl rfl rfl hw.2.1 (rm_fits hq.1 hd hw.2.2)) ⟨pc_blind, pc_at hX hro hP hD hS⟩ rfl hn hl.1 hst.symm (lv_room hcat) hdg (by rw [hq.1]; exact ⟨hc, hs⟩)
/-- invokestatic of a nest mate's private method -/
def KwN (own : String) (idx : Nat) (y : MethodName) (host : String) (ccY : ByteArray) (nY : Nat) (ret : Option FieldType) (n : Nat) : Prop :=
  (own, idx, y, host) ∈ nestQ ∧ Cond.static y ∈ wU ∧ Cond.initialized y.cls ∈ wU ∧ Cond.code y ccY nY ret ∈ wU ∧ YOk y n ∧ nY + 19 ≤ 64
theorem g_callN {y : MethodName} {ccY : ByteArray} {nY idx n d mc ms : Nat} {ret : Option FieldType} {host : String} {roC pre mid post : va_W} {Post : Option Value → va_W → Prop} (As : List Value) (hX : Ok X cc nL own) (hq : Rq X dX mcX msX retX PostX) (hw : KwN own idx y host ccY nY ret n)
    (hM : CP X.l X.E y ccY nY ret d mc ms roC As mid Post) (hro : ∀ q ∈ roC, q ∈ X.ro) (hd : d < dX) (hc : ce + mc ≤ mcX) (hs : sl + ms ≤ msX) (hn : As.length = n) (hst : As.reverse ++ st = st0) (hcat : (st.map fun v => v.category).sum ≤ 8) (hdg : decode cc pc = .ok (.invokestatic idx, 3))
    (kk : ∀ rv ws', Post rv ws' → G X nL (ce + mc) (sl + ms) (pc + 3) lv (rv.toList ++ st) (pre ++ (ws' ++ post))) : G X nL ce sl pc lv st0 (pre ++ (mid ++ post)) := by
  refine g_run (aa := As.toArray) hX (fun H locs ls hP hD hS hl => ?_) kk
  exact va_runSN (As := As) (rest := st) ⟨hX.hx, hX.hb, hX.hml, hX.hown, hX.hts⟩ (hM H.size) ⟨va_cnB n hX.hts (mem_codeU hw.2.2.2.1) rfl rfl rfl (hX.hE.2.1 _ hw.1) (hX.hts _ hw.2.2.1) hw.2.2.2.2.1 (rm_fits hq.1 hd hw.2.2.2.2.2), hX.hts _ hw.2.1, trivial⟩ ⟨pc_blind, pc_at hX hro hP hD hS⟩ rfl hn hl.1 hst.symm (lv_room hcat) hdg (by rw [hq.1]; exact ⟨hc, hs⟩)
/-- invokespecial of a constructor -/
def KwI (own : String) (idx : Nat) (y : MethodName) (ccY : ByteArray) (nY : Nat) (n : Nat) : Prop :=
  Cond.methodLink own idx y ∈ wU ∧ Cond.instanceMethod y ∈ wU ∧ Cond.initialized y.cls ∈ wU ∧ Cond.code y ccY nY none ∈ wU ∧ y.name = "<init>" ∧ YOk y n ∧ nY + 19 ≤ 64
theorem g_callI {y : MethodName} {ccY : ByteArray} {nY idx n d mc ms : Nat} {roC pre mid post : va_W} {Post : Option Value → va_W → Prop} {b : Nat} (As : List Value) (hX : Ok X cc nL own) (hq : Rq X dX mcX msX retX PostX) (hw : KwI own idx y ccY nY n)
    (hM : CP X.l X.E y ccY nY none d mc ms roC (.ref b :: As) mid Post) (hro : ∀ q ∈ roC, q ∈ X.ro) (hd : d < dX) (hc : ce + mc ≤ mcX) (hs : sl + ms ≤ msX) (hn : As.length = n) (hst : As.reverse ++ .ref b :: st = st0) (hcat : (st.map fun v => v.category).sum ≤ 8) (hdg : decode cc pc = .ok (.invokespecial idx, 3))
    (kk : ∀ rv ws', Post rv ws' → G X nL (ce + mc) (sl + ms) (pc + 3) lv (rv.toList ++ st) (pre ++ (ws' ++ post))) : G X nL ce sl pc lv st0 (pre ++ (mid ++ post)) := by
  refine g_run (aa := (Value.ref b :: As).toArray) hX (fun H locs ls hP hD hS hl => ?_) kk
  exact va_runI (As := As) (rest := st) ⟨hX.hx, hX.hb, hX.hml, hX.hown, hX.hts⟩ (hM H.size) (cwI n hX.hts (mem_codeU hw.2.2.2.1) rfl rfl rfl (hX.hts _ hw.2.2.1) (hX.hts _ hw.1) (hX.hts _ hw.2.1) hw.2.2.2.2.1 hw.2.2.2.2.2.1 (rm_fits hq.1 hd hw.2.2.2.2.2.2)) ⟨pc_blind, pc_at hX hro hP hD hS⟩ rfl hn hl.1 hst.symm (lv_room hcat) hdg (by rw [hq.1]; exact ⟨hc, hs⟩)
/-- invokespecial of a nest mate's private constructor -/
def KwIN (own : String) (idx : Nat) (y : MethodName) (host : String) (ccY : ByteArray) (nY : Nat) (n : Nat) : Prop :=
  (own, idx, y, host) ∈ nestQ ∧ Cond.instanceMethod y ∈ wU ∧ Cond.initialized y.cls ∈ wU ∧ Cond.code y ccY nY none ∈ wU ∧ y.name = "<init>" ∧ YOk y n ∧ nY + 19 ≤ 64
theorem g_callIN {y : MethodName} {ccY : ByteArray} {nY idx n d mc ms : Nat} {host : String} {roC pre mid post : va_W} {Post : Option Value → va_W → Prop} {b : Nat} (As : List Value) (hX : Ok X cc nL own) (hq : Rq X dX mcX msX retX PostX) (hw : KwIN own idx y host ccY nY n)
    (hM : CP X.l X.E y ccY nY none d mc ms roC (.ref b :: As) mid Post) (hro : ∀ q ∈ roC, q ∈ X.ro) (hd : d < dX) (hc : ce + mc ≤ mcX) (hs : sl + ms ≤ msX) (hn : As.length = n) (hst : As.reverse ++ .ref b :: st = st0) (hcat : (st.map fun v => v.category).sum ≤ 8) (hdg : decode cc pc = .ok (.invokespecial idx, 3))
    (kk : ∀ rv ws', Post rv ws' → G X nL (ce + mc) (sl + ms) (pc + 3) lv (rv.toList ++ st) (pre ++ (ws' ++ post))) : G X nL ce sl pc lv st0 (pre ++ (mid ++ post)) := by
  refine g_run (aa := (Value.ref b :: As).toArray) hX (fun H locs ls hP hD hS hl => ?_) kk
  exact va_runIN (As := As) (rest := st) ⟨hX.hx, hX.hb, hX.hml, hX.hown, hX.hts⟩ (hM H.size) ⟨va_cnB n hX.hts (mem_codeU hw.2.2.2.1) rfl rfl rfl (hX.hE.2.1 _ hw.1) (hX.hts _ hw.2.2.1) hw.2.2.2.2.2.1 (rm_fits hq.1 hd hw.2.2.2.2.2.2), hw.2.2.2.2.1, hX.hts _ hw.2.1⟩ ⟨pc_blind, pc_at hX hro hP hD hS⟩ rfl hn hl.1 hst.symm (lv_room hcat) hdg (by rw [hq.1]; exact ⟨hc, hs⟩)
/-- invokevirtual where the receiver's class may have a method of its own: x is named, y is run -/
def KwO (own : String) (idx : Nat) (C owner : String) (x y : MethodName) (ccY : ByteArray) (nY : Nat) (ret : Option FieldType) (n : Nat) : Prop :=
  GoodIn wU (va_wsO own idx C owner x y (.code y ccY nY ret :: wU)) ∧ (∃ b0 m0 r0, Cond.code ⟨owner, x.name, x.desc⟩ b0 m0 r0 ∈ wU) ∧ (owner ≠ "java/lang/invoke/MethodHandle" ∧ owner ≠ "java/lang/invoke/VarHandle" ∧ (parseMethodDescriptor x.desc).map (fun d => d.parameters.length) = some n) ∧ nY + 19 ≤ 64
theorem g_callO {x y : MethodName} {ccY : ByteArray} {nY idx n d mc ms : Nat} {ret : Option FieldType} {C owner : String} {roC pre mid post : va_W} {Post : Option Value → va_W → Prop} {b : Nat} (As : List Value) (hX : Ok X cc nL own) (hq : Rq X dX mcX msX retX PostX) (hw : KwO own idx C owner x y ccY nY ret n)
    (hM : CP X.l X.E y ccY nY ret d mc ms roC (.ref b :: As) mid Post) (hro : ∀ q ∈ roC, q ∈ X.ro) (hd : d < dX) (hc : ce + mc ≤ mcX) (hs : sl + ms ≤ msX) (hn : As.length = n) (hrv : Recv X C b (pre ++ (mid ++ post))) (hst : As.reverse ++ .ref b :: st = st0) (hcat : (st.map fun v => v.category).sum ≤ 8) (hdg : decode cc pc = .ok (.invokevirtual idx, 3))
    (kk : ∀ rv ws', Post rv ws' → G X nL (ce + mc) (sl + ms) (pc + 3) lv (rv.toList ++ st) (pre ++ (ws' ++ post))) : G X nL ce sl pc lv st0 (pre ++ (mid ++ post)) := by
  obtain ⟨hG, ⟨b0, m0, r0, h0⟩, hy, h64⟩ := hw
  refine g_run (aa := (Value.ref b :: As).toArray) hX (fun H locs ls hP hD hS hl => ?_) kk
  exact va_runU (As := As) (rest := st) ⟨hX.hx, hX.hb, hX.hml, hX.hown, hX.hts⟩ (hM H.size) (va_cwO n hX.hts hG rfl rfl rfl h0 hy (rm_fits hq.1 hd h64)) ⟨pc_blind, hrv.cell hX hP hS, pc_at hX hro hP hD hS⟩ rfl hn hl.1 hst.symm (lv_room hcat) hdg (by rw [hq.1]; exact ⟨hc, hs⟩)
/-- invokespecial of a superclass's method -/
def KwSU (own : String) (idx : Nat) (y : MethodName) (ccY : ByteArray) (nY : Nat) (ret : Option FieldType) (n : Nat) : Prop :=
  GoodIn wU (va_wsSU own idx y (.code y ccY nY ret :: wU)) ∧ (y.name ≠ "<init>" ∧ (parseMethodDescriptor y.desc).map (fun d => d.parameters.length) = some n) ∧ nY + 19 ≤ 64
theorem g_callSU {y : MethodName} {ccY : ByteArray} {nY idx n d mc ms : Nat} {ret : Option FieldType} {C : String} {roC pre mid post : va_W} {Post : Option Value → va_W → Prop} {b : Nat} (As : List Value) (hX : Ok X cc nL own) (hq : Rq X dX mcX msX retX PostX) (hw : KwSU own idx y ccY nY ret n)
    (hM : CP X.l X.E y ccY nY ret d mc ms roC (.ref b :: As) mid Post) (hro : ∀ q ∈ roC, q ∈ X.ro) (hd : d < dX) (hc : ce + mc ≤ mcX) (hs : sl + ms ≤ msX) (hn : As.length = n) (hrv : Recv X C b (pre ++ (mid ++ post))) (hst : As.reverse ++ .ref b :: st = st0) (hcat : (st.map fun v => v.category).sum ≤ 8) (hdg : decode cc pc = .ok (.invokespecial idx, 3))
    (kk : ∀ rv ws', Post rv ws' → G X nL (ce + mc) (sl + ms) (pc + 3) lv (rv.toList ++ st) (pre ++ (ws' ++ post))) : G X nL ce sl pc lv st0 (pre ++ (mid ++ post)) := by
  refine g_run (aa := (Value.ref b :: As).toArray) hX (fun H locs ls hP hD hS hl => ?_) kk
  obtain ⟨ci, fs, T0, N0, hci, -⟩ := id hrv
  exact va_runSU (As := As) (rest := st) (hX.hK.1 ci _ hci).2 ⟨hX.hx, hX.hb, hX.hml, hX.hown, hX.hts⟩ (hM H.size) (va_cwSU n hX.hts hw.1 rfl rfl rfl hw.2.1 (rm_fits hq.1 hd hw.2.2)) ⟨pc_blind, hrv.cell hX hP hS, pc_at hX hro hP hD hS⟩ rfl hn hl.1 hst.symm (lv_room hcat) hdg (by rw [hq.1]; exact ⟨hc, hs⟩)
/-! ===== ends ===== -/
theorem g_iret (hX : Ok X cc nL own) (hq : Rq X dX mcX msX (some .int) PostX) (hc : ce ≤ mcX) (hs : sl ≤ msX) {v : Int32} (hp : PostX (some (.int v)) ws) (hdg : decode cc pc = .ok (.ireturn, 1)) : G X nL ce sl pc lv [.int v] ws := by
  intro H locs ls hP hD hS h
  refine W.widen hc hs ?_
  rw [hq.2.2.2]
  exact W.iret hX.hx hX.hb hq.2.1 (fun t ht hW => ⟨⟨_, _, hp, rfl, by rw [ht]; exact hP, hD⟩, hS.F ht⟩) hS.2.2 hdg hq.2.2.1
theorem g_zret (hX : Ok X cc nL own) {ty : FieldType} (hq : Rq X dX mcX msX (some ty) PostX) (hc : ce ≤ mcX) (hs : sl ≤ msX) {v : Int32} (hn : narrow ty (.int v) = .int v) (hp : PostX (some (.int v)) ws) (hdg : decode cc pc = .ok (.ireturn, 1)) : G X nL ce sl pc lv [.int v] ws := by
  intro H locs ls hP hD hS h
  refine W.widen hc hs ?_
  rw [hq.2.2.2]
  exact W.zret hX.hx hX.hb hq.2.1 hn (fun t ht hW => ⟨⟨_, _, hp, rfl, by rw [ht]; exact hP, hD⟩, hS.F ht⟩) hS.2.2 hdg hq.2.2.1
theorem g_vret (hX : Ok X cc nL own) (hq : Rq X dX mcX msX none PostX) (hc : ce ≤ mcX) (hs : sl ≤ msX) (hp : PostX none ws) (hdg : decode cc pc = .ok (.return_, 1)) : G X nL ce sl pc lv [] ws := by
  intro H locs ls hP hD hS h
  refine W.widen hc hs ?_
  rw [hq.2.2.2]
  exact W.vret hX.hx hX.hb hq.2.1 (fun t ht hW => ⟨⟨_, _, hp, rfl, by rw [ht]; exact hP, hD⟩, hS.F ht⟩) hS.2.2 hdg hq.2.2.1
theorem g_aret (hX : Ok X cc nL own) {n : String} (hq : Rq X dX mcX msX (some (.object n)) PostX) (hc : ce ≤ mcX) (hs : sl ≤ msX) {v : Nat} (hp : PostX (some (.ref v)) ws) (hdg : decode cc pc = .ok (.areturn, 1)) : G X nL ce sl pc lv [.ref v] ws := by
  intro H locs ls hP hD hS h
  refine W.widen hc hs ?_
  rw [hq.2.2.2]
  exact W.aret hX.hx hX.hb hq.2.1 (Or.inl ⟨_, rfl⟩) (Or.inr ⟨_, rfl⟩) (fun t ht hW => ⟨⟨_, _, hp, rfl, by rw [ht]; exact hP, hD⟩, hS.F ht⟩) hS.2.2 hdg hq.2.2.1
/-! ===== fields, arrays ===== -/
theorem g_get (hX : Ok X cc nL own) {ref C : String} {T : u_T} {N ci index a : Nat} (hin : ∀ w ∈ u_ws C T N, w ∈ wU) (q0 : Nat) {fs : List Value} (he : ws[q0]? = some (a, .inr (ci, fs))) (hc : vwCl[ci]? = some (C, T, N)) (k : Nat) (hk : k < N) (hlink : Cond.fieldLink own index ref (T k).2.1 (T k).2.2.1 ∈ wU) (hsame : ∀ x, X.s.fieldFound? (T k).1 (T k).2.1 (T k).2.2.1 = some x → X.s.fieldFound? ref (T k).2.1 (T k).2.2.1 = some x) {v : Value} (hv : fs[k]? = some v) (hdg : decode cc pc = .ok (.getfield index, 3))
    (kk : G X nL ce sl (pc + 3) lv (v :: st) ws) : G X nL ce sl pc lv (.ref a :: st) ws :=
  fun H locs ls hP hD hS h => va_get (D := X.E.D) (cl := vwCl) (C := C) (T := T) (N := N) hX.hx hX.hb hX.hts hin hX.hown hX.hK hP q0 he hc k hk (hX.hts _ hlink) hsame hv hdg (kk H locs ls hP hD hS h)
/-- a field of an object that is only read -/
theorem g_getR (hX : Ok X cc nL own) {ref C : String} {T : u_T} {N ci index a : Nat} (hin : ∀ w ∈ u_ws C T N, w ∈ wU) {fs : List Value} (he : (a, .inr (ci, fs)) ∈ X.ro) (hc : vwCl[ci]? = some (C, T, N)) (k : Nat) (hk : k < N) (hlink : Cond.fieldLink own index ref (T k).2.1 (T k).2.2.1 ∈ wU) (hsame : ∀ x, X.s.fieldFound? (T k).1 (T k).2.1 (T k).2.2.1 = some x → X.s.fieldFound? ref (T k).2.1 (T k).2.2.1 = some x) {v : Value} (hv : fs[k]? = some v) (hdg : decode cc pc = .ok (.getfield index, 3))
    (kk : G X nL ce sl (pc + 3) lv (v :: st) ws) : G X nL ce sl pc lv (.ref a :: st) ws := by
  intro H locs ls hP hD hS h
  obtain ⟨i, hi⟩ := List.getElem?_of_mem he
  exact va_get (D := X.E.D) (cl := vwCl) (C := C) (T := T) (N := N) hX.hx hX.hb hX.hts hin hX.hown hX.hK (hX.roP hS) i hi hc k hk (hX.hts _ hlink) hsame hv hdg (kk H locs ls hP hD hS h)
theorem g_put (hX : Ok X cc nL own) {ref C : String} {T : u_T} {N ci index a : Nat} (hin : ∀ w ∈ u_ws C T N, w ∈ wU) (ty0 : Nat → FieldType) (hty : ∀ k, k < N → parseFieldDescriptor (T k).2.2.1 = some (ty0 k)) (hnm : ∀ a, a < N → ∀ b, b < N → a ≠ b → (T a).2.1 ≠ (T b).2.1) (q0 : Nat) {fs : List Value} (he : ws[q0]? = some (a, .inr (ci, fs))) (hc : vwCl[ci]? = some (C, T, N)) (k : Nat) (hk : k < N) (hlink : Cond.fieldLink own index ref (T k).2.1 (T k).2.2.1 ∈ wU) (hsame : ∀ x, X.s.fieldFound? (T k).1 (T k).2.1 (T k).2.2.1 = some x → X.s.fieldFound? ref (T k).2.1 (T k).2.2.1 = some x) (hfin : (T k).2.2.2 = false) {ty : FieldType} {v : Value} (hd : parseFieldDescriptor (T k).2.2.1 = some ty) (hn : narrow ty v = v) (hfit : fits ty v = true) (hl : k < fs.length) (ws' : va_W) (hws : ws.set q0 (a, .inr (ci, fs.set k v)) = ws') (hdg : decode cc pc = .ok (.putfield index, 3))
    (kk : G X nL ce sl (pc + 3) lv st ws') : G X nL ce sl pc lv (v :: .ref a :: st) ws := by
  intro H locs ls hP hD hS h
  exact va_put (D := X.E.D) (cl := vwCl) (C := C) (T := T) (N := N) hX.hx hX.hb hX.hts hin ty0 hty hnm hX.hown hX.hK hP hD hS q0 he hc k hk (hX.hts _ hlink) hsame hfin hd hn hfit hl hdg (fun H1 locs1 hP1 hD1 hS1 => kk H1 locs1 ls (hws ▸ hP1) (hws ▸ hD1) hS1 h)
theorem g_putF (hX : Ok X cc nL own) (hin2 : X.meth.name = "<init>") {ref C : String} {T : u_T} {N ci index a : Nat} (hin : ∀ w ∈ u_ws C T N, w ∈ wU) (ty0 : Nat → FieldType) (hty : ∀ k, k < N → parseFieldDescriptor (T k).2.2.1 = some (ty0 k)) (hnm : ∀ a, a < N → ∀ b, b < N → a ≠ b → (T a).2.1 ≠ (T b).2.1) (q0 : Nat) {fs : List Value} (he : ws[q0]? = some (a, .inr (ci, fs))) (hc : vwCl[ci]? = some (C, T, N)) (k : Nat) (hk : k < N) (hlink : Cond.fieldLink own index ref (T k).2.1 (T k).2.2.1 ∈ wU) (hsame : ∀ x, X.s.fieldFound? (T k).1 (T k).2.1 (T k).2.2.1 = some x → X.s.fieldFound? ref (T k).2.1 (T k).2.2.1 = some x) (hfin : (T k).2.2.2 = true) (hdecl : (T k).1 = own) {ty : FieldType} {v : Value} (hd : parseFieldDescriptor (T k).2.2.1 = some ty) (hn : narrow ty v = v) (hfit : fits ty v = true) (hl : k < fs.length) (ws' : va_W) (hws : ws.set q0 (a, .inr (ci, fs.set k v)) = ws') (hdg : decode cc pc = .ok (.putfield index, 3))
    (kk : G X nL ce sl (pc + 3) lv st ws') : G X nL ce sl pc lv (v :: .ref a :: st) ws := by
  intro H locs ls hP hD hS h
  exact va_putF (D := X.E.D) (cl := vwCl) (C := C) (T := T) (N := N) hX.hx hX.hb hX.hts hin ty0 hty hnm hX.hown hX.hK hP hD hS q0 he hc k hk (hX.hts _ hlink) hsame hfin hin2 hdecl hd hn hfit hl hdg (fun H1 locs1 hP1 hD1 hS1 => kk H1 locs1 ls (hws ▸ hP1) (hws ▸ hD1) hS1 h)
theorem g_iald (hX : Ok X cc nL own) (q0 : Nat) {a n : Nat} {f : Nat → Int32} (ha : ws[q0]? = some (a, .inl (X.E.cI, n, .inl f))) {i : Int32} (hin : vp_in i n) (j : Nat) (hj : i.toNatClampNeg = j) (hdg : decode cc pc = .ok (.iaload, 1)) (kk : G X nL ce sl (pc + 1) lv (.int (f j) :: st) ws) : G X nL ce sl pc lv (.int i :: .ref a :: st) ws :=
  fun H locs ls hP hD hS h => va_iald (D := X.E.D) (cl := vwCl) hX.hx hX.hb hX.hK hP q0 0 ha rfl hin hdg (hj ▸ kk H locs ls hP hD hS h)
theorem g_bald (hX : Ok X cc nL own) (q0 : Nat) {a n : Nat} {f : Nat → Int32} (ha : ws[q0]? = some (a, .inl (X.E.cB, n, .inl f))) {i : Int32} (hin : vp_in i n) (j : Nat) (hj : i.toNatClampNeg = j) (hdg : decode cc pc = .ok (.baload, 1)) (kk : G X nL ce sl (pc + 1) lv (.int (f j) :: st) ws) : G X nL ce sl pc lv (.int i :: .ref a :: st) ws :=
  fun H locs ls hP hD hS h => va_bald (D := X.E.D) (cl := vwCl) hX.hx hX.hb hX.hK hP q0 1 ha rfl hin hdg (hj ▸ kk H locs ls hP hD hS h)
theorem g_iast (hX : Ok X cc nL own) (q0 : Nat) {a n : Nat} {f : Nat → Int32} (ha : ws[q0]? = some (a, .inl (X.E.cI, n, .inl f))) {i x : Int32} (hin : vp_in i n) (j : Nat) (hj : i.toNatClampNeg = j) (ws' : va_W) (hws : ws.set q0 (a, .inl (X.E.cI, n, .inl (upd f j x))) = ws') (hdg : decode cc pc = .ok (.iastore, 1)) (kk : G X nL ce sl (pc + 1) lv st ws') : G X nL ce sl pc lv (.int x :: .int i :: .ref a :: st) ws := by
  subst hj
  intro H locs ls hP hD hS h
  exact va_iast (D := X.E.D) (cl := vwCl) hX.hx hX.hb hX.hK hP hD hS q0 0 ha rfl hin hdg (fun H1 locs1 hP1 hD1 hS1 => kk H1 locs1 ls (hws ▸ hP1) (hws ▸ hD1) hS1 h)
theorem g_bast (hX : Ok X cc nL own) (q0 : Nat) {a n : Nat} {f : Nat → Int32} (ha : ws[q0]? = some (a, .inl (X.E.cB, n, .inl f))) {i x : Int32} (hin : vp_in i n) (j : Nat) (hj : i.toNatClampNeg = j) (ws' : va_W) (hws : ws.set q0 (a, .inl (X.E.cB, n, .inl (upd f j x.toInt8.toInt32))) = ws') (hdg : decode cc pc = .ok (.bastore, 1)) (kk : G X nL ce sl (pc + 1) lv st ws') : G X nL ce sl pc lv (.int x :: .int i :: .ref a :: st) ws := by
  subst hj
  intro H locs ls hP hD hS h
  exact va_bast (D := X.E.D) (cl := vwCl) hX.hx hX.hb hX.hK hP hD hS q0 1 ha rfl hin hdg (fun H1 locs1 hP1 hD1 hS1 => kk H1 locs1 ls (by rw [vp_nar_byte] at hP1; exact hws ▸ hP1) (by rw [vp_nar_byte] at hD1; exact hws ▸ hD1) hS1 h)
theorem g_aald (hX : Ok X cc nL own) (q0 t0 : Nat) {a n : Nat} {cA : ClassId} {C : String} {f : Nat → Option Nat} (ha : ws[q0]? = some (a, .inl (cA, n, .inr (.inr (.inr (.inr f)))))) (ht : X.E.tys[t0]? = some (cA, .object C)) {i : Int32} (hin : vp_in i n) {v : Nat} (hv : f i.toNatClampNeg = some v) (hdg : decode cc pc = .ok (.aaload, 1)) (kk : G X nL ce sl (pc + 1) lv (.ref v :: st) ws) : G X nL ce sl pc lv (.int i :: .ref a :: st) ws :=
  fun H locs ls hP hD hS h => va_aldq (D := X.E.D) (cl := vwCl) hX.hx hX.hb hX.hK hP q0 t0 ha ht hin hdg (by rw [hv]; exact kk H locs ls hP hD hS h)
theorem g_alen (hX : Ok X cc nL own) (q0 t0 : Nat) {a : Nat} {cA : ClassId} {x : vp_A} (ha : ws[q0]? = some (a, .inl (cA, x))) {ty : FieldType} (ht : X.E.tys[t0]? = some (cA, ty)) {v : Int32} (hv : Int32.ofNat x.1 = v) (hdg : decode cc pc = .ok (.arraylength, 1)) (kk : G X nL ce sl (pc + 1) lv (.int v :: st) ws) : G X nL ce sl pc lv (.ref a :: st) ws :=
  fun H locs ls hP hD hS h => va_alen (D := X.E.D) (cl := vwCl) hX.hx hX.hb hX.hK hP q0 t0 ha ht hv hdg (kk H locs ls hP hD hS h)
/-! ===== Math.min, Math.max ===== -/
def KwM (own : String) (idx : Nat) (y : MethodName) (b : ByteArray) : Prop := Cond.methodLink own idx y ∈ wU ∧ Cond.static y ∈ wU ∧ Cond.initialized "java/lang/Math" ∈ wU ∧ Cond.code y b 2 (some .int) ∈ wU
theorem g_min (hX : Ok X cc nL own) (hq : Rq X dX mcX msX retX PostX) {idx : Nat} (hw : KwM own idx Lib.Math.min.name Lib.Math.min.code) (hd : 0 < dX) (hc : ce ≤ mcX) (hs : sl ≤ msX) (hcat : (st.map fun v => v.category).sum ≤ 8) {x y : Int32} (hdg : decode cc pc = .ok (.invokestatic idx, 3)) (kk : G X nL ce sl (pc + 3) lv (.int (if y < x then y else x) :: st) ws) : G X nL ce sl pc lv (.int y :: .int x :: st) ws :=
  fun H locs ls hP hD hS h => va_mmin hX.hx hX.hb (by rw [hX.hml]; exact h.1.symm) hX.hown (hX.hts _ hw.1) (hX.hts _ hw.2.1) (hX.hts _ hw.2.2.1) (hX.hts _ hw.2.2.2) (by rw [hq.1]; exact hd) (by rw [hq.1]; simp only [rmD]; omega) (by rw [hq.1]; exact hc) (by rw [hq.1]; exact hs) hdg (kk H locs ls hP hD hS h)
theorem g_max (hX : Ok X cc nL own) (hq : Rq X dX mcX msX retX PostX) {idx : Nat} (hw : KwM own idx Lib.Math.max.name Lib.Math.max.code) (hd : 0 < dX) (hc : ce ≤ mcX) (hs : sl ≤ msX) (hcat : (st.map fun v => v.category).sum ≤ 8) {x y : Int32} (hdg : decode cc pc = .ok (.invokestatic idx, 3)) (kk : G X nL ce sl (pc + 3) lv (.int (if x < y then y else x) :: st) ws) : G X nL ce sl pc lv (.int y :: .int x :: st) ws :=
  fun H locs ls hP hD hS h => va_mmax hX.hx hX.hb (by rw [hX.hml]; exact h.1.symm) hX.hown (hX.hts _ hw.1) (hX.hts _ hw.2.1) (hX.hts _ hw.2.2.1) (hX.hts _ hw.2.2.2) (by rw [hq.1]; exact hd) (by rw [hq.1]; simp only [rmD]; omega) (by rw [hq.1]; exact hc) (by rw [hq.1]; exact hs) hdg (kk H locs ls hP hD hS h)
end BOXC
/-- a class's field words -/
theorem u_inU {C : String} {T : u_T} {N : Nat} (h : ∀ k, k < N → u_lay C T k ∈ wU) : ∀ w ∈ u_ws C T N, w ∈ wU := by
  intro w hw
  obtain ⟨k, hk, rfl⟩ := List.mem_map.mp hw
  exact h k (List.mem_range.mp hk)
end
section
theorem dX12_init_0 : decode cX12_init 0 = .ok (.aload_n 0, 1) := by decide +kernel
theorem dX12_init_1 : decode cX12_init 1 = .ok (.invokespecial 1, 3) := by decide +kernel
theorem dX12_init_4 : decode cX12_init 4 = .ok (.aload_n 0, 1) := by decide +kernel
theorem dX12_init_5 : decode cX12_init 5 = .ok (.sipush 206, 3) := by decide +kernel
theorem dX12_init_8 : decode cX12_init 8 = .ok (.newarray .int, 2) := by decide +kernel
theorem dX12_init_10 : decode cX12_init 10 = .ok (.putfield 7, 3) := by decide +kernel
theorem dX12_init_13 : decode cX12_init 13 = .ok (.aload_n 0, 1) := by decide +kernel
theorem dX12_init_14 : decode cX12_init 14 = .ok (.sipush 206, 3) := by decide +kernel
theorem dX12_init_17 : decode cX12_init 17 = .ok (.newarray .int, 2) := by decide +kernel
theorem dX12_init_19 : decode cX12_init 19 = .ok (.putfield 13, 3) := by decide +kernel
theorem dX12_init_22 : decode cX12_init 22 = .ok (.aload_n 0, 1) := by decide +kernel
theorem dX12_init_23 : decode cX12_init 23 = .ok (.sipush 206, 3) := by decide +kernel
theorem dX12_init_26 : decode cX12_init 26 = .ok (.newarray .int, 2) := by decide +kernel
theorem dX12_init_28 : decode cX12_init 28 = .ok (.putfield 16, 3) := by decide +kernel
theorem dX12_init_31 : decode cX12_init 31 = .ok (.aload_n 0, 1) := by decide +kernel
theorem dX12_init_32 : decode cX12_init 32 = .ok (.sipush 206, 3) := by decide +kernel
theorem dX12_init_35 : decode cX12_init 35 = .ok (.newarray .int, 2) := by decide +kernel
theorem dX12_init_37 : decode cX12_init 37 = .ok (.putfield 19, 3) := by decide +kernel
theorem dX12_init_40 : decode cX12_init 40 = .ok (.aload_n 0, 1) := by decide +kernel
theorem dX12_init_41 : decode cX12_init 41 = .ok (.bipush 8, 2) := by decide +kernel
theorem dX12_init_43 : decode cX12_init 43 = .ok (.newarray .int, 2) := by decide +kernel
theorem dX12_init_45 : decode cX12_init 45 = .ok (.dup, 1) := by decide +kernel
theorem dX12_init_46 : decode cX12_init 46 = .ok (.iconst 0, 1) := by decide +kernel
theorem dX12_init_47 : decode cX12_init 47 = .ok (.iconst 1, 1) := by decide +kernel
theorem dX12_init_48 : decode cX12_init 48 = .ok (.iastore, 1) := by decide +kernel
theorem dX12_init_49 : decode cX12_init 49 = .ok (.dup, 1) := by decide +kernel
theorem dX12_init_50 : decode cX12_init 50 = .ok (.iconst 1, 1) := by decide +kernel
theorem dX12_init_51 : decode cX12_init 51 = .ok (.iconst 3, 1) := by decide +kernel
theorem dX12_init_52 : decode cX12_init 52 = .ok (.iastore, 1) := by decide +kernel
theorem dX12_init_53 : decode cX12_init 53 = .ok (.dup, 1) := by decide +kernel
theorem dX12_init_54 : decode cX12_init 54 = .ok (.iconst 2, 1) := by decide +kernel
theorem dX12_init_55 : decode cX12_init 55 = .ok (.bipush 9, 2) := by decide +kernel
theorem dX12_init_57 : decode cX12_init 57 = .ok (.iastore, 1) := by decide +kernel
theorem dX12_init_58 : decode cX12_init 58 = .ok (.dup, 1) := by decide +kernel
theorem dX12_init_59 : decode cX12_init 59 = .ok (.iconst 3, 1) := by decide +kernel
theorem dX12_init_60 : decode cX12_init 60 = .ok (.bipush 27, 2) := by decide +kernel
theorem dX12_init_62 : decode cX12_init 62 = .ok (.iastore, 1) := by decide +kernel
theorem dX12_init_63 : decode cX12_init 63 = .ok (.dup, 1) := by decide +kernel
theorem dX12_init_64 : decode cX12_init 64 = .ok (.iconst 4, 1) := by decide +kernel
theorem dX12_init_65 : decode cX12_init 65 = .ok (.bipush 81, 2) := by decide +kernel
theorem dX12_init_67 : decode cX12_init 67 = .ok (.iastore, 1) := by decide +kernel
theorem dX12_init_68 : decode cX12_init 68 = .ok (.dup, 1) := by decide +kernel
theorem dX12_init_69 : decode cX12_init 69 = .ok (.iconst 5, 1) := by decide +kernel
theorem dX12_init_70 : decode cX12_init 70 = .ok (.sipush 243, 3) := by decide +kernel
theorem dX12_init_73 : decode cX12_init 73 = .ok (.iastore, 1) := by decide +kernel
theorem dX12_init_74 : decode cX12_init 74 = .ok (.dup, 1) := by decide +kernel
theorem dX12_init_75 : decode cX12_init 75 = .ok (.bipush 6, 2) := by decide +kernel
theorem dX12_init_77 : decode cX12_init 77 = .ok (.sipush 729, 3) := by decide +kernel
theorem dX12_init_80 : decode cX12_init 80 = .ok (.iastore, 1) := by decide +kernel
theorem dX12_init_81 : decode cX12_init 81 = .ok (.dup, 1) := by decide +kernel
theorem dX12_init_82 : decode cX12_init 82 = .ok (.bipush 7, 2) := by decide +kernel
theorem dX12_init_84 : decode cX12_init 84 = .ok (.sipush 2187, 3) := by decide +kernel
theorem dX12_init_87 : decode cX12_init 87 = .ok (.iastore, 1) := by decide +kernel
theorem dX12_init_88 : decode cX12_init 88 = .ok (.putfield 22, 3) := by decide +kernel
theorem dX12_init_91 : decode cX12_init 91 = .ok (.aload_n 0, 1) := by decide +kernel
theorem dX12_init_92 : decode cX12_init 92 = .ok (.bipush 6, 2) := by decide +kernel
theorem dX12_init_94 : decode cX12_init 94 = .ok (.newarray .int, 2) := by decide +kernel
theorem dX12_init_96 : decode cX12_init 96 = .ok (.putfield 25, 3) := by decide +kernel
theorem dX12_init_99 : decode cX12_init 99 = .ok (.aload_n 0, 1) := by decide +kernel
theorem dX12_init_100 : decode cX12_init 100 = .ok (.iconst 4, 1) := by decide +kernel
theorem dX12_init_101 : decode cX12_init 101 = .ok (.newarray .int, 2) := by decide +kernel
theorem dX12_init_103 : decode cX12_init 103 = .ok (.putfield 28, 3) := by decide +kernel
theorem dX12_init_106 : decode cX12_init 106 = .ok (.aload_n 0, 1) := by decide +kernel
theorem dX12_init_107 : decode cX12_init 107 = .ok (.iconst 4, 1) := by decide +kernel
theorem dX12_init_108 : decode cX12_init 108 = .ok (.newarray .int, 2) := by decide +kernel
theorem dX12_init_110 : decode cX12_init 110 = .ok (.putfield 31, 3) := by decide +kernel
theorem dX12_init_113 : decode cX12_init 113 = .ok (.aload_n 0, 1) := by decide +kernel
theorem dX12_init_114 : decode cX12_init 114 = .ok (.sipush 160, 3) := by decide +kernel
theorem dX12_init_117 : decode cX12_init 117 = .ok (.newarray .int, 2) := by decide +kernel
theorem dX12_init_119 : decode cX12_init 119 = .ok (.putfield 34, 3) := by decide +kernel
theorem dX12_init_122 : decode cX12_init 122 = .ok (.aload_n 0, 1) := by decide +kernel
theorem dX12_init_123 : decode cX12_init 123 = .ok (.bipush 40, 2) := by decide +kernel
theorem dX12_init_125 : decode cX12_init 125 = .ok (.newarray .int, 2) := by decide +kernel
theorem dX12_init_127 : decode cX12_init 127 = .ok (.putfield 37, 3) := by decide +kernel
theorem dX12_init_130 : decode cX12_init 130 = .ok (.aload_n 0, 1) := by decide +kernel
theorem dX12_init_131 : decode cX12_init 131 = .ok (.bipush 8, 2) := by decide +kernel
theorem dX12_init_133 : decode cX12_init 133 = .ok (.newarray .int, 2) := by decide +kernel
theorem dX12_init_135 : decode cX12_init 135 = .ok (.putfield 40, 3) := by decide +kernel
theorem dX12_init_138 : decode cX12_init 138 = .ok (.aload_n 0, 1) := by decide +kernel
theorem dX12_init_139 : decode cX12_init 139 = .ok (.bipush 40, 2) := by decide +kernel
theorem dX12_init_141 : decode cX12_init 141 = .ok (.newarray .int, 2) := by decide +kernel
theorem dX12_init_143 : decode cX12_init 143 = .ok (.putfield 43, 3) := by decide +kernel
theorem dX12_init_146 : decode cX12_init 146 = .ok (.aload_n 0, 1) := by decide +kernel
theorem dX12_init_147 : decode cX12_init 147 = .ok (.getfield 7, 3) := by decide +kernel
theorem dX12_init_150 : decode cX12_init 150 = .ok (.iconst 2, 1) := by decide +kernel
theorem dX12_init_151 : decode cX12_init 151 = .ok (.iconst 1, 1) := by decide +kernel
theorem dX12_init_152 : decode cX12_init 152 = .ok (.iastore, 1) := by decide +kernel
theorem dX12_init_153 : decode cX12_init 153 = .ok (.aload_n 0, 1) := by decide +kernel
theorem dX12_init_154 : decode cX12_init 154 = .ok (.getfield 7, 3) := by decide +kernel
theorem dX12_init_157 : decode cX12_init 157 = .ok (.bipush 6, 2) := by decide +kernel
theorem dX12_init_159 : decode cX12_init 159 = .ok (.iconst (-1), 1) := by decide +kernel
theorem dX12_init_160 : decode cX12_init 160 = .ok (.iastore, 1) := by decide +kernel
theorem dX12_init_161 : decode cX12_init 161 = .ok (.aload_n 0, 1) := by decide +kernel
theorem dX12_init_162 : decode cX12_init 162 = .ok (.getfield 7, 3) := by decide +kernel
theorem dX12_init_165 : decode cX12_init 165 = .ok (.bipush 7, 2) := by decide +kernel
theorem dX12_init_167 : decode cX12_init 167 = .ok (.iconst (-1), 1) := by decide +kernel
theorem dX12_init_168 : decode cX12_init 168 = .ok (.iastore, 1) := by decide +kernel
theorem dX12_init_169 : decode cX12_init 169 = .ok (.aload_n 0, 1) := by decide +kernel
theorem dX12_init_170 : decode cX12_init 170 = .ok (.getfield 7, 3) := by decide +kernel
theorem dX12_init_173 : decode cX12_init 173 = .ok (.bipush 9, 2) := by decide +kernel
theorem dX12_init_175 : decode cX12_init 175 = .ok (.iconst 3, 1) := by decide +kernel
theorem dX12_init_176 : decode cX12_init 176 = .ok (.iastore, 1) := by decide +kernel
theorem dX12_init_177 : decode cX12_init 177 = .ok (.return_, 1) := by decide +kernel
theorem dX12_in_0 : decode cX12_in 0 = .ok (.iload_n 0, 1) := by decide +kernel
theorem dX12_in_1 : decode cX12_in 1 = .ok (.iload_n 1, 1) := by decide +kernel
theorem dX12_in_2 : decode cX12_in 2 = .ok (.if_icmp .lt 12, 3) := by decide +kernel
theorem dX12_in_5 : decode cX12_in 5 = .ok (.iload_n 0, 1) := by decide +kernel
theorem dX12_in_6 : decode cX12_in 6 = .ok (.iload_n 2, 1) := by decide +kernel
theorem dX12_in_7 : decode cX12_in 7 = .ok (.if_icmp .gt 7, 3) := by decide +kernel
theorem dX12_in_10 : decode cX12_in 10 = .ok (.iconst 1, 1) := by decide +kernel
theorem dX12_in_11 : decode cX12_in 11 = .ok (.goto 4, 3) := by decide +kernel
theorem dX12_in_14 : decode cX12_in 14 = .ok (.iconst 0, 1) := by decide +kernel
theorem dX12_in_15 : decode cX12_in 15 = .ok (.ireturn, 1) := by decide +kernel
theorem dX12_errs_0 : decode cX12_errs 0 = .ok (.aload_n 0, 1) := by decide +kernel
theorem dX12_errs_1 : decode cX12_errs 1 = .ok (.getfield 25, 3) := by decide +kernel
theorem dX12_errs_4 : decode cX12_errs 4 = .ok (.ldc 46, 2) := by decide +kernel
theorem dX12_errs_6 : decode cX12_errs 6 = .ok (.iload_n 1, 1) := by decide +kernel
theorem dX12_errs_7 : decode cX12_errs 7 = .ok (.isub, 1) := by decide +kernel
theorem dX12_errs_8 : decode cX12_errs 8 = .ok (.dup2, 1) := by decide +kernel
theorem dX12_errs_9 : decode cX12_errs 9 = .ok (.iaload, 1) := by decide +kernel
theorem dX12_errs_10 : decode cX12_errs 10 = .ok (.iconst 1, 1) := by decide +kernel
theorem dX12_errs_11 : decode cX12_errs 11 = .ok (.iadd, 1) := by decide +kernel
theorem dX12_errs_12 : decode cX12_errs 12 = .ok (.iastore, 1) := by decide +kernel
theorem dX12_errs_13 : decode cX12_errs 13 = .ok (.iload_n 1, 1) := by decide +kernel
theorem dX12_errs_14 : decode cX12_errs 14 = .ok (.ireturn, 1) := by decide +kernel
theorem dX12_held_0 : decode cX12_held 0 = .ok (.iload_n 0, 1) := by decide +kernel
theorem dX12_held_1 : decode cX12_held 1 = .ok (.iload_n 1, 1) := by decide +kernel
theorem dX12_held_2 : decode cX12_held 2 = .ok (.if_icmp .ge 7, 3) := by decide +kernel
theorem dX12_held_5 : decode cX12_held 5 = .ok (.iload_n 1, 1) := by decide +kernel
theorem dX12_held_6 : decode cX12_held 6 = .ok (.goto 13, 3) := by decide +kernel
theorem dX12_held_9 : decode cX12_held 9 = .ok (.iload_n 0, 1) := by decide +kernel
theorem dX12_held_10 : decode cX12_held 10 = .ok (.iload_n 2, 1) := by decide +kernel
theorem dX12_held_11 : decode cX12_held 11 = .ok (.if_icmp .le 7, 3) := by decide +kernel
theorem dX12_held_14 : decode cX12_held 14 = .ok (.iload_n 2, 1) := by decide +kernel
theorem dX12_held_15 : decode cX12_held 15 = .ok (.goto 4, 3) := by decide +kernel
theorem dX12_held_18 : decode cX12_held 18 = .ok (.iload_n 0, 1) := by decide +kernel
theorem dX12_held_19 : decode cX12_held 19 = .ok (.ireturn, 1) := by decide +kernel
theorem dX12_moveAll_0 : decode cX12_moveAll 0 = .ok (.iconst 0, 1) := by decide +kernel
theorem dX12_moveAll_1 : decode cX12_moveAll 1 = .ok (.istore_n 3, 1) := by decide +kernel
theorem dX12_moveAll_2 : decode cX12_moveAll 2 = .ok (.iload_n 3, 1) := by decide +kernel
theorem dX12_moveAll_3 : decode cX12_moveAll 3 = .ok (.sipush 206, 3) := by decide +kernel
theorem dX12_moveAll_6 : decode cX12_moveAll 6 = .ok (.if_icmp .ge 15, 3) := by decide +kernel
theorem dX12_moveAll_9 : decode cX12_moveAll 9 = .ok (.aload_n 2, 1) := by decide +kernel
theorem dX12_moveAll_10 : decode cX12_moveAll 10 = .ok (.iload_n 3, 1) := by decide +kernel
theorem dX12_moveAll_11 : decode cX12_moveAll 11 = .ok (.aload_n 1, 1) := by decide +kernel
theorem dX12_moveAll_12 : decode cX12_moveAll 12 = .ok (.iload_n 3, 1) := by decide +kernel
theorem dX12_moveAll_13 : decode cX12_moveAll 13 = .ok (.iaload, 1) := by decide +kernel
theorem dX12_moveAll_14 : decode cX12_moveAll 14 = .ok (.iastore, 1) := by decide +kernel
theorem dX12_moveAll_15 : decode cX12_moveAll 15 = .ok (.iinc 3 1, 3) := by decide +kernel
theorem dX12_moveAll_18 : decode cX12_moveAll 18 = .ok (.goto (-16), 3) := by decide +kernel
theorem dX12_moveAll_21 : decode cX12_moveAll 21 = .ok (.return_, 1) := by decide +kernel
theorem dX12_isFact_0 : decode cX12_isFact 0 = .ok (.iload_n 0, 1) := by decide +kernel
theorem dX12_isFact_1 : decode cX12_isFact 1 = .ok (.iconst 0, 1) := by decide +kernel
theorem dX12_isFact_2 : decode cX12_isFact 2 = .ok (.bipush 7, 2) := by decide +kernel
theorem dX12_isFact_4 : decode cX12_isFact 4 = .ok (.invokestatic 47, 3) := by decide +kernel
theorem dX12_isFact_7 : decode cX12_isFact 7 = .ok (.ireturn, 1) := by decide +kernel
theorem dX12_hear_0 : decode cX12_hear 0 = .ok (.iload_n 1, 1) := by decide +kernel
theorem dX12_hear_1 : decode cX12_hear 1 = .ok (.invokestatic 51, 3) := by decide +kernel
theorem dX12_hear_4 : decode cX12_hear 4 = .ok (.ifCond .eq 12, 3) := by decide +kernel
theorem dX12_hear_7 : decode cX12_hear 7 = .ok (.iload_n 2, 1) := by decide +kernel
theorem dX12_hear_8 : decode cX12_hear 8 = .ok (.iconst 0, 1) := by decide +kernel
theorem dX12_hear_9 : decode cX12_hear 9 = .ok (.iconst 2, 1) := by decide +kernel
theorem dX12_hear_10 : decode cX12_hear 10 = .ok (.invokestatic 47, 3) := by decide +kernel
theorem dX12_hear_13 : decode cX12_hear 13 = .ok (.ifCond .ne 10, 3) := by decide +kernel
theorem dX12_hear_16 : decode cX12_hear 16 = .ok (.aload_n 0, 1) := by decide +kernel
theorem dX12_hear_17 : decode cX12_hear 17 = .ok (.ldc 55, 2) := by decide +kernel
theorem dX12_hear_19 : decode cX12_hear 19 = .ok (.invokevirtual 56, 3) := by decide +kernel
theorem dX12_hear_22 : decode cX12_hear 22 = .ok (.ireturn, 1) := by decide +kernel
theorem dX12_hear_23 : decode cX12_hear 23 = .ok (.aload_n 0, 1) := by decide +kernel
theorem dX12_hear_24 : decode cX12_hear 24 = .ok (.getfield 7, 3) := by decide +kernel
theorem dX12_hear_27 : decode cX12_hear 27 = .ok (.bipush 10, 2) := by decide +kernel
theorem dX12_hear_29 : decode cX12_hear 29 = .ok (.iload_n 1, 1) := by decide +kernel
theorem dX12_hear_30 : decode cX12_hear 30 = .ok (.iadd, 1) := by decide +kernel
theorem dX12_hear_31 : decode cX12_hear 31 = .ok (.iaload, 1) := by decide +kernel
theorem dX12_hear_32 : decode cX12_hear 32 = .ok (.istore_n 3, 1) := by decide +kernel
theorem dX12_hear_33 : decode cX12_hear 33 = .ok (.aload_n 0, 1) := by decide +kernel
theorem dX12_hear_34 : decode cX12_hear 34 = .ok (.getfield 7, 3) := by decide +kernel
theorem dX12_hear_37 : decode cX12_hear 37 = .ok (.bipush 10, 2) := by decide +kernel
theorem dX12_hear_39 : decode cX12_hear 39 = .ok (.iload_n 1, 1) := by decide +kernel
theorem dX12_hear_40 : decode cX12_hear 40 = .ok (.iadd, 1) := by decide +kernel
theorem dX12_hear_41 : decode cX12_hear 41 = .ok (.iload_n 2, 1) := by decide +kernel
theorem dX12_hear_42 : decode cX12_hear 42 = .ok (.iastore, 1) := by decide +kernel
theorem dX12_hear_43 : decode cX12_hear 43 = .ok (.iload_n 3, 1) := by decide +kernel
theorem dX12_hear_44 : decode cX12_hear 44 = .ok (.ireturn, 1) := by decide +kernel
theorem dX12_heardAll_0 : decode cX12_heardAll 0 = .ok (.iconst 0, 1) := by decide +kernel
theorem dX12_heardAll_1 : decode cX12_heardAll 1 = .ok (.istore_n 1, 1) := by decide +kernel
theorem dX12_heardAll_2 : decode cX12_heardAll 2 = .ok (.iconst 0, 1) := by decide +kernel
theorem dX12_heardAll_3 : decode cX12_heardAll 3 = .ok (.istore_n 2, 1) := by decide +kernel
theorem dX12_heardAll_4 : decode cX12_heardAll 4 = .ok (.iload_n 2, 1) := by decide +kernel
theorem dX12_heardAll_5 : decode cX12_heardAll 5 = .ok (.bipush 8, 2) := by decide +kernel
theorem dX12_heardAll_7 : decode cX12_heardAll 7 = .ok (.if_icmp .ge 28, 3) := by decide +kernel
theorem dX12_heardAll_10 : decode cX12_heardAll 10 = .ok (.iload_n 1, 1) := by decide +kernel
theorem dX12_heardAll_11 : decode cX12_heardAll 11 = .ok (.aload_n 0, 1) := by decide +kernel
theorem dX12_heardAll_12 : decode cX12_heardAll 12 = .ok (.getfield 22, 3) := by decide +kernel
theorem dX12_heardAll_15 : decode cX12_heardAll 15 = .ok (.iload_n 2, 1) := by decide +kernel
theorem dX12_heardAll_16 : decode cX12_heardAll 16 = .ok (.iaload, 1) := by decide +kernel
theorem dX12_heardAll_17 : decode cX12_heardAll 17 = .ok (.aload_n 0, 1) := by decide +kernel
theorem dX12_heardAll_18 : decode cX12_heardAll 18 = .ok (.getfield 7, 3) := by decide +kernel
theorem dX12_heardAll_21 : decode cX12_heardAll 21 = .ok (.bipush 10, 2) := by decide +kernel
theorem dX12_heardAll_23 : decode cX12_heardAll 23 = .ok (.iload_n 2, 1) := by decide +kernel
theorem dX12_heardAll_24 : decode cX12_heardAll 24 = .ok (.iadd, 1) := by decide +kernel
theorem dX12_heardAll_25 : decode cX12_heardAll 25 = .ok (.iaload, 1) := by decide +kernel
theorem dX12_heardAll_26 : decode cX12_heardAll 26 = .ok (.imul, 1) := by decide +kernel
theorem dX12_heardAll_27 : decode cX12_heardAll 27 = .ok (.iadd, 1) := by decide +kernel
theorem dX12_heardAll_28 : decode cX12_heardAll 28 = .ok (.istore_n 1, 1) := by decide +kernel
theorem dX12_heardAll_29 : decode cX12_heardAll 29 = .ok (.iinc 2 1, 3) := by decide +kernel
theorem dX12_heardAll_32 : decode cX12_heardAll 32 = .ok (.goto (-28), 3) := by decide +kernel
theorem dX12_heardAll_35 : decode cX12_heardAll 35 = .ok (.iload_n 1, 1) := by decide +kernel
theorem dX12_heardAll_36 : decode cX12_heardAll 36 = .ok (.ireturn, 1) := by decide +kernel
theorem dX12_heard_0 : decode cX12_heard 0 = .ok (.aload_n 0, 1) := by decide +kernel
theorem dX12_heard_1 : decode cX12_heard 1 = .ok (.invokevirtual 60, 3) := by decide +kernel
theorem dX12_heard_4 : decode cX12_heard 4 = .ok (.ireturn, 1) := by decide +kernel
theorem dX12_hearsAll_0 : decode cX12_hearsAll 0 = .ok (.iconst 0, 1) := by decide +kernel
theorem dX12_hearsAll_1 : decode cX12_hearsAll 1 = .ok (.istore_n 2, 1) := by decide +kernel
theorem dX12_hearsAll_2 : decode cX12_hearsAll 2 = .ok (.iload_n 2, 1) := by decide +kernel
theorem dX12_hearsAll_3 : decode cX12_hearsAll 3 = .ok (.bipush 8, 2) := by decide +kernel
theorem dX12_hearsAll_5 : decode cX12_hearsAll 5 = .ok (.if_icmp .ge 28, 3) := by decide +kernel
theorem dX12_hearsAll_8 : decode cX12_hearsAll 8 = .ok (.aload_n 0, 1) := by decide +kernel
theorem dX12_hearsAll_9 : decode cX12_hearsAll 9 = .ok (.getfield 7, 3) := by decide +kernel
theorem dX12_hearsAll_12 : decode cX12_hearsAll 12 = .ok (.bipush 10, 2) := by decide +kernel
theorem dX12_hearsAll_14 : decode cX12_hearsAll 14 = .ok (.iload_n 2, 1) := by decide +kernel
theorem dX12_hearsAll_15 : decode cX12_hearsAll 15 = .ok (.iadd, 1) := by decide +kernel
theorem dX12_hearsAll_16 : decode cX12_hearsAll 16 = .ok (.iload_n 1, 1) := by decide +kernel
theorem dX12_hearsAll_17 : decode cX12_hearsAll 17 = .ok (.aload_n 0, 1) := by decide +kernel
theorem dX12_hearsAll_18 : decode cX12_hearsAll 18 = .ok (.getfield 22, 3) := by decide +kernel
theorem dX12_hearsAll_21 : decode cX12_hearsAll 21 = .ok (.iload_n 2, 1) := by decide +kernel
theorem dX12_hearsAll_22 : decode cX12_hearsAll 22 = .ok (.iaload, 1) := by decide +kernel
theorem dX12_hearsAll_23 : decode cX12_hearsAll 23 = .ok (.idiv, 1) := by decide +kernel
theorem dX12_hearsAll_24 : decode cX12_hearsAll 24 = .ok (.iconst 3, 1) := by decide +kernel
theorem dX12_hearsAll_25 : decode cX12_hearsAll 25 = .ok (.irem, 1) := by decide +kernel
theorem dX12_hearsAll_26 : decode cX12_hearsAll 26 = .ok (.iastore, 1) := by decide +kernel
theorem dX12_hearsAll_27 : decode cX12_hearsAll 27 = .ok (.iinc 2 1, 3) := by decide +kernel
theorem dX12_hearsAll_30 : decode cX12_hearsAll 30 = .ok (.goto (-28), 3) := by decide +kernel
theorem dX12_hearsAll_33 : decode cX12_hearsAll 33 = .ok (.return_, 1) := by decide +kernel
theorem dX12_world_0 : decode cX12_world 0 = .ok (.iload_n 1, 1) := by decide +kernel
theorem dX12_world_1 : decode cX12_world 1 = .ok (.iconst 0, 1) := by decide +kernel
theorem dX12_world_2 : decode cX12_world 2 = .ok (.sipush 255, 3) := by decide +kernel
theorem dX12_world_5 : decode cX12_world 5 = .ok (.invokestatic 47, 3) := by decide +kernel
theorem dX12_world_8 : decode cX12_world 8 = .ok (.ifCond .ne 10, 3) := by decide +kernel
theorem dX12_world_11 : decode cX12_world 11 = .ok (.aload_n 0, 1) := by decide +kernel
theorem dX12_world_12 : decode cX12_world 12 = .ok (.ldc 55, 2) := by decide +kernel
theorem dX12_world_14 : decode cX12_world 14 = .ok (.invokevirtual 56, 3) := by decide +kernel
theorem dX12_world_17 : decode cX12_world 17 = .ok (.ireturn, 1) := by decide +kernel
theorem dX12_world_18 : decode cX12_world 18 = .ok (.aload_n 0, 1) := by decide +kernel
theorem dX12_world_19 : decode cX12_world 19 = .ok (.getfield 7, 3) := by decide +kernel
theorem dX12_world_22 : decode cX12_world 22 = .ok (.bipush 8, 2) := by decide +kernel
theorem dX12_world_24 : decode cX12_world 24 = .ok (.iaload, 1) := by decide +kernel
theorem dX12_world_25 : decode cX12_world 25 = .ok (.istore_n 2, 1) := by decide +kernel
theorem dX12_world_26 : decode cX12_world 26 = .ok (.aload_n 0, 1) := by decide +kernel
theorem dX12_world_27 : decode cX12_world 27 = .ok (.getfield 7, 3) := by decide +kernel
theorem dX12_world_30 : decode cX12_world 30 = .ok (.bipush 8, 2) := by decide +kernel
theorem dX12_world_32 : decode cX12_world 32 = .ok (.iload_n 1, 1) := by decide +kernel
theorem dX12_world_33 : decode cX12_world 33 = .ok (.iastore, 1) := by decide +kernel
theorem dX12_world_34 : decode cX12_world 34 = .ok (.iload_n 2, 1) := by decide +kernel
theorem dX12_world_35 : decode cX12_world 35 = .ok (.ireturn, 1) := by decide +kernel
theorem dX12_trust_0 : decode cX12_trust 0 = .ok (.iload_n 1, 1) := by decide +kernel
theorem dX12_trust_1 : decode cX12_trust 1 = .ok (.iconst 0, 1) := by decide +kernel
theorem dX12_trust_2 : decode cX12_trust 2 = .ok (.bipush 9, 2) := by decide +kernel
theorem dX12_trust_4 : decode cX12_trust 4 = .ok (.invokestatic 47, 3) := by decide +kernel
theorem dX12_trust_7 : decode cX12_trust 7 = .ok (.ifCond .ne 10, 3) := by decide +kernel
theorem dX12_trust_10 : decode cX12_trust 10 = .ok (.aload_n 0, 1) := by decide +kernel
theorem dX12_trust_11 : decode cX12_trust 11 = .ok (.ldc 55, 2) := by decide +kernel
theorem dX12_trust_13 : decode cX12_trust 13 = .ok (.invokevirtual 56, 3) := by decide +kernel
theorem dX12_trust_16 : decode cX12_trust 16 = .ok (.ireturn, 1) := by decide +kernel
theorem dX12_trust_17 : decode cX12_trust 17 = .ok (.aload_n 0, 1) := by decide +kernel
theorem dX12_trust_18 : decode cX12_trust 18 = .ok (.getfield 7, 3) := by decide +kernel
theorem dX12_trust_21 : decode cX12_trust 21 = .ok (.bipush 9, 2) := by decide +kernel
theorem dX12_trust_23 : decode cX12_trust 23 = .ok (.iaload, 1) := by decide +kernel
theorem dX12_trust_24 : decode cX12_trust 24 = .ok (.istore_n 2, 1) := by decide +kernel
theorem dX12_trust_25 : decode cX12_trust 25 = .ok (.aload_n 0, 1) := by decide +kernel
theorem dX12_trust_26 : decode cX12_trust 26 = .ok (.getfield 7, 3) := by decide +kernel
theorem dX12_trust_29 : decode cX12_trust 29 = .ok (.bipush 9, 2) := by decide +kernel
theorem dX12_trust_31 : decode cX12_trust 31 = .ok (.iload_n 1, 1) := by decide +kernel
theorem dX12_trust_32 : decode cX12_trust 32 = .ok (.iastore, 1) := by decide +kernel
theorem dX12_trust_33 : decode cX12_trust 33 = .ok (.iload_n 2, 1) := by decide +kernel
theorem dX12_trust_34 : decode cX12_trust 34 = .ok (.ireturn, 1) := by decide +kernel
theorem dX12_its_0 : decode cX12_its 0 = .ok (.aload_n 0, 1) := by decide +kernel
theorem dX12_its_1 : decode cX12_its 1 = .ok (.getfield 7, 3) := by decide +kernel
theorem dX12_its_4 : decode cX12_its 4 = .ok (.bipush 18, 2) := by decide +kernel
theorem dX12_its_6 : decode cX12_its 6 = .ok (.iconst 3, 1) := by decide +kernel
theorem dX12_its_7 : decode cX12_its 7 = .ok (.iload_n 1, 1) := by decide +kernel
theorem dX12_its_8 : decode cX12_its 8 = .ok (.imul, 1) := by decide +kernel
theorem dX12_its_9 : decode cX12_its 9 = .ok (.iadd, 1) := by decide +kernel
theorem dX12_its_10 : decode cX12_its 10 = .ok (.iload_n 2, 1) := by decide +kernel
theorem dX12_its_11 : decode cX12_its 11 = .ok (.iadd, 1) := by decide +kernel
theorem dX12_its_12 : decode cX12_its 12 = .ok (.iaload, 1) := by decide +kernel
theorem dX12_its_13 : decode cX12_its 13 = .ok (.ireturn, 1) := by decide +kernel
theorem dX12_isRider_0 : decode cX12_isRider 0 = .ok (.iload_n 1, 1) := by decide +kernel
theorem dX12_isRider_1 : decode cX12_isRider 1 = .ok (.iconst 0, 1) := by decide +kernel
theorem dX12_isRider_2 : decode cX12_isRider 2 = .ok (.aload_n 0, 1) := by decide +kernel
theorem dX12_isRider_3 : decode cX12_isRider 3 = .ok (.getfield 7, 3) := by decide +kernel
theorem dX12_isRider_6 : decode cX12_isRider 6 = .ok (.iconst 3, 1) := by decide +kernel
theorem dX12_isRider_7 : decode cX12_isRider 7 = .ok (.iaload, 1) := by decide +kernel
theorem dX12_isRider_8 : decode cX12_isRider 8 = .ok (.iconst 1, 1) := by decide +kernel
theorem dX12_isRider_9 : decode cX12_isRider 9 = .ok (.isub, 1) := by decide +kernel
theorem dX12_isRider_10 : decode cX12_isRider 10 = .ok (.invokestatic 47, 3) := by decide +kernel
theorem dX12_isRider_13 : decode cX12_isRider 13 = .ok (.ireturn, 1) := by decide +kernel
theorem dX12_rider_0 : decode cX12_rider 0 = .ok (.iload_n 1, 1) := by decide +kernel
theorem dX12_rider_1 : decode cX12_rider 1 = .ok (.iconst 0, 1) := by decide +kernel
theorem dX12_rider_2 : decode cX12_rider 2 = .ok (.bipush 69, 2) := by decide +kernel
theorem dX12_rider_4 : decode cX12_rider 4 = .ok (.invokestatic 47, 3) := by decide +kernel
theorem dX12_rider_7 : decode cX12_rider 7 = .ok (.ifCond .ne 10, 3) := by decide +kernel
theorem dX12_rider_10 : decode cX12_rider 10 = .ok (.aload_n 0, 1) := by decide +kernel
theorem dX12_rider_11 : decode cX12_rider 11 = .ok (.ldc 55, 2) := by decide +kernel
theorem dX12_rider_13 : decode cX12_rider 13 = .ok (.invokevirtual 56, 3) := by decide +kernel
theorem dX12_rider_16 : decode cX12_rider 16 = .ok (.ireturn, 1) := by decide +kernel
theorem dX12_rider_17 : decode cX12_rider 17 = .ok (.aload_n 0, 1) := by decide +kernel
theorem dX12_rider_18 : decode cX12_rider 18 = .ok (.getfield 7, 3) := by decide +kernel
theorem dX12_rider_21 : decode cX12_rider 21 = .ok (.iconst 3, 1) := by decide +kernel
theorem dX12_rider_22 : decode cX12_rider 22 = .ok (.iaload, 1) := by decide +kernel
theorem dX12_rider_23 : decode cX12_rider 23 = .ok (.bipush 6, 2) := by decide +kernel
theorem dX12_rider_25 : decode cX12_rider 25 = .ok (.if_icmp .ne 10, 3) := by decide +kernel
theorem dX12_rider_28 : decode cX12_rider 28 = .ok (.aload_n 0, 1) := by decide +kernel
theorem dX12_rider_29 : decode cX12_rider 29 = .ok (.ldc 64, 2) := by decide +kernel
theorem dX12_rider_31 : decode cX12_rider 31 = .ok (.invokevirtual 56, 3) := by decide +kernel
theorem dX12_rider_34 : decode cX12_rider 34 = .ok (.ireturn, 1) := by decide +kernel
theorem dX12_rider_35 : decode cX12_rider 35 = .ok (.bipush 18, 2) := by decide +kernel
theorem dX12_rider_37 : decode cX12_rider 37 = .ok (.iconst 3, 1) := by decide +kernel
theorem dX12_rider_38 : decode cX12_rider 38 = .ok (.aload_n 0, 1) := by decide +kernel
theorem dX12_rider_39 : decode cX12_rider 39 = .ok (.getfield 7, 3) := by decide +kernel
theorem dX12_rider_42 : decode cX12_rider 42 = .ok (.iconst 3, 1) := by decide +kernel
theorem dX12_rider_43 : decode cX12_rider 43 = .ok (.iaload, 1) := by decide +kernel
theorem dX12_rider_44 : decode cX12_rider 44 = .ok (.imul, 1) := by decide +kernel
theorem dX12_rider_45 : decode cX12_rider 45 = .ok (.iadd, 1) := by decide +kernel
theorem dX12_rider_46 : decode cX12_rider 46 = .ok (.istore_n 2, 1) := by decide +kernel
theorem dX12_rider_47 : decode cX12_rider 47 = .ok (.aload_n 0, 1) := by decide +kernel
theorem dX12_rider_48 : decode cX12_rider 48 = .ok (.getfield 7, 3) := by decide +kernel
theorem dX12_rider_51 : decode cX12_rider 51 = .ok (.iload_n 2, 1) := by decide +kernel
theorem dX12_rider_52 : decode cX12_rider 52 = .ok (.iload_n 1, 1) := by decide +kernel
theorem dX12_rider_53 : decode cX12_rider 53 = .ok (.bipush 10, 2) := by decide +kernel
theorem dX12_rider_55 : decode cX12_rider 55 = .ok (.idiv, 1) := by decide +kernel
theorem dX12_rider_56 : decode cX12_rider 56 = .ok (.iastore, 1) := by decide +kernel
theorem dX12_rider_57 : decode cX12_rider 57 = .ok (.aload_n 0, 1) := by decide +kernel
theorem dX12_rider_58 : decode cX12_rider 58 = .ok (.getfield 7, 3) := by decide +kernel
theorem dX12_rider_61 : decode cX12_rider 61 = .ok (.iload_n 2, 1) := by decide +kernel
theorem dX12_rider_62 : decode cX12_rider 62 = .ok (.iconst 1, 1) := by decide +kernel
theorem dX12_rider_63 : decode cX12_rider 63 = .ok (.iadd, 1) := by decide +kernel
theorem dX12_rider_64 : decode cX12_rider 64 = .ok (.iload_n 1, 1) := by decide +kernel
theorem dX12_rider_65 : decode cX12_rider 65 = .ok (.bipush 10, 2) := by decide +kernel
theorem dX12_rider_67 : decode cX12_rider 67 = .ok (.irem, 1) := by decide +kernel
theorem dX12_rider_68 : decode cX12_rider 68 = .ok (.iastore, 1) := by decide +kernel
theorem dX12_rider_69 : decode cX12_rider 69 = .ok (.aload_n 0, 1) := by decide +kernel
theorem dX12_rider_70 : decode cX12_rider 70 = .ok (.getfield 7, 3) := by decide +kernel
theorem dX12_rider_73 : decode cX12_rider 73 = .ok (.iload_n 2, 1) := by decide +kernel
theorem dX12_rider_74 : decode cX12_rider 74 = .ok (.iconst 2, 1) := by decide +kernel
theorem dX12_rider_75 : decode cX12_rider 75 = .ok (.iadd, 1) := by decide +kernel
theorem dX12_rider_76 : decode cX12_rider 76 = .ok (.iconst 0, 1) := by decide +kernel
theorem dX12_rider_77 : decode cX12_rider 77 = .ok (.iastore, 1) := by decide +kernel
theorem dX12_rider_78 : decode cX12_rider 78 = .ok (.aload_n 0, 1) := by decide +kernel
theorem dX12_rider_79 : decode cX12_rider 79 = .ok (.getfield 7, 3) := by decide +kernel
theorem dX12_rider_82 : decode cX12_rider 82 = .ok (.iconst 3, 1) := by decide +kernel
theorem dX12_rider_83 : decode cX12_rider 83 = .ok (.dup2, 1) := by decide +kernel
theorem dX12_rider_84 : decode cX12_rider 84 = .ok (.iaload, 1) := by decide +kernel
theorem dX12_rider_85 : decode cX12_rider 85 = .ok (.iconst 1, 1) := by decide +kernel
theorem dX12_rider_86 : decode cX12_rider 86 = .ok (.iadd, 1) := by decide +kernel
theorem dX12_rider_87 : decode cX12_rider 87 = .ok (.iastore, 1) := by decide +kernel
theorem dX12_rider_88 : decode cX12_rider 88 = .ok (.aload_n 0, 1) := by decide +kernel
theorem dX12_rider_89 : decode cX12_rider 89 = .ok (.getfield 7, 3) := by decide +kernel
theorem dX12_rider_92 : decode cX12_rider 92 = .ok (.iconst 3, 1) := by decide +kernel
theorem dX12_rider_93 : decode cX12_rider 93 = .ok (.iaload, 1) := by decide +kernel
theorem dX12_rider_94 : decode cX12_rider 94 = .ok (.iconst 1, 1) := by decide +kernel
theorem dX12_rider_95 : decode cX12_rider 95 = .ok (.isub, 1) := by decide +kernel
theorem dX12_rider_96 : decode cX12_rider 96 = .ok (.ireturn, 1) := by decide +kernel
theorem dX12_saying_0 : decode cX12_saying 0 = .ok (.iload_n 1, 1) := by decide +kernel
theorem dX12_saying_1 : decode cX12_saying 1 = .ok (.aload_n 0, 1) := by decide +kernel
theorem dX12_saying_2 : decode cX12_saying 2 = .ok (.getfield 22, 3) := by decide +kernel
theorem dX12_saying_5 : decode cX12_saying 5 = .ok (.iload_n 2, 1) := by decide +kernel
theorem dX12_saying_6 : decode cX12_saying 6 = .ok (.iaload, 1) := by decide +kernel
theorem dX12_saying_7 : decode cX12_saying 7 = .ok (.idiv, 1) := by decide +kernel
theorem dX12_saying_8 : decode cX12_saying 8 = .ok (.iconst 3, 1) := by decide +kernel
theorem dX12_saying_9 : decode cX12_saying 9 = .ok (.irem, 1) := by decide +kernel
theorem dX12_saying_10 : decode cX12_saying 10 = .ok (.ireturn, 1) := by decide +kernel
theorem dX12_weigh_0 : decode cX12_weigh 0 = .ok (.aload_n 0, 1) := by decide +kernel
theorem dX12_weigh_1 : decode cX12_weigh 1 = .ok (.iconst 0, 1) := by decide +kernel
theorem dX12_weigh_2 : decode cX12_weigh 2 = .ok (.putfield 65, 3) := by decide +kernel
theorem dX12_weigh_5 : decode cX12_weigh 5 = .ok (.aload_n 0, 1) := by decide +kernel
theorem dX12_weigh_6 : decode cX12_weigh 6 = .ok (.iconst 0, 1) := by decide +kernel
theorem dX12_weigh_7 : decode cX12_weigh 7 = .ok (.putfield 69, 3) := by decide +kernel
theorem dX12_weigh_10 : decode cX12_weigh 10 = .ok (.aload_n 0, 1) := by decide +kernel
theorem dX12_weigh_11 : decode cX12_weigh 11 = .ok (.iconst 0, 1) := by decide +kernel
theorem dX12_weigh_12 : decode cX12_weigh 12 = .ok (.putfield 72, 3) := by decide +kernel
theorem dX12_weigh_15 : decode cX12_weigh 15 = .ok (.iconst 0, 1) := by decide +kernel
theorem dX12_weigh_16 : decode cX12_weigh 16 = .ok (.istore_n 2, 1) := by decide +kernel
theorem dX12_weigh_17 : decode cX12_weigh 17 = .ok (.iload_n 2, 1) := by decide +kernel
theorem dX12_weigh_18 : decode cX12_weigh 18 = .ok (.bipush 8, 2) := by decide +kernel
theorem dX12_weigh_20 : decode cX12_weigh 20 = .ok (.if_icmp .ge 103, 3) := by decide +kernel
theorem dX12_weigh_23 : decode cX12_weigh 23 = .ok (.aload_n 0, 1) := by decide +kernel
theorem dX12_weigh_24 : decode cX12_weigh 24 = .ok (.iload_n 1, 1) := by decide +kernel
theorem dX12_weigh_25 : decode cX12_weigh 25 = .ok (.iload_n 2, 1) := by decide +kernel
theorem dX12_weigh_26 : decode cX12_weigh 26 = .ok (.invokevirtual 75, 3) := by decide +kernel
theorem dX12_weigh_29 : decode cX12_weigh 29 = .ok (.istore_n 3, 1) := by decide +kernel
theorem dX12_weigh_30 : decode cX12_weigh 30 = .ok (.aload_n 0, 1) := by decide +kernel
theorem dX12_weigh_31 : decode cX12_weigh 31 = .ok (.getfield 7, 3) := by decide +kernel
theorem dX12_weigh_34 : decode cX12_weigh 34 = .ok (.bipush 10, 2) := by decide +kernel
theorem dX12_weigh_36 : decode cX12_weigh 36 = .ok (.iload_n 2, 1) := by decide +kernel
theorem dX12_weigh_37 : decode cX12_weigh 37 = .ok (.iadd, 1) := by decide +kernel
theorem dX12_weigh_38 : decode cX12_weigh 38 = .ok (.iaload, 1) := by decide +kernel
theorem dX12_weigh_39 : decode cX12_weigh 39 = .ok (.istore 4, 2) := by decide +kernel
theorem dX12_weigh_41 : decode cX12_weigh 41 = .ok (.aload_n 0, 1) := by decide +kernel
theorem dX12_weigh_42 : decode cX12_weigh 42 = .ok (.dup, 1) := by decide +kernel
theorem dX12_weigh_43 : decode cX12_weigh 43 = .ok (.getfield 65, 3) := by decide +kernel
theorem dX12_weigh_46 : decode cX12_weigh 46 = .ok (.iload_n 3, 1) := by decide +kernel
theorem dX12_weigh_47 : decode cX12_weigh 47 = .ok (.ifCond .le 13, 3) := by decide +kernel
theorem dX12_weigh_50 : decode cX12_weigh 50 = .ok (.iload_n 3, 1) := by decide +kernel
theorem dX12_weigh_51 : decode cX12_weigh 51 = .ok (.iload 4, 2) := by decide +kernel
theorem dX12_weigh_53 : decode cX12_weigh 53 = .ok (.if_icmp .ne 7, 3) := by decide +kernel
theorem dX12_weigh_56 : decode cX12_weigh 56 = .ok (.iconst 1, 1) := by decide +kernel
theorem dX12_weigh_57 : decode cX12_weigh 57 = .ok (.goto 4, 3) := by decide +kernel
theorem dX12_weigh_60 : decode cX12_weigh 60 = .ok (.iconst 0, 1) := by decide +kernel
theorem dX12_weigh_61 : decode cX12_weigh 61 = .ok (.iadd, 1) := by decide +kernel
theorem dX12_weigh_62 : decode cX12_weigh 62 = .ok (.putfield 65, 3) := by decide +kernel
theorem dX12_weigh_65 : decode cX12_weigh 65 = .ok (.aload_n 0, 1) := by decide +kernel
theorem dX12_weigh_66 : decode cX12_weigh 66 = .ok (.dup, 1) := by decide +kernel
theorem dX12_weigh_67 : decode cX12_weigh 67 = .ok (.getfield 69, 3) := by decide +kernel
theorem dX12_weigh_70 : decode cX12_weigh 70 = .ok (.iload_n 3, 1) := by decide +kernel
theorem dX12_weigh_71 : decode cX12_weigh 71 = .ok (.ifCond .le 18, 3) := by decide +kernel
theorem dX12_weigh_74 : decode cX12_weigh 74 = .ok (.iload 4, 2) := by decide +kernel
theorem dX12_weigh_76 : decode cX12_weigh 76 = .ok (.ifCond .le 13, 3) := by decide +kernel
theorem dX12_weigh_79 : decode cX12_weigh 79 = .ok (.iload_n 3, 1) := by decide +kernel
theorem dX12_weigh_80 : decode cX12_weigh 80 = .ok (.iload 4, 2) := by decide +kernel
theorem dX12_weigh_82 : decode cX12_weigh 82 = .ok (.if_icmp .eq 7, 3) := by decide +kernel
theorem dX12_weigh_85 : decode cX12_weigh 85 = .ok (.iconst 1, 1) := by decide +kernel
theorem dX12_weigh_86 : decode cX12_weigh 86 = .ok (.goto 4, 3) := by decide +kernel
theorem dX12_weigh_89 : decode cX12_weigh 89 = .ok (.iconst 0, 1) := by decide +kernel
theorem dX12_weigh_90 : decode cX12_weigh 90 = .ok (.iadd, 1) := by decide +kernel
theorem dX12_weigh_91 : decode cX12_weigh 91 = .ok (.putfield 69, 3) := by decide +kernel
theorem dX12_weigh_94 : decode cX12_weigh 94 = .ok (.aload_n 0, 1) := by decide +kernel
theorem dX12_weigh_95 : decode cX12_weigh 95 = .ok (.dup, 1) := by decide +kernel
theorem dX12_weigh_96 : decode cX12_weigh 96 = .ok (.getfield 72, 3) := by decide +kernel
theorem dX12_weigh_99 : decode cX12_weigh 99 = .ok (.iload_n 3, 1) := by decide +kernel
theorem dX12_weigh_100 : decode cX12_weigh 100 = .ok (.ifCond .le 12, 3) := by decide +kernel
theorem dX12_weigh_103 : decode cX12_weigh 103 = .ok (.iload 4, 2) := by decide +kernel
theorem dX12_weigh_105 : decode cX12_weigh 105 = .ok (.ifCond .ne 7, 3) := by decide +kernel
theorem dX12_weigh_108 : decode cX12_weigh 108 = .ok (.iconst 1, 1) := by decide +kernel
theorem dX12_weigh_109 : decode cX12_weigh 109 = .ok (.goto 4, 3) := by decide +kernel
theorem dX12_weigh_112 : decode cX12_weigh 112 = .ok (.iconst 0, 1) := by decide +kernel
theorem dX12_weigh_113 : decode cX12_weigh 113 = .ok (.iadd, 1) := by decide +kernel
theorem dX12_weigh_114 : decode cX12_weigh 114 = .ok (.putfield 72, 3) := by decide +kernel
theorem dX12_weigh_117 : decode cX12_weigh 117 = .ok (.iinc 2 1, 3) := by decide +kernel
theorem dX12_weigh_120 : decode cX12_weigh 120 = .ok (.goto (-103), 3) := by decide +kernel
theorem dX12_weigh_123 : decode cX12_weigh 123 = .ok (.return_, 1) := by decide +kernel
theorem dX12_creditOf_0 : decode cX12_creditOf 0 = .ok (.aload_n 0, 1) := by decide +kernel
theorem dX12_creditOf_1 : decode cX12_creditOf 1 = .ok (.iload_n 2, 1) := by decide +kernel
theorem dX12_creditOf_2 : decode cX12_creditOf 2 = .ok (.invokevirtual 79, 3) := by decide +kernel
theorem dX12_creditOf_5 : decode cX12_creditOf 5 = .ok (.aload_n 0, 1) := by decide +kernel
theorem dX12_creditOf_6 : decode cX12_creditOf 6 = .ok (.iload_n 1, 1) := by decide +kernel
theorem dX12_creditOf_7 : decode cX12_creditOf 7 = .ok (.iconst 0, 1) := by decide +kernel
theorem dX12_creditOf_8 : decode cX12_creditOf 8 = .ok (.invokevirtual 83, 3) := by decide +kernel
theorem dX12_creditOf_11 : decode cX12_creditOf 11 = .ok (.istore_n 3, 1) := by decide +kernel
theorem dX12_creditOf_12 : decode cX12_creditOf 12 = .ok (.aload_n 0, 1) := by decide +kernel
theorem dX12_creditOf_13 : decode cX12_creditOf 13 = .ok (.iconst 0, 1) := by decide +kernel
theorem dX12_creditOf_14 : decode cX12_creditOf 14 = .ok (.aload_n 0, 1) := by decide +kernel
theorem dX12_creditOf_15 : decode cX12_creditOf 15 = .ok (.getfield 65, 3) := by decide +kernel
theorem dX12_creditOf_18 : decode cX12_creditOf 18 = .ok (.iload_n 3, 1) := by decide +kernel
theorem dX12_creditOf_19 : decode cX12_creditOf 19 = .ok (.iconst 2, 1) := by decide +kernel
theorem dX12_creditOf_20 : decode cX12_creditOf 20 = .ok (.if_icmp .eq 8, 3) := by decide +kernel
theorem dX12_creditOf_23 : decode cX12_creditOf 23 = .ok (.iload_n 3, 1) := by decide +kernel
theorem dX12_creditOf_24 : decode cX12_creditOf 24 = .ok (.iconst 5, 1) := by decide +kernel
theorem dX12_creditOf_25 : decode cX12_creditOf 25 = .ok (.if_icmp .ne 12, 3) := by decide +kernel
theorem dX12_creditOf_28 : decode cX12_creditOf 28 = .ok (.aload_n 0, 1) := by decide +kernel
theorem dX12_creditOf_29 : decode cX12_creditOf 29 = .ok (.getfield 69, 3) := by decide +kernel
theorem dX12_creditOf_32 : decode cX12_creditOf 32 = .ok (.iconst 2, 1) := by decide +kernel
theorem dX12_creditOf_33 : decode cX12_creditOf 33 = .ok (.idiv, 1) := by decide +kernel
theorem dX12_creditOf_34 : decode cX12_creditOf 34 = .ok (.goto 7, 3) := by decide +kernel
theorem dX12_creditOf_37 : decode cX12_creditOf 37 = .ok (.aload_n 0, 1) := by decide +kernel
theorem dX12_creditOf_38 : decode cX12_creditOf 38 = .ok (.getfield 69, 3) := by decide +kernel
theorem dX12_creditOf_41 : decode cX12_creditOf 41 = .ok (.aload_n 0, 1) := by decide +kernel
theorem dX12_creditOf_42 : decode cX12_creditOf 42 = .ok (.getfield 72, 3) := by decide +kernel
theorem dX12_creditOf_45 : decode cX12_creditOf 45 = .ok (.invokevirtual 86, 3) := by decide +kernel
theorem dX12_creditOf_48 : decode cX12_creditOf 48 = .ok (.istore 4, 2) := by decide +kernel
theorem dX12_creditOf_50 : decode cX12_creditOf 50 = .ok (.iload 4, 2) := by decide +kernel
theorem dX12_creditOf_52 : decode cX12_creditOf 52 = .ok (.iconst 5, 1) := by decide +kernel
theorem dX12_creditOf_53 : decode cX12_creditOf 53 = .ok (.if_icmp .ge 8, 3) := by decide +kernel
theorem dX12_creditOf_56 : decode cX12_creditOf 56 = .ok (.iload 4, 2) := by decide +kernel
theorem dX12_creditOf_58 : decode cX12_creditOf 58 = .ok (.goto 4, 3) := by decide +kernel
theorem dX12_creditOf_61 : decode cX12_creditOf 61 = .ok (.iconst 5, 1) := by decide +kernel
theorem dX12_creditOf_62 : decode cX12_creditOf 62 = .ok (.istore 5, 2) := by decide +kernel
theorem dX12_creditOf_64 : decode cX12_creditOf 64 = .ok (.iload 4, 2) := by decide +kernel
theorem dX12_creditOf_66 : decode cX12_creditOf 66 = .ok (.aload_n 0, 1) := by decide +kernel
theorem dX12_creditOf_67 : decode cX12_creditOf 67 = .ok (.getfield 69, 3) := by decide +kernel
theorem dX12_creditOf_70 : decode cX12_creditOf 70 = .ok (.ifCond .ne 7, 3) := by decide +kernel
theorem dX12_creditOf_73 : decode cX12_creditOf 73 = .ok (.iconst 3, 1) := by decide +kernel
theorem dX12_creditOf_74 : decode cX12_creditOf 74 = .ok (.goto 4, 3) := by decide +kernel
theorem dX12_creditOf_77 : decode cX12_creditOf 77 = .ok (.iconst 0, 1) := by decide +kernel
theorem dX12_creditOf_78 : decode cX12_creditOf 78 = .ok (.iadd, 1) := by decide +kernel
theorem dX12_creditOf_79 : decode cX12_creditOf 79 = .ok (.istore 6, 2) := by decide +kernel
theorem dX12_creditOf_81 : decode cX12_creditOf 81 = .ok (.iload_n 3, 1) := by decide +kernel
theorem dX12_creditOf_82 : decode cX12_creditOf 82 = .ok (.tableswitch 80 1 6 #[38, 80, 51, 41, 72, 54], 38) := by decide +kernel
theorem dX12_creditOf_120 : decode cX12_creditOf 120 = .ok (.iload 5, 2) := by decide +kernel
theorem dX12_creditOf_122 : decode cX12_creditOf 122 = .ok (.ireturn, 1) := by decide +kernel
theorem dX12_creditOf_123 : decode cX12_creditOf 123 = .ok (.iload 5, 2) := by decide +kernel
theorem dX12_creditOf_125 : decode cX12_creditOf 125 = .ok (.aload_n 0, 1) := by decide +kernel
theorem dX12_creditOf_126 : decode cX12_creditOf 126 = .ok (.iload_n 1, 1) := by decide +kernel
theorem dX12_creditOf_127 : decode cX12_creditOf 127 = .ok (.iconst 1, 1) := by decide +kernel
theorem dX12_creditOf_128 : decode cX12_creditOf 128 = .ok (.invokevirtual 83, 3) := by decide +kernel
theorem dX12_creditOf_131 : decode cX12_creditOf 131 = .ok (.iadd, 1) := by decide +kernel
theorem dX12_creditOf_132 : decode cX12_creditOf 132 = .ok (.ireturn, 1) := by decide +kernel
theorem dX12_creditOf_133 : decode cX12_creditOf 133 = .ok (.iload 6, 2) := by decide +kernel
theorem dX12_creditOf_135 : decode cX12_creditOf 135 = .ok (.ireturn, 1) := by decide +kernel
theorem dX12_creditOf_136 : decode cX12_creditOf 136 = .ok (.iload 6, 2) := by decide +kernel
theorem dX12_creditOf_138 : decode cX12_creditOf 138 = .ok (.aload_n 0, 1) := by decide +kernel
theorem dX12_creditOf_139 : decode cX12_creditOf 139 = .ok (.getfield 65, 3) := by decide +kernel
theorem dX12_creditOf_142 : decode cX12_creditOf 142 = .ok (.isub, 1) := by decide +kernel
theorem dX12_creditOf_143 : decode cX12_creditOf 143 = .ok (.aload_n 0, 1) := by decide +kernel
theorem dX12_creditOf_144 : decode cX12_creditOf 144 = .ok (.getfield 69, 3) := by decide +kernel
theorem dX12_creditOf_147 : decode cX12_creditOf 147 = .ok (.isub, 1) := by decide +kernel
theorem dX12_creditOf_148 : decode cX12_creditOf 148 = .ok (.aload_n 0, 1) := by decide +kernel
theorem dX12_creditOf_149 : decode cX12_creditOf 149 = .ok (.getfield 72, 3) := by decide +kernel
theorem dX12_creditOf_152 : decode cX12_creditOf 152 = .ok (.isub, 1) := by decide +kernel
theorem dX12_creditOf_153 : decode cX12_creditOf 153 = .ok (.ireturn, 1) := by decide +kernel
theorem dX12_creditOf_154 : decode cX12_creditOf 154 = .ok (.iload 4, 2) := by decide +kernel
theorem dX12_creditOf_156 : decode cX12_creditOf 156 = .ok (.aload_n 0, 1) := by decide +kernel
theorem dX12_creditOf_157 : decode cX12_creditOf 157 = .ok (.getfield 72, 3) := by decide +kernel
theorem dX12_creditOf_160 : decode cX12_creditOf 160 = .ok (.iadd, 1) := by decide +kernel
theorem dX12_creditOf_161 : decode cX12_creditOf 161 = .ok (.ireturn, 1) := by decide +kernel
theorem dX12_creditOf_162 : decode cX12_creditOf 162 = .ok (.iload 4, 2) := by decide +kernel
theorem dX12_creditOf_164 : decode cX12_creditOf 164 = .ok (.ireturn, 1) := by decide +kernel
theorem dX12_floorBy_0 : decode cX12_floorBy 0 = .ok (.aload_n 0, 1) := by decide +kernel
theorem dX12_floorBy_1 : decode cX12_floorBy 1 = .ok (.iload_n 1, 1) := by decide +kernel
theorem dX12_floorBy_2 : decode cX12_floorBy 2 = .ok (.iload_n 2, 1) := by decide +kernel
theorem dX12_floorBy_3 : decode cX12_floorBy 3 = .ok (.invokevirtual 90, 3) := by decide +kernel
theorem dX12_floorBy_6 : decode cX12_floorBy 6 = .ok (.istore_n 3, 1) := by decide +kernel
theorem dX12_floorBy_7 : decode cX12_floorBy 7 = .ok (.iload_n 2, 1) := by decide +kernel
theorem dX12_floorBy_8 : decode cX12_floorBy 8 = .ok (.ifCond .ne 7, 3) := by decide +kernel
theorem dX12_floorBy_11 : decode cX12_floorBy 11 = .ok (.iconst (-1), 1) := by decide +kernel
theorem dX12_floorBy_12 : decode cX12_floorBy 12 = .ok (.goto 10, 3) := by decide +kernel
theorem dX12_floorBy_15 : decode cX12_floorBy 15 = .ok (.iload_n 3, 1) := by decide +kernel
theorem dX12_floorBy_16 : decode cX12_floorBy 16 = .ok (.iconst 0, 1) := by decide +kernel
theorem dX12_floorBy_17 : decode cX12_floorBy 17 = .ok (.bipush 9, 2) := by decide +kernel
theorem dX12_floorBy_19 : decode cX12_floorBy 19 = .ok (.invokestatic 93, 3) := by decide +kernel
theorem dX12_floorBy_22 : decode cX12_floorBy 22 = .ok (.ireturn, 1) := by decide +kernel
theorem dX12_floorOf_0 : decode cX12_floorOf 0 = .ok (.aload_n 0, 1) := by decide +kernel
theorem dX12_floorOf_1 : decode cX12_floorOf 1 = .ok (.iload_n 1, 1) := by decide +kernel
theorem dX12_floorOf_2 : decode cX12_floorOf 2 = .ok (.aload_n 0, 1) := by decide +kernel
theorem dX12_floorOf_3 : decode cX12_floorOf 3 = .ok (.iload_n 1, 1) := by decide +kernel
theorem dX12_floorOf_4 : decode cX12_floorOf 4 = .ok (.iconst 2, 1) := by decide +kernel
theorem dX12_floorOf_5 : decode cX12_floorOf 5 = .ok (.invokevirtual 83, 3) := by decide +kernel
theorem dX12_floorOf_8 : decode cX12_floorOf 8 = .ok (.invokevirtual 97, 3) := by decide +kernel
theorem dX12_floorOf_11 : decode cX12_floorOf 11 = .ok (.ireturn, 1) := by decide +kernel
theorem dX12_worldStory_0 : decode cX12_worldStory 0 = .ok (.iconst 0, 1) := by decide +kernel
theorem dX12_worldStory_1 : decode cX12_worldStory 1 = .ok (.istore_n 1, 1) := by decide +kernel
theorem dX12_worldStory_2 : decode cX12_worldStory 2 = .ok (.iconst 0, 1) := by decide +kernel
theorem dX12_worldStory_3 : decode cX12_worldStory 3 = .ok (.istore_n 2, 1) := by decide +kernel
theorem dX12_worldStory_4 : decode cX12_worldStory 4 = .ok (.iload_n 2, 1) := by decide +kernel
theorem dX12_worldStory_5 : decode cX12_worldStory 5 = .ok (.bipush 8, 2) := by decide +kernel
theorem dX12_worldStory_7 : decode cX12_worldStory 7 = .ok (.if_icmp .ge 32, 3) := by decide +kernel
theorem dX12_worldStory_10 : decode cX12_worldStory 10 = .ok (.iload_n 1, 1) := by decide +kernel
theorem dX12_worldStory_11 : decode cX12_worldStory 11 = .ok (.aload_n 0, 1) := by decide +kernel
theorem dX12_worldStory_12 : decode cX12_worldStory 12 = .ok (.getfield 22, 3) := by decide +kernel
theorem dX12_worldStory_15 : decode cX12_worldStory 15 = .ok (.iload_n 2, 1) := by decide +kernel
theorem dX12_worldStory_16 : decode cX12_worldStory 16 = .ok (.iaload, 1) := by decide +kernel
theorem dX12_worldStory_17 : decode cX12_worldStory 17 = .ok (.iconst 2, 1) := by decide +kernel
theorem dX12_worldStory_18 : decode cX12_worldStory 18 = .ok (.aload_n 0, 1) := by decide +kernel
theorem dX12_worldStory_19 : decode cX12_worldStory 19 = .ok (.getfield 7, 3) := by decide +kernel
theorem dX12_worldStory_22 : decode cX12_worldStory 22 = .ok (.bipush 8, 2) := by decide +kernel
theorem dX12_worldStory_24 : decode cX12_worldStory 24 = .ok (.iaload, 1) := by decide +kernel
theorem dX12_worldStory_25 : decode cX12_worldStory 25 = .ok (.iload_n 2, 1) := by decide +kernel
theorem dX12_worldStory_26 : decode cX12_worldStory 26 = .ok (.ishr, 1) := by decide +kernel
theorem dX12_worldStory_27 : decode cX12_worldStory 27 = .ok (.iconst 1, 1) := by decide +kernel
theorem dX12_worldStory_28 : decode cX12_worldStory 28 = .ok (.iand, 1) := by decide +kernel
theorem dX12_worldStory_29 : decode cX12_worldStory 29 = .ok (.isub, 1) := by decide +kernel
theorem dX12_worldStory_30 : decode cX12_worldStory 30 = .ok (.imul, 1) := by decide +kernel
theorem dX12_worldStory_31 : decode cX12_worldStory 31 = .ok (.iadd, 1) := by decide +kernel
theorem dX12_worldStory_32 : decode cX12_worldStory 32 = .ok (.istore_n 1, 1) := by decide +kernel
theorem dX12_worldStory_33 : decode cX12_worldStory 33 = .ok (.iinc 2 1, 3) := by decide +kernel
theorem dX12_worldStory_36 : decode cX12_worldStory 36 = .ok (.goto (-32), 3) := by decide +kernel
theorem dX12_worldStory_39 : decode cX12_worldStory 39 = .ok (.iload_n 1, 1) := by decide +kernel
theorem dX12_worldStory_40 : decode cX12_worldStory 40 = .ok (.ireturn, 1) := by decide +kernel
theorem dX12_isTrue_0 : decode cX12_isTrue 0 = .ok (.iconst 1, 1) := by decide +kernel
theorem dX12_isTrue_1 : decode cX12_isTrue 1 = .ok (.istore_n 3, 1) := by decide +kernel
theorem dX12_isTrue_2 : decode cX12_isTrue 2 = .ok (.iconst 0, 1) := by decide +kernel
theorem dX12_isTrue_3 : decode cX12_isTrue 3 = .ok (.istore 4, 2) := by decide +kernel
theorem dX12_isTrue_5 : decode cX12_isTrue 5 = .ok (.iload 4, 2) := by decide +kernel
theorem dX12_isTrue_7 : decode cX12_isTrue 7 = .ok (.bipush 8, 2) := by decide +kernel
theorem dX12_isTrue_9 : decode cX12_isTrue 9 = .ok (.if_icmp .ge 45, 3) := by decide +kernel
theorem dX12_isTrue_12 : decode cX12_isTrue 12 = .ok (.aload_n 0, 1) := by decide +kernel
theorem dX12_isTrue_13 : decode cX12_isTrue 13 = .ok (.iload_n 1, 1) := by decide +kernel
theorem dX12_isTrue_14 : decode cX12_isTrue 14 = .ok (.iload 4, 2) := by decide +kernel
theorem dX12_isTrue_16 : decode cX12_isTrue 16 = .ok (.invokevirtual 75, 3) := by decide +kernel
theorem dX12_isTrue_19 : decode cX12_isTrue 19 = .ok (.istore 5, 2) := by decide +kernel
theorem dX12_isTrue_21 : decode cX12_isTrue 21 = .ok (.iload_n 3, 1) := by decide +kernel
theorem dX12_isTrue_22 : decode cX12_isTrue 22 = .ok (.ifCond .eq 24, 3) := by decide +kernel
theorem dX12_isTrue_25 : decode cX12_isTrue 25 = .ok (.iload 5, 2) := by decide +kernel
theorem dX12_isTrue_27 : decode cX12_isTrue 27 = .ok (.ifCond .eq 15, 3) := by decide +kernel
theorem dX12_isTrue_30 : decode cX12_isTrue 30 = .ok (.iload 5, 2) := by decide +kernel
theorem dX12_isTrue_32 : decode cX12_isTrue 32 = .ok (.aload_n 0, 1) := by decide +kernel
theorem dX12_isTrue_33 : decode cX12_isTrue 33 = .ok (.iload_n 2, 1) := by decide +kernel
theorem dX12_isTrue_34 : decode cX12_isTrue 34 = .ok (.iload 4, 2) := by decide +kernel
theorem dX12_isTrue_36 : decode cX12_isTrue 36 = .ok (.invokevirtual 75, 3) := by decide +kernel
theorem dX12_isTrue_39 : decode cX12_isTrue 39 = .ok (.if_icmp .ne 7, 3) := by decide +kernel
theorem dX12_isTrue_42 : decode cX12_isTrue 42 = .ok (.iconst 1, 1) := by decide +kernel
theorem dX12_isTrue_43 : decode cX12_isTrue 43 = .ok (.goto 4, 3) := by decide +kernel
theorem dX12_isTrue_46 : decode cX12_isTrue 46 = .ok (.iconst 0, 1) := by decide +kernel
theorem dX12_isTrue_47 : decode cX12_isTrue 47 = .ok (.istore_n 3, 1) := by decide +kernel
theorem dX12_isTrue_48 : decode cX12_isTrue 48 = .ok (.iinc 4 1, 3) := by decide +kernel
theorem dX12_isTrue_51 : decode cX12_isTrue 51 = .ok (.goto (-46), 3) := by decide +kernel
theorem dX12_isTrue_54 : decode cX12_isTrue 54 = .ok (.iload_n 3, 1) := by decide +kernel
theorem dX12_isTrue_55 : decode cX12_isTrue 55 = .ok (.ireturn, 1) := by decide +kernel
theorem dX12_ofRider_0 : decode cX12_ofRider 0 = .ok (.aload_n 0, 1) := by decide +kernel
theorem dX12_ofRider_1 : decode cX12_ofRider 1 = .ok (.iload_n 1, 1) := by decide +kernel
theorem dX12_ofRider_2 : decode cX12_ofRider 2 = .ok (.invokevirtual 100, 3) := by decide +kernel
theorem dX12_ofRider_5 : decode cX12_ofRider 5 = .ok (.ifCond .eq 13, 3) := by decide +kernel
theorem dX12_ofRider_8 : decode cX12_ofRider 8 = .ok (.iload_n 2, 1) := by decide +kernel
theorem dX12_ofRider_9 : decode cX12_ofRider 9 = .ok (.iconst 0, 1) := by decide +kernel
theorem dX12_ofRider_10 : decode cX12_ofRider 10 = .ok (.bipush 9, 2) := by decide +kernel
theorem dX12_ofRider_12 : decode cX12_ofRider 12 = .ok (.invokestatic 47, 3) := by decide +kernel
theorem dX12_ofRider_15 : decode cX12_ofRider 15 = .ok (.ifCond .ne 10, 3) := by decide +kernel
theorem dX12_ofRider_18 : decode cX12_ofRider 18 = .ok (.aload_n 0, 1) := by decide +kernel
theorem dX12_ofRider_19 : decode cX12_ofRider 19 = .ok (.ldc 55, 2) := by decide +kernel
theorem dX12_ofRider_21 : decode cX12_ofRider 21 = .ok (.invokevirtual 56, 3) := by decide +kernel
theorem dX12_ofRider_24 : decode cX12_ofRider 24 = .ok (.ireturn, 1) := by decide +kernel
theorem dX12_ofRider_25 : decode cX12_ofRider 25 = .ok (.aload_n 0, 1) := by decide +kernel
theorem dX12_ofRider_26 : decode cX12_ofRider 26 = .ok (.iload_n 1, 1) := by decide +kernel
theorem dX12_ofRider_27 : decode cX12_ofRider 27 = .ok (.iconst 2, 1) := by decide +kernel
theorem dX12_ofRider_28 : decode cX12_ofRider 28 = .ok (.invokevirtual 83, 3) := by decide +kernel
theorem dX12_ofRider_31 : decode cX12_ofRider 31 = .ok (.istore_n 3, 1) := by decide +kernel
theorem dX12_ofRider_32 : decode cX12_ofRider 32 = .ok (.aload_n 0, 1) := by decide +kernel
theorem dX12_ofRider_33 : decode cX12_ofRider 33 = .ok (.iload_n 3, 1) := by decide +kernel
theorem dX12_ofRider_34 : decode cX12_ofRider 34 = .ok (.invokevirtual 79, 3) := by decide +kernel
theorem dX12_ofRider_37 : decode cX12_ofRider 37 = .ok (.iload_n 2, 1) := by decide +kernel
theorem dX12_ofRider_38 : decode cX12_ofRider 38 = .ok (.tableswitch 103 3 9 #[42, 57, 62, 67, 72, 79, 85], 42) := by decide +kernel
theorem dX12_ofRider_80 : decode cX12_ofRider 80 = .ok (.aload_n 0, 1) := by decide +kernel
theorem dX12_ofRider_81 : decode cX12_ofRider 81 = .ok (.getfield 65, 3) := by decide +kernel
theorem dX12_ofRider_84 : decode cX12_ofRider 84 = .ok (.aload_n 0, 1) := by decide +kernel
theorem dX12_ofRider_85 : decode cX12_ofRider 85 = .ok (.getfield 69, 3) := by decide +kernel
theorem dX12_ofRider_88 : decode cX12_ofRider 88 = .ok (.iadd, 1) := by decide +kernel
theorem dX12_ofRider_89 : decode cX12_ofRider 89 = .ok (.aload_n 0, 1) := by decide +kernel
theorem dX12_ofRider_90 : decode cX12_ofRider 90 = .ok (.getfield 72, 3) := by decide +kernel
theorem dX12_ofRider_93 : decode cX12_ofRider 93 = .ok (.iadd, 1) := by decide +kernel
theorem dX12_ofRider_94 : decode cX12_ofRider 94 = .ok (.ireturn, 1) := by decide +kernel
theorem dX12_ofRider_95 : decode cX12_ofRider 95 = .ok (.aload_n 0, 1) := by decide +kernel
theorem dX12_ofRider_96 : decode cX12_ofRider 96 = .ok (.getfield 65, 3) := by decide +kernel
theorem dX12_ofRider_99 : decode cX12_ofRider 99 = .ok (.ireturn, 1) := by decide +kernel
theorem dX12_ofRider_100 : decode cX12_ofRider 100 = .ok (.aload_n 0, 1) := by decide +kernel
theorem dX12_ofRider_101 : decode cX12_ofRider 101 = .ok (.getfield 69, 3) := by decide +kernel
theorem dX12_ofRider_104 : decode cX12_ofRider 104 = .ok (.ireturn, 1) := by decide +kernel
theorem dX12_ofRider_105 : decode cX12_ofRider 105 = .ok (.aload_n 0, 1) := by decide +kernel
theorem dX12_ofRider_106 : decode cX12_ofRider 106 = .ok (.getfield 72, 3) := by decide +kernel
theorem dX12_ofRider_109 : decode cX12_ofRider 109 = .ok (.ireturn, 1) := by decide +kernel
theorem dX12_ofRider_110 : decode cX12_ofRider 110 = .ok (.aload_n 0, 1) := by decide +kernel
theorem dX12_ofRider_111 : decode cX12_ofRider 111 = .ok (.iload_n 1, 1) := by decide +kernel
theorem dX12_ofRider_112 : decode cX12_ofRider 112 = .ok (.iload_n 3, 1) := by decide +kernel
theorem dX12_ofRider_113 : decode cX12_ofRider 113 = .ok (.invokevirtual 90, 3) := by decide +kernel
theorem dX12_ofRider_116 : decode cX12_ofRider 116 = .ok (.ireturn, 1) := by decide +kernel
theorem dX12_ofRider_117 : decode cX12_ofRider 117 = .ok (.aload_n 0, 1) := by decide +kernel
theorem dX12_ofRider_118 : decode cX12_ofRider 118 = .ok (.iload_n 1, 1) := by decide +kernel
theorem dX12_ofRider_119 : decode cX12_ofRider 119 = .ok (.invokevirtual 103, 3) := by decide +kernel
theorem dX12_ofRider_122 : decode cX12_ofRider 122 = .ok (.ireturn, 1) := by decide +kernel
theorem dX12_ofRider_123 : decode cX12_ofRider 123 = .ok (.aload_n 0, 1) := by decide +kernel
theorem dX12_ofRider_124 : decode cX12_ofRider 124 = .ok (.iload_n 3, 1) := by decide +kernel
theorem dX12_ofRider_125 : decode cX12_ofRider 125 = .ok (.aload_n 0, 1) := by decide +kernel
theorem dX12_ofRider_126 : decode cX12_ofRider 126 = .ok (.invokevirtual 106, 3) := by decide +kernel
theorem dX12_ofRider_129 : decode cX12_ofRider 129 = .ok (.invokevirtual 109, 3) := by decide +kernel
theorem dX12_ofRider_132 : decode cX12_ofRider 132 = .ok (.ifCond .eq 7, 3) := by decide +kernel
theorem dX12_ofRider_135 : decode cX12_ofRider 135 = .ok (.iconst 1, 1) := by decide +kernel
theorem dX12_ofRider_136 : decode cX12_ofRider 136 = .ok (.goto 4, 3) := by decide +kernel
theorem dX12_ofRider_139 : decode cX12_ofRider 139 = .ok (.iconst 0, 1) := by decide +kernel
theorem dX12_ofRider_140 : decode cX12_ofRider 140 = .ok (.ireturn, 1) := by decide +kernel
theorem dX12_ofRider_141 : decode cX12_ofRider 141 = .ok (.aload_n 0, 1) := by decide +kernel
theorem dX12_ofRider_142 : decode cX12_ofRider 142 = .ok (.iload_n 1, 1) := by decide +kernel
theorem dX12_ofRider_143 : decode cX12_ofRider 143 = .ok (.iload_n 2, 1) := by decide +kernel
theorem dX12_ofRider_144 : decode cX12_ofRider 144 = .ok (.invokevirtual 83, 3) := by decide +kernel
theorem dX12_ofRider_147 : decode cX12_ofRider 147 = .ok (.ireturn, 1) := by decide +kernel
theorem dX12_story_0 : decode cX12_story 0 = .ok (.aload_n 0, 1) := by decide +kernel
theorem dX12_story_1 : decode cX12_story 1 = .ok (.iload_n 1, 1) := by decide +kernel
theorem dX12_story_2 : decode cX12_story 2 = .ok (.invokevirtual 100, 3) := by decide +kernel
theorem dX12_story_5 : decode cX12_story 5 = .ok (.ifCond .eq 14, 3) := by decide +kernel
theorem dX12_story_8 : decode cX12_story 8 = .ok (.iload_n 2, 1) := by decide +kernel
theorem dX12_story_9 : decode cX12_story 9 = .ok (.iconst 0, 1) := by decide +kernel
theorem dX12_story_10 : decode cX12_story 10 = .ok (.sipush 6560, 3) := by decide +kernel
theorem dX12_story_13 : decode cX12_story 13 = .ok (.invokestatic 47, 3) := by decide +kernel
theorem dX12_story_16 : decode cX12_story 16 = .ok (.ifCond .ne 10, 3) := by decide +kernel
theorem dX12_story_19 : decode cX12_story 19 = .ok (.aload_n 0, 1) := by decide +kernel
theorem dX12_story_20 : decode cX12_story 20 = .ok (.ldc 55, 2) := by decide +kernel
theorem dX12_story_22 : decode cX12_story 22 = .ok (.invokevirtual 56, 3) := by decide +kernel
theorem dX12_story_25 : decode cX12_story 25 = .ok (.ireturn, 1) := by decide +kernel
theorem dX12_story_26 : decode cX12_story 26 = .ok (.aload_n 0, 1) := by decide +kernel
theorem dX12_story_27 : decode cX12_story 27 = .ok (.iload_n 1, 1) := by decide +kernel
theorem dX12_story_28 : decode cX12_story 28 = .ok (.iconst 2, 1) := by decide +kernel
theorem dX12_story_29 : decode cX12_story 29 = .ok (.invokevirtual 83, 3) := by decide +kernel
theorem dX12_story_32 : decode cX12_story 32 = .ok (.istore_n 3, 1) := by decide +kernel
theorem dX12_story_33 : decode cX12_story 33 = .ok (.aload_n 0, 1) := by decide +kernel
theorem dX12_story_34 : decode cX12_story 34 = .ok (.getfield 7, 3) := by decide +kernel
theorem dX12_story_37 : decode cX12_story 37 = .ok (.bipush 18, 2) := by decide +kernel
theorem dX12_story_39 : decode cX12_story 39 = .ok (.iconst 3, 1) := by decide +kernel
theorem dX12_story_40 : decode cX12_story 40 = .ok (.iload_n 1, 1) := by decide +kernel
theorem dX12_story_41 : decode cX12_story 41 = .ok (.imul, 1) := by decide +kernel
theorem dX12_story_42 : decode cX12_story 42 = .ok (.iadd, 1) := by decide +kernel
theorem dX12_story_43 : decode cX12_story 43 = .ok (.iconst 2, 1) := by decide +kernel
theorem dX12_story_44 : decode cX12_story 44 = .ok (.iadd, 1) := by decide +kernel
theorem dX12_story_45 : decode cX12_story 45 = .ok (.iload_n 2, 1) := by decide +kernel
theorem dX12_story_46 : decode cX12_story 46 = .ok (.iastore, 1) := by decide +kernel
theorem dX12_story_47 : decode cX12_story 47 = .ok (.iload_n 3, 1) := by decide +kernel
theorem dX12_story_48 : decode cX12_story 48 = .ok (.ireturn, 1) := by decide +kernel
theorem dX12_say_0 : decode cX12_say 0 = .ok (.aload_n 0, 1) := by decide +kernel
theorem dX12_say_1 : decode cX12_say 1 = .ok (.iload_n 1, 1) := by decide +kernel
theorem dX12_say_2 : decode cX12_say 2 = .ok (.invokevirtual 100, 3) := by decide +kernel
theorem dX12_say_5 : decode cX12_say 5 = .ok (.ifCond .eq 19, 3) := by decide +kernel
theorem dX12_say_8 : decode cX12_say 8 = .ok (.iload_n 2, 1) := by decide +kernel
theorem dX12_say_9 : decode cX12_say 9 = .ok (.invokestatic 51, 3) := by decide +kernel
theorem dX12_say_12 : decode cX12_say 12 = .ok (.ifCond .eq 12, 3) := by decide +kernel
theorem dX12_say_15 : decode cX12_say 15 = .ok (.iload_n 3, 1) := by decide +kernel
theorem dX12_say_16 : decode cX12_say 16 = .ok (.iconst 0, 1) := by decide +kernel
theorem dX12_say_17 : decode cX12_say 17 = .ok (.iconst 2, 1) := by decide +kernel
theorem dX12_say_18 : decode cX12_say 18 = .ok (.invokestatic 47, 3) := by decide +kernel
theorem dX12_say_21 : decode cX12_say 21 = .ok (.ifCond .ne 10, 3) := by decide +kernel
theorem dX12_say_24 : decode cX12_say 24 = .ok (.aload_n 0, 1) := by decide +kernel
theorem dX12_say_25 : decode cX12_say 25 = .ok (.ldc 55, 2) := by decide +kernel
theorem dX12_say_27 : decode cX12_say 27 = .ok (.invokevirtual 56, 3) := by decide +kernel
theorem dX12_say_30 : decode cX12_say 30 = .ok (.ireturn, 1) := by decide +kernel
theorem dX12_say_31 : decode cX12_say 31 = .ok (.aload_n 0, 1) := by decide +kernel
theorem dX12_say_32 : decode cX12_say 32 = .ok (.aload_n 0, 1) := by decide +kernel
theorem dX12_say_33 : decode cX12_say 33 = .ok (.iload_n 1, 1) := by decide +kernel
theorem dX12_say_34 : decode cX12_say 34 = .ok (.iconst 2, 1) := by decide +kernel
theorem dX12_say_35 : decode cX12_say 35 = .ok (.invokevirtual 83, 3) := by decide +kernel
theorem dX12_say_38 : decode cX12_say 38 = .ok (.iload_n 2, 1) := by decide +kernel
theorem dX12_say_39 : decode cX12_say 39 = .ok (.invokevirtual 75, 3) := by decide +kernel
theorem dX12_say_42 : decode cX12_say 42 = .ok (.istore 4, 2) := by decide +kernel
theorem dX12_say_44 : decode cX12_say 44 = .ok (.aload_n 0, 1) := by decide +kernel
theorem dX12_say_45 : decode cX12_say 45 = .ok (.getfield 7, 3) := by decide +kernel
theorem dX12_say_48 : decode cX12_say 48 = .ok (.bipush 18, 2) := by decide +kernel
theorem dX12_say_50 : decode cX12_say 50 = .ok (.iconst 3, 1) := by decide +kernel
theorem dX12_say_51 : decode cX12_say 51 = .ok (.iload_n 1, 1) := by decide +kernel
theorem dX12_say_52 : decode cX12_say 52 = .ok (.imul, 1) := by decide +kernel
theorem dX12_say_53 : decode cX12_say 53 = .ok (.iadd, 1) := by decide +kernel
theorem dX12_say_54 : decode cX12_say 54 = .ok (.iconst 2, 1) := by decide +kernel
theorem dX12_say_55 : decode cX12_say 55 = .ok (.iadd, 1) := by decide +kernel
theorem dX12_say_56 : decode cX12_say 56 = .ok (.dup2, 1) := by decide +kernel
theorem dX12_say_57 : decode cX12_say 57 = .ok (.iaload, 1) := by decide +kernel
theorem dX12_say_58 : decode cX12_say 58 = .ok (.aload_n 0, 1) := by decide +kernel
theorem dX12_say_59 : decode cX12_say 59 = .ok (.getfield 22, 3) := by decide +kernel
theorem dX12_say_62 : decode cX12_say 62 = .ok (.iload_n 2, 1) := by decide +kernel
theorem dX12_say_63 : decode cX12_say 63 = .ok (.iaload, 1) := by decide +kernel
theorem dX12_say_64 : decode cX12_say 64 = .ok (.iload_n 3, 1) := by decide +kernel
theorem dX12_say_65 : decode cX12_say 65 = .ok (.iload 4, 2) := by decide +kernel
theorem dX12_say_67 : decode cX12_say 67 = .ok (.isub, 1) := by decide +kernel
theorem dX12_say_68 : decode cX12_say 68 = .ok (.imul, 1) := by decide +kernel
theorem dX12_say_69 : decode cX12_say 69 = .ok (.iadd, 1) := by decide +kernel
theorem dX12_say_70 : decode cX12_say 70 = .ok (.iastore, 1) := by decide +kernel
theorem dX12_say_71 : decode cX12_say 71 = .ok (.iload 4, 2) := by decide +kernel
theorem dX12_say_73 : decode cX12_say 73 = .ok (.ireturn, 1) := by decide +kernel
theorem dX12_become_0 : decode cX12_become 0 = .ok (.aload_n 0, 1) := by decide +kernel
theorem dX12_become_1 : decode cX12_become 1 = .ok (.iload_n 1, 1) := by decide +kernel
theorem dX12_become_2 : decode cX12_become 2 = .ok (.invokevirtual 100, 3) := by decide +kernel
theorem dX12_become_5 : decode cX12_become 5 = .ok (.ifCond .eq 13, 3) := by decide +kernel
theorem dX12_become_8 : decode cX12_become 8 = .ok (.iload_n 2, 1) := by decide +kernel
theorem dX12_become_9 : decode cX12_become 9 = .ok (.iconst 0, 1) := by decide +kernel
theorem dX12_become_10 : decode cX12_become 10 = .ok (.bipush 69, 2) := by decide +kernel
theorem dX12_become_12 : decode cX12_become 12 = .ok (.invokestatic 47, 3) := by decide +kernel
theorem dX12_become_15 : decode cX12_become 15 = .ok (.ifCond .ne 10, 3) := by decide +kernel
theorem dX12_become_18 : decode cX12_become 18 = .ok (.aload_n 0, 1) := by decide +kernel
theorem dX12_become_19 : decode cX12_become 19 = .ok (.ldc 55, 2) := by decide +kernel
theorem dX12_become_21 : decode cX12_become 21 = .ok (.invokevirtual 56, 3) := by decide +kernel
theorem dX12_become_24 : decode cX12_become 24 = .ok (.ireturn, 1) := by decide +kernel
theorem dX12_become_25 : decode cX12_become 25 = .ok (.aload_n 0, 1) := by decide +kernel
theorem dX12_become_26 : decode cX12_become 26 = .ok (.iload_n 1, 1) := by decide +kernel
theorem dX12_become_27 : decode cX12_become 27 = .ok (.iconst 0, 1) := by decide +kernel
theorem dX12_become_28 : decode cX12_become 28 = .ok (.invokevirtual 83, 3) := by decide +kernel
theorem dX12_become_31 : decode cX12_become 31 = .ok (.istore_n 3, 1) := by decide +kernel
theorem dX12_become_32 : decode cX12_become 32 = .ok (.aload_n 0, 1) := by decide +kernel
theorem dX12_become_33 : decode cX12_become 33 = .ok (.getfield 7, 3) := by decide +kernel
theorem dX12_become_36 : decode cX12_become 36 = .ok (.bipush 18, 2) := by decide +kernel
theorem dX12_become_38 : decode cX12_become 38 = .ok (.iconst 3, 1) := by decide +kernel
theorem dX12_become_39 : decode cX12_become 39 = .ok (.iload_n 1, 1) := by decide +kernel
theorem dX12_become_40 : decode cX12_become 40 = .ok (.imul, 1) := by decide +kernel
theorem dX12_become_41 : decode cX12_become 41 = .ok (.iadd, 1) := by decide +kernel
theorem dX12_become_42 : decode cX12_become 42 = .ok (.iload_n 2, 1) := by decide +kernel
theorem dX12_become_43 : decode cX12_become 43 = .ok (.bipush 10, 2) := by decide +kernel
theorem dX12_become_45 : decode cX12_become 45 = .ok (.idiv, 1) := by decide +kernel
theorem dX12_become_46 : decode cX12_become 46 = .ok (.iastore, 1) := by decide +kernel
theorem dX12_become_47 : decode cX12_become 47 = .ok (.aload_n 0, 1) := by decide +kernel
theorem dX12_become_48 : decode cX12_become 48 = .ok (.getfield 7, 3) := by decide +kernel
theorem dX12_become_51 : decode cX12_become 51 = .ok (.bipush 18, 2) := by decide +kernel
theorem dX12_become_53 : decode cX12_become 53 = .ok (.iconst 3, 1) := by decide +kernel
theorem dX12_become_54 : decode cX12_become 54 = .ok (.iload_n 1, 1) := by decide +kernel
theorem dX12_become_55 : decode cX12_become 55 = .ok (.imul, 1) := by decide +kernel
theorem dX12_become_56 : decode cX12_become 56 = .ok (.iadd, 1) := by decide +kernel
theorem dX12_become_57 : decode cX12_become 57 = .ok (.iconst 1, 1) := by decide +kernel
theorem dX12_become_58 : decode cX12_become 58 = .ok (.iadd, 1) := by decide +kernel
theorem dX12_become_59 : decode cX12_become 59 = .ok (.iload_n 2, 1) := by decide +kernel
theorem dX12_become_60 : decode cX12_become 60 = .ok (.bipush 10, 2) := by decide +kernel
theorem dX12_become_62 : decode cX12_become 62 = .ok (.irem, 1) := by decide +kernel
theorem dX12_become_63 : decode cX12_become 63 = .ok (.iastore, 1) := by decide +kernel
theorem dX12_become_64 : decode cX12_become 64 = .ok (.iload_n 3, 1) := by decide +kernel
theorem dX12_become_65 : decode cX12_become 65 = .ok (.ireturn, 1) := by decide +kernel
theorem dX12_above_0 : decode cX12_above 0 = .ok (.iload_n 0, 1) := by decide +kernel
theorem dX12_above_1 : decode cX12_above 1 = .ok (.ifCond .ne 7, 3) := by decide +kernel
theorem dX12_above_4 : decode cX12_above 4 = .ok (.iconst (-1), 1) := by decide +kernel
theorem dX12_above_5 : decode cX12_above 5 = .ok (.goto 32, 3) := by decide +kernel
theorem dX12_above_8 : decode cX12_above 8 = .ok (.iload_n 0, 1) := by decide +kernel
theorem dX12_above_9 : decode cX12_above 9 = .ok (.iconst 4, 1) := by decide +kernel
theorem dX12_above_10 : decode cX12_above 10 = .ok (.if_icmp .ne 7, 3) := by decide +kernel
theorem dX12_above_13 : decode cX12_above 13 = .ok (.iconst 1, 1) := by decide +kernel
theorem dX12_above_14 : decode cX12_above 14 = .ok (.goto 23, 3) := by decide +kernel
theorem dX12_above_17 : decode cX12_above 17 = .ok (.iload_n 0, 1) := by decide +kernel
theorem dX12_above_18 : decode cX12_above 18 = .ok (.iconst 5, 1) := by decide +kernel
theorem dX12_above_19 : decode cX12_above 19 = .ok (.if_icmp .ne 7, 3) := by decide +kernel
theorem dX12_above_22 : decode cX12_above 22 = .ok (.iconst 2, 1) := by decide +kernel
theorem dX12_above_23 : decode cX12_above 23 = .ok (.goto 14, 3) := by decide +kernel
theorem dX12_above_26 : decode cX12_above 26 = .ok (.iload_n 0, 1) := by decide +kernel
theorem dX12_above_27 : decode cX12_above 27 = .ok (.bipush 6, 2) := by decide +kernel
theorem dX12_above_29 : decode cX12_above 29 = .ok (.if_icmp .ne 7, 3) := by decide +kernel
theorem dX12_above_32 : decode cX12_above 32 = .ok (.iconst 3, 1) := by decide +kernel
theorem dX12_above_33 : decode cX12_above 33 = .ok (.goto 4, 3) := by decide +kernel
theorem dX12_above_36 : decode cX12_above 36 = .ok (.iconst 0, 1) := by decide +kernel
theorem dX12_above_37 : decode cX12_above 37 = .ok (.ireturn, 1) := by decide +kernel
theorem dX12_as_0 : decode cX12_as 0 = .ok (.aload_n 0, 1) := by decide +kernel
theorem dX12_as_1 : decode cX12_as 1 = .ok (.iload_n 1, 1) := by decide +kernel
theorem dX12_as_2 : decode cX12_as 2 = .ok (.invokevirtual 100, 3) := by decide +kernel
theorem dX12_as_5 : decode cX12_as 5 = .ok (.ifCond .eq 13, 3) := by decide +kernel
theorem dX12_as_8 : decode cX12_as 8 = .ok (.iload_n 2, 1) := by decide +kernel
theorem dX12_as_9 : decode cX12_as 9 = .ok (.iconst 0, 1) := by decide +kernel
theorem dX12_as_10 : decode cX12_as 10 = .ok (.bipush 6, 2) := by decide +kernel
theorem dX12_as_12 : decode cX12_as 12 = .ok (.invokestatic 47, 3) := by decide +kernel
theorem dX12_as_15 : decode cX12_as 15 = .ok (.ifCond .ne 10, 3) := by decide +kernel
theorem dX12_as_18 : decode cX12_as 18 = .ok (.aload_n 0, 1) := by decide +kernel
theorem dX12_as_19 : decode cX12_as 19 = .ok (.ldc 55, 2) := by decide +kernel
theorem dX12_as_21 : decode cX12_as 21 = .ok (.invokevirtual 56, 3) := by decide +kernel
theorem dX12_as_24 : decode cX12_as 24 = .ok (.ireturn, 1) := by decide +kernel
theorem dX12_as_25 : decode cX12_as 25 = .ok (.aload_n 0, 1) := by decide +kernel
theorem dX12_as_26 : decode cX12_as 26 = .ok (.iload_n 1, 1) := by decide +kernel
theorem dX12_as_27 : decode cX12_as 27 = .ok (.iconst 0, 1) := by decide +kernel
theorem dX12_as_28 : decode cX12_as 28 = .ok (.invokevirtual 83, 3) := by decide +kernel
theorem dX12_as_31 : decode cX12_as 31 = .ok (.istore_n 3, 1) := by decide +kernel
theorem dX12_as_32 : decode cX12_as 32 = .ok (.iload_n 3, 1) := by decide +kernel
theorem dX12_as_33 : decode cX12_as 33 = .ok (.ifCond .lt 16, 3) := by decide +kernel
theorem dX12_as_36 : decode cX12_as 36 = .ok (.iload_n 3, 1) := by decide +kernel
theorem dX12_as_37 : decode cX12_as 37 = .ok (.iload_n 2, 1) := by decide +kernel
theorem dX12_as_38 : decode cX12_as 38 = .ok (.if_icmp .eq 11, 3) := by decide +kernel
theorem dX12_as_41 : decode cX12_as 41 = .ok (.iload_n 3, 1) := by decide +kernel
theorem dX12_as_42 : decode cX12_as 42 = .ok (.invokestatic 113, 3) := by decide +kernel
theorem dX12_as_45 : decode cX12_as 45 = .ok (.istore_n 3, 1) := by decide +kernel
theorem dX12_as_46 : decode cX12_as 46 = .ok (.goto (-14), 3) := by decide +kernel
theorem dX12_as_49 : decode cX12_as 49 = .ok (.iload_n 3, 1) := by decide +kernel
theorem dX12_as_50 : decode cX12_as 50 = .ok (.ifCond .ge 12, 3) := by decide +kernel
theorem dX12_as_53 : decode cX12_as 53 = .ok (.aload_n 0, 1) := by decide +kernel
theorem dX12_as_54 : decode cX12_as 54 = .ok (.ldc 116, 2) := by decide +kernel
theorem dX12_as_56 : decode cX12_as 56 = .ok (.invokevirtual 56, 3) := by decide +kernel
theorem dX12_as_59 : decode cX12_as 59 = .ok (.goto 9, 3) := by decide +kernel
theorem dX12_as_62 : decode cX12_as 62 = .ok (.aload_n 0, 1) := by decide +kernel
theorem dX12_as_63 : decode cX12_as 63 = .ok (.iload_n 1, 1) := by decide +kernel
theorem dX12_as_64 : decode cX12_as 64 = .ok (.iconst 1, 1) := by decide +kernel
theorem dX12_as_65 : decode cX12_as 65 = .ok (.invokevirtual 83, 3) := by decide +kernel
theorem dX12_as_68 : decode cX12_as 68 = .ok (.ireturn, 1) := by decide +kernel
theorem dX12_byteAt_0 : decode cX12_byteAt 0 = .ok (.iload_n 1, 1) := by decide +kernel
theorem dX12_byteAt_1 : decode cX12_byteAt 1 = .ok (.aload_n 0, 1) := by decide +kernel
theorem dX12_byteAt_2 : decode cX12_byteAt 2 = .ok (.getfield 117, 3) := by decide +kernel
theorem dX12_byteAt_5 : decode cX12_byteAt 5 = .ok (.if_icmp .ge 23, 3) := by decide +kernel
theorem dX12_byteAt_8 : decode cX12_byteAt 8 = .ok (.aload_n 0, 1) := by decide +kernel
theorem dX12_byteAt_9 : decode cX12_byteAt 9 = .ok (.getfield 7, 3) := by decide +kernel
theorem dX12_byteAt_12 : decode cX12_byteAt 12 = .ok (.bipush 106, 2) := by decide +kernel
theorem dX12_byteAt_14 : decode cX12_byteAt 14 = .ok (.bipush 50, 2) := by decide +kernel
theorem dX12_byteAt_16 : decode cX12_byteAt 16 = .ok (.aload_n 0, 1) := by decide +kernel
theorem dX12_byteAt_17 : decode cX12_byteAt 17 = .ok (.getfield 120, 3) := by decide +kernel
theorem dX12_byteAt_20 : decode cX12_byteAt 20 = .ok (.imul, 1) := by decide +kernel
theorem dX12_byteAt_21 : decode cX12_byteAt 21 = .ok (.iadd, 1) := by decide +kernel
theorem dX12_byteAt_22 : decode cX12_byteAt 22 = .ok (.iload_n 1, 1) := by decide +kernel
theorem dX12_byteAt_23 : decode cX12_byteAt 23 = .ok (.iadd, 1) := by decide +kernel
theorem dX12_byteAt_24 : decode cX12_byteAt 24 = .ok (.iaload, 1) := by decide +kernel
theorem dX12_byteAt_25 : decode cX12_byteAt 25 = .ok (.goto 4, 3) := by decide +kernel
theorem dX12_byteAt_28 : decode cX12_byteAt 28 = .ok (.iconst (-1), 1) := by decide +kernel
theorem dX12_byteAt_29 : decode cX12_byteAt 29 = .ok (.ireturn, 1) := by decide +kernel
theorem dX12_isDigit_0 : decode cX12_isDigit 0 = .ok (.iload_n 0, 1) := by decide +kernel
theorem dX12_isDigit_1 : decode cX12_isDigit 1 = .ok (.bipush 48, 2) := by decide +kernel
theorem dX12_isDigit_3 : decode cX12_isDigit 3 = .ok (.bipush 57, 2) := by decide +kernel
theorem dX12_isDigit_5 : decode cX12_isDigit 5 = .ok (.invokestatic 47, 3) := by decide +kernel
theorem dX12_isDigit_8 : decode cX12_isDigit 8 = .ok (.ireturn, 1) := by decide +kernel
theorem dX12_fails_0 : decode cX12_fails 0 = .ok (.aload_n 0, 1) := by decide +kernel
theorem dX12_fails_1 : decode cX12_fails 1 = .ok (.iconst 0, 1) := by decide +kernel
theorem dX12_fails_2 : decode cX12_fails 2 = .ok (.putfield 123, 3) := by decide +kernel
theorem dX12_fails_5 : decode cX12_fails 5 = .ok (.iconst 0, 1) := by decide +kernel
theorem dX12_fails_6 : decode cX12_fails 6 = .ok (.ireturn, 1) := by decide +kernel
theorem dX12_number_0 : decode cX12_number 0 = .ok (.iconst 0, 1) := by decide +kernel
theorem dX12_number_1 : decode cX12_number 1 = .ok (.istore_n 1, 1) := by decide +kernel
theorem dX12_number_2 : decode cX12_number 2 = .ok (.iconst 0, 1) := by decide +kernel
theorem dX12_number_3 : decode cX12_number 3 = .ok (.istore_n 2, 1) := by decide +kernel
theorem dX12_number_4 : decode cX12_number 4 = .ok (.iload_n 2, 1) := by decide +kernel
theorem dX12_number_5 : decode cX12_number 5 = .ok (.iconst 4, 1) := by decide +kernel
theorem dX12_number_6 : decode cX12_number 6 = .ok (.if_icmp .ge 50, 3) := by decide +kernel
theorem dX12_number_9 : decode cX12_number 9 = .ok (.aload_n 0, 1) := by decide +kernel
theorem dX12_number_10 : decode cX12_number 10 = .ok (.aload_n 0, 1) := by decide +kernel
theorem dX12_number_11 : decode cX12_number 11 = .ok (.getfield 127, 3) := by decide +kernel
theorem dX12_number_14 : decode cX12_number 14 = .ok (.invokevirtual 130, 3) := by decide +kernel
theorem dX12_number_17 : decode cX12_number 17 = .ok (.invokestatic 133, 3) := by decide +kernel
theorem dX12_number_20 : decode cX12_number 20 = .ok (.ifCond .eq 36, 3) := by decide +kernel
theorem dX12_number_23 : decode cX12_number 23 = .ok (.bipush 10, 2) := by decide +kernel
theorem dX12_number_25 : decode cX12_number 25 = .ok (.iload_n 1, 1) := by decide +kernel
theorem dX12_number_26 : decode cX12_number 26 = .ok (.imul, 1) := by decide +kernel
theorem dX12_number_27 : decode cX12_number 27 = .ok (.aload_n 0, 1) := by decide +kernel
theorem dX12_number_28 : decode cX12_number 28 = .ok (.aload_n 0, 1) := by decide +kernel
theorem dX12_number_29 : decode cX12_number 29 = .ok (.getfield 127, 3) := by decide +kernel
theorem dX12_number_32 : decode cX12_number 32 = .ok (.invokevirtual 130, 3) := by decide +kernel
theorem dX12_number_35 : decode cX12_number 35 = .ok (.iadd, 1) := by decide +kernel
theorem dX12_number_36 : decode cX12_number 36 = .ok (.bipush 48, 2) := by decide +kernel
theorem dX12_number_38 : decode cX12_number 38 = .ok (.isub, 1) := by decide +kernel
theorem dX12_number_39 : decode cX12_number 39 = .ok (.istore_n 1, 1) := by decide +kernel
theorem dX12_number_40 : decode cX12_number 40 = .ok (.aload_n 0, 1) := by decide +kernel
theorem dX12_number_41 : decode cX12_number 41 = .ok (.dup, 1) := by decide +kernel
theorem dX12_number_42 : decode cX12_number 42 = .ok (.getfield 127, 3) := by decide +kernel
theorem dX12_number_45 : decode cX12_number 45 = .ok (.iconst 1, 1) := by decide +kernel
theorem dX12_number_46 : decode cX12_number 46 = .ok (.iadd, 1) := by decide +kernel
theorem dX12_number_47 : decode cX12_number 47 = .ok (.putfield 127, 3) := by decide +kernel
theorem dX12_number_50 : decode cX12_number 50 = .ok (.iinc 2 1, 3) := by decide +kernel
theorem dX12_number_53 : decode cX12_number 53 = .ok (.goto (-49), 3) := by decide +kernel
theorem dX12_number_56 : decode cX12_number 56 = .ok (.iload_n 1, 1) := by decide +kernel
theorem dX12_number_57 : decode cX12_number 57 = .ok (.ireturn, 1) := by decide +kernel
theorem dX12_named_0 : decode cX12_named 0 = .ok (.iload_n 1, 1) := by decide +kernel
theorem dX12_named_1 : decode cX12_named 1 = .ok (.aload_n 0, 1) := by decide +kernel
theorem dX12_named_2 : decode cX12_named 2 = .ok (.getfield 120, 3) := by decide +kernel
theorem dX12_named_5 : decode cX12_named 5 = .ok (.ifCond .ne 8, 3) := by decide +kernel
theorem dX12_named_8 : decode cX12_named 8 = .ok (.bipush 104, 2) := by decide +kernel
theorem dX12_named_10 : decode cX12_named 10 = .ok (.goto 5, 3) := by decide +kernel
theorem dX12_named_13 : decode cX12_named 13 = .ok (.bipush 115, 2) := by decide +kernel
theorem dX12_named_15 : decode cX12_named 15 = .ok (.if_icmp .ne 7, 3) := by decide +kernel
theorem dX12_named_18 : decode cX12_named 18 = .ok (.iconst 1, 1) := by decide +kernel
theorem dX12_named_19 : decode cX12_named 19 = .ok (.goto 4, 3) := by decide +kernel
theorem dX12_named_22 : decode cX12_named 22 = .ok (.iconst 0, 1) := by decide +kernel
theorem dX12_named_23 : decode cX12_named 23 = .ok (.istore_n 2, 1) := by decide +kernel
theorem dX12_named_24 : decode cX12_named 24 = .ok (.iload_n 1, 1) := by decide +kernel
theorem dX12_named_25 : decode cX12_named 25 = .ok (.aload_n 0, 1) := by decide +kernel
theorem dX12_named_26 : decode cX12_named 26 = .ok (.getfield 120, 3) := by decide +kernel
theorem dX12_named_29 : decode cX12_named 29 = .ok (.ifCond .ne 8, 3) := by decide +kernel
theorem dX12_named_32 : decode cX12_named 32 = .ok (.bipush 99, 2) := by decide +kernel
theorem dX12_named_34 : decode cX12_named 34 = .ok (.goto 5, 3) := by decide +kernel
theorem dX12_named_37 : decode cX12_named 37 = .ok (.bipush 107, 2) := by decide +kernel
theorem dX12_named_39 : decode cX12_named 39 = .ok (.if_icmp .ne 7, 3) := by decide +kernel
theorem dX12_named_42 : decode cX12_named 42 = .ok (.iconst 1, 1) := by decide +kernel
theorem dX12_named_43 : decode cX12_named 43 = .ok (.goto 4, 3) := by decide +kernel
theorem dX12_named_46 : decode cX12_named 46 = .ok (.iconst 0, 1) := by decide +kernel
theorem dX12_named_47 : decode cX12_named 47 = .ok (.istore_n 3, 1) := by decide +kernel
theorem dX12_named_48 : decode cX12_named 48 = .ok (.iload_n 1, 1) := by decide +kernel
theorem dX12_named_49 : decode cX12_named 49 = .ok (.aload_n 0, 1) := by decide +kernel
theorem dX12_named_50 : decode cX12_named 50 = .ok (.getfield 120, 3) := by decide +kernel
theorem dX12_named_53 : decode cX12_named 53 = .ok (.ifCond .ne 8, 3) := by decide +kernel
theorem dX12_named_56 : decode cX12_named 56 = .ok (.bipush 110, 2) := by decide +kernel
theorem dX12_named_58 : decode cX12_named 58 = .ok (.goto 5, 3) := by decide +kernel
theorem dX12_named_61 : decode cX12_named 61 = .ok (.bipush 100, 2) := by decide +kernel
theorem dX12_named_63 : decode cX12_named 63 = .ok (.if_icmp .ne 7, 3) := by decide +kernel
theorem dX12_named_66 : decode cX12_named 66 = .ok (.iconst 1, 1) := by decide +kernel
theorem dX12_named_67 : decode cX12_named 67 = .ok (.goto 4, 3) := by decide +kernel
theorem dX12_named_70 : decode cX12_named 70 = .ok (.iconst 0, 1) := by decide +kernel
theorem dX12_named_71 : decode cX12_named 71 = .ok (.istore 4, 2) := by decide +kernel
theorem dX12_named_73 : decode cX12_named 73 = .ok (.iload_n 2, 1) := by decide +kernel
theorem dX12_named_74 : decode cX12_named 74 = .ok (.ifCond .ne 17, 3) := by decide +kernel
theorem dX12_named_77 : decode cX12_named 77 = .ok (.iload_n 3, 1) := by decide +kernel
theorem dX12_named_78 : decode cX12_named 78 = .ok (.ifCond .ne 13, 3) := by decide +kernel
theorem dX12_named_81 : decode cX12_named 81 = .ok (.iload 4, 2) := by decide +kernel
theorem dX12_named_83 : decode cX12_named 83 = .ok (.ifCond .ne 8, 3) := by decide +kernel
theorem dX12_named_86 : decode cX12_named 86 = .ok (.aload_n 0, 1) := by decide +kernel
theorem dX12_named_87 : decode cX12_named 87 = .ok (.invokevirtual 136, 3) := by decide +kernel
theorem dX12_named_90 : decode cX12_named 90 = .ok (.ireturn, 1) := by decide +kernel
theorem dX12_named_91 : decode cX12_named 91 = .ok (.aload_n 0, 1) := by decide +kernel
theorem dX12_named_92 : decode cX12_named 92 = .ok (.dup, 1) := by decide +kernel
theorem dX12_named_93 : decode cX12_named 93 = .ok (.getfield 127, 3) := by decide +kernel
theorem dX12_named_96 : decode cX12_named 96 = .ok (.iconst 1, 1) := by decide +kernel
theorem dX12_named_97 : decode cX12_named 97 = .ok (.iadd, 1) := by decide +kernel
theorem dX12_named_98 : decode cX12_named 98 = .ok (.putfield 127, 3) := by decide +kernel
theorem dX12_named_101 : decode cX12_named 101 = .ok (.iload_n 2, 1) := by decide +kernel
theorem dX12_named_102 : decode cX12_named 102 = .ok (.ifCond .eq 10, 3) := by decide +kernel
theorem dX12_named_105 : decode cX12_named 105 = .ok (.aload_n 0, 1) := by decide +kernel
theorem dX12_named_106 : decode cX12_named 106 = .ok (.getfield 139, 3) := by decide +kernel
theorem dX12_named_109 : decode cX12_named 109 = .ok (.goto 18, 3) := by decide +kernel
theorem dX12_named_112 : decode cX12_named 112 = .ok (.iload_n 3, 1) := by decide +kernel
theorem dX12_named_113 : decode cX12_named 113 = .ok (.ifCond .eq 10, 3) := by decide +kernel
theorem dX12_named_116 : decode cX12_named 116 = .ok (.aload_n 0, 1) := by decide +kernel
theorem dX12_named_117 : decode cX12_named 117 = .ok (.getfield 142, 3) := by decide +kernel
theorem dX12_named_120 : decode cX12_named 120 = .ok (.goto 7, 3) := by decide +kernel
theorem dX12_named_123 : decode cX12_named 123 = .ok (.aload_n 0, 1) := by decide +kernel
theorem dX12_named_124 : decode cX12_named 124 = .ok (.getfield 145, 3) := by decide +kernel
theorem dX12_named_127 : decode cX12_named 127 = .ok (.ireturn, 1) := by decide +kernel
theorem dX12_factor_0 : decode cX12_factor 0 = .ok (.aload_n 0, 1) := by decide +kernel
theorem dX12_factor_1 : decode cX12_factor 1 = .ok (.aload_n 0, 1) := by decide +kernel
theorem dX12_factor_2 : decode cX12_factor 2 = .ok (.getfield 127, 3) := by decide +kernel
theorem dX12_factor_5 : decode cX12_factor 5 = .ok (.invokevirtual 130, 3) := by decide +kernel
theorem dX12_factor_8 : decode cX12_factor 8 = .ok (.istore_n 1, 1) := by decide +kernel
theorem dX12_factor_9 : decode cX12_factor 9 = .ok (.iload_n 1, 1) := by decide +kernel
theorem dX12_factor_10 : decode cX12_factor 10 = .ok (.invokestatic 133, 3) := by decide +kernel
theorem dX12_factor_13 : decode cX12_factor 13 = .ok (.ifCond .eq 8, 3) := by decide +kernel
theorem dX12_factor_16 : decode cX12_factor 16 = .ok (.aload_n 0, 1) := by decide +kernel
theorem dX12_factor_17 : decode cX12_factor 17 = .ok (.invokevirtual 148, 3) := by decide +kernel
theorem dX12_factor_20 : decode cX12_factor 20 = .ok (.ireturn, 1) := by decide +kernel
theorem dX12_factor_21 : decode cX12_factor 21 = .ok (.iload_n 1, 1) := by decide +kernel
theorem dX12_factor_22 : decode cX12_factor 22 = .ok (.bipush 33, 2) := by decide +kernel
theorem dX12_factor_24 : decode cX12_factor 24 = .ok (.if_icmp .eq 15, 3) := by decide +kernel
theorem dX12_factor_27 : decode cX12_factor 27 = .ok (.iload_n 1, 1) := by decide +kernel
theorem dX12_factor_28 : decode cX12_factor 28 = .ok (.bipush 40, 2) := by decide +kernel
theorem dX12_factor_30 : decode cX12_factor 30 = .ok (.if_icmp .eq 9, 3) := by decide +kernel
theorem dX12_factor_33 : decode cX12_factor 33 = .ok (.aload_n 0, 1) := by decide +kernel
theorem dX12_factor_34 : decode cX12_factor 34 = .ok (.iload_n 1, 1) := by decide +kernel
theorem dX12_factor_35 : decode cX12_factor 35 = .ok (.invokevirtual 151, 3) := by decide +kernel
theorem dX12_factor_38 : decode cX12_factor 38 = .ok (.ireturn, 1) := by decide +kernel
theorem dX12_factor_39 : decode cX12_factor 39 = .ok (.aload_n 0, 1) := by decide +kernel
theorem dX12_factor_40 : decode cX12_factor 40 = .ok (.getfield 154, 3) := by decide +kernel
theorem dX12_factor_43 : decode cX12_factor 43 = .ok (.iconst 5, 1) := by decide +kernel
theorem dX12_factor_44 : decode cX12_factor 44 = .ok (.if_icmp .ne 8, 3) := by decide +kernel
theorem dX12_factor_47 : decode cX12_factor 47 = .ok (.aload_n 0, 1) := by decide +kernel
theorem dX12_factor_48 : decode cX12_factor 48 = .ok (.invokevirtual 136, 3) := by decide +kernel
theorem dX12_factor_51 : decode cX12_factor 51 = .ok (.ireturn, 1) := by decide +kernel
theorem dX12_factor_52 : decode cX12_factor 52 = .ok (.aload_n 0, 1) := by decide +kernel
theorem dX12_factor_53 : decode cX12_factor 53 = .ok (.dup, 1) := by decide +kernel
theorem dX12_factor_54 : decode cX12_factor 54 = .ok (.getfield 154, 3) := by decide +kernel
theorem dX12_factor_57 : decode cX12_factor 57 = .ok (.iconst 1, 1) := by decide +kernel
theorem dX12_factor_58 : decode cX12_factor 58 = .ok (.iadd, 1) := by decide +kernel
theorem dX12_factor_59 : decode cX12_factor 59 = .ok (.putfield 154, 3) := by decide +kernel
theorem dX12_factor_62 : decode cX12_factor 62 = .ok (.aload_n 0, 1) := by decide +kernel
theorem dX12_factor_63 : decode cX12_factor 63 = .ok (.dup, 1) := by decide +kernel
theorem dX12_factor_64 : decode cX12_factor 64 = .ok (.getfield 127, 3) := by decide +kernel
theorem dX12_factor_67 : decode cX12_factor 67 = .ok (.iconst 1, 1) := by decide +kernel
theorem dX12_factor_68 : decode cX12_factor 68 = .ok (.iadd, 1) := by decide +kernel
theorem dX12_factor_69 : decode cX12_factor 69 = .ok (.putfield 127, 3) := by decide +kernel
theorem dX12_factor_72 : decode cX12_factor 72 = .ok (.iload_n 1, 1) := by decide +kernel
theorem dX12_factor_73 : decode cX12_factor 73 = .ok (.bipush 33, 2) := by decide +kernel
theorem dX12_factor_75 : decode cX12_factor 75 = .ok (.if_icmp .ne 10, 3) := by decide +kernel
theorem dX12_factor_78 : decode cX12_factor 78 = .ok (.aload_n 0, 1) := by decide +kernel
theorem dX12_factor_79 : decode cX12_factor 79 = .ok (.invokevirtual 157, 3) := by decide +kernel
theorem dX12_factor_82 : decode cX12_factor 82 = .ok (.goto 7, 3) := by decide +kernel
theorem dX12_factor_85 : decode cX12_factor 85 = .ok (.aload_n 0, 1) := by decide +kernel
theorem dX12_factor_86 : decode cX12_factor 86 = .ok (.invokevirtual 160, 3) := by decide +kernel
theorem dX12_factor_89 : decode cX12_factor 89 = .ok (.istore_n 2, 1) := by decide +kernel
theorem dX12_factor_90 : decode cX12_factor 90 = .ok (.aload_n 0, 1) := by decide +kernel
theorem dX12_factor_91 : decode cX12_factor 91 = .ok (.dup, 1) := by decide +kernel
theorem dX12_factor_92 : decode cX12_factor 92 = .ok (.getfield 154, 3) := by decide +kernel
theorem dX12_factor_95 : decode cX12_factor 95 = .ok (.iconst 1, 1) := by decide +kernel
theorem dX12_factor_96 : decode cX12_factor 96 = .ok (.isub, 1) := by decide +kernel
theorem dX12_factor_97 : decode cX12_factor 97 = .ok (.putfield 154, 3) := by decide +kernel
theorem dX12_factor_100 : decode cX12_factor 100 = .ok (.iload_n 1, 1) := by decide +kernel
theorem dX12_factor_101 : decode cX12_factor 101 = .ok (.bipush 33, 2) := by decide +kernel
theorem dX12_factor_103 : decode cX12_factor 103 = .ok (.if_icmp .ne 13, 3) := by decide +kernel
theorem dX12_factor_106 : decode cX12_factor 106 = .ok (.iload_n 2, 1) := by decide +kernel
theorem dX12_factor_107 : decode cX12_factor 107 = .ok (.ifCond .ne 7, 3) := by decide +kernel
theorem dX12_factor_110 : decode cX12_factor 110 = .ok (.iconst 1, 1) := by decide +kernel
theorem dX12_factor_111 : decode cX12_factor 111 = .ok (.goto 4, 3) := by decide +kernel
theorem dX12_factor_114 : decode cX12_factor 114 = .ok (.iconst 0, 1) := by decide +kernel
theorem dX12_factor_115 : decode cX12_factor 115 = .ok (.ireturn, 1) := by decide +kernel
theorem dX12_factor_116 : decode cX12_factor 116 = .ok (.aload_n 0, 1) := by decide +kernel
theorem dX12_factor_117 : decode cX12_factor 117 = .ok (.getfield 123, 3) := by decide +kernel
theorem dX12_factor_120 : decode cX12_factor 120 = .ok (.ifCond .eq 28, 3) := by decide +kernel
theorem dX12_factor_123 : decode cX12_factor 123 = .ok (.aload_n 0, 1) := by decide +kernel
theorem dX12_factor_124 : decode cX12_factor 124 = .ok (.aload_n 0, 1) := by decide +kernel
theorem dX12_factor_125 : decode cX12_factor 125 = .ok (.getfield 127, 3) := by decide +kernel
theorem dX12_factor_128 : decode cX12_factor 128 = .ok (.invokevirtual 130, 3) := by decide +kernel
theorem dX12_factor_131 : decode cX12_factor 131 = .ok (.bipush 41, 2) := by decide +kernel
theorem dX12_factor_133 : decode cX12_factor 133 = .ok (.if_icmp .ne 15, 3) := by decide +kernel
theorem dX12_factor_136 : decode cX12_factor 136 = .ok (.aload_n 0, 1) := by decide +kernel
theorem dX12_factor_137 : decode cX12_factor 137 = .ok (.dup, 1) := by decide +kernel
theorem dX12_factor_138 : decode cX12_factor 138 = .ok (.getfield 127, 3) := by decide +kernel
theorem dX12_factor_141 : decode cX12_factor 141 = .ok (.iconst 1, 1) := by decide +kernel
theorem dX12_factor_142 : decode cX12_factor 142 = .ok (.iadd, 1) := by decide +kernel
theorem dX12_factor_143 : decode cX12_factor 143 = .ok (.putfield 127, 3) := by decide +kernel
theorem dX12_factor_146 : decode cX12_factor 146 = .ok (.iload_n 2, 1) := by decide +kernel
theorem dX12_factor_147 : decode cX12_factor 147 = .ok (.ireturn, 1) := by decide +kernel
theorem dX12_factor_148 : decode cX12_factor 148 = .ok (.aload_n 0, 1) := by decide +kernel
theorem dX12_factor_149 : decode cX12_factor 149 = .ok (.invokevirtual 136, 3) := by decide +kernel
theorem dX12_factor_152 : decode cX12_factor 152 = .ok (.ireturn, 1) := by decide +kernel
theorem dX12_product_0 : decode cX12_product 0 = .ok (.aload_n 0, 1) := by decide +kernel
theorem dX12_product_1 : decode cX12_product 1 = .ok (.invokevirtual 157, 3) := by decide +kernel
theorem dX12_product_4 : decode cX12_product 4 = .ok (.istore_n 1, 1) := by decide +kernel
theorem dX12_product_5 : decode cX12_product 5 = .ok (.aload_n 0, 1) := by decide +kernel
theorem dX12_product_6 : decode cX12_product 6 = .ok (.getfield 123, 3) := by decide +kernel
theorem dX12_product_9 : decode cX12_product 9 = .ok (.ifCond .eq 105, 3) := by decide +kernel
theorem dX12_product_12 : decode cX12_product 12 = .ok (.aload_n 0, 1) := by decide +kernel
theorem dX12_product_13 : decode cX12_product 13 = .ok (.aload_n 0, 1) := by decide +kernel
theorem dX12_product_14 : decode cX12_product 14 = .ok (.getfield 127, 3) := by decide +kernel
theorem dX12_product_17 : decode cX12_product 17 = .ok (.invokevirtual 130, 3) := by decide +kernel
theorem dX12_product_20 : decode cX12_product 20 = .ok (.bipush 42, 2) := by decide +kernel
theorem dX12_product_22 : decode cX12_product 22 = .ok (.if_icmp .eq 29, 3) := by decide +kernel
theorem dX12_product_25 : decode cX12_product 25 = .ok (.aload_n 0, 1) := by decide +kernel
theorem dX12_product_26 : decode cX12_product 26 = .ok (.aload_n 0, 1) := by decide +kernel
theorem dX12_product_27 : decode cX12_product 27 = .ok (.getfield 127, 3) := by decide +kernel
theorem dX12_product_30 : decode cX12_product 30 = .ok (.invokevirtual 130, 3) := by decide +kernel
theorem dX12_product_33 : decode cX12_product 33 = .ok (.bipush 47, 2) := by decide +kernel
theorem dX12_product_35 : decode cX12_product 35 = .ok (.if_icmp .eq 16, 3) := by decide +kernel
theorem dX12_product_38 : decode cX12_product 38 = .ok (.aload_n 0, 1) := by decide +kernel
theorem dX12_product_39 : decode cX12_product 39 = .ok (.aload_n 0, 1) := by decide +kernel
theorem dX12_product_40 : decode cX12_product 40 = .ok (.getfield 127, 3) := by decide +kernel
theorem dX12_product_43 : decode cX12_product 43 = .ok (.invokevirtual 130, 3) := by decide +kernel
theorem dX12_product_46 : decode cX12_product 46 = .ok (.bipush 37, 2) := by decide +kernel
theorem dX12_product_48 : decode cX12_product 48 = .ok (.if_icmp .ne 66, 3) := by decide +kernel
theorem dX12_product_51 : decode cX12_product 51 = .ok (.aload_n 0, 1) := by decide +kernel
theorem dX12_product_52 : decode cX12_product 52 = .ok (.aload_n 0, 1) := by decide +kernel
theorem dX12_product_53 : decode cX12_product 53 = .ok (.getfield 127, 3) := by decide +kernel
theorem dX12_product_56 : decode cX12_product 56 = .ok (.invokevirtual 130, 3) := by decide +kernel
theorem dX12_product_59 : decode cX12_product 59 = .ok (.istore_n 2, 1) := by decide +kernel
theorem dX12_product_60 : decode cX12_product 60 = .ok (.aload_n 0, 1) := by decide +kernel
theorem dX12_product_61 : decode cX12_product 61 = .ok (.dup, 1) := by decide +kernel
theorem dX12_product_62 : decode cX12_product 62 = .ok (.getfield 127, 3) := by decide +kernel
theorem dX12_product_65 : decode cX12_product 65 = .ok (.iconst 1, 1) := by decide +kernel
theorem dX12_product_66 : decode cX12_product 66 = .ok (.iadd, 1) := by decide +kernel
theorem dX12_product_67 : decode cX12_product 67 = .ok (.putfield 127, 3) := by decide +kernel
theorem dX12_product_70 : decode cX12_product 70 = .ok (.aload_n 0, 1) := by decide +kernel
theorem dX12_product_71 : decode cX12_product 71 = .ok (.invokevirtual 157, 3) := by decide +kernel
theorem dX12_product_74 : decode cX12_product 74 = .ok (.istore_n 3, 1) := by decide +kernel
theorem dX12_product_75 : decode cX12_product 75 = .ok (.iload_n 2, 1) := by decide +kernel
theorem dX12_product_76 : decode cX12_product 76 = .ok (.bipush 42, 2) := by decide +kernel
theorem dX12_product_78 : decode cX12_product 78 = .ok (.if_icmp .ne 9, 3) := by decide +kernel
theorem dX12_product_81 : decode cX12_product 81 = .ok (.iload_n 1, 1) := by decide +kernel
theorem dX12_product_82 : decode cX12_product 82 = .ok (.iload_n 3, 1) := by decide +kernel
theorem dX12_product_83 : decode cX12_product 83 = .ok (.imul, 1) := by decide +kernel
theorem dX12_product_84 : decode cX12_product 84 = .ok (.goto 26, 3) := by decide +kernel
theorem dX12_product_87 : decode cX12_product 87 = .ok (.iload_n 3, 1) := by decide +kernel
theorem dX12_product_88 : decode cX12_product 88 = .ok (.ifCond .ne 7, 3) := by decide +kernel
theorem dX12_product_91 : decode cX12_product 91 = .ok (.iconst 0, 1) := by decide +kernel
theorem dX12_product_92 : decode cX12_product 92 = .ok (.goto 18, 3) := by decide +kernel
theorem dX12_product_95 : decode cX12_product 95 = .ok (.iload_n 2, 1) := by decide +kernel
theorem dX12_product_96 : decode cX12_product 96 = .ok (.bipush 47, 2) := by decide +kernel
theorem dX12_product_98 : decode cX12_product 98 = .ok (.if_icmp .ne 9, 3) := by decide +kernel
theorem dX12_product_101 : decode cX12_product 101 = .ok (.iload_n 1, 1) := by decide +kernel
theorem dX12_product_102 : decode cX12_product 102 = .ok (.iload_n 3, 1) := by decide +kernel
theorem dX12_product_103 : decode cX12_product 103 = .ok (.idiv, 1) := by decide +kernel
theorem dX12_product_104 : decode cX12_product 104 = .ok (.goto 6, 3) := by decide +kernel
theorem dX12_product_107 : decode cX12_product 107 = .ok (.iload_n 1, 1) := by decide +kernel
theorem dX12_product_108 : decode cX12_product 108 = .ok (.iload_n 3, 1) := by decide +kernel
theorem dX12_product_109 : decode cX12_product 109 = .ok (.irem, 1) := by decide +kernel
theorem dX12_product_110 : decode cX12_product 110 = .ok (.istore_n 1, 1) := by decide +kernel
theorem dX12_product_111 : decode cX12_product 111 = .ok (.goto (-106), 3) := by decide +kernel
theorem dX12_product_114 : decode cX12_product 114 = .ok (.iload_n 1, 1) := by decide +kernel
theorem dX12_product_115 : decode cX12_product 115 = .ok (.ireturn, 1) := by decide +kernel
theorem dX12_sum_0 : decode cX12_sum 0 = .ok (.aload_n 0, 1) := by decide +kernel
theorem dX12_sum_1 : decode cX12_sum 1 = .ok (.invokevirtual 163, 3) := by decide +kernel
theorem dX12_sum_4 : decode cX12_sum 4 = .ok (.istore_n 1, 1) := by decide +kernel
theorem dX12_sum_5 : decode cX12_sum 5 = .ok (.aload_n 0, 1) := by decide +kernel
theorem dX12_sum_6 : decode cX12_sum 6 = .ok (.getfield 123, 3) := by decide +kernel
theorem dX12_sum_9 : decode cX12_sum 9 = .ok (.ifCond .eq 72, 3) := by decide +kernel
theorem dX12_sum_12 : decode cX12_sum 12 = .ok (.aload_n 0, 1) := by decide +kernel
theorem dX12_sum_13 : decode cX12_sum 13 = .ok (.aload_n 0, 1) := by decide +kernel
theorem dX12_sum_14 : decode cX12_sum 14 = .ok (.getfield 127, 3) := by decide +kernel
theorem dX12_sum_17 : decode cX12_sum 17 = .ok (.invokevirtual 130, 3) := by decide +kernel
theorem dX12_sum_20 : decode cX12_sum 20 = .ok (.bipush 43, 2) := by decide +kernel
theorem dX12_sum_22 : decode cX12_sum 22 = .ok (.if_icmp .eq 16, 3) := by decide +kernel
theorem dX12_sum_25 : decode cX12_sum 25 = .ok (.aload_n 0, 1) := by decide +kernel
theorem dX12_sum_26 : decode cX12_sum 26 = .ok (.aload_n 0, 1) := by decide +kernel
theorem dX12_sum_27 : decode cX12_sum 27 = .ok (.getfield 127, 3) := by decide +kernel
theorem dX12_sum_30 : decode cX12_sum 30 = .ok (.invokevirtual 130, 3) := by decide +kernel
theorem dX12_sum_33 : decode cX12_sum 33 = .ok (.bipush 45, 2) := by decide +kernel
theorem dX12_sum_35 : decode cX12_sum 35 = .ok (.if_icmp .ne 46, 3) := by decide +kernel
theorem dX12_sum_38 : decode cX12_sum 38 = .ok (.aload_n 0, 1) := by decide +kernel
theorem dX12_sum_39 : decode cX12_sum 39 = .ok (.aload_n 0, 1) := by decide +kernel
theorem dX12_sum_40 : decode cX12_sum 40 = .ok (.getfield 127, 3) := by decide +kernel
theorem dX12_sum_43 : decode cX12_sum 43 = .ok (.invokevirtual 130, 3) := by decide +kernel
theorem dX12_sum_46 : decode cX12_sum 46 = .ok (.istore_n 2, 1) := by decide +kernel
theorem dX12_sum_47 : decode cX12_sum 47 = .ok (.aload_n 0, 1) := by decide +kernel
theorem dX12_sum_48 : decode cX12_sum 48 = .ok (.dup, 1) := by decide +kernel
theorem dX12_sum_49 : decode cX12_sum 49 = .ok (.getfield 127, 3) := by decide +kernel
theorem dX12_sum_52 : decode cX12_sum 52 = .ok (.iconst 1, 1) := by decide +kernel
theorem dX12_sum_53 : decode cX12_sum 53 = .ok (.iadd, 1) := by decide +kernel
theorem dX12_sum_54 : decode cX12_sum 54 = .ok (.putfield 127, 3) := by decide +kernel
theorem dX12_sum_57 : decode cX12_sum 57 = .ok (.aload_n 0, 1) := by decide +kernel
theorem dX12_sum_58 : decode cX12_sum 58 = .ok (.invokevirtual 163, 3) := by decide +kernel
theorem dX12_sum_61 : decode cX12_sum 61 = .ok (.istore_n 3, 1) := by decide +kernel
theorem dX12_sum_62 : decode cX12_sum 62 = .ok (.iload_n 2, 1) := by decide +kernel
theorem dX12_sum_63 : decode cX12_sum 63 = .ok (.bipush 43, 2) := by decide +kernel
theorem dX12_sum_65 : decode cX12_sum 65 = .ok (.if_icmp .ne 9, 3) := by decide +kernel
theorem dX12_sum_68 : decode cX12_sum 68 = .ok (.iload_n 1, 1) := by decide +kernel
theorem dX12_sum_69 : decode cX12_sum 69 = .ok (.iload_n 3, 1) := by decide +kernel
theorem dX12_sum_70 : decode cX12_sum 70 = .ok (.iadd, 1) := by decide +kernel
theorem dX12_sum_71 : decode cX12_sum 71 = .ok (.goto 6, 3) := by decide +kernel
theorem dX12_sum_74 : decode cX12_sum 74 = .ok (.iload_n 1, 1) := by decide +kernel
theorem dX12_sum_75 : decode cX12_sum 75 = .ok (.iload_n 3, 1) := by decide +kernel
theorem dX12_sum_76 : decode cX12_sum 76 = .ok (.isub, 1) := by decide +kernel
theorem dX12_sum_77 : decode cX12_sum 77 = .ok (.istore_n 1, 1) := by decide +kernel
theorem dX12_sum_78 : decode cX12_sum 78 = .ok (.goto (-73), 3) := by decide +kernel
theorem dX12_sum_81 : decode cX12_sum 81 = .ok (.iload_n 1, 1) := by decide +kernel
theorem dX12_sum_82 : decode cX12_sum 82 = .ok (.ireturn, 1) := by decide +kernel
theorem dX12_compared_0 : decode cX12_compared 0 = .ok (.aload_n 0, 1) := by decide +kernel
theorem dX12_compared_1 : decode cX12_compared 1 = .ok (.invokevirtual 166, 3) := by decide +kernel
theorem dX12_compared_4 : decode cX12_compared 4 = .ok (.istore_n 1, 1) := by decide +kernel
theorem dX12_compared_5 : decode cX12_compared 5 = .ok (.aload_n 0, 1) := by decide +kernel
theorem dX12_compared_6 : decode cX12_compared 6 = .ok (.getfield 123, 3) := by decide +kernel
theorem dX12_compared_9 : decode cX12_compared 9 = .ok (.ifCond .eq 14, 3) := by decide +kernel
theorem dX12_compared_12 : decode cX12_compared 12 = .ok (.aload_n 0, 1) := by decide +kernel
theorem dX12_compared_13 : decode cX12_compared 13 = .ok (.aload_n 0, 1) := by decide +kernel
theorem dX12_compared_14 : decode cX12_compared 14 = .ok (.getfield 127, 3) := by decide +kernel
theorem dX12_compared_17 : decode cX12_compared 17 = .ok (.invokevirtual 130, 3) := by decide +kernel
theorem dX12_compared_20 : decode cX12_compared 20 = .ok (.goto 4, 3) := by decide +kernel
theorem dX12_compared_23 : decode cX12_compared 23 = .ok (.iconst (-1), 1) := by decide +kernel
theorem dX12_compared_24 : decode cX12_compared 24 = .ok (.istore_n 2, 1) := by decide +kernel
theorem dX12_compared_25 : decode cX12_compared 25 = .ok (.iload_n 2, 1) := by decide +kernel
theorem dX12_compared_26 : decode cX12_compared 26 = .ok (.bipush 60, 2) := by decide +kernel
theorem dX12_compared_28 : decode cX12_compared 28 = .ok (.if_icmp .eq 17, 3) := by decide +kernel
theorem dX12_compared_31 : decode cX12_compared 31 = .ok (.iload_n 2, 1) := by decide +kernel
theorem dX12_compared_32 : decode cX12_compared 32 = .ok (.bipush 61, 2) := by decide +kernel
theorem dX12_compared_34 : decode cX12_compared 34 = .ok (.if_icmp .eq 11, 3) := by decide +kernel
theorem dX12_compared_37 : decode cX12_compared 37 = .ok (.iload_n 2, 1) := by decide +kernel
theorem dX12_compared_38 : decode cX12_compared 38 = .ok (.bipush 62, 2) := by decide +kernel
theorem dX12_compared_40 : decode cX12_compared 40 = .ok (.if_icmp .eq 5, 3) := by decide +kernel
theorem dX12_compared_43 : decode cX12_compared 43 = .ok (.iload_n 1, 1) := by decide +kernel
theorem dX12_compared_44 : decode cX12_compared 44 = .ok (.ireturn, 1) := by decide +kernel
theorem dX12_compared_45 : decode cX12_compared 45 = .ok (.aload_n 0, 1) := by decide +kernel
theorem dX12_compared_46 : decode cX12_compared 46 = .ok (.dup, 1) := by decide +kernel
theorem dX12_compared_47 : decode cX12_compared 47 = .ok (.getfield 127, 3) := by decide +kernel
theorem dX12_compared_50 : decode cX12_compared 50 = .ok (.iconst 1, 1) := by decide +kernel
theorem dX12_compared_51 : decode cX12_compared 51 = .ok (.iadd, 1) := by decide +kernel
theorem dX12_compared_52 : decode cX12_compared 52 = .ok (.putfield 127, 3) := by decide +kernel
theorem dX12_compared_55 : decode cX12_compared 55 = .ok (.aload_n 0, 1) := by decide +kernel
theorem dX12_compared_56 : decode cX12_compared 56 = .ok (.invokevirtual 166, 3) := by decide +kernel
theorem dX12_compared_59 : decode cX12_compared 59 = .ok (.istore_n 3, 1) := by decide +kernel
theorem dX12_compared_60 : decode cX12_compared 60 = .ok (.iload_n 2, 1) := by decide +kernel
theorem dX12_compared_61 : decode cX12_compared 61 = .ok (.bipush 60, 2) := by decide +kernel
theorem dX12_compared_63 : decode cX12_compared 63 = .ok (.if_icmp .ne 16, 3) := by decide +kernel
theorem dX12_compared_66 : decode cX12_compared 66 = .ok (.iload_n 1, 1) := by decide +kernel
theorem dX12_compared_67 : decode cX12_compared 67 = .ok (.iload_n 3, 1) := by decide +kernel
theorem dX12_compared_68 : decode cX12_compared 68 = .ok (.if_icmp .ge 7, 3) := by decide +kernel
theorem dX12_compared_71 : decode cX12_compared 71 = .ok (.iconst 1, 1) := by decide +kernel
theorem dX12_compared_72 : decode cX12_compared 72 = .ok (.goto 36, 3) := by decide +kernel
theorem dX12_compared_75 : decode cX12_compared 75 = .ok (.iconst 0, 1) := by decide +kernel
theorem dX12_compared_76 : decode cX12_compared 76 = .ok (.goto 32, 3) := by decide +kernel
theorem dX12_compared_79 : decode cX12_compared 79 = .ok (.iload_n 2, 1) := by decide +kernel
theorem dX12_compared_80 : decode cX12_compared 80 = .ok (.bipush 61, 2) := by decide +kernel
theorem dX12_compared_82 : decode cX12_compared 82 = .ok (.if_icmp .ne 16, 3) := by decide +kernel
theorem dX12_compared_85 : decode cX12_compared 85 = .ok (.iload_n 1, 1) := by decide +kernel
theorem dX12_compared_86 : decode cX12_compared 86 = .ok (.iload_n 3, 1) := by decide +kernel
theorem dX12_compared_87 : decode cX12_compared 87 = .ok (.if_icmp .ne 7, 3) := by decide +kernel
theorem dX12_compared_90 : decode cX12_compared 90 = .ok (.iconst 1, 1) := by decide +kernel
theorem dX12_compared_91 : decode cX12_compared 91 = .ok (.goto 17, 3) := by decide +kernel
theorem dX12_compared_94 : decode cX12_compared 94 = .ok (.iconst 0, 1) := by decide +kernel
theorem dX12_compared_95 : decode cX12_compared 95 = .ok (.goto 13, 3) := by decide +kernel
theorem dX12_compared_98 : decode cX12_compared 98 = .ok (.iload_n 1, 1) := by decide +kernel
theorem dX12_compared_99 : decode cX12_compared 99 = .ok (.iload_n 3, 1) := by decide +kernel
theorem dX12_compared_100 : decode cX12_compared 100 = .ok (.if_icmp .le 7, 3) := by decide +kernel
theorem dX12_compared_103 : decode cX12_compared 103 = .ok (.iconst 1, 1) := by decide +kernel
theorem dX12_compared_104 : decode cX12_compared 104 = .ok (.goto 4, 3) := by decide +kernel
theorem dX12_compared_107 : decode cX12_compared 107 = .ok (.iconst 0, 1) := by decide +kernel
theorem dX12_compared_108 : decode cX12_compared 108 = .ok (.istore 4, 2) := by decide +kernel
theorem dX12_compared_110 : decode cX12_compared 110 = .ok (.iload 4, 2) := by decide +kernel
theorem dX12_compared_112 : decode cX12_compared 112 = .ok (.ifCond .eq 7, 3) := by decide +kernel
theorem dX12_compared_115 : decode cX12_compared 115 = .ok (.iconst 1, 1) := by decide +kernel
theorem dX12_compared_116 : decode cX12_compared 116 = .ok (.goto 4, 3) := by decide +kernel
theorem dX12_compared_119 : decode cX12_compared 119 = .ok (.iconst 0, 1) := by decide +kernel
theorem dX12_compared_120 : decode cX12_compared 120 = .ok (.ireturn, 1) := by decide +kernel
theorem dX12_both_0 : decode cX12_both 0 = .ok (.aload_n 0, 1) := by decide +kernel
theorem dX12_both_1 : decode cX12_both 1 = .ok (.invokevirtual 169, 3) := by decide +kernel
theorem dX12_both_4 : decode cX12_both 4 = .ok (.istore_n 1, 1) := by decide +kernel
theorem dX12_both_5 : decode cX12_both 5 = .ok (.aload_n 0, 1) := by decide +kernel
theorem dX12_both_6 : decode cX12_both 6 = .ok (.getfield 123, 3) := by decide +kernel
theorem dX12_both_9 : decode cX12_both 9 = .ok (.ifCond .eq 48, 3) := by decide +kernel
theorem dX12_both_12 : decode cX12_both 12 = .ok (.aload_n 0, 1) := by decide +kernel
theorem dX12_both_13 : decode cX12_both 13 = .ok (.aload_n 0, 1) := by decide +kernel
theorem dX12_both_14 : decode cX12_both 14 = .ok (.getfield 127, 3) := by decide +kernel
theorem dX12_both_17 : decode cX12_both 17 = .ok (.invokevirtual 130, 3) := by decide +kernel
theorem dX12_both_20 : decode cX12_both 20 = .ok (.bipush 38, 2) := by decide +kernel
theorem dX12_both_22 : decode cX12_both 22 = .ok (.if_icmp .ne 35, 3) := by decide +kernel
theorem dX12_both_25 : decode cX12_both 25 = .ok (.aload_n 0, 1) := by decide +kernel
theorem dX12_both_26 : decode cX12_both 26 = .ok (.dup, 1) := by decide +kernel
theorem dX12_both_27 : decode cX12_both 27 = .ok (.getfield 127, 3) := by decide +kernel
theorem dX12_both_30 : decode cX12_both 30 = .ok (.iconst 1, 1) := by decide +kernel
theorem dX12_both_31 : decode cX12_both 31 = .ok (.iadd, 1) := by decide +kernel
theorem dX12_both_32 : decode cX12_both 32 = .ok (.putfield 127, 3) := by decide +kernel
theorem dX12_both_35 : decode cX12_both 35 = .ok (.aload_n 0, 1) := by decide +kernel
theorem dX12_both_36 : decode cX12_both 36 = .ok (.invokevirtual 169, 3) := by decide +kernel
theorem dX12_both_39 : decode cX12_both 39 = .ok (.istore_n 2, 1) := by decide +kernel
theorem dX12_both_40 : decode cX12_both 40 = .ok (.iload_n 1, 1) := by decide +kernel
theorem dX12_both_41 : decode cX12_both 41 = .ok (.ifCond .eq 11, 3) := by decide +kernel
theorem dX12_both_44 : decode cX12_both 44 = .ok (.iload_n 2, 1) := by decide +kernel
theorem dX12_both_45 : decode cX12_both 45 = .ok (.ifCond .eq 7, 3) := by decide +kernel
theorem dX12_both_48 : decode cX12_both 48 = .ok (.iconst 1, 1) := by decide +kernel
theorem dX12_both_49 : decode cX12_both 49 = .ok (.goto 4, 3) := by decide +kernel
theorem dX12_both_52 : decode cX12_both 52 = .ok (.iconst 0, 1) := by decide +kernel
theorem dX12_both_53 : decode cX12_both 53 = .ok (.istore_n 1, 1) := by decide +kernel
theorem dX12_both_54 : decode cX12_both 54 = .ok (.goto (-49), 3) := by decide +kernel
theorem dX12_both_57 : decode cX12_both 57 = .ok (.iload_n 1, 1) := by decide +kernel
theorem dX12_both_58 : decode cX12_both 58 = .ok (.ireturn, 1) := by decide +kernel
theorem dX12_whole_0 : decode cX12_whole 0 = .ok (.aload_n 0, 1) := by decide +kernel
theorem dX12_whole_1 : decode cX12_whole 1 = .ok (.invokevirtual 172, 3) := by decide +kernel
theorem dX12_whole_4 : decode cX12_whole 4 = .ok (.istore_n 1, 1) := by decide +kernel
theorem dX12_whole_5 : decode cX12_whole 5 = .ok (.aload_n 0, 1) := by decide +kernel
theorem dX12_whole_6 : decode cX12_whole 6 = .ok (.getfield 123, 3) := by decide +kernel
theorem dX12_whole_9 : decode cX12_whole 9 = .ok (.ifCond .eq 48, 3) := by decide +kernel
theorem dX12_whole_12 : decode cX12_whole 12 = .ok (.aload_n 0, 1) := by decide +kernel
theorem dX12_whole_13 : decode cX12_whole 13 = .ok (.aload_n 0, 1) := by decide +kernel
theorem dX12_whole_14 : decode cX12_whole 14 = .ok (.getfield 127, 3) := by decide +kernel
theorem dX12_whole_17 : decode cX12_whole 17 = .ok (.invokevirtual 130, 3) := by decide +kernel
theorem dX12_whole_20 : decode cX12_whole 20 = .ok (.bipush 124, 2) := by decide +kernel
theorem dX12_whole_22 : decode cX12_whole 22 = .ok (.if_icmp .ne 35, 3) := by decide +kernel
theorem dX12_whole_25 : decode cX12_whole 25 = .ok (.aload_n 0, 1) := by decide +kernel
theorem dX12_whole_26 : decode cX12_whole 26 = .ok (.dup, 1) := by decide +kernel
theorem dX12_whole_27 : decode cX12_whole 27 = .ok (.getfield 127, 3) := by decide +kernel
theorem dX12_whole_30 : decode cX12_whole 30 = .ok (.iconst 1, 1) := by decide +kernel
theorem dX12_whole_31 : decode cX12_whole 31 = .ok (.iadd, 1) := by decide +kernel
theorem dX12_whole_32 : decode cX12_whole 32 = .ok (.putfield 127, 3) := by decide +kernel
theorem dX12_whole_35 : decode cX12_whole 35 = .ok (.aload_n 0, 1) := by decide +kernel
theorem dX12_whole_36 : decode cX12_whole 36 = .ok (.invokevirtual 172, 3) := by decide +kernel
theorem dX12_whole_39 : decode cX12_whole 39 = .ok (.istore_n 2, 1) := by decide +kernel
theorem dX12_whole_40 : decode cX12_whole 40 = .ok (.iload_n 1, 1) := by decide +kernel
theorem dX12_whole_41 : decode cX12_whole 41 = .ok (.ifCond .ne 7, 3) := by decide +kernel
theorem dX12_whole_44 : decode cX12_whole 44 = .ok (.iload_n 2, 1) := by decide +kernel
theorem dX12_whole_45 : decode cX12_whole 45 = .ok (.ifCond .eq 7, 3) := by decide +kernel
theorem dX12_whole_48 : decode cX12_whole 48 = .ok (.iconst 1, 1) := by decide +kernel
theorem dX12_whole_49 : decode cX12_whole 49 = .ok (.goto 4, 3) := by decide +kernel
theorem dX12_whole_52 : decode cX12_whole 52 = .ok (.iconst 0, 1) := by decide +kernel
theorem dX12_whole_53 : decode cX12_whole 53 = .ok (.istore_n 1, 1) := by decide +kernel
theorem dX12_whole_54 : decode cX12_whole 54 = .ok (.goto (-49), 3) := by decide +kernel
theorem dX12_whole_57 : decode cX12_whole 57 = .ok (.iload_n 1, 1) := by decide +kernel
theorem dX12_whole_58 : decode cX12_whole 58 = .ok (.ireturn, 1) := by decide +kernel
theorem dX12_walks_0 : decode cX12_walks 0 = .ok (.aload_n 0, 1) := by decide +kernel
theorem dX12_walks_1 : decode cX12_walks 1 = .ok (.iload_n 1, 1) := by decide +kernel
theorem dX12_walks_2 : decode cX12_walks 2 = .ok (.putfield 120, 3) := by decide +kernel
theorem dX12_walks_5 : decode cX12_walks 5 = .ok (.aload_n 0, 1) := by decide +kernel
theorem dX12_walks_6 : decode cX12_walks 6 = .ok (.iconst 0, 1) := by decide +kernel
theorem dX12_walks_7 : decode cX12_walks 7 = .ok (.putfield 127, 3) := by decide +kernel
theorem dX12_walks_10 : decode cX12_walks 10 = .ok (.aload_n 0, 1) := by decide +kernel
theorem dX12_walks_11 : decode cX12_walks 11 = .ok (.aload_n 0, 1) := by decide +kernel
theorem dX12_walks_12 : decode cX12_walks 12 = .ok (.getfield 7, 3) := by decide +kernel
theorem dX12_walks_15 : decode cX12_walks 15 = .ok (.bipush 6, 2) := by decide +kernel
theorem dX12_walks_17 : decode cX12_walks 17 = .ok (.iload_n 1, 1) := by decide +kernel
theorem dX12_walks_18 : decode cX12_walks 18 = .ok (.iadd, 1) := by decide +kernel
theorem dX12_walks_19 : decode cX12_walks 19 = .ok (.iaload, 1) := by decide +kernel
theorem dX12_walks_20 : decode cX12_walks 20 = .ok (.putfield 117, 3) := by decide +kernel
theorem dX12_walks_23 : decode cX12_walks 23 = .ok (.aload_n 0, 1) := by decide +kernel
theorem dX12_walks_24 : decode cX12_walks 24 = .ok (.iconst 0, 1) := by decide +kernel
theorem dX12_walks_25 : decode cX12_walks 25 = .ok (.putfield 154, 3) := by decide +kernel
theorem dX12_walks_28 : decode cX12_walks 28 = .ok (.aload_n 0, 1) := by decide +kernel
theorem dX12_walks_29 : decode cX12_walks 29 = .ok (.iconst 1, 1) := by decide +kernel
theorem dX12_walks_30 : decode cX12_walks 30 = .ok (.putfield 123, 3) := by decide +kernel
theorem dX12_walks_33 : decode cX12_walks 33 = .ok (.aload_n 0, 1) := by decide +kernel
theorem dX12_walks_34 : decode cX12_walks 34 = .ok (.iload_n 2, 1) := by decide +kernel
theorem dX12_walks_35 : decode cX12_walks 35 = .ok (.putfield 139, 3) := by decide +kernel
theorem dX12_walks_38 : decode cX12_walks 38 = .ok (.aload_n 0, 1) := by decide +kernel
theorem dX12_walks_39 : decode cX12_walks 39 = .ok (.iload_n 3, 1) := by decide +kernel
theorem dX12_walks_40 : decode cX12_walks 40 = .ok (.putfield 142, 3) := by decide +kernel
theorem dX12_walks_43 : decode cX12_walks 43 = .ok (.aload_n 0, 1) := by decide +kernel
theorem dX12_walks_44 : decode cX12_walks 44 = .ok (.iload 4, 2) := by decide +kernel
theorem dX12_walks_46 : decode cX12_walks 46 = .ok (.putfield 145, 3) := by decide +kernel
theorem dX12_walks_49 : decode cX12_walks 49 = .ok (.aload_n 0, 1) := by decide +kernel
theorem dX12_walks_50 : decode cX12_walks 50 = .ok (.invokevirtual 160, 3) := by decide +kernel
theorem dX12_walks_53 : decode cX12_walks 53 = .ok (.istore 5, 2) := by decide +kernel
theorem dX12_walks_55 : decode cX12_walks 55 = .ok (.aload_n 0, 1) := by decide +kernel
theorem dX12_walks_56 : decode cX12_walks 56 = .ok (.aload_n 0, 1) := by decide +kernel
theorem dX12_walks_57 : decode cX12_walks 57 = .ok (.getfield 123, 3) := by decide +kernel
theorem dX12_walks_60 : decode cX12_walks 60 = .ok (.ifCond .eq 18, 3) := by decide +kernel
theorem dX12_walks_63 : decode cX12_walks 63 = .ok (.aload_n 0, 1) := by decide +kernel
theorem dX12_walks_64 : decode cX12_walks 64 = .ok (.getfield 127, 3) := by decide +kernel
theorem dX12_walks_67 : decode cX12_walks 67 = .ok (.aload_n 0, 1) := by decide +kernel
theorem dX12_walks_68 : decode cX12_walks 68 = .ok (.getfield 117, 3) := by decide +kernel
theorem dX12_walks_71 : decode cX12_walks 71 = .ok (.if_icmp .ne 7, 3) := by decide +kernel
theorem dX12_walks_74 : decode cX12_walks 74 = .ok (.iconst 1, 1) := by decide +kernel
theorem dX12_walks_75 : decode cX12_walks 75 = .ok (.goto 4, 3) := by decide +kernel
theorem dX12_walks_78 : decode cX12_walks 78 = .ok (.iconst 0, 1) := by decide +kernel
theorem dX12_walks_79 : decode cX12_walks 79 = .ok (.putfield 123, 3) := by decide +kernel
theorem dX12_walks_82 : decode cX12_walks 82 = .ok (.iload 5, 2) := by decide +kernel
theorem dX12_walks_84 : decode cX12_walks 84 = .ok (.ireturn, 1) := by decide +kernel
theorem dX12_lawOf_0 : decode cX12_lawOf 0 = .ok (.aload_n 0, 1) := by decide +kernel
theorem dX12_lawOf_1 : decode cX12_lawOf 1 = .ok (.getfield 7, 3) := by decide +kernel
theorem dX12_lawOf_4 : decode cX12_lawOf 4 = .ok (.bipush 6, 2) := by decide +kernel
theorem dX12_lawOf_6 : decode cX12_lawOf 6 = .ok (.iload_n 1, 1) := by decide +kernel
theorem dX12_lawOf_7 : decode cX12_lawOf 7 = .ok (.iadd, 1) := by decide +kernel
theorem dX12_lawOf_8 : decode cX12_lawOf 8 = .ok (.iaload, 1) := by decide +kernel
theorem dX12_lawOf_9 : decode cX12_lawOf 9 = .ok (.ifCond .lt 20, 3) := by decide +kernel
theorem dX12_lawOf_12 : decode cX12_lawOf 12 = .ok (.aload_n 0, 1) := by decide +kernel
theorem dX12_lawOf_13 : decode cX12_lawOf 13 = .ok (.iload_n 1, 1) := by decide +kernel
theorem dX12_lawOf_14 : decode cX12_lawOf 14 = .ok (.iload_n 2, 1) := by decide +kernel
theorem dX12_lawOf_15 : decode cX12_lawOf 15 = .ok (.iload_n 3, 1) := by decide +kernel
theorem dX12_lawOf_16 : decode cX12_lawOf 16 = .ok (.iload 4, 2) := by decide +kernel
theorem dX12_lawOf_18 : decode cX12_lawOf 18 = .ok (.invokevirtual 175, 3) := by decide +kernel
theorem dX12_lawOf_21 : decode cX12_lawOf 21 = .ok (.bipush (-99), 2) := by decide +kernel
theorem dX12_lawOf_23 : decode cX12_lawOf 23 = .ok (.bipush 99, 2) := by decide +kernel
theorem dX12_lawOf_25 : decode cX12_lawOf 25 = .ok (.invokestatic 93, 3) := by decide +kernel
theorem dX12_lawOf_28 : decode cX12_lawOf 28 = .ok (.ireturn, 1) := by decide +kernel
theorem dX12_lawOf_29 : decode cX12_lawOf 29 = .ok (.iload_n 1, 1) := by decide +kernel
theorem dX12_lawOf_30 : decode cX12_lawOf 30 = .ok (.ifCond .ne 16, 3) := by decide +kernel
theorem dX12_lawOf_33 : decode cX12_lawOf 33 = .ok (.iload_n 2, 1) := by decide +kernel
theorem dX12_lawOf_34 : decode cX12_lawOf 34 = .ok (.iconst 2, 1) := by decide +kernel
theorem dX12_lawOf_35 : decode cX12_lawOf 35 = .ok (.imul, 1) := by decide +kernel
theorem dX12_lawOf_36 : decode cX12_lawOf 36 = .ok (.iload 4, 2) := by decide +kernel
theorem dX12_lawOf_38 : decode cX12_lawOf 38 = .ok (.iadd, 1) := by decide +kernel
theorem dX12_lawOf_39 : decode cX12_lawOf 39 = .ok (.iload_n 3, 1) := by decide +kernel
theorem dX12_lawOf_40 : decode cX12_lawOf 40 = .ok (.iconst 4, 1) := by decide +kernel
theorem dX12_lawOf_41 : decode cX12_lawOf 41 = .ok (.imul, 1) := by decide +kernel
theorem dX12_lawOf_42 : decode cX12_lawOf 42 = .ok (.isub, 1) := by decide +kernel
theorem dX12_lawOf_43 : decode cX12_lawOf 43 = .ok (.goto 19, 3) := by decide +kernel
theorem dX12_lawOf_46 : decode cX12_lawOf 46 = .ok (.iload_n 3, 1) := by decide +kernel
theorem dX12_lawOf_47 : decode cX12_lawOf 47 = .ok (.ifCond .ne 7, 3) := by decide +kernel
theorem dX12_lawOf_50 : decode cX12_lawOf 50 = .ok (.iconst 0, 1) := by decide +kernel
theorem dX12_lawOf_51 : decode cX12_lawOf 51 = .ok (.goto 6, 3) := by decide +kernel
theorem dX12_lawOf_54 : decode cX12_lawOf 54 = .ok (.iload_n 2, 1) := by decide +kernel
theorem dX12_lawOf_55 : decode cX12_lawOf 55 = .ok (.iload_n 3, 1) := by decide +kernel
theorem dX12_lawOf_56 : decode cX12_lawOf 56 = .ok (.idiv, 1) := by decide +kernel
theorem dX12_lawOf_57 : decode cX12_lawOf 57 = .ok (.iload 4, 2) := by decide +kernel
theorem dX12_lawOf_59 : decode cX12_lawOf 59 = .ok (.iconst 2, 1) := by decide +kernel
theorem dX12_lawOf_60 : decode cX12_lawOf 60 = .ok (.imul, 1) := by decide +kernel
theorem dX12_lawOf_61 : decode cX12_lawOf 61 = .ok (.isub, 1) := by decide +kernel
theorem dX12_lawOf_62 : decode cX12_lawOf 62 = .ok (.bipush (-99), 2) := by decide +kernel
theorem dX12_lawOf_64 : decode cX12_lawOf 64 = .ok (.bipush 99, 2) := by decide +kernel
theorem dX12_lawOf_66 : decode cX12_lawOf 66 = .ok (.invokestatic 93, 3) := by decide +kernel
theorem dX12_lawOf_69 : decode cX12_lawOf 69 = .ok (.ireturn, 1) := by decide +kernel
theorem dX12_law_0 : decode cX12_law 0 = .ok (.iload_n 1, 1) := by decide +kernel
theorem dX12_law_1 : decode cX12_law 1 = .ok (.iconst 0, 1) := by decide +kernel
theorem dX12_law_2 : decode cX12_law 2 = .ok (.iconst 1, 1) := by decide +kernel
theorem dX12_law_3 : decode cX12_law 3 = .ok (.invokestatic 47, 3) := by decide +kernel
theorem dX12_law_6 : decode cX12_law 6 = .ok (.ifCond .eq 15, 3) := by decide +kernel
theorem dX12_law_9 : decode cX12_law 9 = .ok (.aload_n 0, 1) := by decide +kernel
theorem dX12_law_10 : decode cX12_law 10 = .ok (.iload_n 1, 1) := by decide +kernel
theorem dX12_law_11 : decode cX12_law 11 = .ok (.iload_n 2, 1) := by decide +kernel
theorem dX12_law_12 : decode cX12_law 12 = .ok (.iload_n 3, 1) := by decide +kernel
theorem dX12_law_13 : decode cX12_law 13 = .ok (.iload 4, 2) := by decide +kernel
theorem dX12_law_15 : decode cX12_law 15 = .ok (.invokevirtual 86, 3) := by decide +kernel
theorem dX12_law_18 : decode cX12_law 18 = .ok (.goto 9, 3) := by decide +kernel
theorem dX12_law_21 : decode cX12_law 21 = .ok (.aload_n 0, 1) := by decide +kernel
theorem dX12_law_22 : decode cX12_law 22 = .ok (.ldc 55, 2) := by decide +kernel
theorem dX12_law_24 : decode cX12_law 24 = .ok (.invokevirtual 56, 3) := by decide +kernel
theorem dX12_law_27 : decode cX12_law 27 = .ok (.ireturn, 1) := by decide +kernel
theorem dX12_feed_0 : decode cX12_feed 0 = .ok (.iload_n 3, 1) := by decide +kernel
theorem dX12_feed_1 : decode cX12_feed 1 = .ok (.iconst 1, 1) := by decide +kernel
theorem dX12_feed_2 : decode cX12_feed 2 = .ok (.bipush 8, 2) := by decide +kernel
theorem dX12_feed_4 : decode cX12_feed 4 = .ok (.invokestatic 47, 3) := by decide +kernel
theorem dX12_feed_7 : decode cX12_feed 7 = .ok (.ifCond .ne 10, 3) := by decide +kernel
theorem dX12_feed_10 : decode cX12_feed 10 = .ok (.aload_n 0, 1) := by decide +kernel
theorem dX12_feed_11 : decode cX12_feed 11 = .ok (.ldc 55, 2) := by decide +kernel
theorem dX12_feed_13 : decode cX12_feed 13 = .ok (.invokevirtual 56, 3) := by decide +kernel
theorem dX12_feed_16 : decode cX12_feed 16 = .ok (.ireturn, 1) := by decide +kernel
theorem dX12_feed_17 : decode cX12_feed 17 = .ok (.aload_n 0, 1) := by decide +kernel
theorem dX12_feed_18 : decode cX12_feed 18 = .ok (.getfield 7, 3) := by decide +kernel
theorem dX12_feed_21 : decode cX12_feed 21 = .ok (.iconst 4, 1) := by decide +kernel
theorem dX12_feed_22 : decode cX12_feed 22 = .ok (.iaload, 1) := by decide +kernel
theorem dX12_feed_23 : decode cX12_feed 23 = .ok (.iload_n 3, 1) := by decide +kernel
theorem dX12_feed_24 : decode cX12_feed 24 = .ok (.iadd, 1) := by decide +kernel
theorem dX12_feed_25 : decode cX12_feed 25 = .ok (.bipush 50, 2) := by decide +kernel
theorem dX12_feed_27 : decode cX12_feed 27 = .ok (.if_icmp .le 10, 3) := by decide +kernel
theorem dX12_feed_30 : decode cX12_feed 30 = .ok (.aload_n 0, 1) := by decide +kernel
theorem dX12_feed_31 : decode cX12_feed 31 = .ok (.ldc 64, 2) := by decide +kernel
theorem dX12_feed_33 : decode cX12_feed 33 = .ok (.invokevirtual 56, 3) := by decide +kernel
theorem dX12_feed_36 : decode cX12_feed 36 = .ok (.ireturn, 1) := by decide +kernel
theorem dX12_feed_37 : decode cX12_feed 37 = .ok (.iconst 0, 1) := by decide +kernel
theorem dX12_feed_38 : decode cX12_feed 38 = .ok (.istore 4, 2) := by decide +kernel
theorem dX12_feed_40 : decode cX12_feed 40 = .ok (.iload 4, 2) := by decide +kernel
theorem dX12_feed_42 : decode cX12_feed 42 = .ok (.iload_n 3, 1) := by decide +kernel
theorem dX12_feed_43 : decode cX12_feed 43 = .ok (.if_icmp .ge 45, 3) := by decide +kernel
theorem dX12_feed_46 : decode cX12_feed 46 = .ok (.aload_n 0, 1) := by decide +kernel
theorem dX12_feed_47 : decode cX12_feed 47 = .ok (.getfield 7, 3) := by decide +kernel
theorem dX12_feed_50 : decode cX12_feed 50 = .ok (.bipush 36, 2) := by decide +kernel
theorem dX12_feed_52 : decode cX12_feed 52 = .ok (.aload_n 0, 1) := by decide +kernel
theorem dX12_feed_53 : decode cX12_feed 53 = .ok (.getfield 7, 3) := by decide +kernel
theorem dX12_feed_56 : decode cX12_feed 56 = .ok (.iconst 4, 1) := by decide +kernel
theorem dX12_feed_57 : decode cX12_feed 57 = .ok (.iaload, 1) := by decide +kernel
theorem dX12_feed_58 : decode cX12_feed 58 = .ok (.iadd, 1) := by decide +kernel
theorem dX12_feed_59 : decode cX12_feed 59 = .ok (.lload_n 1, 1) := by decide +kernel
theorem dX12_feed_60 : decode cX12_feed 60 = .ok (.bipush 8, 2) := by decide +kernel
theorem dX12_feed_62 : decode cX12_feed 62 = .ok (.iload 4, 2) := by decide +kernel
theorem dX12_feed_64 : decode cX12_feed 64 = .ok (.imul, 1) := by decide +kernel
theorem dX12_feed_65 : decode cX12_feed 65 = .ok (.lshr, 1) := by decide +kernel
theorem dX12_feed_66 : decode cX12_feed 66 = .ok (.ldc2_w 178, 3) := by decide +kernel
theorem dX12_feed_69 : decode cX12_feed 69 = .ok (.land, 1) := by decide +kernel
theorem dX12_feed_70 : decode cX12_feed 70 = .ok (.l2i, 1) := by decide +kernel
theorem dX12_feed_71 : decode cX12_feed 71 = .ok (.iastore, 1) := by decide +kernel
theorem dX12_feed_72 : decode cX12_feed 72 = .ok (.aload_n 0, 1) := by decide +kernel
theorem dX12_feed_73 : decode cX12_feed 73 = .ok (.getfield 7, 3) := by decide +kernel
theorem dX12_feed_76 : decode cX12_feed 76 = .ok (.iconst 4, 1) := by decide +kernel
theorem dX12_feed_77 : decode cX12_feed 77 = .ok (.dup2, 1) := by decide +kernel
theorem dX12_feed_78 : decode cX12_feed 78 = .ok (.iaload, 1) := by decide +kernel
theorem dX12_feed_79 : decode cX12_feed 79 = .ok (.iconst 1, 1) := by decide +kernel
theorem dX12_feed_80 : decode cX12_feed 80 = .ok (.iadd, 1) := by decide +kernel
theorem dX12_feed_81 : decode cX12_feed 81 = .ok (.iastore, 1) := by decide +kernel
theorem dX12_feed_82 : decode cX12_feed 82 = .ok (.iinc 4 1, 3) := by decide +kernel
theorem dX12_feed_85 : decode cX12_feed 85 = .ok (.goto (-45), 3) := by decide +kernel
theorem dX12_feed_88 : decode cX12_feed 88 = .ok (.aload_n 0, 1) := by decide +kernel
theorem dX12_feed_89 : decode cX12_feed 89 = .ok (.getfield 7, 3) := by decide +kernel
theorem dX12_feed_92 : decode cX12_feed 92 = .ok (.iconst 4, 1) := by decide +kernel
theorem dX12_feed_93 : decode cX12_feed 93 = .ok (.iaload, 1) := by decide +kernel
theorem dX12_feed_94 : decode cX12_feed 94 = .ok (.ireturn, 1) := by decide +kernel
theorem dX12_text_0 : decode cX12_text 0 = .ok (.iload_n 1, 1) := by decide +kernel
theorem dX12_text_1 : decode cX12_text 1 = .ok (.iconst 0, 1) := by decide +kernel
theorem dX12_text_2 : decode cX12_text 2 = .ok (.iconst 1, 1) := by decide +kernel
theorem dX12_text_3 : decode cX12_text 3 = .ok (.invokestatic 47, 3) := by decide +kernel
theorem dX12_text_6 : decode cX12_text 6 = .ok (.ifCond .ne 10, 3) := by decide +kernel
theorem dX12_text_9 : decode cX12_text 9 = .ok (.aload_n 0, 1) := by decide +kernel
theorem dX12_text_10 : decode cX12_text 10 = .ok (.ldc 55, 2) := by decide +kernel
theorem dX12_text_12 : decode cX12_text 12 = .ok (.invokevirtual 56, 3) := by decide +kernel
theorem dX12_text_15 : decode cX12_text 15 = .ok (.ireturn, 1) := by decide +kernel
theorem dX12_text_16 : decode cX12_text 16 = .ok (.aload_n 0, 1) := by decide +kernel
theorem dX12_text_17 : decode cX12_text 17 = .ok (.aload_n 0, 1) := by decide +kernel
theorem dX12_text_18 : decode cX12_text 18 = .ok (.getfield 7, 3) := by decide +kernel
theorem dX12_text_21 : decode cX12_text 21 = .ok (.aload_n 0, 1) := by decide +kernel
theorem dX12_text_22 : decode cX12_text 22 = .ok (.getfield 19, 3) := by decide +kernel
theorem dX12_text_25 : decode cX12_text 25 = .ok (.invokevirtual 180, 3) := by decide +kernel
theorem dX12_text_28 : decode cX12_text 28 = .ok (.iconst 0, 1) := by decide +kernel
theorem dX12_text_29 : decode cX12_text 29 = .ok (.istore_n 2, 1) := by decide +kernel
theorem dX12_text_30 : decode cX12_text 30 = .ok (.iload_n 2, 1) := by decide +kernel
theorem dX12_text_31 : decode cX12_text 31 = .ok (.bipush 50, 2) := by decide +kernel
theorem dX12_text_33 : decode cX12_text 33 = .ok (.if_icmp .ge 32, 3) := by decide +kernel
theorem dX12_text_36 : decode cX12_text 36 = .ok (.aload_n 0, 1) := by decide +kernel
theorem dX12_text_37 : decode cX12_text 37 = .ok (.getfield 7, 3) := by decide +kernel
theorem dX12_text_40 : decode cX12_text 40 = .ok (.bipush 106, 2) := by decide +kernel
theorem dX12_text_42 : decode cX12_text 42 = .ok (.bipush 50, 2) := by decide +kernel
theorem dX12_text_44 : decode cX12_text 44 = .ok (.iload_n 1, 1) := by decide +kernel
theorem dX12_text_45 : decode cX12_text 45 = .ok (.imul, 1) := by decide +kernel
theorem dX12_text_46 : decode cX12_text 46 = .ok (.iadd, 1) := by decide +kernel
theorem dX12_text_47 : decode cX12_text 47 = .ok (.iload_n 2, 1) := by decide +kernel
theorem dX12_text_48 : decode cX12_text 48 = .ok (.iadd, 1) := by decide +kernel
theorem dX12_text_49 : decode cX12_text 49 = .ok (.aload_n 0, 1) := by decide +kernel
theorem dX12_text_50 : decode cX12_text 50 = .ok (.getfield 7, 3) := by decide +kernel
theorem dX12_text_53 : decode cX12_text 53 = .ok (.bipush 36, 2) := by decide +kernel
theorem dX12_text_55 : decode cX12_text 55 = .ok (.iload_n 2, 1) := by decide +kernel
theorem dX12_text_56 : decode cX12_text 56 = .ok (.iadd, 1) := by decide +kernel
theorem dX12_text_57 : decode cX12_text 57 = .ok (.iaload, 1) := by decide +kernel
theorem dX12_text_58 : decode cX12_text 58 = .ok (.iastore, 1) := by decide +kernel
theorem dX12_text_59 : decode cX12_text 59 = .ok (.iinc 2 1, 3) := by decide +kernel
theorem dX12_text_62 : decode cX12_text 62 = .ok (.goto (-32), 3) := by decide +kernel
theorem dX12_text_65 : decode cX12_text 65 = .ok (.aload_n 0, 1) := by decide +kernel
theorem dX12_text_66 : decode cX12_text 66 = .ok (.getfield 7, 3) := by decide +kernel
theorem dX12_text_69 : decode cX12_text 69 = .ok (.bipush 6, 2) := by decide +kernel
theorem dX12_text_71 : decode cX12_text 71 = .ok (.iload_n 1, 1) := by decide +kernel
theorem dX12_text_72 : decode cX12_text 72 = .ok (.iadd, 1) := by decide +kernel
theorem dX12_text_73 : decode cX12_text 73 = .ok (.aload_n 0, 1) := by decide +kernel
theorem dX12_text_74 : decode cX12_text 74 = .ok (.getfield 7, 3) := by decide +kernel
theorem dX12_text_77 : decode cX12_text 77 = .ok (.iconst 4, 1) := by decide +kernel
theorem dX12_text_78 : decode cX12_text 78 = .ok (.iaload, 1) := by decide +kernel
theorem dX12_text_79 : decode cX12_text 79 = .ok (.iastore, 1) := by decide +kernel
theorem dX12_text_80 : decode cX12_text 80 = .ok (.aload_n 0, 1) := by decide +kernel
theorem dX12_text_81 : decode cX12_text 81 = .ok (.iload_n 1, 1) := by decide +kernel
theorem dX12_text_82 : decode cX12_text 82 = .ok (.iconst 1, 1) := by decide +kernel
theorem dX12_text_83 : decode cX12_text 83 = .ok (.iconst 1, 1) := by decide +kernel
theorem dX12_text_84 : decode cX12_text 84 = .ok (.iconst 1, 1) := by decide +kernel
theorem dX12_text_85 : decode cX12_text 85 = .ok (.invokevirtual 175, 3) := by decide +kernel
theorem dX12_text_88 : decode cX12_text 88 = .ok (.istore_n 2, 1) := by decide +kernel
theorem dX12_text_89 : decode cX12_text 89 = .ok (.aload_n 0, 1) := by decide +kernel
theorem dX12_text_90 : decode cX12_text 90 = .ok (.getfield 123, 3) := by decide +kernel
theorem dX12_text_93 : decode cX12_text 93 = .ok (.ifCond .eq 12, 3) := by decide +kernel
theorem dX12_text_96 : decode cX12_text 96 = .ok (.iload_n 2, 1) := by decide +kernel
theorem dX12_text_97 : decode cX12_text 97 = .ok (.iload_n 2, 1) := by decide +kernel
theorem dX12_text_98 : decode cX12_text 98 = .ok (.if_icmp .ne 7, 3) := by decide +kernel
theorem dX12_text_101 : decode cX12_text 101 = .ok (.iconst 1, 1) := by decide +kernel
theorem dX12_text_102 : decode cX12_text 102 = .ok (.goto 4, 3) := by decide +kernel
theorem dX12_text_105 : decode cX12_text 105 = .ok (.iconst 0, 1) := by decide +kernel
theorem dX12_text_106 : decode cX12_text 106 = .ok (.istore_n 3, 1) := by decide +kernel
theorem dX12_text_107 : decode cX12_text 107 = .ok (.aload_n 0, 1) := by decide +kernel
theorem dX12_text_108 : decode cX12_text 108 = .ok (.getfield 127, 3) := by decide +kernel
theorem dX12_text_111 : decode cX12_text 111 = .ok (.istore 4, 2) := by decide +kernel
theorem dX12_text_113 : decode cX12_text 113 = .ok (.iload_n 3, 1) := by decide +kernel
theorem dX12_text_114 : decode cX12_text 114 = .ok (.ifCond .ne 15, 3) := by decide +kernel
theorem dX12_text_117 : decode cX12_text 117 = .ok (.aload_n 0, 1) := by decide +kernel
theorem dX12_text_118 : decode cX12_text 118 = .ok (.aload_n 0, 1) := by decide +kernel
theorem dX12_text_119 : decode cX12_text 119 = .ok (.getfield 19, 3) := by decide +kernel
theorem dX12_text_122 : decode cX12_text 122 = .ok (.aload_n 0, 1) := by decide +kernel
theorem dX12_text_123 : decode cX12_text 123 = .ok (.getfield 7, 3) := by decide +kernel
theorem dX12_text_126 : decode cX12_text 126 = .ok (.invokevirtual 180, 3) := by decide +kernel
theorem dX12_text_129 : decode cX12_text 129 = .ok (.aload_n 0, 1) := by decide +kernel
theorem dX12_text_130 : decode cX12_text 130 = .ok (.getfield 7, 3) := by decide +kernel
theorem dX12_text_133 : decode cX12_text 133 = .ok (.iconst 4, 1) := by decide +kernel
theorem dX12_text_134 : decode cX12_text 134 = .ok (.iconst 0, 1) := by decide +kernel
theorem dX12_text_135 : decode cX12_text 135 = .ok (.iastore, 1) := by decide +kernel
theorem dX12_text_136 : decode cX12_text 136 = .ok (.iload_n 3, 1) := by decide +kernel
theorem dX12_text_137 : decode cX12_text 137 = .ok (.ifCond .eq 7, 3) := by decide +kernel
theorem dX12_text_140 : decode cX12_text 140 = .ok (.iconst 1, 1) := by decide +kernel
theorem dX12_text_141 : decode cX12_text 141 = .ok (.goto 8, 3) := by decide +kernel
theorem dX12_text_144 : decode cX12_text 144 = .ok (.bipush (-10), 2) := by decide +kernel
theorem dX12_text_146 : decode cX12_text 146 = .ok (.iload 4, 2) := by decide +kernel
theorem dX12_text_148 : decode cX12_text 148 = .ok (.isub, 1) := by decide +kernel
theorem dX12_text_149 : decode cX12_text 149 = .ok (.ireturn, 1) := by decide +kernel
theorem dX12_rides_0 : decode cX12_rides 0 = .ok (.aload_n 0, 1) := by decide +kernel
theorem dX12_rides_1 : decode cX12_rides 1 = .ok (.iload_n 1, 1) := by decide +kernel
theorem dX12_rides_2 : decode cX12_rides 2 = .ok (.iconst 2, 1) := by decide +kernel
theorem dX12_rides_3 : decode cX12_rides 3 = .ok (.invokevirtual 83, 3) := by decide +kernel
theorem dX12_rides_6 : decode cX12_rides 6 = .ok (.istore_n 2, 1) := by decide +kernel
theorem dX12_rides_7 : decode cX12_rides 7 = .ok (.aload_n 0, 1) := by decide +kernel
theorem dX12_rides_8 : decode cX12_rides 8 = .ok (.iload_n 1, 1) := by decide +kernel
theorem dX12_rides_9 : decode cX12_rides 9 = .ok (.iload_n 2, 1) := by decide +kernel
theorem dX12_rides_10 : decode cX12_rides 10 = .ok (.invokevirtual 97, 3) := by decide +kernel
theorem dX12_rides_13 : decode cX12_rides 13 = .ok (.istore_n 3, 1) := by decide +kernel
theorem dX12_rides_14 : decode cX12_rides 14 = .ok (.iconst 0, 1) := by decide +kernel
theorem dX12_rides_15 : decode cX12_rides 15 = .ok (.istore 4, 2) := by decide +kernel
theorem dX12_rides_17 : decode cX12_rides 17 = .ok (.iload 4, 2) := by decide +kernel
theorem dX12_rides_19 : decode cX12_rides 19 = .ok (.bipush 8, 2) := by decide +kernel
theorem dX12_rides_21 : decode cX12_rides 21 = .ok (.if_icmp .ge 102, 3) := by decide +kernel
theorem dX12_rides_24 : decode cX12_rides 24 = .ok (.iload_n 3, 1) := by decide +kernel
theorem dX12_rides_25 : decode cX12_rides 25 = .ok (.aload_n 0, 1) := by decide +kernel
theorem dX12_rides_26 : decode cX12_rides 26 = .ok (.getfield 7, 3) := by decide +kernel
theorem dX12_rides_29 : decode cX12_rides 29 = .ok (.bipush 9, 2) := by decide +kernel
theorem dX12_rides_31 : decode cX12_rides 31 = .ok (.iaload, 1) := by decide +kernel
theorem dX12_rides_32 : decode cX12_rides 32 = .ok (.if_icmp .lt 91, 3) := by decide +kernel
theorem dX12_rides_35 : decode cX12_rides 35 = .ok (.aload_n 0, 1) := by decide +kernel
theorem dX12_rides_36 : decode cX12_rides 36 = .ok (.iload_n 2, 1) := by decide +kernel
theorem dX12_rides_37 : decode cX12_rides 37 = .ok (.iload 4, 2) := by decide +kernel
theorem dX12_rides_39 : decode cX12_rides 39 = .ok (.invokevirtual 75, 3) := by decide +kernel
theorem dX12_rides_42 : decode cX12_rides 42 = .ok (.istore 5, 2) := by decide +kernel
theorem dX12_rides_44 : decode cX12_rides 44 = .ok (.aload_n 0, 1) := by decide +kernel
theorem dX12_rides_45 : decode cX12_rides 45 = .ok (.getfield 7, 3) := by decide +kernel
theorem dX12_rides_48 : decode cX12_rides 48 = .ok (.bipush 10, 2) := by decide +kernel
theorem dX12_rides_50 : decode cX12_rides 50 = .ok (.iload 4, 2) := by decide +kernel
theorem dX12_rides_52 : decode cX12_rides 52 = .ok (.iadd, 1) := by decide +kernel
theorem dX12_rides_53 : decode cX12_rides 53 = .ok (.iaload, 1) := by decide +kernel
theorem dX12_rides_54 : decode cX12_rides 54 = .ok (.istore 6, 2) := by decide +kernel
theorem dX12_rides_56 : decode cX12_rides 56 = .ok (.iload 5, 2) := by decide +kernel
theorem dX12_rides_58 : decode cX12_rides 58 = .ok (.ifCond .le 23, 3) := by decide +kernel
theorem dX12_rides_61 : decode cX12_rides 61 = .ok (.iload 6, 2) := by decide +kernel
theorem dX12_rides_63 : decode cX12_rides 63 = .ok (.ifCond .ne 18, 3) := by decide +kernel
theorem dX12_rides_66 : decode cX12_rides 66 = .ok (.aload_n 0, 1) := by decide +kernel
theorem dX12_rides_67 : decode cX12_rides 67 = .ok (.getfield 7, 3) := by decide +kernel
theorem dX12_rides_70 : decode cX12_rides 70 = .ok (.bipush 10, 2) := by decide +kernel
theorem dX12_rides_72 : decode cX12_rides 72 = .ok (.iload 4, 2) := by decide +kernel
theorem dX12_rides_74 : decode cX12_rides 74 = .ok (.iadd, 1) := by decide +kernel
theorem dX12_rides_75 : decode cX12_rides 75 = .ok (.iload 5, 2) := by decide +kernel
theorem dX12_rides_77 : decode cX12_rides 77 = .ok (.iastore, 1) := by decide +kernel
theorem dX12_rides_78 : decode cX12_rides 78 = .ok (.goto 39, 3) := by decide +kernel
theorem dX12_rides_81 : decode cX12_rides 81 = .ok (.iload 5, 2) := by decide +kernel
theorem dX12_rides_83 : decode cX12_rides 83 = .ok (.ifCond .le 34, 3) := by decide +kernel
theorem dX12_rides_86 : decode cX12_rides 86 = .ok (.iload 5, 2) := by decide +kernel
theorem dX12_rides_88 : decode cX12_rides 88 = .ok (.iload 6, 2) := by decide +kernel
theorem dX12_rides_90 : decode cX12_rides 90 = .ok (.if_icmp .eq 27, 3) := by decide +kernel
theorem dX12_rides_93 : decode cX12_rides 93 = .ok (.iload_n 3, 1) := by decide +kernel
theorem dX12_rides_94 : decode cX12_rides 94 = .ok (.iconst 2, 1) := by decide +kernel
theorem dX12_rides_95 : decode cX12_rides 95 = .ok (.aload_n 0, 1) := by decide +kernel
theorem dX12_rides_96 : decode cX12_rides 96 = .ok (.getfield 7, 3) := by decide +kernel
theorem dX12_rides_99 : decode cX12_rides 99 = .ok (.bipush 9, 2) := by decide +kernel
theorem dX12_rides_101 : decode cX12_rides 101 = .ok (.iaload, 1) := by decide +kernel
theorem dX12_rides_102 : decode cX12_rides 102 = .ok (.imul, 1) := by decide +kernel
theorem dX12_rides_103 : decode cX12_rides 103 = .ok (.if_icmp .lt 14, 3) := by decide +kernel
theorem dX12_rides_106 : decode cX12_rides 106 = .ok (.aload_n 0, 1) := by decide +kernel
theorem dX12_rides_107 : decode cX12_rides 107 = .ok (.getfield 7, 3) := by decide +kernel
theorem dX12_rides_110 : decode cX12_rides 110 = .ok (.bipush 10, 2) := by decide +kernel
theorem dX12_rides_112 : decode cX12_rides 112 = .ok (.iload 4, 2) := by decide +kernel
theorem dX12_rides_114 : decode cX12_rides 114 = .ok (.iadd, 1) := by decide +kernel
theorem dX12_rides_115 : decode cX12_rides 115 = .ok (.iconst 0, 1) := by decide +kernel
theorem dX12_rides_116 : decode cX12_rides 116 = .ok (.iastore, 1) := by decide +kernel
theorem dX12_rides_117 : decode cX12_rides 117 = .ok (.iinc 4 1, 3) := by decide +kernel
theorem dX12_rides_120 : decode cX12_rides 120 = .ok (.goto (-103), 3) := by decide +kernel
theorem dX12_rides_123 : decode cX12_rides 123 = .ok (.aload_n 0, 1) := by decide +kernel
theorem dX12_rides_124 : decode cX12_rides 124 = .ok (.getfield 7, 3) := by decide +kernel
theorem dX12_rides_127 : decode cX12_rides 127 = .ok (.iconst 1, 1) := by decide +kernel
theorem dX12_rides_128 : decode cX12_rides 128 = .ok (.aload_n 0, 1) := by decide +kernel
theorem dX12_rides_129 : decode cX12_rides 129 = .ok (.getfield 7, 3) := by decide +kernel
theorem dX12_rides_132 : decode cX12_rides 132 = .ok (.iconst 1, 1) := by decide +kernel
theorem dX12_rides_133 : decode cX12_rides 133 = .ok (.iaload, 1) := by decide +kernel
theorem dX12_rides_134 : decode cX12_rides 134 = .ok (.iconst 1, 1) := by decide +kernel
theorem dX12_rides_135 : decode cX12_rides 135 = .ok (.iadd, 1) := by decide +kernel
theorem dX12_rides_136 : decode cX12_rides 136 = .ok (.iconst 0, 1) := by decide +kernel
theorem dX12_rides_137 : decode cX12_rides 137 = .ok (.sipush 9999, 3) := by decide +kernel
theorem dX12_rides_140 : decode cX12_rides 140 = .ok (.invokestatic 93, 3) := by decide +kernel
theorem dX12_rides_143 : decode cX12_rides 143 = .ok (.iastore, 1) := by decide +kernel
theorem dX12_rides_144 : decode cX12_rides 144 = .ok (.iload_n 3, 1) := by decide +kernel
theorem dX12_rides_145 : decode cX12_rides 145 = .ok (.ireturn, 1) := by decide +kernel
theorem dX12_ride_0 : decode cX12_ride 0 = .ok (.aload_n 0, 1) := by decide +kernel
theorem dX12_ride_1 : decode cX12_ride 1 = .ok (.iload_n 1, 1) := by decide +kernel
theorem dX12_ride_2 : decode cX12_ride 2 = .ok (.invokevirtual 100, 3) := by decide +kernel
theorem dX12_ride_5 : decode cX12_ride 5 = .ok (.ifCond .eq 11, 3) := by decide +kernel
theorem dX12_ride_8 : decode cX12_ride 8 = .ok (.aload_n 0, 1) := by decide +kernel
theorem dX12_ride_9 : decode cX12_ride 9 = .ok (.iload_n 1, 1) := by decide +kernel
theorem dX12_ride_10 : decode cX12_ride 10 = .ok (.invokevirtual 184, 3) := by decide +kernel
theorem dX12_ride_13 : decode cX12_ride 13 = .ok (.goto 9, 3) := by decide +kernel
theorem dX12_ride_16 : decode cX12_ride 16 = .ok (.aload_n 0, 1) := by decide +kernel
theorem dX12_ride_17 : decode cX12_ride 17 = .ok (.ldc 55, 2) := by decide +kernel
theorem dX12_ride_19 : decode cX12_ride 19 = .ok (.invokevirtual 56, 3) := by decide +kernel
theorem dX12_ride_22 : decode cX12_ride 22 = .ok (.ireturn, 1) := by decide +kernel
theorem dX12_oneDay_0 : decode cX12_oneDay 0 = .ok (.iconst 0, 1) := by decide +kernel
theorem dX12_oneDay_1 : decode cX12_oneDay 1 = .ok (.istore_n 1, 1) := by decide +kernel
theorem dX12_oneDay_2 : decode cX12_oneDay 2 = .ok (.iload_n 1, 1) := by decide +kernel
theorem dX12_oneDay_3 : decode cX12_oneDay 3 = .ok (.aload_n 0, 1) := by decide +kernel
theorem dX12_oneDay_4 : decode cX12_oneDay 4 = .ok (.getfield 7, 3) := by decide +kernel
theorem dX12_oneDay_7 : decode cX12_oneDay 7 = .ok (.iconst 3, 1) := by decide +kernel
theorem dX12_oneDay_8 : decode cX12_oneDay 8 = .ok (.iaload, 1) := by decide +kernel
theorem dX12_oneDay_9 : decode cX12_oneDay 9 = .ok (.if_icmp .ge 15, 3) := by decide +kernel
theorem dX12_oneDay_12 : decode cX12_oneDay 12 = .ok (.aload_n 0, 1) := by decide +kernel
theorem dX12_oneDay_13 : decode cX12_oneDay 13 = .ok (.iload_n 1, 1) := by decide +kernel
theorem dX12_oneDay_14 : decode cX12_oneDay 14 = .ok (.invokevirtual 184, 3) := by decide +kernel
theorem dX12_oneDay_17 : decode cX12_oneDay 17 = .ok (.pop, 1) := by decide +kernel
theorem dX12_oneDay_18 : decode cX12_oneDay 18 = .ok (.iinc 1 1, 3) := by decide +kernel
theorem dX12_oneDay_21 : decode cX12_oneDay 21 = .ok (.goto (-19), 3) := by decide +kernel
theorem dX12_oneDay_24 : decode cX12_oneDay 24 = .ok (.aload_n 0, 1) := by decide +kernel
theorem dX12_oneDay_25 : decode cX12_oneDay 25 = .ok (.getfield 7, 3) := by decide +kernel
theorem dX12_oneDay_28 : decode cX12_oneDay 28 = .ok (.iconst 0, 1) := by decide +kernel
theorem dX12_oneDay_29 : decode cX12_oneDay 29 = .ok (.dup2, 1) := by decide +kernel
theorem dX12_oneDay_30 : decode cX12_oneDay 30 = .ok (.iaload, 1) := by decide +kernel
theorem dX12_oneDay_31 : decode cX12_oneDay 31 = .ok (.iconst 1, 1) := by decide +kernel
theorem dX12_oneDay_32 : decode cX12_oneDay 32 = .ok (.iadd, 1) := by decide +kernel
theorem dX12_oneDay_33 : decode cX12_oneDay 33 = .ok (.iastore, 1) := by decide +kernel
theorem dX12_oneDay_34 : decode cX12_oneDay 34 = .ok (.return_, 1) := by decide +kernel
theorem dX12_days_0 : decode cX12_days 0 = .ok (.iload_n 1, 1) := by decide +kernel
theorem dX12_days_1 : decode cX12_days 1 = .ok (.iconst 1, 1) := by decide +kernel
theorem dX12_days_2 : decode cX12_days 2 = .ok (.bipush 60, 2) := by decide +kernel
theorem dX12_days_4 : decode cX12_days 4 = .ok (.invokestatic 47, 3) := by decide +kernel
theorem dX12_days_7 : decode cX12_days 7 = .ok (.ifCond .ne 10, 3) := by decide +kernel
theorem dX12_days_10 : decode cX12_days 10 = .ok (.aload_n 0, 1) := by decide +kernel
theorem dX12_days_11 : decode cX12_days 11 = .ok (.ldc 55, 2) := by decide +kernel
theorem dX12_days_13 : decode cX12_days 13 = .ok (.invokevirtual 56, 3) := by decide +kernel
theorem dX12_days_16 : decode cX12_days 16 = .ok (.ireturn, 1) := by decide +kernel
theorem dX12_days_17 : decode cX12_days 17 = .ok (.aload_n 0, 1) := by decide +kernel
theorem dX12_days_18 : decode cX12_days 18 = .ok (.getfield 7, 3) := by decide +kernel
theorem dX12_days_21 : decode cX12_days 21 = .ok (.iconst 0, 1) := by decide +kernel
theorem dX12_days_22 : decode cX12_days 22 = .ok (.iaload, 1) := by decide +kernel
theorem dX12_days_23 : decode cX12_days 23 = .ok (.iload_n 1, 1) := by decide +kernel
theorem dX12_days_24 : decode cX12_days 24 = .ok (.iadd, 1) := by decide +kernel
theorem dX12_days_25 : decode cX12_days 25 = .ok (.sipush 9999, 3) := by decide +kernel
theorem dX12_days_28 : decode cX12_days 28 = .ok (.if_icmp .le 10, 3) := by decide +kernel
theorem dX12_days_31 : decode cX12_days 31 = .ok (.aload_n 0, 1) := by decide +kernel
theorem dX12_days_32 : decode cX12_days 32 = .ok (.ldc 187, 2) := by decide +kernel
theorem dX12_days_34 : decode cX12_days 34 = .ok (.invokevirtual 56, 3) := by decide +kernel
theorem dX12_days_37 : decode cX12_days 37 = .ok (.ireturn, 1) := by decide +kernel
theorem dX12_days_38 : decode cX12_days 38 = .ok (.iconst 0, 1) := by decide +kernel
theorem dX12_days_39 : decode cX12_days 39 = .ok (.istore_n 2, 1) := by decide +kernel
theorem dX12_days_40 : decode cX12_days 40 = .ok (.iload_n 2, 1) := by decide +kernel
theorem dX12_days_41 : decode cX12_days 41 = .ok (.iload_n 1, 1) := by decide +kernel
theorem dX12_days_42 : decode cX12_days 42 = .ok (.if_icmp .ge 13, 3) := by decide +kernel
theorem dX12_days_45 : decode cX12_days 45 = .ok (.aload_n 0, 1) := by decide +kernel
theorem dX12_days_46 : decode cX12_days 46 = .ok (.invokevirtual 188, 3) := by decide +kernel
theorem dX12_days_49 : decode cX12_days 49 = .ok (.iinc 2 1, 3) := by decide +kernel
theorem dX12_days_52 : decode cX12_days 52 = .ok (.goto (-12), 3) := by decide +kernel
theorem dX12_days_55 : decode cX12_days 55 = .ok (.aload_n 0, 1) := by decide +kernel
theorem dX12_days_56 : decode cX12_days 56 = .ok (.invokevirtual 60, 3) := by decide +kernel
theorem dX12_days_59 : decode cX12_days 59 = .ok (.ireturn, 1) := by decide +kernel
theorem dX12_drawn_0 : decode cX12_drawn 0 = .ok (.aload_n 0, 1) := by decide +kernel
theorem dX12_drawn_1 : decode cX12_drawn 1 = .ok (.getfield 7, 3) := by decide +kernel
theorem dX12_drawn_4 : decode cX12_drawn 4 = .ok (.iconst 2, 1) := by decide +kernel
theorem dX12_drawn_5 : decode cX12_drawn 5 = .ok (.aload_n 0, 1) := by decide +kernel
theorem dX12_drawn_6 : decode cX12_drawn 6 = .ok (.getfield 7, 3) := by decide +kernel
theorem dX12_drawn_9 : decode cX12_drawn 9 = .ok (.iconst 2, 1) := by decide +kernel
theorem dX12_drawn_10 : decode cX12_drawn 10 = .ok (.iaload, 1) := by decide +kernel
theorem dX12_drawn_11 : decode cX12_drawn 11 = .ok (.ldc 191, 2) := by decide +kernel
theorem dX12_drawn_13 : decode cX12_drawn 13 = .ok (.imul, 1) := by decide +kernel
theorem dX12_drawn_14 : decode cX12_drawn 14 = .ok (.sipush 12345, 3) := by decide +kernel
theorem dX12_drawn_17 : decode cX12_drawn 17 = .ok (.iadd, 1) := by decide +kernel
theorem dX12_drawn_18 : decode cX12_drawn 18 = .ok (.iastore, 1) := by decide +kernel
theorem dX12_drawn_19 : decode cX12_drawn 19 = .ok (.aload_n 0, 1) := by decide +kernel
theorem dX12_drawn_20 : decode cX12_drawn 20 = .ok (.getfield 7, 3) := by decide +kernel
theorem dX12_drawn_23 : decode cX12_drawn 23 = .ok (.iconst 2, 1) := by decide +kernel
theorem dX12_drawn_24 : decode cX12_drawn 24 = .ok (.iaload, 1) := by decide +kernel
theorem dX12_drawn_25 : decode cX12_drawn 25 = .ok (.bipush 8, 2) := by decide +kernel
theorem dX12_drawn_27 : decode cX12_drawn 27 = .ok (.iushr, 1) := by decide +kernel
theorem dX12_drawn_28 : decode cX12_drawn 28 = .ok (.iload_n 1, 1) := by decide +kernel
theorem dX12_drawn_29 : decode cX12_drawn 29 = .ok (.irem, 1) := by decide +kernel
theorem dX12_drawn_30 : decode cX12_drawn 30 = .ok (.ireturn, 1) := by decide +kernel
theorem dX12_rumours_0 : decode cX12_rumours 0 = .ok (.iload_n 1, 1) := by decide +kernel
theorem dX12_rumours_1 : decode cX12_rumours 1 = .ok (.iconst 1, 1) := by decide +kernel
theorem dX12_rumours_2 : decode cX12_rumours 2 = .ok (.bipush 40, 2) := by decide +kernel
theorem dX12_rumours_4 : decode cX12_rumours 4 = .ok (.invokestatic 47, 3) := by decide +kernel
theorem dX12_rumours_7 : decode cX12_rumours 7 = .ok (.ifCond .ne 10, 3) := by decide +kernel
theorem dX12_rumours_10 : decode cX12_rumours 10 = .ok (.aload_n 0, 1) := by decide +kernel
theorem dX12_rumours_11 : decode cX12_rumours 11 = .ok (.ldc 55, 2) := by decide +kernel
theorem dX12_rumours_13 : decode cX12_rumours 13 = .ok (.invokevirtual 56, 3) := by decide +kernel
theorem dX12_rumours_16 : decode cX12_rumours 16 = .ok (.ireturn, 1) := by decide +kernel
theorem dX12_rumours_17 : decode cX12_rumours 17 = .ok (.aload_n 0, 1) := by decide +kernel
theorem dX12_rumours_18 : decode cX12_rumours 18 = .ok (.getfield 7, 3) := by decide +kernel
theorem dX12_rumours_21 : decode cX12_rumours 21 = .ok (.iconst 0, 1) := by decide +kernel
theorem dX12_rumours_22 : decode cX12_rumours 22 = .ok (.iaload, 1) := by decide +kernel
theorem dX12_rumours_23 : decode cX12_rumours 23 = .ok (.iload_n 1, 1) := by decide +kernel
theorem dX12_rumours_24 : decode cX12_rumours 24 = .ok (.iadd, 1) := by decide +kernel
theorem dX12_rumours_25 : decode cX12_rumours 25 = .ok (.sipush 9999, 3) := by decide +kernel
theorem dX12_rumours_28 : decode cX12_rumours 28 = .ok (.if_icmp .le 10, 3) := by decide +kernel
theorem dX12_rumours_31 : decode cX12_rumours 31 = .ok (.aload_n 0, 1) := by decide +kernel
theorem dX12_rumours_32 : decode cX12_rumours 32 = .ok (.ldc 187, 2) := by decide +kernel
theorem dX12_rumours_34 : decode cX12_rumours 34 = .ok (.invokevirtual 56, 3) := by decide +kernel
theorem dX12_rumours_37 : decode cX12_rumours 37 = .ok (.ireturn, 1) := by decide +kernel
theorem dX12_rumours_38 : decode cX12_rumours 38 = .ok (.iconst 0, 1) := by decide +kernel
theorem dX12_rumours_39 : decode cX12_rumours 39 = .ok (.istore_n 2, 1) := by decide +kernel
theorem dX12_rumours_40 : decode cX12_rumours 40 = .ok (.iload_n 2, 1) := by decide +kernel
theorem dX12_rumours_41 : decode cX12_rumours 41 = .ok (.iload_n 1, 1) := by decide +kernel
theorem dX12_rumours_42 : decode cX12_rumours 42 = .ok (.if_icmp .ge 34, 3) := by decide +kernel
theorem dX12_rumours_45 : decode cX12_rumours 45 = .ok (.aload_n 0, 1) := by decide +kernel
theorem dX12_rumours_46 : decode cX12_rumours 46 = .ok (.bipush 8, 2) := by decide +kernel
theorem dX12_rumours_48 : decode cX12_rumours 48 = .ok (.invokevirtual 192, 3) := by decide +kernel
theorem dX12_rumours_51 : decode cX12_rumours 51 = .ok (.istore_n 3, 1) := by decide +kernel
theorem dX12_rumours_52 : decode cX12_rumours 52 = .ok (.aload_n 0, 1) := by decide +kernel
theorem dX12_rumours_53 : decode cX12_rumours 53 = .ok (.getfield 7, 3) := by decide +kernel
theorem dX12_rumours_56 : decode cX12_rumours 56 = .ok (.bipush 10, 2) := by decide +kernel
theorem dX12_rumours_58 : decode cX12_rumours 58 = .ok (.iload_n 3, 1) := by decide +kernel
theorem dX12_rumours_59 : decode cX12_rumours 59 = .ok (.iadd, 1) := by decide +kernel
theorem dX12_rumours_60 : decode cX12_rumours 60 = .ok (.aload_n 0, 1) := by decide +kernel
theorem dX12_rumours_61 : decode cX12_rumours 61 = .ok (.iconst 3, 1) := by decide +kernel
theorem dX12_rumours_62 : decode cX12_rumours 62 = .ok (.invokevirtual 192, 3) := by decide +kernel
theorem dX12_rumours_65 : decode cX12_rumours 65 = .ok (.iastore, 1) := by decide +kernel
theorem dX12_rumours_66 : decode cX12_rumours 66 = .ok (.aload_n 0, 1) := by decide +kernel
theorem dX12_rumours_67 : decode cX12_rumours 67 = .ok (.invokevirtual 188, 3) := by decide +kernel
theorem dX12_rumours_70 : decode cX12_rumours 70 = .ok (.iinc 2 1, 3) := by decide +kernel
theorem dX12_rumours_73 : decode cX12_rumours 73 = .ok (.goto (-33), 3) := by decide +kernel
theorem dX12_rumours_76 : decode cX12_rumours 76 = .ok (.aload_n 0, 1) := by decide +kernel
theorem dX12_rumours_77 : decode cX12_rumours 77 = .ok (.invokevirtual 60, 3) := by decide +kernel
theorem dX12_rumours_80 : decode cX12_rumours 80 = .ok (.ireturn, 1) := by decide +kernel
theorem dX12_bits_0 : decode cX12_bits 0 = .ok (.iconst 0, 1) := by decide +kernel
theorem dX12_bits_1 : decode cX12_bits 1 = .ok (.istore_n 1, 1) := by decide +kernel
theorem dX12_bits_2 : decode cX12_bits 2 = .ok (.iconst 0, 1) := by decide +kernel
theorem dX12_bits_3 : decode cX12_bits 3 = .ok (.istore_n 2, 1) := by decide +kernel
theorem dX12_bits_4 : decode cX12_bits 4 = .ok (.iload_n 2, 1) := by decide +kernel
theorem dX12_bits_5 : decode cX12_bits 5 = .ok (.bipush 8, 2) := by decide +kernel
theorem dX12_bits_7 : decode cX12_bits 7 = .ok (.if_icmp .ge 17, 3) := by decide +kernel
theorem dX12_bits_10 : decode cX12_bits 10 = .ok (.iload_n 1, 1) := by decide +kernel
theorem dX12_bits_11 : decode cX12_bits 11 = .ok (.iload_n 0, 1) := by decide +kernel
theorem dX12_bits_12 : decode cX12_bits 12 = .ok (.iload_n 2, 1) := by decide +kernel
theorem dX12_bits_13 : decode cX12_bits 13 = .ok (.ishr, 1) := by decide +kernel
theorem dX12_bits_14 : decode cX12_bits 14 = .ok (.iconst 1, 1) := by decide +kernel
theorem dX12_bits_15 : decode cX12_bits 15 = .ok (.iand, 1) := by decide +kernel
theorem dX12_bits_16 : decode cX12_bits 16 = .ok (.iadd, 1) := by decide +kernel
theorem dX12_bits_17 : decode cX12_bits 17 = .ok (.istore_n 1, 1) := by decide +kernel
theorem dX12_bits_18 : decode cX12_bits 18 = .ok (.iinc 2 1, 3) := by decide +kernel
theorem dX12_bits_21 : decode cX12_bits 21 = .ok (.goto (-17), 3) := by decide +kernel
theorem dX12_bits_24 : decode cX12_bits 24 = .ok (.iload_n 1, 1) := by decide +kernel
theorem dX12_bits_25 : decode cX12_bits 25 = .ok (.ireturn, 1) := by decide +kernel
theorem dX12_floorTogether_0 : decode cX12_floorTogether 0 = .ok (.iconst 0, 1) := by decide +kernel
theorem dX12_floorTogether_1 : decode cX12_floorTogether 1 = .ok (.istore_n 2, 1) := by decide +kernel
theorem dX12_floorTogether_2 : decode cX12_floorTogether 2 = .ok (.iconst 0, 1) := by decide +kernel
theorem dX12_floorTogether_3 : decode cX12_floorTogether 3 = .ok (.istore_n 3, 1) := by decide +kernel
theorem dX12_floorTogether_4 : decode cX12_floorTogether 4 = .ok (.iconst 0, 1) := by decide +kernel
theorem dX12_floorTogether_5 : decode cX12_floorTogether 5 = .ok (.istore 4, 2) := by decide +kernel
theorem dX12_floorTogether_7 : decode cX12_floorTogether 7 = .ok (.iconst 0, 1) := by decide +kernel
theorem dX12_floorTogether_8 : decode cX12_floorTogether 8 = .ok (.istore 5, 2) := by decide +kernel
theorem dX12_floorTogether_10 : decode cX12_floorTogether 10 = .ok (.iload 5, 2) := by decide +kernel
theorem dX12_floorTogether_12 : decode cX12_floorTogether 12 = .ok (.aload_n 0, 1) := by decide +kernel
theorem dX12_floorTogether_13 : decode cX12_floorTogether 13 = .ok (.getfield 7, 3) := by decide +kernel
theorem dX12_floorTogether_16 : decode cX12_floorTogether 16 = .ok (.iconst 3, 1) := by decide +kernel
theorem dX12_floorTogether_17 : decode cX12_floorTogether 17 = .ok (.iaload, 1) := by decide +kernel
theorem dX12_floorTogether_18 : decode cX12_floorTogether 18 = .ok (.if_icmp .ge 102, 3) := by decide +kernel
theorem dX12_floorTogether_21 : decode cX12_floorTogether 21 = .ok (.iload_n 1, 1) := by decide +kernel
theorem dX12_floorTogether_22 : decode cX12_floorTogether 22 = .ok (.iload 5, 2) := by decide +kernel
theorem dX12_floorTogether_24 : decode cX12_floorTogether 24 = .ok (.ishr, 1) := by decide +kernel
theorem dX12_floorTogether_25 : decode cX12_floorTogether 25 = .ok (.iconst 1, 1) := by decide +kernel
theorem dX12_floorTogether_26 : decode cX12_floorTogether 26 = .ok (.iand, 1) := by decide +kernel
theorem dX12_floorTogether_27 : decode cX12_floorTogether 27 = .ok (.iconst 1, 1) := by decide +kernel
theorem dX12_floorTogether_28 : decode cX12_floorTogether 28 = .ok (.if_icmp .ne 86, 3) := by decide +kernel
theorem dX12_floorTogether_31 : decode cX12_floorTogether 31 = .ok (.iload_n 2, 1) := by decide +kernel
theorem dX12_floorTogether_32 : decode cX12_floorTogether 32 = .ok (.aload_n 0, 1) := by decide +kernel
theorem dX12_floorTogether_33 : decode cX12_floorTogether 33 = .ok (.iload 5, 2) := by decide +kernel
theorem dX12_floorTogether_35 : decode cX12_floorTogether 35 = .ok (.aload_n 0, 1) := by decide +kernel
theorem dX12_floorTogether_36 : decode cX12_floorTogether 36 = .ok (.iload 5, 2) := by decide +kernel
theorem dX12_floorTogether_38 : decode cX12_floorTogether 38 = .ok (.iconst 2, 1) := by decide +kernel
theorem dX12_floorTogether_39 : decode cX12_floorTogether 39 = .ok (.invokevirtual 83, 3) := by decide +kernel
theorem dX12_floorTogether_42 : decode cX12_floorTogether 42 = .ok (.invokevirtual 90, 3) := by decide +kernel
theorem dX12_floorTogether_45 : decode cX12_floorTogether 45 = .ok (.iadd, 1) := by decide +kernel
theorem dX12_floorTogether_46 : decode cX12_floorTogether 46 = .ok (.istore_n 2, 1) := by decide +kernel
theorem dX12_floorTogether_47 : decode cX12_floorTogether 47 = .ok (.iconst 0, 1) := by decide +kernel
theorem dX12_floorTogether_48 : decode cX12_floorTogether 48 = .ok (.istore 6, 2) := by decide +kernel
theorem dX12_floorTogether_50 : decode cX12_floorTogether 50 = .ok (.iload 6, 2) := by decide +kernel
theorem dX12_floorTogether_52 : decode cX12_floorTogether 52 = .ok (.bipush 8, 2) := by decide +kernel
theorem dX12_floorTogether_54 : decode cX12_floorTogether 54 = .ok (.if_icmp .ge 60, 3) := by decide +kernel
theorem dX12_floorTogether_57 : decode cX12_floorTogether 57 = .ok (.aload_n 0, 1) := by decide +kernel
theorem dX12_floorTogether_58 : decode cX12_floorTogether 58 = .ok (.aload_n 0, 1) := by decide +kernel
theorem dX12_floorTogether_59 : decode cX12_floorTogether 59 = .ok (.iload 5, 2) := by decide +kernel
theorem dX12_floorTogether_61 : decode cX12_floorTogether 61 = .ok (.iconst 2, 1) := by decide +kernel
theorem dX12_floorTogether_62 : decode cX12_floorTogether 62 = .ok (.invokevirtual 83, 3) := by decide +kernel
theorem dX12_floorTogether_65 : decode cX12_floorTogether 65 = .ok (.iload 6, 2) := by decide +kernel
theorem dX12_floorTogether_67 : decode cX12_floorTogether 67 = .ok (.invokevirtual 75, 3) := by decide +kernel
theorem dX12_floorTogether_70 : decode cX12_floorTogether 70 = .ok (.istore 7, 2) := by decide +kernel
theorem dX12_floorTogether_72 : decode cX12_floorTogether 72 = .ok (.iload_n 3, 1) := by decide +kernel
theorem dX12_floorTogether_73 : decode cX12_floorTogether 73 = .ok (.iload 7, 2) := by decide +kernel
theorem dX12_floorTogether_75 : decode cX12_floorTogether 75 = .ok (.iconst 1, 1) := by decide +kernel
theorem dX12_floorTogether_76 : decode cX12_floorTogether 76 = .ok (.if_icmp .ne 10, 3) := by decide +kernel
theorem dX12_floorTogether_79 : decode cX12_floorTogether 79 = .ok (.iconst 1, 1) := by decide +kernel
theorem dX12_floorTogether_80 : decode cX12_floorTogether 80 = .ok (.iload 6, 2) := by decide +kernel
theorem dX12_floorTogether_82 : decode cX12_floorTogether 82 = .ok (.ishl, 1) := by decide +kernel
theorem dX12_floorTogether_83 : decode cX12_floorTogether 83 = .ok (.goto 4, 3) := by decide +kernel
theorem dX12_floorTogether_86 : decode cX12_floorTogether 86 = .ok (.iconst 0, 1) := by decide +kernel
theorem dX12_floorTogether_87 : decode cX12_floorTogether 87 = .ok (.ior, 1) := by decide +kernel
theorem dX12_floorTogether_88 : decode cX12_floorTogether 88 = .ok (.istore_n 3, 1) := by decide +kernel
theorem dX12_floorTogether_89 : decode cX12_floorTogether 89 = .ok (.iload 4, 2) := by decide +kernel
theorem dX12_floorTogether_91 : decode cX12_floorTogether 91 = .ok (.iload 7, 2) := by decide +kernel
theorem dX12_floorTogether_93 : decode cX12_floorTogether 93 = .ok (.iconst 2, 1) := by decide +kernel
theorem dX12_floorTogether_94 : decode cX12_floorTogether 94 = .ok (.if_icmp .ne 10, 3) := by decide +kernel
theorem dX12_floorTogether_97 : decode cX12_floorTogether 97 = .ok (.iconst 1, 1) := by decide +kernel
theorem dX12_floorTogether_98 : decode cX12_floorTogether 98 = .ok (.iload 6, 2) := by decide +kernel
theorem dX12_floorTogether_100 : decode cX12_floorTogether 100 = .ok (.ishl, 1) := by decide +kernel
theorem dX12_floorTogether_101 : decode cX12_floorTogether 101 = .ok (.goto 4, 3) := by decide +kernel
theorem dX12_floorTogether_104 : decode cX12_floorTogether 104 = .ok (.iconst 0, 1) := by decide +kernel
theorem dX12_floorTogether_105 : decode cX12_floorTogether 105 = .ok (.ior, 1) := by decide +kernel
theorem dX12_floorTogether_106 : decode cX12_floorTogether 106 = .ok (.istore 4, 2) := by decide +kernel
theorem dX12_floorTogether_108 : decode cX12_floorTogether 108 = .ok (.iinc 6 1, 3) := by decide +kernel
theorem dX12_floorTogether_111 : decode cX12_floorTogether 111 = .ok (.goto (-61), 3) := by decide +kernel
theorem dX12_floorTogether_114 : decode cX12_floorTogether 114 = .ok (.iinc 5 1, 3) := by decide +kernel
theorem dX12_floorTogether_117 : decode cX12_floorTogether 117 = .ok (.goto (-107), 3) := by decide +kernel
theorem dX12_floorTogether_120 : decode cX12_floorTogether 120 = .ok (.aload_n 0, 1) := by decide +kernel
theorem dX12_floorTogether_121 : decode cX12_floorTogether 121 = .ok (.iconst 1, 1) := by decide +kernel
theorem dX12_floorTogether_122 : decode cX12_floorTogether 122 = .ok (.iload_n 2, 1) := by decide +kernel
theorem dX12_floorTogether_123 : decode cX12_floorTogether 123 = .ok (.iload_n 1, 1) := by decide +kernel
theorem dX12_floorTogether_124 : decode cX12_floorTogether 124 = .ok (.invokestatic 195, 3) := by decide +kernel
theorem dX12_floorTogether_127 : decode cX12_floorTogether 127 = .ok (.iload_n 3, 1) := by decide +kernel
theorem dX12_floorTogether_128 : decode cX12_floorTogether 128 = .ok (.iload 4, 2) := by decide +kernel
theorem dX12_floorTogether_130 : decode cX12_floorTogether 130 = .ok (.iand, 1) := by decide +kernel
theorem dX12_floorTogether_131 : decode cX12_floorTogether 131 = .ok (.invokestatic 195, 3) := by decide +kernel
theorem dX12_floorTogether_134 : decode cX12_floorTogether 134 = .ok (.invokevirtual 86, 3) := by decide +kernel
theorem dX12_floorTogether_137 : decode cX12_floorTogether 137 = .ok (.istore 5, 2) := by decide +kernel
theorem dX12_floorTogether_139 : decode cX12_floorTogether 139 = .ok (.iload_n 3, 1) := by decide +kernel
theorem dX12_floorTogether_140 : decode cX12_floorTogether 140 = .ok (.iload 4, 2) := by decide +kernel
theorem dX12_floorTogether_142 : decode cX12_floorTogether 142 = .ok (.ior, 1) := by decide +kernel
theorem dX12_floorTogether_143 : decode cX12_floorTogether 143 = .ok (.ifCond .ne 7, 3) := by decide +kernel
theorem dX12_floorTogether_146 : decode cX12_floorTogether 146 = .ok (.iconst (-1), 1) := by decide +kernel
theorem dX12_floorTogether_147 : decode cX12_floorTogether 147 = .ok (.goto 11, 3) := by decide +kernel
theorem dX12_floorTogether_150 : decode cX12_floorTogether 150 = .ok (.iload 5, 2) := by decide +kernel
theorem dX12_floorTogether_152 : decode cX12_floorTogether 152 = .ok (.iconst 0, 1) := by decide +kernel
theorem dX12_floorTogether_153 : decode cX12_floorTogether 153 = .ok (.bipush 9, 2) := by decide +kernel
theorem dX12_floorTogether_155 : decode cX12_floorTogether 155 = .ok (.invokestatic 93, 3) := by decide +kernel
theorem dX12_floorTogether_158 : decode cX12_floorTogether 158 = .ok (.ireturn, 1) := by decide +kernel
theorem dX12_together_0 : decode cX12_together 0 = .ok (.iload_n 1, 1) := by decide +kernel
theorem dX12_together_1 : decode cX12_together 1 = .ok (.iconst 1, 1) := by decide +kernel
theorem dX12_together_2 : decode cX12_together 2 = .ok (.iconst 1, 1) := by decide +kernel
theorem dX12_together_3 : decode cX12_together 3 = .ok (.aload_n 0, 1) := by decide +kernel
theorem dX12_together_4 : decode cX12_together 4 = .ok (.getfield 7, 3) := by decide +kernel
theorem dX12_together_7 : decode cX12_together 7 = .ok (.iconst 3, 1) := by decide +kernel
theorem dX12_together_8 : decode cX12_together 8 = .ok (.iaload, 1) := by decide +kernel
theorem dX12_together_9 : decode cX12_together 9 = .ok (.ishl, 1) := by decide +kernel
theorem dX12_together_10 : decode cX12_together 10 = .ok (.iconst 1, 1) := by decide +kernel
theorem dX12_together_11 : decode cX12_together 11 = .ok (.isub, 1) := by decide +kernel
theorem dX12_together_12 : decode cX12_together 12 = .ok (.invokestatic 47, 3) := by decide +kernel
theorem dX12_together_15 : decode cX12_together 15 = .ok (.ifCond .eq 11, 3) := by decide +kernel
theorem dX12_together_18 : decode cX12_together 18 = .ok (.aload_n 0, 1) := by decide +kernel
theorem dX12_together_19 : decode cX12_together 19 = .ok (.iload_n 1, 1) := by decide +kernel
theorem dX12_together_20 : decode cX12_together 20 = .ok (.invokevirtual 198, 3) := by decide +kernel
theorem dX12_together_23 : decode cX12_together 23 = .ok (.goto 9, 3) := by decide +kernel
theorem dX12_together_26 : decode cX12_together 26 = .ok (.aload_n 0, 1) := by decide +kernel
theorem dX12_together_27 : decode cX12_together 27 = .ok (.ldc 55, 2) := by decide +kernel
theorem dX12_together_29 : decode cX12_together 29 = .ok (.invokevirtual 56, 3) := by decide +kernel
theorem dX12_together_32 : decode cX12_together 32 = .ok (.ireturn, 1) := by decide +kernel
theorem dX12_bestWith_0 : decode cX12_bestWith 0 = .ok (.aload_n 0, 1) := by decide +kernel
theorem dX12_bestWith_1 : decode cX12_bestWith 1 = .ok (.iload_n 1, 1) := by decide +kernel
theorem dX12_bestWith_2 : decode cX12_bestWith 2 = .ok (.invokevirtual 100, 3) := by decide +kernel
theorem dX12_bestWith_5 : decode cX12_bestWith 5 = .ok (.ifCond .eq 12, 3) := by decide +kernel
theorem dX12_bestWith_8 : decode cX12_bestWith 8 = .ok (.iload_n 2, 1) := by decide +kernel
theorem dX12_bestWith_9 : decode cX12_bestWith 9 = .ok (.iconst 0, 1) := by decide +kernel
theorem dX12_bestWith_10 : decode cX12_bestWith 10 = .ok (.iconst 1, 1) := by decide +kernel
theorem dX12_bestWith_11 : decode cX12_bestWith 11 = .ok (.invokestatic 47, 3) := by decide +kernel
theorem dX12_bestWith_14 : decode cX12_bestWith 14 = .ok (.ifCond .ne 10, 3) := by decide +kernel
theorem dX12_bestWith_17 : decode cX12_bestWith 17 = .ok (.aload_n 0, 1) := by decide +kernel
theorem dX12_bestWith_18 : decode cX12_bestWith 18 = .ok (.ldc 55, 2) := by decide +kernel
theorem dX12_bestWith_20 : decode cX12_bestWith 20 = .ok (.invokevirtual 56, 3) := by decide +kernel
theorem dX12_bestWith_23 : decode cX12_bestWith 23 = .ok (.ireturn, 1) := by decide +kernel
theorem dX12_bestWith_24 : decode cX12_bestWith 24 = .ok (.iconst 0, 1) := by decide +kernel
theorem dX12_bestWith_25 : decode cX12_bestWith 25 = .ok (.istore_n 3, 1) := by decide +kernel
theorem dX12_bestWith_26 : decode cX12_bestWith 26 = .ok (.bipush (-2), 2) := by decide +kernel
theorem dX12_bestWith_28 : decode cX12_bestWith 28 = .ok (.istore 4, 2) := by decide +kernel
theorem dX12_bestWith_30 : decode cX12_bestWith 30 = .ok (.iconst 1, 1) := by decide +kernel
theorem dX12_bestWith_31 : decode cX12_bestWith 31 = .ok (.istore 5, 2) := by decide +kernel
theorem dX12_bestWith_33 : decode cX12_bestWith 33 = .ok (.iload 5, 2) := by decide +kernel
theorem dX12_bestWith_35 : decode cX12_bestWith 35 = .ok (.iconst 1, 1) := by decide +kernel
theorem dX12_bestWith_36 : decode cX12_bestWith 36 = .ok (.aload_n 0, 1) := by decide +kernel
theorem dX12_bestWith_37 : decode cX12_bestWith 37 = .ok (.getfield 7, 3) := by decide +kernel
theorem dX12_bestWith_40 : decode cX12_bestWith 40 = .ok (.iconst 3, 1) := by decide +kernel
theorem dX12_bestWith_41 : decode cX12_bestWith 41 = .ok (.iaload, 1) := by decide +kernel
theorem dX12_bestWith_42 : decode cX12_bestWith 42 = .ok (.ishl, 1) := by decide +kernel
theorem dX12_bestWith_43 : decode cX12_bestWith 43 = .ok (.if_icmp .ge 86, 3) := by decide +kernel
theorem dX12_bestWith_46 : decode cX12_bestWith 46 = .ok (.iload 5, 2) := by decide +kernel
theorem dX12_bestWith_48 : decode cX12_bestWith 48 = .ok (.iload_n 1, 1) := by decide +kernel
theorem dX12_bestWith_49 : decode cX12_bestWith 49 = .ok (.ishr, 1) := by decide +kernel
theorem dX12_bestWith_50 : decode cX12_bestWith 50 = .ok (.iconst 1, 1) := by decide +kernel
theorem dX12_bestWith_51 : decode cX12_bestWith 51 = .ok (.iand, 1) := by decide +kernel
theorem dX12_bestWith_52 : decode cX12_bestWith 52 = .ok (.iconst 1, 1) := by decide +kernel
theorem dX12_bestWith_53 : decode cX12_bestWith 53 = .ok (.if_icmp .ne 70, 3) := by decide +kernel
theorem dX12_bestWith_56 : decode cX12_bestWith 56 = .ok (.aload_n 0, 1) := by decide +kernel
theorem dX12_bestWith_57 : decode cX12_bestWith 57 = .ok (.iload 5, 2) := by decide +kernel
theorem dX12_bestWith_59 : decode cX12_bestWith 59 = .ok (.invokevirtual 198, 3) := by decide +kernel
theorem dX12_bestWith_62 : decode cX12_bestWith 62 = .ok (.istore 6, 2) := by decide +kernel
theorem dX12_bestWith_64 : decode cX12_bestWith 64 = .ok (.iload 6, 2) := by decide +kernel
theorem dX12_bestWith_66 : decode cX12_bestWith 66 = .ok (.iload 4, 2) := by decide +kernel
theorem dX12_bestWith_68 : decode cX12_bestWith 68 = .ok (.if_icmp .gt 22, 3) := by decide +kernel
theorem dX12_bestWith_71 : decode cX12_bestWith 71 = .ok (.iload 6, 2) := by decide +kernel
theorem dX12_bestWith_73 : decode cX12_bestWith 73 = .ok (.iload 4, 2) := by decide +kernel
theorem dX12_bestWith_75 : decode cX12_bestWith 75 = .ok (.if_icmp .ne 19, 3) := by decide +kernel
theorem dX12_bestWith_78 : decode cX12_bestWith 78 = .ok (.iload 5, 2) := by decide +kernel
theorem dX12_bestWith_80 : decode cX12_bestWith 80 = .ok (.invokestatic 195, 3) := by decide +kernel
theorem dX12_bestWith_83 : decode cX12_bestWith 83 = .ok (.iload_n 3, 1) := by decide +kernel
theorem dX12_bestWith_84 : decode cX12_bestWith 84 = .ok (.invokestatic 195, 3) := by decide +kernel
theorem dX12_bestWith_87 : decode cX12_bestWith 87 = .ok (.if_icmp .ge 7, 3) := by decide +kernel
theorem dX12_bestWith_90 : decode cX12_bestWith 90 = .ok (.iconst 1, 1) := by decide +kernel
theorem dX12_bestWith_91 : decode cX12_bestWith 91 = .ok (.goto 4, 3) := by decide +kernel
theorem dX12_bestWith_94 : decode cX12_bestWith 94 = .ok (.iconst 0, 1) := by decide +kernel
theorem dX12_bestWith_95 : decode cX12_bestWith 95 = .ok (.istore 7, 2) := by decide +kernel
theorem dX12_bestWith_97 : decode cX12_bestWith 97 = .ok (.iload 7, 2) := by decide +kernel
theorem dX12_bestWith_99 : decode cX12_bestWith 99 = .ok (.ifCond .eq 8, 3) := by decide +kernel
theorem dX12_bestWith_102 : decode cX12_bestWith 102 = .ok (.iload 5, 2) := by decide +kernel
theorem dX12_bestWith_104 : decode cX12_bestWith 104 = .ok (.goto 4, 3) := by decide +kernel
theorem dX12_bestWith_107 : decode cX12_bestWith 107 = .ok (.iload_n 3, 1) := by decide +kernel
theorem dX12_bestWith_108 : decode cX12_bestWith 108 = .ok (.istore_n 3, 1) := by decide +kernel
theorem dX12_bestWith_109 : decode cX12_bestWith 109 = .ok (.iload 7, 2) := by decide +kernel
theorem dX12_bestWith_111 : decode cX12_bestWith 111 = .ok (.ifCond .eq 8, 3) := by decide +kernel
theorem dX12_bestWith_114 : decode cX12_bestWith 114 = .ok (.iload 6, 2) := by decide +kernel
theorem dX12_bestWith_116 : decode cX12_bestWith 116 = .ok (.goto 5, 3) := by decide +kernel
theorem dX12_bestWith_119 : decode cX12_bestWith 119 = .ok (.iload 4, 2) := by decide +kernel
theorem dX12_bestWith_121 : decode cX12_bestWith 121 = .ok (.istore 4, 2) := by decide +kernel
theorem dX12_bestWith_123 : decode cX12_bestWith 123 = .ok (.iinc 5 1, 3) := by decide +kernel
theorem dX12_bestWith_126 : decode cX12_bestWith 126 = .ok (.goto (-93), 3) := by decide +kernel
theorem dX12_bestWith_129 : decode cX12_bestWith 129 = .ok (.iload_n 2, 1) := by decide +kernel
theorem dX12_bestWith_130 : decode cX12_bestWith 130 = .ok (.ifCond .ne 7, 3) := by decide +kernel
theorem dX12_bestWith_133 : decode cX12_bestWith 133 = .ok (.iload_n 3, 1) := by decide +kernel
theorem dX12_bestWith_134 : decode cX12_bestWith 134 = .ok (.goto 5, 3) := by decide +kernel
theorem dX12_bestWith_137 : decode cX12_bestWith 137 = .ok (.iload 4, 2) := by decide +kernel
theorem dX12_bestWith_139 : decode cX12_bestWith 139 = .ok (.ireturn, 1) := by decide +kernel
theorem dX12_longOf_0 : decode cX12_longOf 0 = .ok (.iconst 0, 1) := by decide +kernel
theorem dX12_longOf_1 : decode cX12_longOf 1 = .ok (.istore_n 2, 1) := by decide +kernel
theorem dX12_longOf_2 : decode cX12_longOf 2 = .ok (.iconst 0, 1) := by decide +kernel
theorem dX12_longOf_3 : decode cX12_longOf 3 = .ok (.istore_n 3, 1) := by decide +kernel
theorem dX12_longOf_4 : decode cX12_longOf 4 = .ok (.iload_n 3, 1) := by decide +kernel
theorem dX12_longOf_5 : decode cX12_longOf 5 = .ok (.bipush 8, 2) := by decide +kernel
theorem dX12_longOf_7 : decode cX12_longOf 7 = .ok (.if_icmp .ge 26, 3) := by decide +kernel
theorem dX12_longOf_10 : decode cX12_longOf 10 = .ok (.iload_n 2, 1) := by decide +kernel
theorem dX12_longOf_11 : decode cX12_longOf 11 = .ok (.aload_n 0, 1) := by decide +kernel
theorem dX12_longOf_12 : decode cX12_longOf 12 = .ok (.iload_n 1, 1) := by decide +kernel
theorem dX12_longOf_13 : decode cX12_longOf 13 = .ok (.iload_n 3, 1) := by decide +kernel
theorem dX12_longOf_14 : decode cX12_longOf 14 = .ok (.invokevirtual 75, 3) := by decide +kernel
theorem dX12_longOf_17 : decode cX12_longOf 17 = .ok (.ifCond .le 7, 3) := by decide +kernel
theorem dX12_longOf_20 : decode cX12_longOf 20 = .ok (.iconst 1, 1) := by decide +kernel
theorem dX12_longOf_21 : decode cX12_longOf 21 = .ok (.goto 4, 3) := by decide +kernel
theorem dX12_longOf_24 : decode cX12_longOf 24 = .ok (.iconst 0, 1) := by decide +kernel
theorem dX12_longOf_25 : decode cX12_longOf 25 = .ok (.iadd, 1) := by decide +kernel
theorem dX12_longOf_26 : decode cX12_longOf 26 = .ok (.istore_n 2, 1) := by decide +kernel
theorem dX12_longOf_27 : decode cX12_longOf 27 = .ok (.iinc 3 1, 3) := by decide +kernel
theorem dX12_longOf_30 : decode cX12_longOf 30 = .ok (.goto (-26), 3) := by decide +kernel
theorem dX12_longOf_33 : decode cX12_longOf 33 = .ok (.iload_n 2, 1) := by decide +kernel
theorem dX12_longOf_34 : decode cX12_longOf 34 = .ok (.ireturn, 1) := by decide +kernel
theorem dX12_shortestTo_0 : decode cX12_shortestTo 0 = .ok (.aload_n 0, 1) := by decide +kernel
theorem dX12_shortestTo_1 : decode cX12_shortestTo 1 = .ok (.invokevirtual 106, 3) := by decide +kernel
theorem dX12_shortestTo_4 : decode cX12_shortestTo 4 = .ok (.istore 4, 2) := by decide +kernel
theorem dX12_shortestTo_6 : decode cX12_shortestTo 6 = .ok (.iconst (-1), 1) := by decide +kernel
theorem dX12_shortestTo_7 : decode cX12_shortestTo 7 = .ok (.istore 5, 2) := by decide +kernel
theorem dX12_shortestTo_9 : decode cX12_shortestTo 9 = .ok (.bipush 9, 2) := by decide +kernel
theorem dX12_shortestTo_11 : decode cX12_shortestTo 11 = .ok (.istore 6, 2) := by decide +kernel
theorem dX12_shortestTo_13 : decode cX12_shortestTo 13 = .ok (.iconst 1, 1) := by decide +kernel
theorem dX12_shortestTo_14 : decode cX12_shortestTo 14 = .ok (.istore 7, 2) := by decide +kernel
theorem dX12_shortestTo_16 : decode cX12_shortestTo 16 = .ok (.iload 7, 2) := by decide +kernel
theorem dX12_shortestTo_18 : decode cX12_shortestTo 18 = .ok (.sipush 6561, 3) := by decide +kernel
theorem dX12_shortestTo_21 : decode cX12_shortestTo 21 = .ok (.if_icmp .ge 70, 3) := by decide +kernel
theorem dX12_shortestTo_24 : decode cX12_shortestTo 24 = .ok (.iload_n 3, 1) := by decide +kernel
theorem dX12_shortestTo_25 : decode cX12_shortestTo 25 = .ok (.ifCond .eq 14, 3) := by decide +kernel
theorem dX12_shortestTo_28 : decode cX12_shortestTo 28 = .ok (.aload_n 0, 1) := by decide +kernel
theorem dX12_shortestTo_29 : decode cX12_shortestTo 29 = .ok (.iload 7, 2) := by decide +kernel
theorem dX12_shortestTo_31 : decode cX12_shortestTo 31 = .ok (.iload 4, 2) := by decide +kernel
theorem dX12_shortestTo_33 : decode cX12_shortestTo 33 = .ok (.invokevirtual 109, 3) := by decide +kernel
theorem dX12_shortestTo_36 : decode cX12_shortestTo 36 = .ok (.ifCond .eq 18, 3) := by decide +kernel
theorem dX12_shortestTo_39 : decode cX12_shortestTo 39 = .ok (.aload_n 0, 1) := by decide +kernel
theorem dX12_shortestTo_40 : decode cX12_shortestTo 40 = .ok (.iload 7, 2) := by decide +kernel
theorem dX12_shortestTo_42 : decode cX12_shortestTo 42 = .ok (.invokevirtual 201, 3) := by decide +kernel
theorem dX12_shortestTo_45 : decode cX12_shortestTo 45 = .ok (.iload 6, 2) := by decide +kernel
theorem dX12_shortestTo_47 : decode cX12_shortestTo 47 = .ok (.if_icmp .ge 7, 3) := by decide +kernel
theorem dX12_shortestTo_50 : decode cX12_shortestTo 50 = .ok (.iconst 1, 1) := by decide +kernel
theorem dX12_shortestTo_51 : decode cX12_shortestTo 51 = .ok (.goto 4, 3) := by decide +kernel
theorem dX12_shortestTo_54 : decode cX12_shortestTo 54 = .ok (.iconst 0, 1) := by decide +kernel
theorem dX12_shortestTo_55 : decode cX12_shortestTo 55 = .ok (.istore 8, 2) := by decide +kernel
theorem dX12_shortestTo_57 : decode cX12_shortestTo 57 = .ok (.iload 8, 2) := by decide +kernel
theorem dX12_shortestTo_59 : decode cX12_shortestTo 59 = .ok (.ifCond .eq 26, 3) := by decide +kernel
theorem dX12_shortestTo_62 : decode cX12_shortestTo 62 = .ok (.aload_n 0, 1) := by decide +kernel
theorem dX12_shortestTo_63 : decode cX12_shortestTo 63 = .ok (.iload_n 1, 1) := by decide +kernel
theorem dX12_shortestTo_64 : decode cX12_shortestTo 64 = .ok (.iload 7, 2) := by decide +kernel
theorem dX12_shortestTo_66 : decode cX12_shortestTo 66 = .ok (.invokevirtual 97, 3) := by decide +kernel
theorem dX12_shortestTo_69 : decode cX12_shortestTo 69 = .ok (.iload_n 2, 1) := by decide +kernel
theorem dX12_shortestTo_70 : decode cX12_shortestTo 70 = .ok (.if_icmp .lt 15, 3) := by decide +kernel
theorem dX12_shortestTo_73 : decode cX12_shortestTo 73 = .ok (.iload 7, 2) := by decide +kernel
theorem dX12_shortestTo_75 : decode cX12_shortestTo 75 = .ok (.istore 5, 2) := by decide +kernel
theorem dX12_shortestTo_77 : decode cX12_shortestTo 77 = .ok (.aload_n 0, 1) := by decide +kernel
theorem dX12_shortestTo_78 : decode cX12_shortestTo 78 = .ok (.iload 7, 2) := by decide +kernel
theorem dX12_shortestTo_80 : decode cX12_shortestTo 80 = .ok (.invokevirtual 201, 3) := by decide +kernel
theorem dX12_shortestTo_83 : decode cX12_shortestTo 83 = .ok (.istore 6, 2) := by decide +kernel
theorem dX12_shortestTo_85 : decode cX12_shortestTo 85 = .ok (.iinc 7 1, 3) := by decide +kernel
theorem dX12_shortestTo_88 : decode cX12_shortestTo 88 = .ok (.goto (-72), 3) := by decide +kernel
theorem dX12_shortestTo_91 : decode cX12_shortestTo 91 = .ok (.iload 5, 2) := by decide +kernel
theorem dX12_shortestTo_93 : decode cX12_shortestTo 93 = .ok (.ireturn, 1) := by decide +kernel
theorem dX12_isFloor_0 : decode cX12_isFloor 0 = .ok (.iload_n 0, 1) := by decide +kernel
theorem dX12_isFloor_1 : decode cX12_isFloor 1 = .ok (.iconst 0, 1) := by decide +kernel
theorem dX12_isFloor_2 : decode cX12_isFloor 2 = .ok (.bipush 9, 2) := by decide +kernel
theorem dX12_isFloor_4 : decode cX12_isFloor 4 = .ok (.invokestatic 47, 3) := by decide +kernel
theorem dX12_isFloor_7 : decode cX12_isFloor 7 = .ok (.ireturn, 1) := by decide +kernel
theorem dX12_shortest_0 : decode cX12_shortest 0 = .ok (.aload_n 0, 1) := by decide +kernel
theorem dX12_shortest_1 : decode cX12_shortest 1 = .ok (.iload_n 1, 1) := by decide +kernel
theorem dX12_shortest_2 : decode cX12_shortest 2 = .ok (.invokevirtual 100, 3) := by decide +kernel
theorem dX12_shortest_5 : decode cX12_shortest 5 = .ok (.ifCond .eq 10, 3) := by decide +kernel
theorem dX12_shortest_8 : decode cX12_shortest 8 = .ok (.iload_n 2, 1) := by decide +kernel
theorem dX12_shortest_9 : decode cX12_shortest 9 = .ok (.invokestatic 204, 3) := by decide +kernel
theorem dX12_shortest_12 : decode cX12_shortest 12 = .ok (.ifCond .ne 10, 3) := by decide +kernel
theorem dX12_shortest_15 : decode cX12_shortest 15 = .ok (.aload_n 0, 1) := by decide +kernel
theorem dX12_shortest_16 : decode cX12_shortest 16 = .ok (.ldc 55, 2) := by decide +kernel
theorem dX12_shortest_18 : decode cX12_shortest 18 = .ok (.invokevirtual 56, 3) := by decide +kernel
theorem dX12_shortest_21 : decode cX12_shortest 21 = .ok (.ireturn, 1) := by decide +kernel
theorem dX12_shortest_22 : decode cX12_shortest 22 = .ok (.aload_n 0, 1) := by decide +kernel
theorem dX12_shortest_23 : decode cX12_shortest 23 = .ok (.iload_n 1, 1) := by decide +kernel
theorem dX12_shortest_24 : decode cX12_shortest 24 = .ok (.iload_n 2, 1) := by decide +kernel
theorem dX12_shortest_25 : decode cX12_shortest 25 = .ok (.iconst 0, 1) := by decide +kernel
theorem dX12_shortest_26 : decode cX12_shortest 26 = .ok (.invokevirtual 207, 3) := by decide +kernel
theorem dX12_shortest_29 : decode cX12_shortest 29 = .ok (.istore_n 3, 1) := by decide +kernel
theorem dX12_shortest_30 : decode cX12_shortest 30 = .ok (.iload_n 3, 1) := by decide +kernel
theorem dX12_shortest_31 : decode cX12_shortest 31 = .ok (.ifCond .ge 12, 3) := by decide +kernel
theorem dX12_shortest_34 : decode cX12_shortest 34 = .ok (.aload_n 0, 1) := by decide +kernel
theorem dX12_shortest_35 : decode cX12_shortest 35 = .ok (.ldc 211, 2) := by decide +kernel
theorem dX12_shortest_37 : decode cX12_shortest 37 = .ok (.invokevirtual 56, 3) := by decide +kernel
theorem dX12_shortest_40 : decode cX12_shortest 40 = .ok (.goto 4, 3) := by decide +kernel
theorem dX12_shortest_43 : decode cX12_shortest 43 = .ok (.iload_n 3, 1) := by decide +kernel
theorem dX12_shortest_44 : decode cX12_shortest 44 = .ok (.ireturn, 1) := by decide +kernel
theorem dX12_truest_0 : decode cX12_truest 0 = .ok (.aload_n 0, 1) := by decide +kernel
theorem dX12_truest_1 : decode cX12_truest 1 = .ok (.iload_n 1, 1) := by decide +kernel
theorem dX12_truest_2 : decode cX12_truest 2 = .ok (.invokevirtual 100, 3) := by decide +kernel
theorem dX12_truest_5 : decode cX12_truest 5 = .ok (.ifCond .eq 10, 3) := by decide +kernel
theorem dX12_truest_8 : decode cX12_truest 8 = .ok (.iload_n 2, 1) := by decide +kernel
theorem dX12_truest_9 : decode cX12_truest 9 = .ok (.invokestatic 204, 3) := by decide +kernel
theorem dX12_truest_12 : decode cX12_truest 12 = .ok (.ifCond .ne 10, 3) := by decide +kernel
theorem dX12_truest_15 : decode cX12_truest 15 = .ok (.aload_n 0, 1) := by decide +kernel
theorem dX12_truest_16 : decode cX12_truest 16 = .ok (.ldc 55, 2) := by decide +kernel
theorem dX12_truest_18 : decode cX12_truest 18 = .ok (.invokevirtual 56, 3) := by decide +kernel
theorem dX12_truest_21 : decode cX12_truest 21 = .ok (.ireturn, 1) := by decide +kernel
theorem dX12_truest_22 : decode cX12_truest 22 = .ok (.aload_n 0, 1) := by decide +kernel
theorem dX12_truest_23 : decode cX12_truest 23 = .ok (.iload_n 1, 1) := by decide +kernel
theorem dX12_truest_24 : decode cX12_truest 24 = .ok (.iload_n 2, 1) := by decide +kernel
theorem dX12_truest_25 : decode cX12_truest 25 = .ok (.iconst 1, 1) := by decide +kernel
theorem dX12_truest_26 : decode cX12_truest 26 = .ok (.invokevirtual 207, 3) := by decide +kernel
theorem dX12_truest_29 : decode cX12_truest 29 = .ok (.istore_n 3, 1) := by decide +kernel
theorem dX12_truest_30 : decode cX12_truest 30 = .ok (.iload_n 3, 1) := by decide +kernel
theorem dX12_truest_31 : decode cX12_truest 31 = .ok (.ifCond .ge 12, 3) := by decide +kernel
theorem dX12_truest_34 : decode cX12_truest 34 = .ok (.aload_n 0, 1) := by decide +kernel
theorem dX12_truest_35 : decode cX12_truest 35 = .ok (.ldc 211, 2) := by decide +kernel
theorem dX12_truest_37 : decode cX12_truest 37 = .ok (.invokevirtual 56, 3) := by decide +kernel
theorem dX12_truest_40 : decode cX12_truest 40 = .ok (.goto 4, 3) := by decide +kernel
theorem dX12_truest_43 : decode cX12_truest 43 = .ok (.iload_n 3, 1) := by decide +kernel
theorem dX12_truest_44 : decode cX12_truest 44 = .ok (.ireturn, 1) := by decide +kernel
theorem dX12_out_0 : decode cX12_out 0 = .ok (.aload_n 0, 1) := by decide +kernel
theorem dX12_out_1 : decode cX12_out 1 = .ok (.iload_n 1, 1) := by decide +kernel
theorem dX12_out_2 : decode cX12_out 2 = .ok (.invokevirtual 100, 3) := by decide +kernel
theorem dX12_out_5 : decode cX12_out 5 = .ok (.ifCond .eq 10, 3) := by decide +kernel
theorem dX12_out_8 : decode cX12_out 8 = .ok (.iload_n 2, 1) := by decide +kernel
theorem dX12_out_9 : decode cX12_out 9 = .ok (.invokestatic 204, 3) := by decide +kernel
theorem dX12_out_12 : decode cX12_out 12 = .ok (.ifCond .ne 10, 3) := by decide +kernel
theorem dX12_out_15 : decode cX12_out 15 = .ok (.aload_n 0, 1) := by decide +kernel
theorem dX12_out_16 : decode cX12_out 16 = .ok (.ldc 55, 2) := by decide +kernel
theorem dX12_out_18 : decode cX12_out 18 = .ok (.invokevirtual 56, 3) := by decide +kernel
theorem dX12_out_21 : decode cX12_out 21 = .ok (.ireturn, 1) := by decide +kernel
theorem dX12_out_22 : decode cX12_out 22 = .ok (.aload_n 0, 1) := by decide +kernel
theorem dX12_out_23 : decode cX12_out 23 = .ok (.iload_n 1, 1) := by decide +kernel
theorem dX12_out_24 : decode cX12_out 24 = .ok (.iconst 2, 1) := by decide +kernel
theorem dX12_out_25 : decode cX12_out 25 = .ok (.invokevirtual 83, 3) := by decide +kernel
theorem dX12_out_28 : decode cX12_out 28 = .ok (.istore_n 3, 1) := by decide +kernel
theorem dX12_out_29 : decode cX12_out 29 = .ok (.iconst (-1), 1) := by decide +kernel
theorem dX12_out_30 : decode cX12_out 30 = .ok (.istore 4, 2) := by decide +kernel
theorem dX12_out_32 : decode cX12_out 32 = .ok (.iconst 0, 1) := by decide +kernel
theorem dX12_out_33 : decode cX12_out 33 = .ok (.istore 5, 2) := by decide +kernel
theorem dX12_out_35 : decode cX12_out 35 = .ok (.iload 5, 2) := by decide +kernel
theorem dX12_out_37 : decode cX12_out 37 = .ok (.sipush 256, 3) := by decide +kernel
theorem dX12_out_40 : decode cX12_out 40 = .ok (.if_icmp .ge 126, 3) := by decide +kernel
theorem dX12_out_43 : decode cX12_out 43 = .ok (.iload_n 3, 1) := by decide +kernel
theorem dX12_out_44 : decode cX12_out 44 = .ok (.istore 6, 2) := by decide +kernel
theorem dX12_out_46 : decode cX12_out 46 = .ok (.iload 4, 2) := by decide +kernel
theorem dX12_out_48 : decode cX12_out 48 = .ok (.ifCond .lt 16, 3) := by decide +kernel
theorem dX12_out_51 : decode cX12_out 51 = .ok (.iload 5, 2) := by decide +kernel
theorem dX12_out_53 : decode cX12_out 53 = .ok (.invokestatic 195, 3) := by decide +kernel
theorem dX12_out_56 : decode cX12_out 56 = .ok (.iload 4, 2) := by decide +kernel
theorem dX12_out_58 : decode cX12_out 58 = .ok (.invokestatic 195, 3) := by decide +kernel
theorem dX12_out_61 : decode cX12_out 61 = .ok (.if_icmp .ge 7, 3) := by decide +kernel
theorem dX12_out_64 : decode cX12_out 64 = .ok (.iconst 1, 1) := by decide +kernel
theorem dX12_out_65 : decode cX12_out 65 = .ok (.goto 4, 3) := by decide +kernel
theorem dX12_out_68 : decode cX12_out 68 = .ok (.iconst 0, 1) := by decide +kernel
theorem dX12_out_69 : decode cX12_out 69 = .ok (.istore 7, 2) := by decide +kernel
theorem dX12_out_71 : decode cX12_out 71 = .ok (.iconst 0, 1) := by decide +kernel
theorem dX12_out_72 : decode cX12_out 72 = .ok (.istore 8, 2) := by decide +kernel
theorem dX12_out_74 : decode cX12_out 74 = .ok (.iload 8, 2) := by decide +kernel
theorem dX12_out_76 : decode cX12_out 76 = .ok (.bipush 8, 2) := by decide +kernel
theorem dX12_out_78 : decode cX12_out 78 = .ok (.if_icmp .ge 62, 3) := by decide +kernel
theorem dX12_out_81 : decode cX12_out 81 = .ok (.iload 7, 2) := by decide +kernel
theorem dX12_out_83 : decode cX12_out 83 = .ok (.ifCond .eq 57, 3) := by decide +kernel
theorem dX12_out_86 : decode cX12_out 86 = .ok (.iload 5, 2) := by decide +kernel
theorem dX12_out_88 : decode cX12_out 88 = .ok (.iload 8, 2) := by decide +kernel
theorem dX12_out_90 : decode cX12_out 90 = .ok (.ishr, 1) := by decide +kernel
theorem dX12_out_91 : decode cX12_out 91 = .ok (.iconst 1, 1) := by decide +kernel
theorem dX12_out_92 : decode cX12_out 92 = .ok (.iand, 1) := by decide +kernel
theorem dX12_out_93 : decode cX12_out 93 = .ok (.iconst 1, 1) := by decide +kernel
theorem dX12_out_94 : decode cX12_out 94 = .ok (.if_icmp .ne 40, 3) := by decide +kernel
theorem dX12_out_97 : decode cX12_out 97 = .ok (.aload_n 0, 1) := by decide +kernel
theorem dX12_out_98 : decode cX12_out 98 = .ok (.iload_n 3, 1) := by decide +kernel
theorem dX12_out_99 : decode cX12_out 99 = .ok (.iload 8, 2) := by decide +kernel
theorem dX12_out_101 : decode cX12_out 101 = .ok (.invokevirtual 75, 3) := by decide +kernel
theorem dX12_out_104 : decode cX12_out 104 = .ok (.ifCond .le 7, 3) := by decide +kernel
theorem dX12_out_107 : decode cX12_out 107 = .ok (.iconst 1, 1) := by decide +kernel
theorem dX12_out_108 : decode cX12_out 108 = .ok (.goto 4, 3) := by decide +kernel
theorem dX12_out_111 : decode cX12_out 111 = .ok (.iconst 0, 1) := by decide +kernel
theorem dX12_out_112 : decode cX12_out 112 = .ok (.istore 7, 2) := by decide +kernel
theorem dX12_out_114 : decode cX12_out 114 = .ok (.iload 6, 2) := by decide +kernel
theorem dX12_out_116 : decode cX12_out 116 = .ok (.aload_n 0, 1) := by decide +kernel
theorem dX12_out_117 : decode cX12_out 117 = .ok (.getfield 22, 3) := by decide +kernel
theorem dX12_out_120 : decode cX12_out 120 = .ok (.iload 8, 2) := by decide +kernel
theorem dX12_out_122 : decode cX12_out 122 = .ok (.iaload, 1) := by decide +kernel
theorem dX12_out_123 : decode cX12_out 123 = .ok (.aload_n 0, 1) := by decide +kernel
theorem dX12_out_124 : decode cX12_out 124 = .ok (.iload_n 3, 1) := by decide +kernel
theorem dX12_out_125 : decode cX12_out 125 = .ok (.iload 8, 2) := by decide +kernel
theorem dX12_out_127 : decode cX12_out 127 = .ok (.invokevirtual 75, 3) := by decide +kernel
theorem dX12_out_130 : decode cX12_out 130 = .ok (.imul, 1) := by decide +kernel
theorem dX12_out_131 : decode cX12_out 131 = .ok (.isub, 1) := by decide +kernel
theorem dX12_out_132 : decode cX12_out 132 = .ok (.istore 6, 2) := by decide +kernel
theorem dX12_out_134 : decode cX12_out 134 = .ok (.iinc 8 1, 3) := by decide +kernel
theorem dX12_out_137 : decode cX12_out 137 = .ok (.goto (-63), 3) := by decide +kernel
theorem dX12_out_140 : decode cX12_out 140 = .ok (.iload 7, 2) := by decide +kernel
theorem dX12_out_142 : decode cX12_out 142 = .ok (.ifCond .eq 18, 3) := by decide +kernel
theorem dX12_out_145 : decode cX12_out 145 = .ok (.aload_n 0, 1) := by decide +kernel
theorem dX12_out_146 : decode cX12_out 146 = .ok (.iload_n 1, 1) := by decide +kernel
theorem dX12_out_147 : decode cX12_out 147 = .ok (.iload 6, 2) := by decide +kernel
theorem dX12_out_149 : decode cX12_out 149 = .ok (.invokevirtual 97, 3) := by decide +kernel
theorem dX12_out_152 : decode cX12_out 152 = .ok (.iload_n 2, 1) := by decide +kernel
theorem dX12_out_153 : decode cX12_out 153 = .ok (.if_icmp .lt 7, 3) := by decide +kernel
theorem dX12_out_156 : decode cX12_out 156 = .ok (.iload 5, 2) := by decide +kernel
theorem dX12_out_158 : decode cX12_out 158 = .ok (.istore 4, 2) := by decide +kernel
theorem dX12_out_160 : decode cX12_out 160 = .ok (.iinc 5 1, 3) := by decide +kernel
theorem dX12_out_163 : decode cX12_out 163 = .ok (.goto (-128), 3) := by decide +kernel
theorem dX12_out_166 : decode cX12_out 166 = .ok (.iload 4, 2) := by decide +kernel
theorem dX12_out_168 : decode cX12_out 168 = .ok (.ifCond .ge 12, 3) := by decide +kernel
theorem dX12_out_171 : decode cX12_out 171 = .ok (.aload_n 0, 1) := by decide +kernel
theorem dX12_out_172 : decode cX12_out 172 = .ok (.ldc 211, 2) := by decide +kernel
theorem dX12_out_174 : decode cX12_out 174 = .ok (.invokevirtual 56, 3) := by decide +kernel
theorem dX12_out_177 : decode cX12_out 177 = .ok (.goto 5, 3) := by decide +kernel
theorem dX12_out_180 : decode cX12_out 180 = .ok (.iload 4, 2) := by decide +kernel
theorem dX12_out_182 : decode cX12_out 182 = .ok (.ireturn, 1) := by decide +kernel
theorem dX12_when_0 : decode cX12_when 0 = .ok (.aload_n 0, 1) := by decide +kernel
theorem dX12_when_1 : decode cX12_when 1 = .ok (.iload_n 1, 1) := by decide +kernel
theorem dX12_when_2 : decode cX12_when 2 = .ok (.invokevirtual 100, 3) := by decide +kernel
theorem dX12_when_5 : decode cX12_when 5 = .ok (.ifCond .eq 10, 3) := by decide +kernel
theorem dX12_when_8 : decode cX12_when 8 = .ok (.iload_n 2, 1) := by decide +kernel
theorem dX12_when_9 : decode cX12_when 9 = .ok (.invokestatic 204, 3) := by decide +kernel
theorem dX12_when_12 : decode cX12_when 12 = .ok (.ifCond .ne 10, 3) := by decide +kernel
theorem dX12_when_15 : decode cX12_when 15 = .ok (.aload_n 0, 1) := by decide +kernel
theorem dX12_when_16 : decode cX12_when 16 = .ok (.ldc 55, 2) := by decide +kernel
theorem dX12_when_18 : decode cX12_when 18 = .ok (.invokevirtual 56, 3) := by decide +kernel
theorem dX12_when_21 : decode cX12_when 21 = .ok (.ireturn, 1) := by decide +kernel
theorem dX12_when_22 : decode cX12_when 22 = .ok (.aload_n 0, 1) := by decide +kernel
theorem dX12_when_23 : decode cX12_when 23 = .ok (.aload_n 0, 1) := by decide +kernel
theorem dX12_when_24 : decode cX12_when 24 = .ok (.getfield 7, 3) := by decide +kernel
theorem dX12_when_27 : decode cX12_when 27 = .ok (.aload_n 0, 1) := by decide +kernel
theorem dX12_when_28 : decode cX12_when 28 = .ok (.getfield 16, 3) := by decide +kernel
theorem dX12_when_31 : decode cX12_when 31 = .ok (.invokevirtual 180, 3) := by decide +kernel
theorem dX12_when_34 : decode cX12_when 34 = .ok (.iconst 0, 1) := by decide +kernel
theorem dX12_when_35 : decode cX12_when 35 = .ok (.istore_n 3, 1) := by decide +kernel
theorem dX12_when_36 : decode cX12_when 36 = .ok (.iload_n 3, 1) := by decide +kernel
theorem dX12_when_37 : decode cX12_when 37 = .ok (.bipush 60, 2) := by decide +kernel
theorem dX12_when_39 : decode cX12_when 39 = .ok (.if_icmp .gt 22, 3) := by decide +kernel
theorem dX12_when_42 : decode cX12_when 42 = .ok (.aload_n 0, 1) := by decide +kernel
theorem dX12_when_43 : decode cX12_when 43 = .ok (.iload_n 1, 1) := by decide +kernel
theorem dX12_when_44 : decode cX12_when 44 = .ok (.invokevirtual 103, 3) := by decide +kernel
theorem dX12_when_47 : decode cX12_when 47 = .ok (.iload_n 2, 1) := by decide +kernel
theorem dX12_when_48 : decode cX12_when 48 = .ok (.if_icmp .ge 13, 3) := by decide +kernel
theorem dX12_when_51 : decode cX12_when 51 = .ok (.aload_n 0, 1) := by decide +kernel
theorem dX12_when_52 : decode cX12_when 52 = .ok (.invokevirtual 188, 3) := by decide +kernel
theorem dX12_when_55 : decode cX12_when 55 = .ok (.iinc 3 1, 3) := by decide +kernel
theorem dX12_when_58 : decode cX12_when 58 = .ok (.goto (-22), 3) := by decide +kernel
theorem dX12_when_61 : decode cX12_when 61 = .ok (.aload_n 0, 1) := by decide +kernel
theorem dX12_when_62 : decode cX12_when 62 = .ok (.aload_n 0, 1) := by decide +kernel
theorem dX12_when_63 : decode cX12_when 63 = .ok (.getfield 16, 3) := by decide +kernel
theorem dX12_when_66 : decode cX12_when 66 = .ok (.aload_n 0, 1) := by decide +kernel
theorem dX12_when_67 : decode cX12_when 67 = .ok (.getfield 7, 3) := by decide +kernel
theorem dX12_when_70 : decode cX12_when 70 = .ok (.invokevirtual 180, 3) := by decide +kernel
theorem dX12_when_73 : decode cX12_when 73 = .ok (.iload_n 3, 1) := by decide +kernel
theorem dX12_when_74 : decode cX12_when 74 = .ok (.bipush 60, 2) := by decide +kernel
theorem dX12_when_76 : decode cX12_when 76 = .ok (.if_icmp .le 12, 3) := by decide +kernel
theorem dX12_when_79 : decode cX12_when 79 = .ok (.aload_n 0, 1) := by decide +kernel
theorem dX12_when_80 : decode cX12_when 80 = .ok (.ldc 211, 2) := by decide +kernel
theorem dX12_when_82 : decode cX12_when 82 = .ok (.invokevirtual 56, 3) := by decide +kernel
theorem dX12_when_85 : decode cX12_when 85 = .ok (.goto 4, 3) := by decide +kernel
theorem dX12_when_88 : decode cX12_when 88 = .ok (.iload_n 3, 1) := by decide +kernel
theorem dX12_when_89 : decode cX12_when 89 = .ok (.ireturn, 1) := by decide +kernel
theorem dX12_still_0 : decode cX12_still 0 = .ok (.aload_n 0, 1) := by decide +kernel
theorem dX12_still_1 : decode cX12_still 1 = .ok (.aload_n 0, 1) := by decide +kernel
theorem dX12_still_2 : decode cX12_still 2 = .ok (.getfield 7, 3) := by decide +kernel
theorem dX12_still_5 : decode cX12_still 5 = .ok (.aload_n 0, 1) := by decide +kernel
theorem dX12_still_6 : decode cX12_still 6 = .ok (.getfield 16, 3) := by decide +kernel
theorem dX12_still_9 : decode cX12_still 9 = .ok (.invokevirtual 180, 3) := by decide +kernel
theorem dX12_still_12 : decode cX12_still 12 = .ok (.iconst (-1), 1) := by decide +kernel
theorem dX12_still_13 : decode cX12_still 13 = .ok (.istore_n 1, 1) := by decide +kernel
theorem dX12_still_14 : decode cX12_still 14 = .ok (.iconst (-1), 1) := by decide +kernel
theorem dX12_still_15 : decode cX12_still 15 = .ok (.istore_n 2, 1) := by decide +kernel
theorem dX12_still_16 : decode cX12_still 16 = .ok (.iload_n 1, 1) := by decide +kernel
theorem dX12_still_17 : decode cX12_still 17 = .ok (.bipush 60, 2) := by decide +kernel
theorem dX12_still_19 : decode cX12_still 19 = .ok (.if_icmp .gt 26, 3) := by decide +kernel
theorem dX12_still_22 : decode cX12_still 22 = .ok (.iload_n 2, 1) := by decide +kernel
theorem dX12_still_23 : decode cX12_still 23 = .ok (.aload_n 0, 1) := by decide +kernel
theorem dX12_still_24 : decode cX12_still 24 = .ok (.invokevirtual 60, 3) := by decide +kernel
theorem dX12_still_27 : decode cX12_still 27 = .ok (.if_icmp .eq 18, 3) := by decide +kernel
theorem dX12_still_30 : decode cX12_still 30 = .ok (.aload_n 0, 1) := by decide +kernel
theorem dX12_still_31 : decode cX12_still 31 = .ok (.invokevirtual 60, 3) := by decide +kernel
theorem dX12_still_34 : decode cX12_still 34 = .ok (.istore_n 2, 1) := by decide +kernel
theorem dX12_still_35 : decode cX12_still 35 = .ok (.aload_n 0, 1) := by decide +kernel
theorem dX12_still_36 : decode cX12_still 36 = .ok (.invokevirtual 188, 3) := by decide +kernel
theorem dX12_still_39 : decode cX12_still 39 = .ok (.iinc 1 1, 3) := by decide +kernel
theorem dX12_still_42 : decode cX12_still 42 = .ok (.goto (-26), 3) := by decide +kernel
theorem dX12_still_45 : decode cX12_still 45 = .ok (.aload_n 0, 1) := by decide +kernel
theorem dX12_still_46 : decode cX12_still 46 = .ok (.aload_n 0, 1) := by decide +kernel
theorem dX12_still_47 : decode cX12_still 47 = .ok (.getfield 16, 3) := by decide +kernel
theorem dX12_still_50 : decode cX12_still 50 = .ok (.aload_n 0, 1) := by decide +kernel
theorem dX12_still_51 : decode cX12_still 51 = .ok (.getfield 7, 3) := by decide +kernel
theorem dX12_still_54 : decode cX12_still 54 = .ok (.invokevirtual 180, 3) := by decide +kernel
theorem dX12_still_57 : decode cX12_still 57 = .ok (.iload_n 1, 1) := by decide +kernel
theorem dX12_still_58 : decode cX12_still 58 = .ok (.bipush 60, 2) := by decide +kernel
theorem dX12_still_60 : decode cX12_still 60 = .ok (.if_icmp .le 12, 3) := by decide +kernel
theorem dX12_still_63 : decode cX12_still 63 = .ok (.aload_n 0, 1) := by decide +kernel
theorem dX12_still_64 : decode cX12_still 64 = .ok (.ldc 211, 2) := by decide +kernel
theorem dX12_still_66 : decode cX12_still 66 = .ok (.invokevirtual 56, 3) := by decide +kernel
theorem dX12_still_69 : decode cX12_still 69 = .ok (.goto 4, 3) := by decide +kernel
theorem dX12_still_72 : decode cX12_still 72 = .ok (.iload_n 1, 1) := by decide +kernel
theorem dX12_still_73 : decode cX12_still 73 = .ok (.ireturn, 1) := by decide +kernel
theorem dX12_then_0 : decode cX12_then 0 = .ok (.iload_n 1, 1) := by decide +kernel
theorem dX12_then_1 : decode cX12_then 1 = .ok (.iconst 0, 1) := by decide +kernel
theorem dX12_then_2 : decode cX12_then 2 = .ok (.bipush 60, 2) := by decide +kernel
theorem dX12_then_4 : decode cX12_then 4 = .ok (.invokestatic 47, 3) := by decide +kernel
theorem dX12_then_7 : decode cX12_then 7 = .ok (.ifCond .ne 10, 3) := by decide +kernel
theorem dX12_then_10 : decode cX12_then 10 = .ok (.aload_n 0, 1) := by decide +kernel
theorem dX12_then_11 : decode cX12_then 11 = .ok (.ldc 55, 2) := by decide +kernel
theorem dX12_then_13 : decode cX12_then 13 = .ok (.invokevirtual 56, 3) := by decide +kernel
theorem dX12_then_16 : decode cX12_then 16 = .ok (.ireturn, 1) := by decide +kernel
theorem dX12_then_17 : decode cX12_then 17 = .ok (.aload_n 0, 1) := by decide +kernel
theorem dX12_then_18 : decode cX12_then 18 = .ok (.aload_n 0, 1) := by decide +kernel
theorem dX12_then_19 : decode cX12_then 19 = .ok (.getfield 7, 3) := by decide +kernel
theorem dX12_then_22 : decode cX12_then 22 = .ok (.aload_n 0, 1) := by decide +kernel
theorem dX12_then_23 : decode cX12_then 23 = .ok (.getfield 16, 3) := by decide +kernel
theorem dX12_then_26 : decode cX12_then 26 = .ok (.invokevirtual 180, 3) := by decide +kernel
theorem dX12_then_29 : decode cX12_then 29 = .ok (.iconst 0, 1) := by decide +kernel
theorem dX12_then_30 : decode cX12_then 30 = .ok (.istore_n 2, 1) := by decide +kernel
theorem dX12_then_31 : decode cX12_then 31 = .ok (.iload_n 2, 1) := by decide +kernel
theorem dX12_then_32 : decode cX12_then 32 = .ok (.iload_n 1, 1) := by decide +kernel
theorem dX12_then_33 : decode cX12_then 33 = .ok (.if_icmp .ge 13, 3) := by decide +kernel
theorem dX12_then_36 : decode cX12_then 36 = .ok (.aload_n 0, 1) := by decide +kernel
theorem dX12_then_37 : decode cX12_then 37 = .ok (.invokevirtual 188, 3) := by decide +kernel
theorem dX12_then_40 : decode cX12_then 40 = .ok (.iinc 2 1, 3) := by decide +kernel
theorem dX12_then_43 : decode cX12_then 43 = .ok (.goto (-12), 3) := by decide +kernel
theorem dX12_then_46 : decode cX12_then 46 = .ok (.aload_n 0, 1) := by decide +kernel
theorem dX12_then_47 : decode cX12_then 47 = .ok (.invokevirtual 60, 3) := by decide +kernel
theorem dX12_then_50 : decode cX12_then 50 = .ok (.istore_n 2, 1) := by decide +kernel
theorem dX12_then_51 : decode cX12_then 51 = .ok (.aload_n 0, 1) := by decide +kernel
theorem dX12_then_52 : decode cX12_then 52 = .ok (.aload_n 0, 1) := by decide +kernel
theorem dX12_then_53 : decode cX12_then 53 = .ok (.getfield 16, 3) := by decide +kernel
theorem dX12_then_56 : decode cX12_then 56 = .ok (.aload_n 0, 1) := by decide +kernel
theorem dX12_then_57 : decode cX12_then 57 = .ok (.getfield 7, 3) := by decide +kernel
theorem dX12_then_60 : decode cX12_then 60 = .ok (.invokevirtual 180, 3) := by decide +kernel
theorem dX12_then_63 : decode cX12_then 63 = .ok (.iload_n 2, 1) := by decide +kernel
theorem dX12_then_64 : decode cX12_then 64 = .ok (.ireturn, 1) := by decide +kernel
theorem dX12_isSheet_0 : decode cX12_isSheet 0 = .ok (.iload_n 0, 1) := by decide +kernel
theorem dX12_isSheet_1 : decode cX12_isSheet 1 = .ok (.iconst 0, 1) := by decide +kernel
theorem dX12_isSheet_2 : decode cX12_isSheet 2 = .ok (.iconst 3, 1) := by decide +kernel
theorem dX12_isSheet_3 : decode cX12_isSheet 3 = .ok (.invokestatic 47, 3) := by decide +kernel
theorem dX12_isSheet_6 : decode cX12_isSheet 6 = .ok (.ireturn, 1) := by decide +kernel
theorem dX12_areSo_0 : decode cX12_areSo 0 = .ok (.iconst 1, 1) := by decide +kernel
theorem dX12_areSo_1 : decode cX12_areSo 1 = .ok (.istore_n 2, 1) := by decide +kernel
theorem dX12_areSo_2 : decode cX12_areSo 2 = .ok (.iconst 0, 1) := by decide +kernel
theorem dX12_areSo_3 : decode cX12_areSo 3 = .ok (.istore_n 3, 1) := by decide +kernel
theorem dX12_areSo_4 : decode cX12_areSo 4 = .ok (.iload_n 3, 1) := by decide +kernel
theorem dX12_areSo_5 : decode cX12_areSo 5 = .ok (.aload_n 0, 1) := by decide +kernel
theorem dX12_areSo_6 : decode cX12_areSo 6 = .ok (.getfield 31, 3) := by decide +kernel
theorem dX12_areSo_9 : decode cX12_areSo 9 = .ok (.iload_n 1, 1) := by decide +kernel
theorem dX12_areSo_10 : decode cX12_areSo 10 = .ok (.iaload, 1) := by decide +kernel
theorem dX12_areSo_11 : decode cX12_areSo 11 = .ok (.if_icmp .ge 38, 3) := by decide +kernel
theorem dX12_areSo_14 : decode cX12_areSo 14 = .ok (.iload_n 2, 1) := by decide +kernel
theorem dX12_areSo_15 : decode cX12_areSo 15 = .ok (.ifCond .eq 34, 3) := by decide +kernel
theorem dX12_areSo_18 : decode cX12_areSo 18 = .ok (.aload_n 0, 1) := by decide +kernel
theorem dX12_areSo_19 : decode cX12_areSo 19 = .ok (.iload_n 3, 1) := by decide +kernel
theorem dX12_areSo_20 : decode cX12_areSo 20 = .ok (.invokevirtual 103, 3) := by decide +kernel
theorem dX12_areSo_23 : decode cX12_areSo 23 = .ok (.aload_n 0, 1) := by decide +kernel
theorem dX12_areSo_24 : decode cX12_areSo 24 = .ok (.getfield 34, 3) := by decide +kernel
theorem dX12_areSo_27 : decode cX12_areSo 27 = .ok (.bipush 40, 2) := by decide +kernel
theorem dX12_areSo_29 : decode cX12_areSo 29 = .ok (.iload_n 1, 1) := by decide +kernel
theorem dX12_areSo_30 : decode cX12_areSo 30 = .ok (.imul, 1) := by decide +kernel
theorem dX12_areSo_31 : decode cX12_areSo 31 = .ok (.iload_n 3, 1) := by decide +kernel
theorem dX12_areSo_32 : decode cX12_areSo 32 = .ok (.iadd, 1) := by decide +kernel
theorem dX12_areSo_33 : decode cX12_areSo 33 = .ok (.iaload, 1) := by decide +kernel
theorem dX12_areSo_34 : decode cX12_areSo 34 = .ok (.if_icmp .ne 7, 3) := by decide +kernel
theorem dX12_areSo_37 : decode cX12_areSo 37 = .ok (.iconst 1, 1) := by decide +kernel
theorem dX12_areSo_38 : decode cX12_areSo 38 = .ok (.goto 4, 3) := by decide +kernel
theorem dX12_areSo_41 : decode cX12_areSo 41 = .ok (.iconst 0, 1) := by decide +kernel
theorem dX12_areSo_42 : decode cX12_areSo 42 = .ok (.istore_n 2, 1) := by decide +kernel
theorem dX12_areSo_43 : decode cX12_areSo 43 = .ok (.iinc 3 1, 3) := by decide +kernel
theorem dX12_areSo_46 : decode cX12_areSo 46 = .ok (.goto (-42), 3) := by decide +kernel
theorem dX12_areSo_49 : decode cX12_areSo 49 = .ok (.iload_n 2, 1) := by decide +kernel
theorem dX12_areSo_50 : decode cX12_areSo 50 = .ok (.ireturn, 1) := by decide +kernel
theorem dX12_believed_0 : decode cX12_believed 0 = .ok (.iload_n 1, 1) := by decide +kernel
theorem dX12_believed_1 : decode cX12_believed 1 = .ok (.invokestatic 212, 3) := by decide +kernel
theorem dX12_believed_4 : decode cX12_believed 4 = .ok (.ifCond .eq 12, 3) := by decide +kernel
theorem dX12_believed_7 : decode cX12_believed 7 = .ok (.iload_n 2, 1) := by decide +kernel
theorem dX12_believed_8 : decode cX12_believed 8 = .ok (.iconst 0, 1) := by decide +kernel
theorem dX12_believed_9 : decode cX12_believed 9 = .ok (.iconst 1, 1) := by decide +kernel
theorem dX12_believed_10 : decode cX12_believed 10 = .ok (.invokestatic 47, 3) := by decide +kernel
theorem dX12_believed_13 : decode cX12_believed 13 = .ok (.ifCond .ne 10, 3) := by decide +kernel
theorem dX12_believed_16 : decode cX12_believed 16 = .ok (.aload_n 0, 1) := by decide +kernel
theorem dX12_believed_17 : decode cX12_believed 17 = .ok (.ldc 55, 2) := by decide +kernel
theorem dX12_believed_19 : decode cX12_believed 19 = .ok (.invokevirtual 56, 3) := by decide +kernel
theorem dX12_believed_22 : decode cX12_believed 22 = .ok (.ireturn, 1) := by decide +kernel
theorem dX12_believed_23 : decode cX12_believed 23 = .ok (.aload_n 0, 1) := by decide +kernel
theorem dX12_believed_24 : decode cX12_believed 24 = .ok (.getfield 28, 3) := by decide +kernel
theorem dX12_believed_27 : decode cX12_believed 27 = .ok (.iload_n 1, 1) := by decide +kernel
theorem dX12_believed_28 : decode cX12_believed 28 = .ok (.iaload, 1) := by decide +kernel
theorem dX12_believed_29 : decode cX12_believed 29 = .ok (.ifCond .eq 18, 3) := by decide +kernel
theorem dX12_believed_32 : decode cX12_believed 32 = .ok (.aload_n 0, 1) := by decide +kernel
theorem dX12_believed_33 : decode cX12_believed 33 = .ok (.getfield 31, 3) := by decide +kernel
theorem dX12_believed_36 : decode cX12_believed 36 = .ok (.iload_n 1, 1) := by decide +kernel
theorem dX12_believed_37 : decode cX12_believed 37 = .ok (.iaload, 1) := by decide +kernel
theorem dX12_believed_38 : decode cX12_believed 38 = .ok (.aload_n 0, 1) := by decide +kernel
theorem dX12_believed_39 : decode cX12_believed 39 = .ok (.getfield 7, 3) := by decide +kernel
theorem dX12_believed_42 : decode cX12_believed 42 = .ok (.iconst 3, 1) := by decide +kernel
theorem dX12_believed_43 : decode cX12_believed 43 = .ok (.iaload, 1) := by decide +kernel
theorem dX12_believed_44 : decode cX12_believed 44 = .ok (.if_icmp .le 10, 3) := by decide +kernel
theorem dX12_believed_47 : decode cX12_believed 47 = .ok (.aload_n 0, 1) := by decide +kernel
theorem dX12_believed_48 : decode cX12_believed 48 = .ok (.ldc 211, 2) := by decide +kernel
theorem dX12_believed_50 : decode cX12_believed 50 = .ok (.invokevirtual 56, 3) := by decide +kernel
theorem dX12_believed_53 : decode cX12_believed 53 = .ok (.ireturn, 1) := by decide +kernel
theorem dX12_believed_54 : decode cX12_believed 54 = .ok (.aload_n 0, 1) := by decide +kernel
theorem dX12_believed_55 : decode cX12_believed 55 = .ok (.aload_n 0, 1) := by decide +kernel
theorem dX12_believed_56 : decode cX12_believed 56 = .ok (.getfield 7, 3) := by decide +kernel
theorem dX12_believed_59 : decode cX12_believed 59 = .ok (.aload_n 0, 1) := by decide +kernel
theorem dX12_believed_60 : decode cX12_believed 60 = .ok (.getfield 16, 3) := by decide +kernel
theorem dX12_believed_63 : decode cX12_believed 63 = .ok (.invokevirtual 180, 3) := by decide +kernel
theorem dX12_believed_66 : decode cX12_believed 66 = .ok (.iconst 0, 1) := by decide +kernel
theorem dX12_believed_67 : decode cX12_believed 67 = .ok (.istore_n 3, 1) := by decide +kernel
theorem dX12_believed_68 : decode cX12_believed 68 = .ok (.iconst (-1), 1) := by decide +kernel
theorem dX12_believed_69 : decode cX12_believed 69 = .ok (.istore 4, 2) := by decide +kernel
theorem dX12_believed_71 : decode cX12_believed 71 = .ok (.iconst 0, 1) := by decide +kernel
theorem dX12_believed_72 : decode cX12_believed 72 = .ok (.istore 5, 2) := by decide +kernel
theorem dX12_believed_74 : decode cX12_believed 74 = .ok (.iload 5, 2) := by decide +kernel
theorem dX12_believed_76 : decode cX12_believed 76 = .ok (.sipush 6561, 3) := by decide +kernel
theorem dX12_believed_79 : decode cX12_believed 79 = .ok (.if_icmp .ge 40, 3) := by decide +kernel
theorem dX12_believed_82 : decode cX12_believed 82 = .ok (.aload_n 0, 1) := by decide +kernel
theorem dX12_believed_83 : decode cX12_believed 83 = .ok (.iload 5, 2) := by decide +kernel
theorem dX12_believed_85 : decode cX12_believed 85 = .ok (.invokevirtual 215, 3) := by decide +kernel
theorem dX12_believed_88 : decode cX12_believed 88 = .ok (.aload_n 0, 1) := by decide +kernel
theorem dX12_believed_89 : decode cX12_believed 89 = .ok (.iload_n 1, 1) := by decide +kernel
theorem dX12_believed_90 : decode cX12_believed 90 = .ok (.invokevirtual 218, 3) := by decide +kernel
theorem dX12_believed_93 : decode cX12_believed 93 = .ok (.ifCond .eq 20, 3) := by decide +kernel
theorem dX12_believed_96 : decode cX12_believed 96 = .ok (.iload 4, 2) := by decide +kernel
theorem dX12_believed_98 : decode cX12_believed 98 = .ok (.ifCond .ge 8, 3) := by decide +kernel
theorem dX12_believed_101 : decode cX12_believed 101 = .ok (.iload 5, 2) := by decide +kernel
theorem dX12_believed_103 : decode cX12_believed 103 = .ok (.goto 5, 3) := by decide +kernel
theorem dX12_believed_106 : decode cX12_believed 106 = .ok (.iload 4, 2) := by decide +kernel
theorem dX12_believed_108 : decode cX12_believed 108 = .ok (.istore 4, 2) := by decide +kernel
theorem dX12_believed_110 : decode cX12_believed 110 = .ok (.iinc 3 1, 3) := by decide +kernel
theorem dX12_believed_113 : decode cX12_believed 113 = .ok (.iinc 5 1, 3) := by decide +kernel
theorem dX12_believed_116 : decode cX12_believed 116 = .ok (.goto (-42), 3) := by decide +kernel
theorem dX12_believed_119 : decode cX12_believed 119 = .ok (.aload_n 0, 1) := by decide +kernel
theorem dX12_believed_120 : decode cX12_believed 120 = .ok (.aload_n 0, 1) := by decide +kernel
theorem dX12_believed_121 : decode cX12_believed 121 = .ok (.getfield 16, 3) := by decide +kernel
theorem dX12_believed_124 : decode cX12_believed 124 = .ok (.aload_n 0, 1) := by decide +kernel
theorem dX12_believed_125 : decode cX12_believed 125 = .ok (.getfield 7, 3) := by decide +kernel
theorem dX12_believed_128 : decode cX12_believed 128 = .ok (.invokevirtual 180, 3) := by decide +kernel
theorem dX12_believed_131 : decode cX12_believed 131 = .ok (.iload_n 2, 1) := by decide +kernel
theorem dX12_believed_132 : decode cX12_believed 132 = .ok (.iconst 1, 1) := by decide +kernel
theorem dX12_believed_133 : decode cX12_believed 133 = .ok (.if_icmp .ne 14, 3) := by decide +kernel
theorem dX12_believed_136 : decode cX12_believed 136 = .ok (.iload_n 3, 1) := by decide +kernel
theorem dX12_believed_137 : decode cX12_believed 137 = .ok (.ifCond .ne 10, 3) := by decide +kernel
theorem dX12_believed_140 : decode cX12_believed 140 = .ok (.aload_n 0, 1) := by decide +kernel
theorem dX12_believed_141 : decode cX12_believed 141 = .ok (.ldc 211, 2) := by decide +kernel
theorem dX12_believed_143 : decode cX12_believed 143 = .ok (.invokevirtual 56, 3) := by decide +kernel
theorem dX12_believed_146 : decode cX12_believed 146 = .ok (.ireturn, 1) := by decide +kernel
theorem dX12_believed_147 : decode cX12_believed 147 = .ok (.iload_n 2, 1) := by decide +kernel
theorem dX12_believed_148 : decode cX12_believed 148 = .ok (.ifCond .ne 7, 3) := by decide +kernel
theorem dX12_believed_151 : decode cX12_believed 151 = .ok (.iload_n 3, 1) := by decide +kernel
theorem dX12_believed_152 : decode cX12_believed 152 = .ok (.goto 5, 3) := by decide +kernel
theorem dX12_believed_155 : decode cX12_believed 155 = .ok (.iload 4, 2) := by decide +kernel
theorem dX12_believed_157 : decode cX12_believed 157 = .ok (.ireturn, 1) := by decide +kernel
theorem dX12_word_0 : decode cX12_word 0 = .ok (.iload_n 1, 1) := by decide +kernel
theorem dX12_word_1 : decode cX12_word 1 = .ok (.invokestatic 212, 3) := by decide +kernel
theorem dX12_word_4 : decode cX12_word 4 = .ok (.ifCond .eq 20, 3) := by decide +kernel
theorem dX12_word_7 : decode cX12_word 7 = .ok (.aload_n 0, 1) := by decide +kernel
theorem dX12_word_8 : decode cX12_word 8 = .ok (.iload_n 2, 1) := by decide +kernel
theorem dX12_word_9 : decode cX12_word 9 = .ok (.invokevirtual 100, 3) := by decide +kernel
theorem dX12_word_12 : decode cX12_word 12 = .ok (.ifCond .eq 12, 3) := by decide +kernel
theorem dX12_word_15 : decode cX12_word 15 = .ok (.iload_n 3, 1) := by decide +kernel
theorem dX12_word_16 : decode cX12_word 16 = .ok (.iconst 0, 1) := by decide +kernel
theorem dX12_word_17 : decode cX12_word 17 = .ok (.iconst 1, 1) := by decide +kernel
theorem dX12_word_18 : decode cX12_word 18 = .ok (.invokestatic 47, 3) := by decide +kernel
theorem dX12_word_21 : decode cX12_word 21 = .ok (.ifCond .ne 10, 3) := by decide +kernel
theorem dX12_word_24 : decode cX12_word 24 = .ok (.aload_n 0, 1) := by decide +kernel
theorem dX12_word_25 : decode cX12_word 25 = .ok (.ldc 55, 2) := by decide +kernel
theorem dX12_word_27 : decode cX12_word 27 = .ok (.invokevirtual 56, 3) := by decide +kernel
theorem dX12_word_30 : decode cX12_word 30 = .ok (.ireturn, 1) := by decide +kernel
theorem dX12_word_31 : decode cX12_word 31 = .ok (.aload_n 0, 1) := by decide +kernel
theorem dX12_word_32 : decode cX12_word 32 = .ok (.getfield 28, 3) := by decide +kernel
theorem dX12_word_35 : decode cX12_word 35 = .ok (.iload_n 1, 1) := by decide +kernel
theorem dX12_word_36 : decode cX12_word 36 = .ok (.iaload, 1) := by decide +kernel
theorem dX12_word_37 : decode cX12_word 37 = .ok (.ifCond .eq 18, 3) := by decide +kernel
theorem dX12_word_40 : decode cX12_word 40 = .ok (.aload_n 0, 1) := by decide +kernel
theorem dX12_word_41 : decode cX12_word 41 = .ok (.getfield 31, 3) := by decide +kernel
theorem dX12_word_44 : decode cX12_word 44 = .ok (.iload_n 1, 1) := by decide +kernel
theorem dX12_word_45 : decode cX12_word 45 = .ok (.iaload, 1) := by decide +kernel
theorem dX12_word_46 : decode cX12_word 46 = .ok (.aload_n 0, 1) := by decide +kernel
theorem dX12_word_47 : decode cX12_word 47 = .ok (.getfield 7, 3) := by decide +kernel
theorem dX12_word_50 : decode cX12_word 50 = .ok (.iconst 3, 1) := by decide +kernel
theorem dX12_word_51 : decode cX12_word 51 = .ok (.iaload, 1) := by decide +kernel
theorem dX12_word_52 : decode cX12_word 52 = .ok (.if_icmp .le 10, 3) := by decide +kernel
theorem dX12_word_55 : decode cX12_word 55 = .ok (.aload_n 0, 1) := by decide +kernel
theorem dX12_word_56 : decode cX12_word 56 = .ok (.ldc 211, 2) := by decide +kernel
theorem dX12_word_58 : decode cX12_word 58 = .ok (.invokevirtual 56, 3) := by decide +kernel
theorem dX12_word_61 : decode cX12_word 61 = .ok (.ireturn, 1) := by decide +kernel
theorem dX12_word_62 : decode cX12_word 62 = .ok (.iconst 0, 1) := by decide +kernel
theorem dX12_word_63 : decode cX12_word 63 = .ok (.istore 4, 2) := by decide +kernel
theorem dX12_word_65 : decode cX12_word 65 = .ok (.iload 4, 2) := by decide +kernel
theorem dX12_word_67 : decode cX12_word 67 = .ok (.bipush 8, 2) := by decide +kernel
theorem dX12_word_69 : decode cX12_word 69 = .ok (.if_icmp .ge 17, 3) := by decide +kernel
theorem dX12_word_72 : decode cX12_word 72 = .ok (.aload_n 0, 1) := by decide +kernel
theorem dX12_word_73 : decode cX12_word 73 = .ok (.getfield 40, 3) := by decide +kernel
theorem dX12_word_76 : decode cX12_word 76 = .ok (.iload 4, 2) := by decide +kernel
theorem dX12_word_78 : decode cX12_word 78 = .ok (.iconst 0, 1) := by decide +kernel
theorem dX12_word_79 : decode cX12_word 79 = .ok (.iastore, 1) := by decide +kernel
theorem dX12_word_80 : decode cX12_word 80 = .ok (.iinc 4 1, 3) := by decide +kernel
theorem dX12_word_83 : decode cX12_word 83 = .ok (.goto (-18), 3) := by decide +kernel
theorem dX12_word_86 : decode cX12_word 86 = .ok (.aload_n 0, 1) := by decide +kernel
theorem dX12_word_87 : decode cX12_word 87 = .ok (.aload_n 0, 1) := by decide +kernel
theorem dX12_word_88 : decode cX12_word 88 = .ok (.getfield 7, 3) := by decide +kernel
theorem dX12_word_91 : decode cX12_word 91 = .ok (.aload_n 0, 1) := by decide +kernel
theorem dX12_word_92 : decode cX12_word 92 = .ok (.getfield 16, 3) := by decide +kernel
theorem dX12_word_95 : decode cX12_word 95 = .ok (.invokevirtual 180, 3) := by decide +kernel
theorem dX12_word_98 : decode cX12_word 98 = .ok (.iconst 0, 1) := by decide +kernel
theorem dX12_word_99 : decode cX12_word 99 = .ok (.istore 4, 2) := by decide +kernel
theorem dX12_word_101 : decode cX12_word 101 = .ok (.iload 4, 2) := by decide +kernel
theorem dX12_word_103 : decode cX12_word 103 = .ok (.sipush 6561, 3) := by decide +kernel
theorem dX12_word_106 : decode cX12_word 106 = .ok (.if_icmp .ge 63, 3) := by decide +kernel
theorem dX12_word_109 : decode cX12_word 109 = .ok (.aload_n 0, 1) := by decide +kernel
theorem dX12_word_110 : decode cX12_word 110 = .ok (.iload 4, 2) := by decide +kernel
theorem dX12_word_112 : decode cX12_word 112 = .ok (.invokevirtual 215, 3) := by decide +kernel
theorem dX12_word_115 : decode cX12_word 115 = .ok (.aload_n 0, 1) := by decide +kernel
theorem dX12_word_116 : decode cX12_word 116 = .ok (.iload_n 1, 1) := by decide +kernel
theorem dX12_word_117 : decode cX12_word 117 = .ok (.invokevirtual 218, 3) := by decide +kernel
theorem dX12_word_120 : decode cX12_word 120 = .ok (.ifCond .eq 43, 3) := by decide +kernel
theorem dX12_word_123 : decode cX12_word 123 = .ok (.iconst 0, 1) := by decide +kernel
theorem dX12_word_124 : decode cX12_word 124 = .ok (.istore 5, 2) := by decide +kernel
theorem dX12_word_126 : decode cX12_word 126 = .ok (.iload 5, 2) := by decide +kernel
theorem dX12_word_128 : decode cX12_word 128 = .ok (.bipush 8, 2) := by decide +kernel
theorem dX12_word_130 : decode cX12_word 130 = .ok (.if_icmp .ge 33, 3) := by decide +kernel
theorem dX12_word_133 : decode cX12_word 133 = .ok (.aload_n 0, 1) := by decide +kernel
theorem dX12_word_134 : decode cX12_word 134 = .ok (.getfield 40, 3) := by decide +kernel
theorem dX12_word_137 : decode cX12_word 137 = .ok (.iload 5, 2) := by decide +kernel
theorem dX12_word_139 : decode cX12_word 139 = .ok (.dup2, 1) := by decide +kernel
theorem dX12_word_140 : decode cX12_word 140 = .ok (.iaload, 1) := by decide +kernel
theorem dX12_word_141 : decode cX12_word 141 = .ok (.iconst 1, 1) := by decide +kernel
theorem dX12_word_142 : decode cX12_word 142 = .ok (.aload_n 0, 1) := by decide +kernel
theorem dX12_word_143 : decode cX12_word 143 = .ok (.iload_n 2, 1) := by decide +kernel
theorem dX12_word_144 : decode cX12_word 144 = .ok (.aload_n 0, 1) := by decide +kernel
theorem dX12_word_145 : decode cX12_word 145 = .ok (.getfield 22, 3) := by decide +kernel
theorem dX12_word_148 : decode cX12_word 148 = .ok (.iload 5, 2) := by decide +kernel
theorem dX12_word_150 : decode cX12_word 150 = .ok (.iaload, 1) := by decide +kernel
theorem dX12_word_151 : decode cX12_word 151 = .ok (.invokevirtual 97, 3) := by decide +kernel
theorem dX12_word_154 : decode cX12_word 154 = .ok (.ishl, 1) := by decide +kernel
theorem dX12_word_155 : decode cX12_word 155 = .ok (.ior, 1) := by decide +kernel
theorem dX12_word_156 : decode cX12_word 156 = .ok (.iastore, 1) := by decide +kernel
theorem dX12_word_157 : decode cX12_word 157 = .ok (.iinc 5 1, 3) := by decide +kernel
theorem dX12_word_160 : decode cX12_word 160 = .ok (.goto (-34), 3) := by decide +kernel
theorem dX12_word_163 : decode cX12_word 163 = .ok (.iinc 4 1, 3) := by decide +kernel
theorem dX12_word_166 : decode cX12_word 166 = .ok (.goto (-65), 3) := by decide +kernel
theorem dX12_word_169 : decode cX12_word 169 = .ok (.aload_n 0, 1) := by decide +kernel
theorem dX12_word_170 : decode cX12_word 170 = .ok (.aload_n 0, 1) := by decide +kernel
theorem dX12_word_171 : decode cX12_word 171 = .ok (.getfield 16, 3) := by decide +kernel
theorem dX12_word_174 : decode cX12_word 174 = .ok (.aload_n 0, 1) := by decide +kernel
theorem dX12_word_175 : decode cX12_word 175 = .ok (.getfield 7, 3) := by decide +kernel
theorem dX12_word_178 : decode cX12_word 178 = .ok (.invokevirtual 180, 3) := by decide +kernel
theorem dX12_word_181 : decode cX12_word 181 = .ok (.iconst (-1), 1) := by decide +kernel
theorem dX12_word_182 : decode cX12_word 182 = .ok (.istore 4, 2) := by decide +kernel
theorem dX12_word_184 : decode cX12_word 184 = .ok (.iconst 0, 1) := by decide +kernel
theorem dX12_word_185 : decode cX12_word 185 = .ok (.istore 5, 2) := by decide +kernel
theorem dX12_word_187 : decode cX12_word 187 = .ok (.iconst 0, 1) := by decide +kernel
theorem dX12_word_188 : decode cX12_word 188 = .ok (.istore 6, 2) := by decide +kernel
theorem dX12_word_190 : decode cX12_word 190 = .ok (.iload 6, 2) := by decide +kernel
theorem dX12_word_192 : decode cX12_word 192 = .ok (.bipush 8, 2) := by decide +kernel
theorem dX12_word_194 : decode cX12_word 194 = .ok (.if_icmp .ge 79, 3) := by decide +kernel
theorem dX12_word_197 : decode cX12_word 197 = .ok (.aload_n 0, 1) := by decide +kernel
theorem dX12_word_198 : decode cX12_word 198 = .ok (.getfield 40, 3) := by decide +kernel
theorem dX12_word_201 : decode cX12_word 201 = .ok (.iload 6, 2) := by decide +kernel
theorem dX12_word_203 : decode cX12_word 203 = .ok (.iaload, 1) := by decide +kernel
theorem dX12_word_204 : decode cX12_word 204 = .ok (.invokestatic 195, 3) := by decide +kernel
theorem dX12_word_207 : decode cX12_word 207 = .ok (.aload_n 0, 1) := by decide +kernel
theorem dX12_word_208 : decode cX12_word 208 = .ok (.getfield 40, 3) := by decide +kernel
theorem dX12_word_211 : decode cX12_word 211 = .ok (.iload 6, 2) := by decide +kernel
theorem dX12_word_213 : decode cX12_word 213 = .ok (.iaload, 1) := by decide +kernel
theorem dX12_word_214 : decode cX12_word 214 = .ok (.bipush 8, 2) := by decide +kernel
theorem dX12_word_216 : decode cX12_word 216 = .ok (.ishr, 1) := by decide +kernel
theorem dX12_word_217 : decode cX12_word 217 = .ok (.iconst 1, 1) := by decide +kernel
theorem dX12_word_218 : decode cX12_word 218 = .ok (.iand, 1) := by decide +kernel
theorem dX12_word_219 : decode cX12_word 219 = .ok (.iadd, 1) := by decide +kernel
theorem dX12_word_220 : decode cX12_word 220 = .ok (.aload_n 0, 1) := by decide +kernel
theorem dX12_word_221 : decode cX12_word 221 = .ok (.getfield 40, 3) := by decide +kernel
theorem dX12_word_224 : decode cX12_word 224 = .ok (.iload 6, 2) := by decide +kernel
theorem dX12_word_226 : decode cX12_word 226 = .ok (.iaload, 1) := by decide +kernel
theorem dX12_word_227 : decode cX12_word 227 = .ok (.bipush 9, 2) := by decide +kernel
theorem dX12_word_229 : decode cX12_word 229 = .ok (.ishr, 1) := by decide +kernel
theorem dX12_word_230 : decode cX12_word 230 = .ok (.iconst 1, 1) := by decide +kernel
theorem dX12_word_231 : decode cX12_word 231 = .ok (.iand, 1) := by decide +kernel
theorem dX12_word_232 : decode cX12_word 232 = .ok (.iadd, 1) := by decide +kernel
theorem dX12_word_233 : decode cX12_word 233 = .ok (.istore 7, 2) := by decide +kernel
theorem dX12_word_235 : decode cX12_word 235 = .ok (.iload 7, 2) := by decide +kernel
theorem dX12_word_237 : decode cX12_word 237 = .ok (.iload 5, 2) := by decide +kernel
theorem dX12_word_239 : decode cX12_word 239 = .ok (.if_icmp .le 8, 3) := by decide +kernel
theorem dX12_word_242 : decode cX12_word 242 = .ok (.iload 6, 2) := by decide +kernel
theorem dX12_word_244 : decode cX12_word 244 = .ok (.goto 5, 3) := by decide +kernel
theorem dX12_word_247 : decode cX12_word 247 = .ok (.iload 4, 2) := by decide +kernel
theorem dX12_word_249 : decode cX12_word 249 = .ok (.istore 4, 2) := by decide +kernel
theorem dX12_word_251 : decode cX12_word 251 = .ok (.iload 7, 2) := by decide +kernel
theorem dX12_word_253 : decode cX12_word 253 = .ok (.iload 5, 2) := by decide +kernel
theorem dX12_word_255 : decode cX12_word 255 = .ok (.if_icmp .le 8, 3) := by decide +kernel
theorem dX12_word_258 : decode cX12_word 258 = .ok (.iload 7, 2) := by decide +kernel
theorem dX12_word_260 : decode cX12_word 260 = .ok (.goto 5, 3) := by decide +kernel
theorem dX12_word_263 : decode cX12_word 263 = .ok (.iload 5, 2) := by decide +kernel
theorem dX12_word_265 : decode cX12_word 265 = .ok (.istore 5, 2) := by decide +kernel
theorem dX12_word_267 : decode cX12_word 267 = .ok (.iinc 6 1, 3) := by decide +kernel
theorem dX12_word_270 : decode cX12_word 270 = .ok (.goto (-80), 3) := by decide +kernel
theorem dX12_word_273 : decode cX12_word 273 = .ok (.iload 4, 2) := by decide +kernel
theorem dX12_word_275 : decode cX12_word 275 = .ok (.ifCond .ge 10, 3) := by decide +kernel
theorem dX12_word_278 : decode cX12_word 278 = .ok (.aload_n 0, 1) := by decide +kernel
theorem dX12_word_279 : decode cX12_word 279 = .ok (.ldc 211, 2) := by decide +kernel
theorem dX12_word_281 : decode cX12_word 281 = .ok (.invokevirtual 56, 3) := by decide +kernel
theorem dX12_word_284 : decode cX12_word 284 = .ok (.ireturn, 1) := by decide +kernel
theorem dX12_word_285 : decode cX12_word 285 = .ok (.iload_n 3, 1) := by decide +kernel
theorem dX12_word_286 : decode cX12_word 286 = .ok (.ifCond .ne 8, 3) := by decide +kernel
theorem dX12_word_289 : decode cX12_word 289 = .ok (.iload 4, 2) := by decide +kernel
theorem dX12_word_291 : decode cX12_word 291 = .ok (.goto 5, 3) := by decide +kernel
theorem dX12_word_294 : decode cX12_word 294 = .ok (.iload 5, 2) := by decide +kernel
theorem dX12_word_296 : decode cX12_word 296 = .ok (.ireturn, 1) := by decide +kernel
theorem dX12_seed_0 : decode cX12_seed 0 = .ok (.aload_n 0, 1) := by decide +kernel
theorem dX12_seed_1 : decode cX12_seed 1 = .ok (.getfield 7, 3) := by decide +kernel
theorem dX12_seed_4 : decode cX12_seed 4 = .ok (.iconst 2, 1) := by decide +kernel
theorem dX12_seed_5 : decode cX12_seed 5 = .ok (.iaload, 1) := by decide +kernel
theorem dX12_seed_6 : decode cX12_seed 6 = .ok (.istore_n 2, 1) := by decide +kernel
theorem dX12_seed_7 : decode cX12_seed 7 = .ok (.aload_n 0, 1) := by decide +kernel
theorem dX12_seed_8 : decode cX12_seed 8 = .ok (.getfield 7, 3) := by decide +kernel
theorem dX12_seed_11 : decode cX12_seed 11 = .ok (.iconst 2, 1) := by decide +kernel
theorem dX12_seed_12 : decode cX12_seed 12 = .ok (.iload_n 1, 1) := by decide +kernel
theorem dX12_seed_13 : decode cX12_seed 13 = .ok (.iastore, 1) := by decide +kernel
theorem dX12_seed_14 : decode cX12_seed 14 = .ok (.iload_n 2, 1) := by decide +kernel
theorem dX12_seed_15 : decode cX12_seed 15 = .ok (.ireturn, 1) := by decide +kernel
theorem dX12_ran_0 : decode cX12_ran 0 = .ok (.aload_n 0, 1) := by decide +kernel
theorem dX12_ran_1 : decode cX12_ran 1 = .ok (.getfield 221, 3) := by decide +kernel
theorem dX12_ran_4 : decode cX12_ran 4 = .ok (.bipush 40, 2) := by decide +kernel
theorem dX12_ran_6 : decode cX12_ran 6 = .ok (.if_icmp .ge 23, 3) := by decide +kernel
theorem dX12_ran_9 : decode cX12_ran 9 = .ok (.aload_n 0, 1) := by decide +kernel
theorem dX12_ran_10 : decode cX12_ran 10 = .ok (.getfield 43, 3) := by decide +kernel
theorem dX12_ran_13 : decode cX12_ran 13 = .ok (.aload_n 0, 1) := by decide +kernel
theorem dX12_ran_14 : decode cX12_ran 14 = .ok (.getfield 221, 3) := by decide +kernel
theorem dX12_ran_17 : decode cX12_ran 17 = .ok (.iload_n 1, 1) := by decide +kernel
theorem dX12_ran_18 : decode cX12_ran 18 = .ok (.iastore, 1) := by decide +kernel
theorem dX12_ran_19 : decode cX12_ran 19 = .ok (.aload_n 0, 1) := by decide +kernel
theorem dX12_ran_20 : decode cX12_ran 20 = .ok (.dup, 1) := by decide +kernel
theorem dX12_ran_21 : decode cX12_ran 21 = .ok (.getfield 221, 3) := by decide +kernel
theorem dX12_ran_24 : decode cX12_ran 24 = .ok (.iconst 1, 1) := by decide +kernel
theorem dX12_ran_25 : decode cX12_ran 25 = .ok (.iadd, 1) := by decide +kernel
theorem dX12_ran_26 : decode cX12_ran 26 = .ok (.putfield 221, 3) := by decide +kernel
theorem dX12_ran_29 : decode cX12_ran 29 = .ok (.return_, 1) := by decide +kernel
theorem dX12_saysIn_0 : decode cX12_saysIn 0 = .ok (.iload_n 1, 1) := by decide +kernel
theorem dX12_saysIn_1 : decode cX12_saysIn 1 = .ok (.ifCond .ne 16, 3) := by decide +kernel
theorem dX12_saysIn_4 : decode cX12_saysIn 4 = .ok (.aload_n 0, 1) := by decide +kernel
theorem dX12_saysIn_5 : decode cX12_saysIn 5 = .ok (.bipush 10, 2) := by decide +kernel
theorem dX12_saysIn_7 : decode cX12_saysIn 7 = .ok (.invokevirtual 224, 3) := by decide +kernel
theorem dX12_saysIn_10 : decode cX12_saysIn 10 = .ok (.iload_n 2, 1) := by decide +kernel
theorem dX12_saysIn_11 : decode cX12_saysIn 11 = .ok (.aload_n 0, 1) := by decide +kernel
theorem dX12_saysIn_12 : decode cX12_saysIn 12 = .ok (.getfield 227, 3) := by decide +kernel
theorem dX12_saysIn_15 : decode cX12_saysIn 15 = .ok (.iadd, 1) := by decide +kernel
theorem dX12_saysIn_16 : decode cX12_saysIn 16 = .ok (.ireturn, 1) := by decide +kernel
theorem dX12_saysIn_17 : decode cX12_saysIn 17 = .ok (.iload_n 1, 1) := by decide +kernel
theorem dX12_saysIn_18 : decode cX12_saysIn 18 = .ok (.iconst 1, 1) := by decide +kernel
theorem dX12_saysIn_19 : decode cX12_saysIn 19 = .ok (.if_icmp .ne 18, 3) := by decide +kernel
theorem dX12_saysIn_22 : decode cX12_saysIn 22 = .ok (.aload_n 0, 1) := by decide +kernel
theorem dX12_saysIn_23 : decode cX12_saysIn 23 = .ok (.bipush 20, 2) := by decide +kernel
theorem dX12_saysIn_25 : decode cX12_saysIn 25 = .ok (.invokevirtual 224, 3) := by decide +kernel
theorem dX12_saysIn_28 : decode cX12_saysIn 28 = .ok (.aload_n 0, 1) := by decide +kernel
theorem dX12_saysIn_29 : decode cX12_saysIn 29 = .ok (.iconst 0, 1) := by decide +kernel
theorem dX12_saysIn_30 : decode cX12_saysIn 30 = .ok (.iload_n 2, 1) := by decide +kernel
theorem dX12_saysIn_31 : decode cX12_saysIn 31 = .ok (.invokevirtual 230, 3) := by decide +kernel
theorem dX12_saysIn_34 : decode cX12_saysIn 34 = .ok (.iconst 3, 1) := by decide +kernel
theorem dX12_saysIn_35 : decode cX12_saysIn 35 = .ok (.imul, 1) := by decide +kernel
theorem dX12_saysIn_36 : decode cX12_saysIn 36 = .ok (.ireturn, 1) := by decide +kernel
theorem dX12_saysIn_37 : decode cX12_saysIn 37 = .ok (.aload_n 0, 1) := by decide +kernel
theorem dX12_saysIn_38 : decode cX12_saysIn 38 = .ok (.iload_n 1, 1) := by decide +kernel
theorem dX12_saysIn_39 : decode cX12_saysIn 39 = .ok (.invokestatic 113, 3) := by decide +kernel
theorem dX12_saysIn_42 : decode cX12_saysIn 42 = .ok (.iload_n 2, 1) := by decide +kernel
theorem dX12_saysIn_43 : decode cX12_saysIn 43 = .ok (.invokevirtual 230, 3) := by decide +kernel
theorem dX12_saysIn_46 : decode cX12_saysIn 46 = .ok (.ireturn, 1) := by decide +kernel
theorem dX12_doubtsIn_0 : decode cX12_doubtsIn 0 = .ok (.iload_n 1, 1) := by decide +kernel
theorem dX12_doubtsIn_1 : decode cX12_doubtsIn 1 = .ok (.ifCond .ne 16, 3) := by decide +kernel
theorem dX12_doubtsIn_4 : decode cX12_doubtsIn 4 = .ok (.aload_n 0, 1) := by decide +kernel
theorem dX12_doubtsIn_5 : decode cX12_doubtsIn 5 = .ok (.bipush 12, 2) := by decide +kernel
theorem dX12_doubtsIn_7 : decode cX12_doubtsIn 7 = .ok (.invokevirtual 224, 3) := by decide +kernel
theorem dX12_doubtsIn_10 : decode cX12_doubtsIn 10 = .ok (.iload_n 2, 1) := by decide +kernel
theorem dX12_doubtsIn_11 : decode cX12_doubtsIn 11 = .ok (.aload_n 0, 1) := by decide +kernel
theorem dX12_doubtsIn_12 : decode cX12_doubtsIn 12 = .ok (.getfield 233, 3) := by decide +kernel
theorem dX12_doubtsIn_15 : decode cX12_doubtsIn 15 = .ok (.isub, 1) := by decide +kernel
theorem dX12_doubtsIn_16 : decode cX12_doubtsIn 16 = .ok (.ireturn, 1) := by decide +kernel
theorem dX12_doubtsIn_17 : decode cX12_doubtsIn 17 = .ok (.iload_n 1, 1) := by decide +kernel
theorem dX12_doubtsIn_18 : decode cX12_doubtsIn 18 = .ok (.iconst 3, 1) := by decide +kernel
theorem dX12_doubtsIn_19 : decode cX12_doubtsIn 19 = .ok (.if_icmp .ne 17, 3) := by decide +kernel
theorem dX12_doubtsIn_22 : decode cX12_doubtsIn 22 = .ok (.aload_n 0, 1) := by decide +kernel
theorem dX12_doubtsIn_23 : decode cX12_doubtsIn 23 = .ok (.bipush 40, 2) := by decide +kernel
theorem dX12_doubtsIn_25 : decode cX12_doubtsIn 25 = .ok (.invokevirtual 224, 3) := by decide +kernel
theorem dX12_doubtsIn_28 : decode cX12_doubtsIn 28 = .ok (.aload_n 0, 1) := by decide +kernel
theorem dX12_doubtsIn_29 : decode cX12_doubtsIn 29 = .ok (.iconst 0, 1) := by decide +kernel
theorem dX12_doubtsIn_30 : decode cX12_doubtsIn 30 = .ok (.iload_n 2, 1) := by decide +kernel
theorem dX12_doubtsIn_31 : decode cX12_doubtsIn 31 = .ok (.invokevirtual 236, 3) := by decide +kernel
theorem dX12_doubtsIn_34 : decode cX12_doubtsIn 34 = .ok (.ineg, 1) := by decide +kernel
theorem dX12_doubtsIn_35 : decode cX12_doubtsIn 35 = .ok (.ireturn, 1) := by decide +kernel
theorem dX12_doubtsIn_36 : decode cX12_doubtsIn 36 = .ok (.iload_n 1, 1) := by decide +kernel
theorem dX12_doubtsIn_37 : decode cX12_doubtsIn 37 = .ok (.bipush 6, 2) := by decide +kernel
theorem dX12_doubtsIn_39 : decode cX12_doubtsIn 39 = .ok (.if_icmp .ne 21, 3) := by decide +kernel
theorem dX12_doubtsIn_42 : decode cX12_doubtsIn 42 = .ok (.aload_n 0, 1) := by decide +kernel
theorem dX12_doubtsIn_43 : decode cX12_doubtsIn 43 = .ok (.bipush 70, 2) := by decide +kernel
theorem dX12_doubtsIn_45 : decode cX12_doubtsIn 45 = .ok (.invokevirtual 224, 3) := by decide +kernel
theorem dX12_doubtsIn_48 : decode cX12_doubtsIn 48 = .ok (.aload_n 0, 1) := by decide +kernel
theorem dX12_doubtsIn_49 : decode cX12_doubtsIn 49 = .ok (.iconst 3, 1) := by decide +kernel
theorem dX12_doubtsIn_50 : decode cX12_doubtsIn 50 = .ok (.iload_n 2, 1) := by decide +kernel
theorem dX12_doubtsIn_51 : decode cX12_doubtsIn 51 = .ok (.invokevirtual 236, 3) := by decide +kernel
theorem dX12_doubtsIn_54 : decode cX12_doubtsIn 54 = .ok (.aload_n 0, 1) := by decide +kernel
theorem dX12_doubtsIn_55 : decode cX12_doubtsIn 55 = .ok (.getfield 227, 3) := by decide +kernel
theorem dX12_doubtsIn_58 : decode cX12_doubtsIn 58 = .ok (.ixor, 1) := by decide +kernel
theorem dX12_doubtsIn_59 : decode cX12_doubtsIn 59 = .ok (.ireturn, 1) := by decide +kernel
theorem dX12_doubtsIn_60 : decode cX12_doubtsIn 60 = .ok (.aload_n 0, 1) := by decide +kernel
theorem dX12_doubtsIn_61 : decode cX12_doubtsIn 61 = .ok (.iload_n 1, 1) := by decide +kernel
theorem dX12_doubtsIn_62 : decode cX12_doubtsIn 62 = .ok (.invokestatic 113, 3) := by decide +kernel
theorem dX12_doubtsIn_65 : decode cX12_doubtsIn 65 = .ok (.iload_n 2, 1) := by decide +kernel
theorem dX12_doubtsIn_66 : decode cX12_doubtsIn 66 = .ok (.invokevirtual 236, 3) := by decide +kernel
theorem dX12_doubtsIn_69 : decode cX12_doubtsIn 69 = .ok (.ireturn, 1) := by decide +kernel
theorem dX12_risesIn_0 : decode cX12_risesIn 0 = .ok (.iload_n 1, 1) := by decide +kernel
theorem dX12_risesIn_1 : decode cX12_risesIn 1 = .ok (.ifCond .ne 21, 3) := by decide +kernel
theorem dX12_risesIn_4 : decode cX12_risesIn 4 = .ok (.aload_n 0, 1) := by decide +kernel
theorem dX12_risesIn_5 : decode cX12_risesIn 5 = .ok (.bipush 11, 2) := by decide +kernel
theorem dX12_risesIn_7 : decode cX12_risesIn 7 = .ok (.invokevirtual 224, 3) := by decide +kernel
theorem dX12_risesIn_10 : decode cX12_risesIn 10 = .ok (.aload_n 0, 1) := by decide +kernel
theorem dX12_risesIn_11 : decode cX12_risesIn 11 = .ok (.aload_n 0, 1) := by decide +kernel
theorem dX12_risesIn_12 : decode cX12_risesIn 12 = .ok (.getfield 239, 3) := by decide +kernel
theorem dX12_risesIn_15 : decode cX12_risesIn 15 = .ok (.iload_n 2, 1) := by decide +kernel
theorem dX12_risesIn_16 : decode cX12_risesIn 16 = .ok (.invokevirtual 230, 3) := by decide +kernel
theorem dX12_risesIn_19 : decode cX12_risesIn 19 = .ok (.iconst 2, 1) := by decide +kernel
theorem dX12_risesIn_20 : decode cX12_risesIn 20 = .ok (.imul, 1) := by decide +kernel
theorem dX12_risesIn_21 : decode cX12_risesIn 21 = .ok (.ireturn, 1) := by decide +kernel
theorem dX12_risesIn_22 : decode cX12_risesIn 22 = .ok (.iload_n 1, 1) := by decide +kernel
theorem dX12_risesIn_23 : decode cX12_risesIn 23 = .ok (.iconst 2, 1) := by decide +kernel
theorem dX12_risesIn_24 : decode cX12_risesIn 24 = .ok (.if_icmp .ne 28, 3) := by decide +kernel
theorem dX12_risesIn_27 : decode cX12_risesIn 27 = .ok (.aload_n 0, 1) := by decide +kernel
theorem dX12_risesIn_28 : decode cX12_risesIn 28 = .ok (.bipush 30, 2) := by decide +kernel
theorem dX12_risesIn_30 : decode cX12_risesIn 30 = .ok (.invokevirtual 224, 3) := by decide +kernel
theorem dX12_risesIn_33 : decode cX12_risesIn 33 = .ok (.aload_n 0, 1) := by decide +kernel
theorem dX12_risesIn_34 : decode cX12_risesIn 34 = .ok (.iconst 0, 1) := by decide +kernel
theorem dX12_risesIn_35 : decode cX12_risesIn 35 = .ok (.iload_n 2, 1) := by decide +kernel
theorem dX12_risesIn_36 : decode cX12_risesIn 36 = .ok (.invokevirtual 242, 3) := by decide +kernel
theorem dX12_risesIn_39 : decode cX12_risesIn 39 = .ok (.istore_n 3, 1) := by decide +kernel
theorem dX12_risesIn_40 : decode cX12_risesIn 40 = .ok (.iload_n 3, 1) := by decide +kernel
theorem dX12_risesIn_41 : decode cX12_risesIn 41 = .ok (.aload_n 0, 1) := by decide +kernel
theorem dX12_risesIn_42 : decode cX12_risesIn 42 = .ok (.aload_n 0, 1) := by decide +kernel
theorem dX12_risesIn_43 : decode cX12_risesIn 43 = .ok (.getfield 239, 3) := by decide +kernel
theorem dX12_risesIn_46 : decode cX12_risesIn 46 = .ok (.iconst 1, 1) := by decide +kernel
theorem dX12_risesIn_47 : decode cX12_risesIn 47 = .ok (.invokevirtual 236, 3) := by decide +kernel
theorem dX12_risesIn_50 : decode cX12_risesIn 50 = .ok (.isub, 1) := by decide +kernel
theorem dX12_risesIn_51 : decode cX12_risesIn 51 = .ok (.ireturn, 1) := by decide +kernel
theorem dX12_risesIn_52 : decode cX12_risesIn 52 = .ok (.iload_n 1, 1) := by decide +kernel
theorem dX12_risesIn_53 : decode cX12_risesIn 53 = .ok (.iconst 5, 1) := by decide +kernel
theorem dX12_risesIn_54 : decode cX12_risesIn 54 = .ok (.if_icmp .ne 18, 3) := by decide +kernel
theorem dX12_risesIn_57 : decode cX12_risesIn 57 = .ok (.aload_n 0, 1) := by decide +kernel
theorem dX12_risesIn_58 : decode cX12_risesIn 58 = .ok (.bipush 60, 2) := by decide +kernel
theorem dX12_risesIn_60 : decode cX12_risesIn 60 = .ok (.invokevirtual 224, 3) := by decide +kernel
theorem dX12_risesIn_63 : decode cX12_risesIn 63 = .ok (.aload_n 0, 1) := by decide +kernel
theorem dX12_risesIn_64 : decode cX12_risesIn 64 = .ok (.iconst 2, 1) := by decide +kernel
theorem dX12_risesIn_65 : decode cX12_risesIn 65 = .ok (.iload_n 2, 1) := by decide +kernel
theorem dX12_risesIn_66 : decode cX12_risesIn 66 = .ok (.iconst 1, 1) := by decide +kernel
theorem dX12_risesIn_67 : decode cX12_risesIn 67 = .ok (.iadd, 1) := by decide +kernel
theorem dX12_risesIn_68 : decode cX12_risesIn 68 = .ok (.invokevirtual 242, 3) := by decide +kernel
theorem dX12_risesIn_71 : decode cX12_risesIn 71 = .ok (.ireturn, 1) := by decide +kernel
theorem dX12_risesIn_72 : decode cX12_risesIn 72 = .ok (.aload_n 0, 1) := by decide +kernel
theorem dX12_risesIn_73 : decode cX12_risesIn 73 = .ok (.iload_n 1, 1) := by decide +kernel
theorem dX12_risesIn_74 : decode cX12_risesIn 74 = .ok (.invokestatic 113, 3) := by decide +kernel
theorem dX12_risesIn_77 : decode cX12_risesIn 77 = .ok (.iload_n 2, 1) := by decide +kernel
theorem dX12_risesIn_78 : decode cX12_risesIn 78 = .ok (.invokevirtual 242, 3) := by decide +kernel
theorem dX12_risesIn_81 : decode cX12_risesIn 81 = .ok (.ireturn, 1) := by decide +kernel
theorem dX12_tellsIn_0 : decode cX12_tellsIn 0 = .ok (.iload_n 1, 1) := by decide +kernel
theorem dX12_tellsIn_1 : decode cX12_tellsIn 1 = .ok (.ifCond .ne 31, 3) := by decide +kernel
theorem dX12_tellsIn_4 : decode cX12_tellsIn 4 = .ok (.aload_n 0, 1) := by decide +kernel
theorem dX12_tellsIn_5 : decode cX12_tellsIn 5 = .ok (.bipush 13, 2) := by decide +kernel
theorem dX12_tellsIn_7 : decode cX12_tellsIn 7 = .ok (.invokevirtual 224, 3) := by decide +kernel
theorem dX12_tellsIn_10 : decode cX12_tellsIn 10 = .ok (.aload_n 0, 1) := by decide +kernel
theorem dX12_tellsIn_11 : decode cX12_tellsIn 11 = .ok (.aload_n 0, 1) := by decide +kernel
theorem dX12_tellsIn_12 : decode cX12_tellsIn 12 = .ok (.getfield 239, 3) := by decide +kernel
theorem dX12_tellsIn_15 : decode cX12_tellsIn 15 = .ok (.iload_n 2, 1) := by decide +kernel
theorem dX12_tellsIn_16 : decode cX12_tellsIn 16 = .ok (.invokevirtual 242, 3) := by decide +kernel
theorem dX12_tellsIn_19 : decode cX12_tellsIn 19 = .ok (.istore_n 3, 1) := by decide +kernel
theorem dX12_tellsIn_20 : decode cX12_tellsIn 20 = .ok (.iload_n 3, 1) := by decide +kernel
theorem dX12_tellsIn_21 : decode cX12_tellsIn 21 = .ok (.aload_n 0, 1) := by decide +kernel
theorem dX12_tellsIn_22 : decode cX12_tellsIn 22 = .ok (.aload_n 0, 1) := by decide +kernel
theorem dX12_tellsIn_23 : decode cX12_tellsIn 23 = .ok (.getfield 239, 3) := by decide +kernel
theorem dX12_tellsIn_26 : decode cX12_tellsIn 26 = .ok (.iload_n 2, 1) := by decide +kernel
theorem dX12_tellsIn_27 : decode cX12_tellsIn 27 = .ok (.invokevirtual 236, 3) := by decide +kernel
theorem dX12_tellsIn_30 : decode cX12_tellsIn 30 = .ok (.ixor, 1) := by decide +kernel
theorem dX12_tellsIn_31 : decode cX12_tellsIn 31 = .ok (.ireturn, 1) := by decide +kernel
theorem dX12_tellsIn_32 : decode cX12_tellsIn 32 = .ok (.iload_n 1, 1) := by decide +kernel
theorem dX12_tellsIn_33 : decode cX12_tellsIn 33 = .ok (.iconst 4, 1) := by decide +kernel
theorem dX12_tellsIn_34 : decode cX12_tellsIn 34 = .ok (.if_icmp .ne 28, 3) := by decide +kernel
theorem dX12_tellsIn_37 : decode cX12_tellsIn 37 = .ok (.aload_n 0, 1) := by decide +kernel
theorem dX12_tellsIn_38 : decode cX12_tellsIn 38 = .ok (.bipush 50, 2) := by decide +kernel
theorem dX12_tellsIn_40 : decode cX12_tellsIn 40 = .ok (.invokevirtual 224, 3) := by decide +kernel
theorem dX12_tellsIn_43 : decode cX12_tellsIn 43 = .ok (.aload_n 0, 1) := by decide +kernel
theorem dX12_tellsIn_44 : decode cX12_tellsIn 44 = .ok (.iconst 1, 1) := by decide +kernel
theorem dX12_tellsIn_45 : decode cX12_tellsIn 45 = .ok (.iload_n 2, 1) := by decide +kernel
theorem dX12_tellsIn_46 : decode cX12_tellsIn 46 = .ok (.invokevirtual 245, 3) := by decide +kernel
theorem dX12_tellsIn_49 : decode cX12_tellsIn 49 = .ok (.istore_n 3, 1) := by decide +kernel
theorem dX12_tellsIn_50 : decode cX12_tellsIn 50 = .ok (.iload_n 3, 1) := by decide +kernel
theorem dX12_tellsIn_51 : decode cX12_tellsIn 51 = .ok (.aload_n 0, 1) := by decide +kernel
theorem dX12_tellsIn_52 : decode cX12_tellsIn 52 = .ok (.aload_n 0, 1) := by decide +kernel
theorem dX12_tellsIn_53 : decode cX12_tellsIn 53 = .ok (.getfield 239, 3) := by decide +kernel
theorem dX12_tellsIn_56 : decode cX12_tellsIn 56 = .ok (.iconst 2, 1) := by decide +kernel
theorem dX12_tellsIn_57 : decode cX12_tellsIn 57 = .ok (.invokevirtual 230, 3) := by decide +kernel
theorem dX12_tellsIn_60 : decode cX12_tellsIn 60 = .ok (.isub, 1) := by decide +kernel
theorem dX12_tellsIn_61 : decode cX12_tellsIn 61 = .ok (.ireturn, 1) := by decide +kernel
theorem dX12_tellsIn_62 : decode cX12_tellsIn 62 = .ok (.iload_n 1, 1) := by decide +kernel
theorem dX12_tellsIn_63 : decode cX12_tellsIn 63 = .ok (.bipush 6, 2) := by decide +kernel
theorem dX12_tellsIn_65 : decode cX12_tellsIn 65 = .ok (.if_icmp .ne 28, 3) := by decide +kernel
theorem dX12_tellsIn_68 : decode cX12_tellsIn 68 = .ok (.aload_n 0, 1) := by decide +kernel
theorem dX12_tellsIn_69 : decode cX12_tellsIn 69 = .ok (.bipush 71, 2) := by decide +kernel
theorem dX12_tellsIn_71 : decode cX12_tellsIn 71 = .ok (.invokevirtual 224, 3) := by decide +kernel
theorem dX12_tellsIn_74 : decode cX12_tellsIn 74 = .ok (.aload_n 0, 1) := by decide +kernel
theorem dX12_tellsIn_75 : decode cX12_tellsIn 75 = .ok (.aload_n 0, 1) := by decide +kernel
theorem dX12_tellsIn_76 : decode cX12_tellsIn 76 = .ok (.getfield 239, 3) := by decide +kernel
theorem dX12_tellsIn_79 : decode cX12_tellsIn 79 = .ok (.iload_n 2, 1) := by decide +kernel
theorem dX12_tellsIn_80 : decode cX12_tellsIn 80 = .ok (.invokevirtual 242, 3) := by decide +kernel
theorem dX12_tellsIn_83 : decode cX12_tellsIn 83 = .ok (.istore_n 3, 1) := by decide +kernel
theorem dX12_tellsIn_84 : decode cX12_tellsIn 84 = .ok (.iload_n 3, 1) := by decide +kernel
theorem dX12_tellsIn_85 : decode cX12_tellsIn 85 = .ok (.aload_n 0, 1) := by decide +kernel
theorem dX12_tellsIn_86 : decode cX12_tellsIn 86 = .ok (.iconst 3, 1) := by decide +kernel
theorem dX12_tellsIn_87 : decode cX12_tellsIn 87 = .ok (.iload_n 2, 1) := by decide +kernel
theorem dX12_tellsIn_88 : decode cX12_tellsIn 88 = .ok (.invokevirtual 245, 3) := by decide +kernel
theorem dX12_tellsIn_91 : decode cX12_tellsIn 91 = .ok (.isub, 1) := by decide +kernel
theorem dX12_tellsIn_92 : decode cX12_tellsIn 92 = .ok (.ireturn, 1) := by decide +kernel
theorem dX12_tellsIn_93 : decode cX12_tellsIn 93 = .ok (.aload_n 0, 1) := by decide +kernel
theorem dX12_tellsIn_94 : decode cX12_tellsIn 94 = .ok (.iload_n 1, 1) := by decide +kernel
theorem dX12_tellsIn_95 : decode cX12_tellsIn 95 = .ok (.invokestatic 113, 3) := by decide +kernel
theorem dX12_tellsIn_98 : decode cX12_tellsIn 98 = .ok (.iload_n 2, 1) := by decide +kernel
theorem dX12_tellsIn_99 : decode cX12_tellsIn 99 = .ok (.invokevirtual 245, 3) := by decide +kernel
theorem dX12_tellsIn_102 : decode cX12_tellsIn 102 = .ok (.ireturn, 1) := by decide +kernel
theorem dX12_voice_0 : decode cX12_voice 0 = .ok (.aload_n 0, 1) := by decide +kernel
theorem dX12_voice_1 : decode cX12_voice 1 = .ok (.iload_n 1, 1) := by decide +kernel
theorem dX12_voice_2 : decode cX12_voice 2 = .ok (.invokevirtual 100, 3) := by decide +kernel
theorem dX12_voice_5 : decode cX12_voice 5 = .ok (.ifCond .eq 12, 3) := by decide +kernel
theorem dX12_voice_8 : decode cX12_voice 8 = .ok (.iload_n 2, 1) := by decide +kernel
theorem dX12_voice_9 : decode cX12_voice 9 = .ok (.iconst 0, 1) := by decide +kernel
theorem dX12_voice_10 : decode cX12_voice 10 = .ok (.iconst 3, 1) := by decide +kernel
theorem dX12_voice_11 : decode cX12_voice 11 = .ok (.invokestatic 47, 3) := by decide +kernel
theorem dX12_voice_14 : decode cX12_voice 14 = .ok (.ifCond .ne 10, 3) := by decide +kernel
theorem dX12_voice_17 : decode cX12_voice 17 = .ok (.aload_n 0, 1) := by decide +kernel
theorem dX12_voice_18 : decode cX12_voice 18 = .ok (.ldc 55, 2) := by decide +kernel
theorem dX12_voice_20 : decode cX12_voice 20 = .ok (.invokevirtual 56, 3) := by decide +kernel
theorem dX12_voice_23 : decode cX12_voice 23 = .ok (.ireturn, 1) := by decide +kernel
theorem dX12_voice_24 : decode cX12_voice 24 = .ok (.aload_n 0, 1) := by decide +kernel
theorem dX12_voice_25 : decode cX12_voice 25 = .ok (.iconst 0, 1) := by decide +kernel
theorem dX12_voice_26 : decode cX12_voice 26 = .ok (.putfield 221, 3) := by decide +kernel
theorem dX12_voice_29 : decode cX12_voice 29 = .ok (.aload_n 0, 1) := by decide +kernel
theorem dX12_voice_30 : decode cX12_voice 30 = .ok (.aload_n 0, 1) := by decide +kernel
theorem dX12_voice_31 : decode cX12_voice 31 = .ok (.iload_n 1, 1) := by decide +kernel
theorem dX12_voice_32 : decode cX12_voice 32 = .ok (.iconst 0, 1) := by decide +kernel
theorem dX12_voice_33 : decode cX12_voice 33 = .ok (.invokevirtual 83, 3) := by decide +kernel
theorem dX12_voice_36 : decode cX12_voice 36 = .ok (.putfield 239, 3) := by decide +kernel
theorem dX12_voice_39 : decode cX12_voice 39 = .ok (.aload_n 0, 1) := by decide +kernel
theorem dX12_voice_40 : decode cX12_voice 40 = .ok (.iload_n 1, 1) := by decide +kernel
theorem dX12_voice_41 : decode cX12_voice 41 = .ok (.putfield 227, 3) := by decide +kernel
theorem dX12_voice_44 : decode cX12_voice 44 = .ok (.aload_n 0, 1) := by decide +kernel
theorem dX12_voice_45 : decode cX12_voice 45 = .ok (.aload_n 0, 1) := by decide +kernel
theorem dX12_voice_46 : decode cX12_voice 46 = .ok (.iload_n 1, 1) := by decide +kernel
theorem dX12_voice_47 : decode cX12_voice 47 = .ok (.iconst 1, 1) := by decide +kernel
theorem dX12_voice_48 : decode cX12_voice 48 = .ok (.invokevirtual 83, 3) := by decide +kernel
theorem dX12_voice_51 : decode cX12_voice 51 = .ok (.putfield 233, 3) := by decide +kernel
theorem dX12_voice_54 : decode cX12_voice 54 = .ok (.iload_n 2, 1) := by decide +kernel
theorem dX12_voice_55 : decode cX12_voice 55 = .ok (.tableswitch 55 0 2 #[25, 35, 45], 25) := by decide +kernel
theorem dX12_voice_80 : decode cX12_voice 80 = .ok (.aload_n 0, 1) := by decide +kernel
theorem dX12_voice_81 : decode cX12_voice 81 = .ok (.aload_n 0, 1) := by decide +kernel
theorem dX12_voice_82 : decode cX12_voice 82 = .ok (.getfield 239, 3) := by decide +kernel
theorem dX12_voice_85 : decode cX12_voice 85 = .ok (.iload_n 3, 1) := by decide +kernel
theorem dX12_voice_86 : decode cX12_voice 86 = .ok (.invokevirtual 230, 3) := by decide +kernel
theorem dX12_voice_89 : decode cX12_voice 89 = .ok (.ireturn, 1) := by decide +kernel
theorem dX12_voice_90 : decode cX12_voice 90 = .ok (.aload_n 0, 1) := by decide +kernel
theorem dX12_voice_91 : decode cX12_voice 91 = .ok (.aload_n 0, 1) := by decide +kernel
theorem dX12_voice_92 : decode cX12_voice 92 = .ok (.getfield 239, 3) := by decide +kernel
theorem dX12_voice_95 : decode cX12_voice 95 = .ok (.iload_n 3, 1) := by decide +kernel
theorem dX12_voice_96 : decode cX12_voice 96 = .ok (.invokevirtual 242, 3) := by decide +kernel
theorem dX12_voice_99 : decode cX12_voice 99 = .ok (.ireturn, 1) := by decide +kernel
theorem dX12_voice_100 : decode cX12_voice 100 = .ok (.aload_n 0, 1) := by decide +kernel
theorem dX12_voice_101 : decode cX12_voice 101 = .ok (.aload_n 0, 1) := by decide +kernel
theorem dX12_voice_102 : decode cX12_voice 102 = .ok (.getfield 239, 3) := by decide +kernel
theorem dX12_voice_105 : decode cX12_voice 105 = .ok (.iload_n 3, 1) := by decide +kernel
theorem dX12_voice_106 : decode cX12_voice 106 = .ok (.invokevirtual 236, 3) := by decide +kernel
theorem dX12_voice_109 : decode cX12_voice 109 = .ok (.ireturn, 1) := by decide +kernel
theorem dX12_voice_110 : decode cX12_voice 110 = .ok (.aload_n 0, 1) := by decide +kernel
theorem dX12_voice_111 : decode cX12_voice 111 = .ok (.aload_n 0, 1) := by decide +kernel
theorem dX12_voice_112 : decode cX12_voice 112 = .ok (.getfield 239, 3) := by decide +kernel
theorem dX12_voice_115 : decode cX12_voice 115 = .ok (.iload_n 3, 1) := by decide +kernel
theorem dX12_voice_116 : decode cX12_voice 116 = .ok (.invokevirtual 245, 3) := by decide +kernel
theorem dX12_voice_119 : decode cX12_voice 119 = .ok (.ireturn, 1) := by decide +kernel
theorem dX12_trace_0 : decode cX12_trace 0 = .ok (.iload_n 1, 1) := by decide +kernel
theorem dX12_trace_1 : decode cX12_trace 1 = .ok (.iconst 0, 1) := by decide +kernel
theorem dX12_trace_2 : decode cX12_trace 2 = .ok (.aload_n 0, 1) := by decide +kernel
theorem dX12_trace_3 : decode cX12_trace 3 = .ok (.getfield 221, 3) := by decide +kernel
theorem dX12_trace_6 : decode cX12_trace 6 = .ok (.iconst 1, 1) := by decide +kernel
theorem dX12_trace_7 : decode cX12_trace 7 = .ok (.isub, 1) := by decide +kernel
theorem dX12_trace_8 : decode cX12_trace 8 = .ok (.invokestatic 47, 3) := by decide +kernel
theorem dX12_trace_11 : decode cX12_trace 11 = .ok (.ifCond .eq 12, 3) := by decide +kernel
theorem dX12_trace_14 : decode cX12_trace 14 = .ok (.aload_n 0, 1) := by decide +kernel
theorem dX12_trace_15 : decode cX12_trace 15 = .ok (.getfield 43, 3) := by decide +kernel
theorem dX12_trace_18 : decode cX12_trace 18 = .ok (.iload_n 1, 1) := by decide +kernel
theorem dX12_trace_19 : decode cX12_trace 19 = .ok (.iaload, 1) := by decide +kernel
theorem dX12_trace_20 : decode cX12_trace 20 = .ok (.goto 9, 3) := by decide +kernel
theorem dX12_trace_23 : decode cX12_trace 23 = .ok (.aload_n 0, 1) := by decide +kernel
theorem dX12_trace_24 : decode cX12_trace 24 = .ok (.ldc 211, 2) := by decide +kernel
theorem dX12_trace_26 : decode cX12_trace 26 = .ok (.invokevirtual 56, 3) := by decide +kernel
theorem dX12_trace_29 : decode cX12_trace 29 = .ok (.ireturn, 1) := by decide +kernel
theorem dX12_narrow_0 : decode cX12_narrow 0 = .ok (.iload_n 0, 1) := by decide +kernel
theorem dX12_narrow_1 : decode cX12_narrow 1 = .ok (.bipush 8, 2) := by decide +kernel
theorem dX12_narrow_3 : decode cX12_narrow 3 = .ok (.if_icmp .ne 8, 3) := by decide +kernel
theorem dX12_narrow_6 : decode cX12_narrow 6 = .ok (.iload_n 1, 1) := by decide +kernel
theorem dX12_narrow_7 : decode cX12_narrow 7 = .ok (.i2b, 1) := by decide +kernel
theorem dX12_narrow_8 : decode cX12_narrow 8 = .ok (.goto 15, 3) := by decide +kernel
theorem dX12_narrow_11 : decode cX12_narrow 11 = .ok (.iload_n 0, 1) := by decide +kernel
theorem dX12_narrow_12 : decode cX12_narrow 12 = .ok (.bipush 16, 2) := by decide +kernel
theorem dX12_narrow_14 : decode cX12_narrow 14 = .ok (.if_icmp .ne 8, 3) := by decide +kernel
theorem dX12_narrow_17 : decode cX12_narrow 17 = .ok (.iload_n 1, 1) := by decide +kernel
theorem dX12_narrow_18 : decode cX12_narrow 18 = .ok (.i2s, 1) := by decide +kernel
theorem dX12_narrow_19 : decode cX12_narrow 19 = .ok (.goto 4, 3) := by decide +kernel
theorem dX12_narrow_22 : decode cX12_narrow 22 = .ok (.iload_n 1, 1) := by decide +kernel
theorem dX12_narrow_23 : decode cX12_narrow 23 = .ok (.ireturn, 1) := by decide +kernel
theorem dX12_sheet_0 : decode cX12_sheet 0 = .ok (.iload_n 1, 1) := by decide +kernel
theorem dX12_sheet_1 : decode cX12_sheet 1 = .ok (.invokestatic 212, 3) := by decide +kernel
theorem dX12_sheet_4 : decode cX12_sheet 4 = .ok (.ifCond .eq 25, 3) := by decide +kernel
theorem dX12_sheet_7 : decode cX12_sheet 7 = .ok (.iload_n 2, 1) := by decide +kernel
theorem dX12_sheet_8 : decode cX12_sheet 8 = .ok (.ifCond .eq 28, 3) := by decide +kernel
theorem dX12_sheet_11 : decode cX12_sheet 11 = .ok (.iload_n 2, 1) := by decide +kernel
theorem dX12_sheet_12 : decode cX12_sheet 12 = .ok (.bipush 8, 2) := by decide +kernel
theorem dX12_sheet_14 : decode cX12_sheet 14 = .ok (.if_icmp .eq 22, 3) := by decide +kernel
theorem dX12_sheet_17 : decode cX12_sheet 17 = .ok (.iload_n 2, 1) := by decide +kernel
theorem dX12_sheet_18 : decode cX12_sheet 18 = .ok (.bipush 16, 2) := by decide +kernel
theorem dX12_sheet_20 : decode cX12_sheet 20 = .ok (.if_icmp .eq 16, 3) := by decide +kernel
theorem dX12_sheet_23 : decode cX12_sheet 23 = .ok (.iload_n 2, 1) := by decide +kernel
theorem dX12_sheet_24 : decode cX12_sheet 24 = .ok (.bipush 32, 2) := by decide +kernel
theorem dX12_sheet_26 : decode cX12_sheet 26 = .ok (.if_icmp .eq 10, 3) := by decide +kernel
theorem dX12_sheet_29 : decode cX12_sheet 29 = .ok (.aload_n 0, 1) := by decide +kernel
theorem dX12_sheet_30 : decode cX12_sheet 30 = .ok (.ldc 55, 2) := by decide +kernel
theorem dX12_sheet_32 : decode cX12_sheet 32 = .ok (.invokevirtual 56, 3) := by decide +kernel
theorem dX12_sheet_35 : decode cX12_sheet 35 = .ok (.ireturn, 1) := by decide +kernel
theorem dX12_sheet_36 : decode cX12_sheet 36 = .ok (.iload_n 2, 1) := by decide +kernel
theorem dX12_sheet_37 : decode cX12_sheet 37 = .ok (.ifCond .eq 14, 3) := by decide +kernel
theorem dX12_sheet_40 : decode cX12_sheet 40 = .ok (.iload_n 3, 1) := by decide +kernel
theorem dX12_sheet_41 : decode cX12_sheet 41 = .ok (.ifCond .ge 10, 3) := by decide +kernel
theorem dX12_sheet_44 : decode cX12_sheet 44 = .ok (.aload_n 0, 1) := by decide +kernel
theorem dX12_sheet_45 : decode cX12_sheet 45 = .ok (.ldc 187, 2) := by decide +kernel
theorem dX12_sheet_47 : decode cX12_sheet 47 = .ok (.invokevirtual 56, 3) := by decide +kernel
theorem dX12_sheet_50 : decode cX12_sheet 50 = .ok (.ireturn, 1) := by decide +kernel
theorem dX12_sheet_51 : decode cX12_sheet 51 = .ok (.iload_n 2, 1) := by decide +kernel
theorem dX12_sheet_52 : decode cX12_sheet 52 = .ok (.ifCond .eq 16, 3) := by decide +kernel
theorem dX12_sheet_55 : decode cX12_sheet 55 = .ok (.iload_n 3, 1) := by decide +kernel
theorem dX12_sheet_56 : decode cX12_sheet 56 = .ok (.bipush 40, 2) := by decide +kernel
theorem dX12_sheet_58 : decode cX12_sheet 58 = .ok (.if_icmp .le 10, 3) := by decide +kernel
theorem dX12_sheet_61 : decode cX12_sheet 61 = .ok (.aload_n 0, 1) := by decide +kernel
theorem dX12_sheet_62 : decode cX12_sheet 62 = .ok (.ldc 55, 2) := by decide +kernel
theorem dX12_sheet_64 : decode cX12_sheet 64 = .ok (.invokevirtual 56, 3) := by decide +kernel
theorem dX12_sheet_67 : decode cX12_sheet 67 = .ok (.ireturn, 1) := by decide +kernel
theorem dX12_sheet_68 : decode cX12_sheet 68 = .ok (.aload_n 0, 1) := by decide +kernel
theorem dX12_sheet_69 : decode cX12_sheet 69 = .ok (.getfield 28, 3) := by decide +kernel
theorem dX12_sheet_72 : decode cX12_sheet 72 = .ok (.iload_n 1, 1) := by decide +kernel
theorem dX12_sheet_73 : decode cX12_sheet 73 = .ok (.iload_n 2, 1) := by decide +kernel
theorem dX12_sheet_74 : decode cX12_sheet 74 = .ok (.iastore, 1) := by decide +kernel
theorem dX12_sheet_75 : decode cX12_sheet 75 = .ok (.aload_n 0, 1) := by decide +kernel
theorem dX12_sheet_76 : decode cX12_sheet 76 = .ok (.getfield 31, 3) := by decide +kernel
theorem dX12_sheet_79 : decode cX12_sheet 79 = .ok (.iload_n 1, 1) := by decide +kernel
theorem dX12_sheet_80 : decode cX12_sheet 80 = .ok (.iload_n 2, 1) := by decide +kernel
theorem dX12_sheet_81 : decode cX12_sheet 81 = .ok (.ifCond .ne 7, 3) := by decide +kernel
theorem dX12_sheet_84 : decode cX12_sheet 84 = .ok (.iconst 0, 1) := by decide +kernel
theorem dX12_sheet_85 : decode cX12_sheet 85 = .ok (.goto 4, 3) := by decide +kernel
theorem dX12_sheet_88 : decode cX12_sheet 88 = .ok (.iload_n 3, 1) := by decide +kernel
theorem dX12_sheet_89 : decode cX12_sheet 89 = .ok (.iastore, 1) := by decide +kernel
theorem dX12_sheet_90 : decode cX12_sheet 90 = .ok (.iconst 0, 1) := by decide +kernel
theorem dX12_sheet_91 : decode cX12_sheet 91 = .ok (.istore 4, 2) := by decide +kernel
theorem dX12_sheet_93 : decode cX12_sheet 93 = .ok (.iload 4, 2) := by decide +kernel
theorem dX12_sheet_95 : decode cX12_sheet 95 = .ok (.bipush 40, 2) := by decide +kernel
theorem dX12_sheet_97 : decode cX12_sheet 97 = .ok (.if_icmp .ge 22, 3) := by decide +kernel
theorem dX12_sheet_100 : decode cX12_sheet 100 = .ok (.aload_n 0, 1) := by decide +kernel
theorem dX12_sheet_101 : decode cX12_sheet 101 = .ok (.getfield 34, 3) := by decide +kernel
theorem dX12_sheet_104 : decode cX12_sheet 104 = .ok (.bipush 40, 2) := by decide +kernel
theorem dX12_sheet_106 : decode cX12_sheet 106 = .ok (.iload_n 1, 1) := by decide +kernel
theorem dX12_sheet_107 : decode cX12_sheet 107 = .ok (.imul, 1) := by decide +kernel
theorem dX12_sheet_108 : decode cX12_sheet 108 = .ok (.iload 4, 2) := by decide +kernel
theorem dX12_sheet_110 : decode cX12_sheet 110 = .ok (.iadd, 1) := by decide +kernel
theorem dX12_sheet_111 : decode cX12_sheet 111 = .ok (.iconst 0, 1) := by decide +kernel
theorem dX12_sheet_112 : decode cX12_sheet 112 = .ok (.iastore, 1) := by decide +kernel
theorem dX12_sheet_113 : decode cX12_sheet 113 = .ok (.iinc 4 1, 3) := by decide +kernel
theorem dX12_sheet_116 : decode cX12_sheet 116 = .ok (.goto (-23), 3) := by decide +kernel
theorem dX12_sheet_119 : decode cX12_sheet 119 = .ok (.iconst 1, 1) := by decide +kernel
theorem dX12_sheet_120 : decode cX12_sheet 120 = .ok (.ireturn, 1) := by decide +kernel
theorem dX12_put_0 : decode cX12_put 0 = .ok (.iload_n 1, 1) := by decide +kernel
theorem dX12_put_1 : decode cX12_put 1 = .ok (.invokestatic 212, 3) := by decide +kernel
theorem dX12_put_4 : decode cX12_put 4 = .ok (.ifCond .ne 10, 3) := by decide +kernel
theorem dX12_put_7 : decode cX12_put 7 = .ok (.aload_n 0, 1) := by decide +kernel
theorem dX12_put_8 : decode cX12_put 8 = .ok (.ldc 55, 2) := by decide +kernel
theorem dX12_put_10 : decode cX12_put 10 = .ok (.invokevirtual 56, 3) := by decide +kernel
theorem dX12_put_13 : decode cX12_put 13 = .ok (.ireturn, 1) := by decide +kernel
theorem dX12_put_14 : decode cX12_put 14 = .ok (.aload_n 0, 1) := by decide +kernel
theorem dX12_put_15 : decode cX12_put 15 = .ok (.getfield 28, 3) := by decide +kernel
theorem dX12_put_18 : decode cX12_put 18 = .ok (.iload_n 1, 1) := by decide +kernel
theorem dX12_put_19 : decode cX12_put 19 = .ok (.iaload, 1) := by decide +kernel
theorem dX12_put_20 : decode cX12_put 20 = .ok (.ifCond .ne 10, 3) := by decide +kernel
theorem dX12_put_23 : decode cX12_put 23 = .ok (.aload_n 0, 1) := by decide +kernel
theorem dX12_put_24 : decode cX12_put 24 = .ok (.ldc 211, 2) := by decide +kernel
theorem dX12_put_26 : decode cX12_put 26 = .ok (.invokevirtual 56, 3) := by decide +kernel
theorem dX12_put_29 : decode cX12_put 29 = .ok (.ireturn, 1) := by decide +kernel
theorem dX12_put_30 : decode cX12_put 30 = .ok (.iload_n 2, 1) := by decide +kernel
theorem dX12_put_31 : decode cX12_put 31 = .ok (.iconst 0, 1) := by decide +kernel
theorem dX12_put_32 : decode cX12_put 32 = .ok (.aload_n 0, 1) := by decide +kernel
theorem dX12_put_33 : decode cX12_put 33 = .ok (.getfield 31, 3) := by decide +kernel
theorem dX12_put_36 : decode cX12_put 36 = .ok (.iload_n 1, 1) := by decide +kernel
theorem dX12_put_37 : decode cX12_put 37 = .ok (.iaload, 1) := by decide +kernel
theorem dX12_put_38 : decode cX12_put 38 = .ok (.iconst 1, 1) := by decide +kernel
theorem dX12_put_39 : decode cX12_put 39 = .ok (.isub, 1) := by decide +kernel
theorem dX12_put_40 : decode cX12_put 40 = .ok (.invokestatic 47, 3) := by decide +kernel
theorem dX12_put_43 : decode cX12_put 43 = .ok (.ifCond .ne 10, 3) := by decide +kernel
theorem dX12_put_46 : decode cX12_put 46 = .ok (.aload_n 0, 1) := by decide +kernel
theorem dX12_put_47 : decode cX12_put 47 = .ok (.ldc 55, 2) := by decide +kernel
theorem dX12_put_49 : decode cX12_put 49 = .ok (.invokevirtual 56, 3) := by decide +kernel
theorem dX12_put_52 : decode cX12_put 52 = .ok (.ireturn, 1) := by decide +kernel
theorem dX12_put_53 : decode cX12_put 53 = .ok (.aload_n 0, 1) := by decide +kernel
theorem dX12_put_54 : decode cX12_put 54 = .ok (.getfield 34, 3) := by decide +kernel
theorem dX12_put_57 : decode cX12_put 57 = .ok (.bipush 40, 2) := by decide +kernel
theorem dX12_put_59 : decode cX12_put 59 = .ok (.iload_n 1, 1) := by decide +kernel
theorem dX12_put_60 : decode cX12_put 60 = .ok (.imul, 1) := by decide +kernel
theorem dX12_put_61 : decode cX12_put 61 = .ok (.iload_n 2, 1) := by decide +kernel
theorem dX12_put_62 : decode cX12_put 62 = .ok (.iadd, 1) := by decide +kernel
theorem dX12_put_63 : decode cX12_put 63 = .ok (.aload_n 0, 1) := by decide +kernel
theorem dX12_put_64 : decode cX12_put 64 = .ok (.getfield 28, 3) := by decide +kernel
theorem dX12_put_67 : decode cX12_put 67 = .ok (.iload_n 1, 1) := by decide +kernel
theorem dX12_put_68 : decode cX12_put 68 = .ok (.iaload, 1) := by decide +kernel
theorem dX12_put_69 : decode cX12_put 69 = .ok (.iload_n 3, 1) := by decide +kernel
theorem dX12_put_70 : decode cX12_put 70 = .ok (.invokestatic 248, 3) := by decide +kernel
theorem dX12_put_73 : decode cX12_put 73 = .ok (.iastore, 1) := by decide +kernel
theorem dX12_put_74 : decode cX12_put 74 = .ok (.iconst 1, 1) := by decide +kernel
theorem dX12_put_75 : decode cX12_put 75 = .ok (.ireturn, 1) := by decide +kernel
theorem dX12_move_0 : decode cX12_move 0 = .ok (.iload_n 1, 1) := by decide +kernel
theorem dX12_move_1 : decode cX12_move 1 = .ok (.invokestatic 212, 3) := by decide +kernel
theorem dX12_move_4 : decode cX12_move 4 = .ok (.ifCond .eq 10, 3) := by decide +kernel
theorem dX12_move_7 : decode cX12_move 7 = .ok (.iload_n 3, 1) := by decide +kernel
theorem dX12_move_8 : decode cX12_move 8 = .ok (.invokestatic 212, 3) := by decide +kernel
theorem dX12_move_11 : decode cX12_move 11 = .ok (.ifCond .ne 10, 3) := by decide +kernel
theorem dX12_move_14 : decode cX12_move 14 = .ok (.aload_n 0, 1) := by decide +kernel
theorem dX12_move_15 : decode cX12_move 15 = .ok (.ldc 55, 2) := by decide +kernel
theorem dX12_move_17 : decode cX12_move 17 = .ok (.invokevirtual 56, 3) := by decide +kernel
theorem dX12_move_20 : decode cX12_move 20 = .ok (.ireturn, 1) := by decide +kernel
theorem dX12_move_21 : decode cX12_move 21 = .ok (.aload_n 0, 1) := by decide +kernel
theorem dX12_move_22 : decode cX12_move 22 = .ok (.getfield 28, 3) := by decide +kernel
theorem dX12_move_25 : decode cX12_move 25 = .ok (.iload_n 1, 1) := by decide +kernel
theorem dX12_move_26 : decode cX12_move 26 = .ok (.iaload, 1) := by decide +kernel
theorem dX12_move_27 : decode cX12_move 27 = .ok (.ifCond .eq 12, 3) := by decide +kernel
theorem dX12_move_30 : decode cX12_move 30 = .ok (.aload_n 0, 1) := by decide +kernel
theorem dX12_move_31 : decode cX12_move 31 = .ok (.getfield 28, 3) := by decide +kernel
theorem dX12_move_34 : decode cX12_move 34 = .ok (.iload_n 3, 1) := by decide +kernel
theorem dX12_move_35 : decode cX12_move 35 = .ok (.iaload, 1) := by decide +kernel
theorem dX12_move_36 : decode cX12_move 36 = .ok (.ifCond .ne 10, 3) := by decide +kernel
theorem dX12_move_39 : decode cX12_move 39 = .ok (.aload_n 0, 1) := by decide +kernel
theorem dX12_move_40 : decode cX12_move 40 = .ok (.ldc 211, 2) := by decide +kernel
theorem dX12_move_42 : decode cX12_move 42 = .ok (.invokevirtual 56, 3) := by decide +kernel
theorem dX12_move_45 : decode cX12_move 45 = .ok (.ireturn, 1) := by decide +kernel
theorem dX12_move_46 : decode cX12_move 46 = .ok (.aload_n 0, 1) := by decide +kernel
theorem dX12_move_47 : decode cX12_move 47 = .ok (.getfield 28, 3) := by decide +kernel
theorem dX12_move_50 : decode cX12_move 50 = .ok (.iload_n 1, 1) := by decide +kernel
theorem dX12_move_51 : decode cX12_move 51 = .ok (.iaload, 1) := by decide +kernel
theorem dX12_move_52 : decode cX12_move 52 = .ok (.aload_n 0, 1) := by decide +kernel
theorem dX12_move_53 : decode cX12_move 53 = .ok (.getfield 28, 3) := by decide +kernel
theorem dX12_move_56 : decode cX12_move 56 = .ok (.iload_n 3, 1) := by decide +kernel
theorem dX12_move_57 : decode cX12_move 57 = .ok (.iaload, 1) := by decide +kernel
theorem dX12_move_58 : decode cX12_move 58 = .ok (.if_icmp .eq 10, 3) := by decide +kernel
theorem dX12_move_61 : decode cX12_move 61 = .ok (.aload_n 0, 1) := by decide +kernel
theorem dX12_move_62 : decode cX12_move 62 = .ok (.ldc 116, 2) := by decide +kernel
theorem dX12_move_64 : decode cX12_move 64 = .ok (.invokevirtual 56, 3) := by decide +kernel
theorem dX12_move_67 : decode cX12_move 67 = .ok (.ireturn, 1) := by decide +kernel
theorem dX12_move_68 : decode cX12_move 68 = .ok (.iload 5, 2) := by decide +kernel
theorem dX12_move_70 : decode cX12_move 70 = .ok (.ifCond .lt 39, 3) := by decide +kernel
theorem dX12_move_73 : decode cX12_move 73 = .ok (.iload_n 2, 1) := by decide +kernel
theorem dX12_move_74 : decode cX12_move 74 = .ok (.ifCond .lt 35, 3) := by decide +kernel
theorem dX12_move_77 : decode cX12_move 77 = .ok (.iload 4, 2) := by decide +kernel
theorem dX12_move_79 : decode cX12_move 79 = .ok (.ifCond .lt 30, 3) := by decide +kernel
theorem dX12_move_82 : decode cX12_move 82 = .ok (.iload_n 2, 1) := by decide +kernel
theorem dX12_move_83 : decode cX12_move 83 = .ok (.aload_n 0, 1) := by decide +kernel
theorem dX12_move_84 : decode cX12_move 84 = .ok (.getfield 31, 3) := by decide +kernel
theorem dX12_move_87 : decode cX12_move 87 = .ok (.iload_n 1, 1) := by decide +kernel
theorem dX12_move_88 : decode cX12_move 88 = .ok (.iaload, 1) := by decide +kernel
theorem dX12_move_89 : decode cX12_move 89 = .ok (.iload 5, 2) := by decide +kernel
theorem dX12_move_91 : decode cX12_move 91 = .ok (.isub, 1) := by decide +kernel
theorem dX12_move_92 : decode cX12_move 92 = .ok (.if_icmp .gt 17, 3) := by decide +kernel
theorem dX12_move_95 : decode cX12_move 95 = .ok (.iload 4, 2) := by decide +kernel
theorem dX12_move_97 : decode cX12_move 97 = .ok (.aload_n 0, 1) := by decide +kernel
theorem dX12_move_98 : decode cX12_move 98 = .ok (.getfield 31, 3) := by decide +kernel
theorem dX12_move_101 : decode cX12_move 101 = .ok (.iload_n 3, 1) := by decide +kernel
theorem dX12_move_102 : decode cX12_move 102 = .ok (.iaload, 1) := by decide +kernel
theorem dX12_move_103 : decode cX12_move 103 = .ok (.iload 5, 2) := by decide +kernel
theorem dX12_move_105 : decode cX12_move 105 = .ok (.isub, 1) := by decide +kernel
theorem dX12_move_106 : decode cX12_move 106 = .ok (.if_icmp .le 10, 3) := by decide +kernel
theorem dX12_move_109 : decode cX12_move 109 = .ok (.aload_n 0, 1) := by decide +kernel
theorem dX12_move_110 : decode cX12_move 110 = .ok (.ldc 55, 2) := by decide +kernel
theorem dX12_move_112 : decode cX12_move 112 = .ok (.invokevirtual 56, 3) := by decide +kernel
theorem dX12_move_115 : decode cX12_move 115 = .ok (.ireturn, 1) := by decide +kernel
theorem dX12_move_116 : decode cX12_move 116 = .ok (.iconst 0, 1) := by decide +kernel
theorem dX12_move_117 : decode cX12_move 117 = .ok (.istore 6, 2) := by decide +kernel
theorem dX12_move_119 : decode cX12_move 119 = .ok (.iload 6, 2) := by decide +kernel
theorem dX12_move_121 : decode cX12_move 121 = .ok (.iload 5, 2) := by decide +kernel
theorem dX12_move_123 : decode cX12_move 123 = .ok (.if_icmp .ge 30, 3) := by decide +kernel
theorem dX12_move_126 : decode cX12_move 126 = .ok (.aload_n 0, 1) := by decide +kernel
theorem dX12_move_127 : decode cX12_move 127 = .ok (.getfield 37, 3) := by decide +kernel
theorem dX12_move_130 : decode cX12_move 130 = .ok (.iload 6, 2) := by decide +kernel
theorem dX12_move_132 : decode cX12_move 132 = .ok (.aload_n 0, 1) := by decide +kernel
theorem dX12_move_133 : decode cX12_move 133 = .ok (.getfield 34, 3) := by decide +kernel
theorem dX12_move_136 : decode cX12_move 136 = .ok (.bipush 40, 2) := by decide +kernel
theorem dX12_move_138 : decode cX12_move 138 = .ok (.iload_n 1, 1) := by decide +kernel
theorem dX12_move_139 : decode cX12_move 139 = .ok (.imul, 1) := by decide +kernel
theorem dX12_move_140 : decode cX12_move 140 = .ok (.iload_n 2, 1) := by decide +kernel
theorem dX12_move_141 : decode cX12_move 141 = .ok (.iadd, 1) := by decide +kernel
theorem dX12_move_142 : decode cX12_move 142 = .ok (.iload 6, 2) := by decide +kernel
theorem dX12_move_144 : decode cX12_move 144 = .ok (.iadd, 1) := by decide +kernel
theorem dX12_move_145 : decode cX12_move 145 = .ok (.iaload, 1) := by decide +kernel
theorem dX12_move_146 : decode cX12_move 146 = .ok (.iastore, 1) := by decide +kernel
theorem dX12_move_147 : decode cX12_move 147 = .ok (.iinc 6 1, 3) := by decide +kernel
theorem dX12_move_150 : decode cX12_move 150 = .ok (.goto (-31), 3) := by decide +kernel
theorem dX12_move_153 : decode cX12_move 153 = .ok (.iconst 0, 1) := by decide +kernel
theorem dX12_move_154 : decode cX12_move 154 = .ok (.istore 6, 2) := by decide +kernel
theorem dX12_move_156 : decode cX12_move 156 = .ok (.iload 6, 2) := by decide +kernel
theorem dX12_move_158 : decode cX12_move 158 = .ok (.iload 5, 2) := by decide +kernel
theorem dX12_move_160 : decode cX12_move 160 = .ok (.if_icmp .ge 31, 3) := by decide +kernel
theorem dX12_move_163 : decode cX12_move 163 = .ok (.aload_n 0, 1) := by decide +kernel
theorem dX12_move_164 : decode cX12_move 164 = .ok (.getfield 34, 3) := by decide +kernel
theorem dX12_move_167 : decode cX12_move 167 = .ok (.bipush 40, 2) := by decide +kernel
theorem dX12_move_169 : decode cX12_move 169 = .ok (.iload_n 3, 1) := by decide +kernel
theorem dX12_move_170 : decode cX12_move 170 = .ok (.imul, 1) := by decide +kernel
theorem dX12_move_171 : decode cX12_move 171 = .ok (.iload 4, 2) := by decide +kernel
theorem dX12_move_173 : decode cX12_move 173 = .ok (.iadd, 1) := by decide +kernel
theorem dX12_move_174 : decode cX12_move 174 = .ok (.iload 6, 2) := by decide +kernel
theorem dX12_move_176 : decode cX12_move 176 = .ok (.iadd, 1) := by decide +kernel
theorem dX12_move_177 : decode cX12_move 177 = .ok (.aload_n 0, 1) := by decide +kernel
theorem dX12_move_178 : decode cX12_move 178 = .ok (.getfield 37, 3) := by decide +kernel
theorem dX12_move_181 : decode cX12_move 181 = .ok (.iload 6, 2) := by decide +kernel
theorem dX12_move_183 : decode cX12_move 183 = .ok (.iaload, 1) := by decide +kernel
theorem dX12_move_184 : decode cX12_move 184 = .ok (.iastore, 1) := by decide +kernel
theorem dX12_move_185 : decode cX12_move 185 = .ok (.iinc 6 1, 3) := by decide +kernel
theorem dX12_move_188 : decode cX12_move 188 = .ok (.goto (-32), 3) := by decide +kernel
theorem dX12_move_191 : decode cX12_move 191 = .ok (.iload 5, 2) := by decide +kernel
theorem dX12_move_193 : decode cX12_move 193 = .ok (.ireturn, 1) := by decide +kernel
theorem dX12_stories_0 : decode cX12_stories 0 = .ok (.iload_n 1, 1) := by decide +kernel
theorem dX12_stories_1 : decode cX12_stories 1 = .ok (.invokestatic 212, 3) := by decide +kernel
theorem dX12_stories_4 : decode cX12_stories 4 = .ok (.ifCond .ne 10, 3) := by decide +kernel
theorem dX12_stories_7 : decode cX12_stories 7 = .ok (.aload_n 0, 1) := by decide +kernel
theorem dX12_stories_8 : decode cX12_stories 8 = .ok (.ldc 55, 2) := by decide +kernel
theorem dX12_stories_10 : decode cX12_stories 10 = .ok (.invokevirtual 56, 3) := by decide +kernel
theorem dX12_stories_13 : decode cX12_stories 13 = .ok (.ireturn, 1) := by decide +kernel
theorem dX12_stories_14 : decode cX12_stories 14 = .ok (.aload_n 0, 1) := by decide +kernel
theorem dX12_stories_15 : decode cX12_stories 15 = .ok (.getfield 28, 3) := by decide +kernel
theorem dX12_stories_18 : decode cX12_stories 18 = .ok (.iload_n 1, 1) := by decide +kernel
theorem dX12_stories_19 : decode cX12_stories 19 = .ok (.iaload, 1) := by decide +kernel
theorem dX12_stories_20 : decode cX12_stories 20 = .ok (.ifCond .ne 10, 3) := by decide +kernel
theorem dX12_stories_23 : decode cX12_stories 23 = .ok (.aload_n 0, 1) := by decide +kernel
theorem dX12_stories_24 : decode cX12_stories 24 = .ok (.ldc 211, 2) := by decide +kernel
theorem dX12_stories_26 : decode cX12_stories 26 = .ok (.invokevirtual 56, 3) := by decide +kernel
theorem dX12_stories_29 : decode cX12_stories 29 = .ok (.ireturn, 1) := by decide +kernel
theorem dX12_stories_30 : decode cX12_stories 30 = .ok (.iconst 0, 1) := by decide +kernel
theorem dX12_stories_31 : decode cX12_stories 31 = .ok (.istore_n 2, 1) := by decide +kernel
theorem dX12_stories_32 : decode cX12_stories 32 = .ok (.iload_n 2, 1) := by decide +kernel
theorem dX12_stories_33 : decode cX12_stories 33 = .ok (.aload_n 0, 1) := by decide +kernel
theorem dX12_stories_34 : decode cX12_stories 34 = .ok (.getfield 31, 3) := by decide +kernel
theorem dX12_stories_37 : decode cX12_stories 37 = .ok (.iload_n 1, 1) := by decide +kernel
theorem dX12_stories_38 : decode cX12_stories 38 = .ok (.iaload, 1) := by decide +kernel
theorem dX12_stories_39 : decode cX12_stories 39 = .ok (.if_icmp .ge 64, 3) := by decide +kernel
theorem dX12_stories_42 : decode cX12_stories 42 = .ok (.iload_n 2, 1) := by decide +kernel
theorem dX12_stories_43 : decode cX12_stories 43 = .ok (.aload_n 0, 1) := by decide +kernel
theorem dX12_stories_44 : decode cX12_stories 44 = .ok (.getfield 7, 3) := by decide +kernel
theorem dX12_stories_47 : decode cX12_stories 47 = .ok (.iconst 3, 1) := by decide +kernel
theorem dX12_stories_48 : decode cX12_stories 48 = .ok (.iaload, 1) := by decide +kernel
theorem dX12_stories_49 : decode cX12_stories 49 = .ok (.if_icmp .ge 54, 3) := by decide +kernel
theorem dX12_stories_52 : decode cX12_stories 52 = .ok (.aload_n 0, 1) := by decide +kernel
theorem dX12_stories_53 : decode cX12_stories 53 = .ok (.getfield 34, 3) := by decide +kernel
theorem dX12_stories_56 : decode cX12_stories 56 = .ok (.bipush 40, 2) := by decide +kernel
theorem dX12_stories_58 : decode cX12_stories 58 = .ok (.iload_n 1, 1) := by decide +kernel
theorem dX12_stories_59 : decode cX12_stories 59 = .ok (.imul, 1) := by decide +kernel
theorem dX12_stories_60 : decode cX12_stories 60 = .ok (.iload_n 2, 1) := by decide +kernel
theorem dX12_stories_61 : decode cX12_stories 61 = .ok (.iadd, 1) := by decide +kernel
theorem dX12_stories_62 : decode cX12_stories 62 = .ok (.iaload, 1) := by decide +kernel
theorem dX12_stories_63 : decode cX12_stories 63 = .ok (.iconst 0, 1) := by decide +kernel
theorem dX12_stories_64 : decode cX12_stories 64 = .ok (.sipush 6560, 3) := by decide +kernel
theorem dX12_stories_67 : decode cX12_stories 67 = .ok (.invokestatic 47, 3) := by decide +kernel
theorem dX12_stories_70 : decode cX12_stories 70 = .ok (.ifCond .eq 33, 3) := by decide +kernel
theorem dX12_stories_73 : decode cX12_stories 73 = .ok (.aload_n 0, 1) := by decide +kernel
theorem dX12_stories_74 : decode cX12_stories 74 = .ok (.getfield 7, 3) := by decide +kernel
theorem dX12_stories_77 : decode cX12_stories 77 = .ok (.bipush 18, 2) := by decide +kernel
theorem dX12_stories_79 : decode cX12_stories 79 = .ok (.iconst 3, 1) := by decide +kernel
theorem dX12_stories_80 : decode cX12_stories 80 = .ok (.iload_n 2, 1) := by decide +kernel
theorem dX12_stories_81 : decode cX12_stories 81 = .ok (.imul, 1) := by decide +kernel
theorem dX12_stories_82 : decode cX12_stories 82 = .ok (.iadd, 1) := by decide +kernel
theorem dX12_stories_83 : decode cX12_stories 83 = .ok (.iconst 2, 1) := by decide +kernel
theorem dX12_stories_84 : decode cX12_stories 84 = .ok (.iadd, 1) := by decide +kernel
theorem dX12_stories_85 : decode cX12_stories 85 = .ok (.aload_n 0, 1) := by decide +kernel
theorem dX12_stories_86 : decode cX12_stories 86 = .ok (.getfield 34, 3) := by decide +kernel
theorem dX12_stories_89 : decode cX12_stories 89 = .ok (.bipush 40, 2) := by decide +kernel
theorem dX12_stories_91 : decode cX12_stories 91 = .ok (.iload_n 1, 1) := by decide +kernel
theorem dX12_stories_92 : decode cX12_stories 92 = .ok (.imul, 1) := by decide +kernel
theorem dX12_stories_93 : decode cX12_stories 93 = .ok (.iload_n 2, 1) := by decide +kernel
theorem dX12_stories_94 : decode cX12_stories 94 = .ok (.iadd, 1) := by decide +kernel
theorem dX12_stories_95 : decode cX12_stories 95 = .ok (.iaload, 1) := by decide +kernel
theorem dX12_stories_96 : decode cX12_stories 96 = .ok (.iastore, 1) := by decide +kernel
theorem dX12_stories_97 : decode cX12_stories 97 = .ok (.iinc 2 1, 3) := by decide +kernel
theorem dX12_stories_100 : decode cX12_stories 100 = .ok (.goto (-68), 3) := by decide +kernel
theorem dX12_stories_103 : decode cX12_stories 103 = .ok (.iload_n 2, 1) := by decide +kernel
theorem dX12_stories_104 : decode cX12_stories 104 = .ok (.ireturn, 1) := by decide +kernel
theorem dX12_judge_0 : decode cX12_judge 0 = .ok (.iload_n 1, 1) := by decide +kernel
theorem dX12_judge_1 : decode cX12_judge 1 = .ok (.invokestatic 212, 3) := by decide +kernel
theorem dX12_judge_4 : decode cX12_judge 4 = .ok (.ifCond .ne 10, 3) := by decide +kernel
theorem dX12_judge_7 : decode cX12_judge 7 = .ok (.aload_n 0, 1) := by decide +kernel
theorem dX12_judge_8 : decode cX12_judge 8 = .ok (.ldc 55, 2) := by decide +kernel
theorem dX12_judge_10 : decode cX12_judge 10 = .ok (.invokevirtual 56, 3) := by decide +kernel
theorem dX12_judge_13 : decode cX12_judge 13 = .ok (.ireturn, 1) := by decide +kernel
theorem dX12_judge_14 : decode cX12_judge 14 = .ok (.aload_n 0, 1) := by decide +kernel
theorem dX12_judge_15 : decode cX12_judge 15 = .ok (.getfield 28, 3) := by decide +kernel
theorem dX12_judge_18 : decode cX12_judge 18 = .ok (.iload_n 1, 1) := by decide +kernel
theorem dX12_judge_19 : decode cX12_judge 19 = .ok (.iaload, 1) := by decide +kernel
theorem dX12_judge_20 : decode cX12_judge 20 = .ok (.ifCond .ne 10, 3) := by decide +kernel
theorem dX12_judge_23 : decode cX12_judge 23 = .ok (.aload_n 0, 1) := by decide +kernel
theorem dX12_judge_24 : decode cX12_judge 24 = .ok (.ldc 211, 2) := by decide +kernel
theorem dX12_judge_26 : decode cX12_judge 26 = .ok (.invokevirtual 56, 3) := by decide +kernel
theorem dX12_judge_29 : decode cX12_judge 29 = .ok (.ireturn, 1) := by decide +kernel
theorem dX12_judge_30 : decode cX12_judge 30 = .ok (.iconst 0, 1) := by decide +kernel
theorem dX12_judge_31 : decode cX12_judge 31 = .ok (.istore_n 2, 1) := by decide +kernel
theorem dX12_judge_32 : decode cX12_judge 32 = .ok (.iload_n 2, 1) := by decide +kernel
theorem dX12_judge_33 : decode cX12_judge 33 = .ok (.aload_n 0, 1) := by decide +kernel
theorem dX12_judge_34 : decode cX12_judge 34 = .ok (.getfield 31, 3) := by decide +kernel
theorem dX12_judge_37 : decode cX12_judge 37 = .ok (.iload_n 1, 1) := by decide +kernel
theorem dX12_judge_38 : decode cX12_judge 38 = .ok (.iaload, 1) := by decide +kernel
theorem dX12_judge_39 : decode cX12_judge 39 = .ok (.if_icmp .ge 38, 3) := by decide +kernel
theorem dX12_judge_42 : decode cX12_judge 42 = .ok (.iload_n 2, 1) := by decide +kernel
theorem dX12_judge_43 : decode cX12_judge 43 = .ok (.aload_n 0, 1) := by decide +kernel
theorem dX12_judge_44 : decode cX12_judge 44 = .ok (.getfield 7, 3) := by decide +kernel
theorem dX12_judge_47 : decode cX12_judge 47 = .ok (.iconst 3, 1) := by decide +kernel
theorem dX12_judge_48 : decode cX12_judge 48 = .ok (.iaload, 1) := by decide +kernel
theorem dX12_judge_49 : decode cX12_judge 49 = .ok (.if_icmp .ge 28, 3) := by decide +kernel
theorem dX12_judge_52 : decode cX12_judge 52 = .ok (.aload_n 0, 1) := by decide +kernel
theorem dX12_judge_53 : decode cX12_judge 53 = .ok (.getfield 34, 3) := by decide +kernel
theorem dX12_judge_56 : decode cX12_judge 56 = .ok (.bipush 40, 2) := by decide +kernel
theorem dX12_judge_58 : decode cX12_judge 58 = .ok (.iload_n 1, 1) := by decide +kernel
theorem dX12_judge_59 : decode cX12_judge 59 = .ok (.imul, 1) := by decide +kernel
theorem dX12_judge_60 : decode cX12_judge 60 = .ok (.iload_n 2, 1) := by decide +kernel
theorem dX12_judge_61 : decode cX12_judge 61 = .ok (.iadd, 1) := by decide +kernel
theorem dX12_judge_62 : decode cX12_judge 62 = .ok (.iaload, 1) := by decide +kernel
theorem dX12_judge_63 : decode cX12_judge 63 = .ok (.aload_n 0, 1) := by decide +kernel
theorem dX12_judge_64 : decode cX12_judge 64 = .ok (.iload_n 2, 1) := by decide +kernel
theorem dX12_judge_65 : decode cX12_judge 65 = .ok (.invokevirtual 103, 3) := by decide +kernel
theorem dX12_judge_68 : decode cX12_judge 68 = .ok (.if_icmp .ne 9, 3) := by decide +kernel
theorem dX12_judge_71 : decode cX12_judge 71 = .ok (.iinc 2 1, 3) := by decide +kernel
theorem dX12_judge_74 : decode cX12_judge 74 = .ok (.goto (-42), 3) := by decide +kernel
theorem dX12_judge_77 : decode cX12_judge 77 = .ok (.iload_n 2, 1) := by decide +kernel
theorem dX12_judge_78 : decode cX12_judge 78 = .ok (.aload_n 0, 1) := by decide +kernel
theorem dX12_judge_79 : decode cX12_judge 79 = .ok (.getfield 31, 3) := by decide +kernel
theorem dX12_judge_82 : decode cX12_judge 82 = .ok (.iload_n 1, 1) := by decide +kernel
theorem dX12_judge_83 : decode cX12_judge 83 = .ok (.iaload, 1) := by decide +kernel
theorem dX12_judge_84 : decode cX12_judge 84 = .ok (.if_icmp .ne 17, 3) := by decide +kernel
theorem dX12_judge_87 : decode cX12_judge 87 = .ok (.iload_n 2, 1) := by decide +kernel
theorem dX12_judge_88 : decode cX12_judge 88 = .ok (.aload_n 0, 1) := by decide +kernel
theorem dX12_judge_89 : decode cX12_judge 89 = .ok (.getfield 7, 3) := by decide +kernel
theorem dX12_judge_92 : decode cX12_judge 92 = .ok (.iconst 3, 1) := by decide +kernel
theorem dX12_judge_93 : decode cX12_judge 93 = .ok (.iaload, 1) := by decide +kernel
theorem dX12_judge_94 : decode cX12_judge 94 = .ok (.if_icmp .ne 7, 3) := by decide +kernel
theorem dX12_judge_97 : decode cX12_judge 97 = .ok (.iconst (-1), 1) := by decide +kernel
theorem dX12_judge_98 : decode cX12_judge 98 = .ok (.goto 4, 3) := by decide +kernel
theorem dX12_judge_101 : decode cX12_judge 101 = .ok (.iload_n 2, 1) := by decide +kernel
theorem dX12_judge_102 : decode cX12_judge 102 = .ok (.ireturn, 1) := by decide +kernel
theorem dX12_image_0 : decode cX12_image 0 = .ok (.aload_n 0, 1) := by decide +kernel
theorem dX12_image_1 : decode cX12_image 1 = .ok (.aload_n 0, 1) := by decide +kernel
theorem dX12_image_2 : decode cX12_image 2 = .ok (.getfield 7, 3) := by decide +kernel
theorem dX12_image_5 : decode cX12_image 5 = .ok (.aload_n 0, 1) := by decide +kernel
theorem dX12_image_6 : decode cX12_image 6 = .ok (.getfield 13, 3) := by decide +kernel
theorem dX12_image_9 : decode cX12_image 9 = .ok (.invokevirtual 180, 3) := by decide +kernel
theorem dX12_image_12 : decode cX12_image 12 = .ok (.aload_n 0, 1) := by decide +kernel
theorem dX12_image_13 : decode cX12_image 13 = .ok (.iconst 1, 1) := by decide +kernel
theorem dX12_image_14 : decode cX12_image 14 = .ok (.putfield 251, 3) := by decide +kernel
theorem dX12_image_17 : decode cX12_image 17 = .ok (.aload_n 0, 1) := by decide +kernel
theorem dX12_image_18 : decode cX12_image 18 = .ok (.dup, 1) := by decide +kernel
theorem dX12_image_19 : decode cX12_image 19 = .ok (.getfield 254, 3) := by decide +kernel
theorem dX12_image_22 : decode cX12_image 22 = .ok (.iconst 1, 1) := by decide +kernel
theorem dX12_image_23 : decode cX12_image 23 = .ok (.iadd, 1) := by decide +kernel
theorem dX12_image_24 : decode cX12_image 24 = .ok (.putfield 254, 3) := by decide +kernel
theorem dX12_image_27 : decode cX12_image 27 = .ok (.aload_n 0, 1) := by decide +kernel
theorem dX12_image_28 : decode cX12_image 28 = .ok (.getfield 254, 3) := by decide +kernel
theorem dX12_image_31 : decode cX12_image 31 = .ok (.ireturn, 1) := by decide +kernel
theorem dX12_restore_0 : decode cX12_restore 0 = .ok (.aload_n 0, 1) := by decide +kernel
theorem dX12_restore_1 : decode cX12_restore 1 = .ok (.getfield 251, 3) := by decide +kernel
theorem dX12_restore_4 : decode cX12_restore 4 = .ok (.ifCond .ne 10, 3) := by decide +kernel
theorem dX12_restore_7 : decode cX12_restore 7 = .ok (.aload_n 0, 1) := by decide +kernel
theorem dX12_restore_8 : decode cX12_restore 8 = .ok (.ldc 211, 2) := by decide +kernel
theorem dX12_restore_10 : decode cX12_restore 10 = .ok (.invokevirtual 56, 3) := by decide +kernel
theorem dX12_restore_13 : decode cX12_restore 13 = .ok (.ireturn, 1) := by decide +kernel
theorem dX12_restore_14 : decode cX12_restore 14 = .ok (.aload_n 0, 1) := by decide +kernel
theorem dX12_restore_15 : decode cX12_restore 15 = .ok (.aload_n 0, 1) := by decide +kernel
theorem dX12_restore_16 : decode cX12_restore 16 = .ok (.getfield 13, 3) := by decide +kernel
theorem dX12_restore_19 : decode cX12_restore 19 = .ok (.aload_n 0, 1) := by decide +kernel
theorem dX12_restore_20 : decode cX12_restore 20 = .ok (.getfield 7, 3) := by decide +kernel
theorem dX12_restore_23 : decode cX12_restore 23 = .ok (.invokevirtual 180, 3) := by decide +kernel
theorem dX12_restore_26 : decode cX12_restore 26 = .ok (.aload_n 0, 1) := by decide +kernel
theorem dX12_restore_27 : decode cX12_restore 27 = .ok (.getfield 7, 3) := by decide +kernel
theorem dX12_restore_30 : decode cX12_restore 30 = .ok (.iconst 0, 1) := by decide +kernel
theorem dX12_restore_31 : decode cX12_restore 31 = .ok (.iaload, 1) := by decide +kernel
theorem dX12_restore_32 : decode cX12_restore 32 = .ok (.ireturn, 1) := by decide +kernel
theorem dX12_tell_0 : decode cX12_tell 0 = .ok (.aload_n 0, 1) := by decide +kernel
theorem dX12_tell_1 : decode cX12_tell 1 = .ok (.getfield 7, 3) := by decide +kernel
theorem dX12_tell_4 : decode cX12_tell 4 = .ok (.iconst 5, 1) := by decide +kernel
theorem dX12_tell_5 : decode cX12_tell 5 = .ok (.iaload, 1) := by decide +kernel
theorem dX12_tell_6 : decode cX12_tell 6 = .ok (.bipush 20, 2) := by decide +kernel
theorem dX12_tell_8 : decode cX12_tell 8 = .ok (.if_icmp .ne 10, 3) := by decide +kernel
theorem dX12_tell_11 : decode cX12_tell 11 = .ok (.aload_n 0, 1) := by decide +kernel
theorem dX12_tell_12 : decode cX12_tell 12 = .ok (.ldc 64, 2) := by decide +kernel
theorem dX12_tell_14 : decode cX12_tell 14 = .ok (.invokevirtual 56, 3) := by decide +kernel
theorem dX12_tell_17 : decode cX12_tell 17 = .ok (.ireturn, 1) := by decide +kernel
theorem dX12_tell_18 : decode cX12_tell 18 = .ok (.aload_n 0, 1) := by decide +kernel
theorem dX12_tell_19 : decode cX12_tell 19 = .ok (.getfield 7, 3) := by decide +kernel
theorem dX12_tell_22 : decode cX12_tell 22 = .ok (.bipush 86, 2) := by decide +kernel
theorem dX12_tell_24 : decode cX12_tell 24 = .ok (.aload_n 0, 1) := by decide +kernel
theorem dX12_tell_25 : decode cX12_tell 25 = .ok (.getfield 7, 3) := by decide +kernel
theorem dX12_tell_28 : decode cX12_tell 28 = .ok (.iconst 5, 1) := by decide +kernel
theorem dX12_tell_29 : decode cX12_tell 29 = .ok (.iaload, 1) := by decide +kernel
theorem dX12_tell_30 : decode cX12_tell 30 = .ok (.iadd, 1) := by decide +kernel
theorem dX12_tell_31 : decode cX12_tell 31 = .ok (.iload_n 1, 1) := by decide +kernel
theorem dX12_tell_32 : decode cX12_tell 32 = .ok (.iastore, 1) := by decide +kernel
theorem dX12_tell_33 : decode cX12_tell 33 = .ok (.aload_n 0, 1) := by decide +kernel
theorem dX12_tell_34 : decode cX12_tell 34 = .ok (.getfield 7, 3) := by decide +kernel
theorem dX12_tell_37 : decode cX12_tell 37 = .ok (.iconst 5, 1) := by decide +kernel
theorem dX12_tell_38 : decode cX12_tell 38 = .ok (.dup2, 1) := by decide +kernel
theorem dX12_tell_39 : decode cX12_tell 39 = .ok (.iaload, 1) := by decide +kernel
theorem dX12_tell_40 : decode cX12_tell 40 = .ok (.iconst 1, 1) := by decide +kernel
theorem dX12_tell_41 : decode cX12_tell 41 = .ok (.iadd, 1) := by decide +kernel
theorem dX12_tell_42 : decode cX12_tell 42 = .ok (.iastore, 1) := by decide +kernel
theorem dX12_tell_43 : decode cX12_tell 43 = .ok (.aload_n 0, 1) := by decide +kernel
theorem dX12_tell_44 : decode cX12_tell 44 = .ok (.getfield 7, 3) := by decide +kernel
theorem dX12_tell_47 : decode cX12_tell 47 = .ok (.iconst 5, 1) := by decide +kernel
theorem dX12_tell_48 : decode cX12_tell 48 = .ok (.iaload, 1) := by decide +kernel
theorem dX12_tell_49 : decode cX12_tell 49 = .ok (.ireturn, 1) := by decide +kernel
theorem dX12_check_0 : decode cX12_check 0 = .ok (.aload_n 0, 1) := by decide +kernel
theorem dX12_check_1 : decode cX12_check 1 = .ok (.getfield 7, 3) := by decide +kernel
theorem dX12_check_4 : decode cX12_check 4 = .ok (.iconst 5, 1) := by decide +kernel
theorem dX12_check_5 : decode cX12_check 5 = .ok (.iaload, 1) := by decide +kernel
theorem dX12_check_6 : decode cX12_check 6 = .ok (.istore_n 1, 1) := by decide +kernel
theorem dX12_check_7 : decode cX12_check 7 = .ok (.aload_n 0, 1) := by decide +kernel
theorem dX12_check_8 : decode cX12_check 8 = .ok (.getfield 7, 3) := by decide +kernel
theorem dX12_check_11 : decode cX12_check 11 = .ok (.iconst 5, 1) := by decide +kernel
theorem dX12_check_12 : decode cX12_check 12 = .ok (.iconst 0, 1) := by decide +kernel
theorem dX12_check_13 : decode cX12_check 13 = .ok (.iastore, 1) := by decide +kernel
theorem dX12_check_14 : decode cX12_check 14 = .ok (.aload_n 0, 1) := by decide +kernel
theorem dX12_check_15 : decode cX12_check 15 = .ok (.aload_n 0, 1) := by decide +kernel
theorem dX12_check_16 : decode cX12_check 16 = .ok (.getfield 7, 3) := by decide +kernel
theorem dX12_check_19 : decode cX12_check 19 = .ok (.aload_n 0, 1) := by decide +kernel
theorem dX12_check_20 : decode cX12_check 20 = .ok (.getfield 16, 3) := by decide +kernel
theorem dX12_check_23 : decode cX12_check 23 = .ok (.invokevirtual 180, 3) := by decide +kernel
theorem dX12_check_26 : decode cX12_check 26 = .ok (.iconst 0, 1) := by decide +kernel
theorem dX12_check_27 : decode cX12_check 27 = .ok (.istore_n 2, 1) := by decide +kernel
theorem dX12_check_28 : decode cX12_check 28 = .ok (.iconst 1, 1) := by decide +kernel
theorem dX12_check_29 : decode cX12_check 29 = .ok (.istore_n 3, 1) := by decide +kernel
theorem dX12_check_30 : decode cX12_check 30 = .ok (.iload_n 2, 1) := by decide +kernel
theorem dX12_check_31 : decode cX12_check 31 = .ok (.iload_n 1, 1) := by decide +kernel
theorem dX12_check_32 : decode cX12_check 32 = .ok (.if_icmp .ge 48, 3) := by decide +kernel
theorem dX12_check_35 : decode cX12_check 35 = .ok (.iload_n 3, 1) := by decide +kernel
theorem dX12_check_36 : decode cX12_check 36 = .ok (.ifCond .eq 44, 3) := by decide +kernel
theorem dX12_check_39 : decode cX12_check 39 = .ok (.aload_n 0, 1) := by decide +kernel
theorem dX12_check_40 : decode cX12_check 40 = .ok (.invokevirtual 188, 3) := by decide +kernel
theorem dX12_check_43 : decode cX12_check 43 = .ok (.aload_n 0, 1) := by decide +kernel
theorem dX12_check_44 : decode cX12_check 44 = .ok (.invokevirtual 60, 3) := by decide +kernel
theorem dX12_check_47 : decode cX12_check 47 = .ok (.aload_n 0, 1) := by decide +kernel
theorem dX12_check_48 : decode cX12_check 48 = .ok (.getfield 7, 3) := by decide +kernel
theorem dX12_check_51 : decode cX12_check 51 = .ok (.bipush 86, 2) := by decide +kernel
theorem dX12_check_53 : decode cX12_check 53 = .ok (.iload_n 2, 1) := by decide +kernel
theorem dX12_check_54 : decode cX12_check 54 = .ok (.iadd, 1) := by decide +kernel
theorem dX12_check_55 : decode cX12_check 55 = .ok (.iaload, 1) := by decide +kernel
theorem dX12_check_56 : decode cX12_check 56 = .ok (.if_icmp .ne 7, 3) := by decide +kernel
theorem dX12_check_59 : decode cX12_check 59 = .ok (.iconst 1, 1) := by decide +kernel
theorem dX12_check_60 : decode cX12_check 60 = .ok (.goto 4, 3) := by decide +kernel
theorem dX12_check_63 : decode cX12_check 63 = .ok (.iconst 0, 1) := by decide +kernel
theorem dX12_check_64 : decode cX12_check 64 = .ok (.istore_n 3, 1) := by decide +kernel
theorem dX12_check_65 : decode cX12_check 65 = .ok (.iload_n 2, 1) := by decide +kernel
theorem dX12_check_66 : decode cX12_check 66 = .ok (.iload_n 3, 1) := by decide +kernel
theorem dX12_check_67 : decode cX12_check 67 = .ok (.ifCond .eq 7, 3) := by decide +kernel
theorem dX12_check_70 : decode cX12_check 70 = .ok (.iconst 1, 1) := by decide +kernel
theorem dX12_check_71 : decode cX12_check 71 = .ok (.goto 4, 3) := by decide +kernel
theorem dX12_check_74 : decode cX12_check 74 = .ok (.iconst 0, 1) := by decide +kernel
theorem dX12_check_75 : decode cX12_check 75 = .ok (.iadd, 1) := by decide +kernel
theorem dX12_check_76 : decode cX12_check 76 = .ok (.istore_n 2, 1) := by decide +kernel
theorem dX12_check_77 : decode cX12_check 77 = .ok (.goto (-47), 3) := by decide +kernel
theorem dX12_check_80 : decode cX12_check 80 = .ok (.aload_n 0, 1) := by decide +kernel
theorem dX12_check_81 : decode cX12_check 81 = .ok (.aload_n 0, 1) := by decide +kernel
theorem dX12_check_82 : decode cX12_check 82 = .ok (.getfield 16, 3) := by decide +kernel
theorem dX12_check_85 : decode cX12_check 85 = .ok (.aload_n 0, 1) := by decide +kernel
theorem dX12_check_86 : decode cX12_check 86 = .ok (.getfield 7, 3) := by decide +kernel
theorem dX12_check_89 : decode cX12_check 89 = .ok (.invokevirtual 180, 3) := by decide +kernel
theorem dX12_check_92 : decode cX12_check 92 = .ok (.iload_n 3, 1) := by decide +kernel
theorem dX12_check_93 : decode cX12_check 93 = .ok (.ifCond .eq 7, 3) := by decide +kernel
theorem dX12_check_96 : decode cX12_check 96 = .ok (.iconst 0, 1) := by decide +kernel
theorem dX12_check_97 : decode cX12_check 97 = .ok (.goto 6, 3) := by decide +kernel
theorem dX12_check_100 : decode cX12_check 100 = .ok (.iconst 1, 1) := by decide +kernel
theorem dX12_check_101 : decode cX12_check 101 = .ok (.iload_n 2, 1) := by decide +kernel
theorem dX12_check_102 : decode cX12_check 102 = .ok (.iadd, 1) := by decide +kernel
theorem dX12_check_103 : decode cX12_check 103 = .ok (.ireturn, 1) := by decide +kernel
theorem dX12_heardMany_0 : decode cX12_heardMany 0 = .ok (.iconst 0, 1) := by decide +kernel
theorem dX12_heardMany_1 : decode cX12_heardMany 1 = .ok (.istore_n 2, 1) := by decide +kernel
theorem dX12_heardMany_2 : decode cX12_heardMany 2 = .ok (.aload_n 0, 1) := by decide +kernel
theorem dX12_heardMany_3 : decode cX12_heardMany 3 = .ok (.invokevirtual 106, 3) := by decide +kernel
theorem dX12_heardMany_6 : decode cX12_heardMany 6 = .ok (.istore_n 3, 1) := by decide +kernel
theorem dX12_heardMany_7 : decode cX12_heardMany 7 = .ok (.iconst 0, 1) := by decide +kernel
theorem dX12_heardMany_8 : decode cX12_heardMany 8 = .ok (.istore 4, 2) := by decide +kernel
theorem dX12_heardMany_10 : decode cX12_heardMany 10 = .ok (.iload 4, 2) := by decide +kernel
theorem dX12_heardMany_12 : decode cX12_heardMany 12 = .ok (.bipush 8, 2) := by decide +kernel
theorem dX12_heardMany_14 : decode cX12_heardMany 14 = .ok (.if_icmp .ge 50, 3) := by decide +kernel
theorem dX12_heardMany_17 : decode cX12_heardMany 17 = .ok (.aload_n 0, 1) := by decide +kernel
theorem dX12_heardMany_18 : decode cX12_heardMany 18 = .ok (.getfield 7, 3) := by decide +kernel
theorem dX12_heardMany_21 : decode cX12_heardMany 21 = .ok (.bipush 10, 2) := by decide +kernel
theorem dX12_heardMany_23 : decode cX12_heardMany 23 = .ok (.iload 4, 2) := by decide +kernel
theorem dX12_heardMany_25 : decode cX12_heardMany 25 = .ok (.iadd, 1) := by decide +kernel
theorem dX12_heardMany_26 : decode cX12_heardMany 26 = .ok (.iaload, 1) := by decide +kernel
theorem dX12_heardMany_27 : decode cX12_heardMany 27 = .ok (.istore 5, 2) := by decide +kernel
theorem dX12_heardMany_29 : decode cX12_heardMany 29 = .ok (.iload_n 2, 1) := by decide +kernel
theorem dX12_heardMany_30 : decode cX12_heardMany 30 = .ok (.iload 5, 2) := by decide +kernel
theorem dX12_heardMany_32 : decode cX12_heardMany 32 = .ok (.ifCond .le 23, 3) := by decide +kernel
theorem dX12_heardMany_35 : decode cX12_heardMany 35 = .ok (.iload_n 1, 1) := by decide +kernel
theorem dX12_heardMany_36 : decode cX12_heardMany 36 = .ok (.ifCond .eq 15, 3) := by decide +kernel
theorem dX12_heardMany_39 : decode cX12_heardMany 39 = .ok (.iload 5, 2) := by decide +kernel
theorem dX12_heardMany_41 : decode cX12_heardMany 41 = .ok (.aload_n 0, 1) := by decide +kernel
theorem dX12_heardMany_42 : decode cX12_heardMany 42 = .ok (.iload_n 3, 1) := by decide +kernel
theorem dX12_heardMany_43 : decode cX12_heardMany 43 = .ok (.iload 4, 2) := by decide +kernel
theorem dX12_heardMany_45 : decode cX12_heardMany 45 = .ok (.invokevirtual 75, 3) := by decide +kernel
theorem dX12_heardMany_48 : decode cX12_heardMany 48 = .ok (.if_icmp .ne 7, 3) := by decide +kernel
theorem dX12_heardMany_51 : decode cX12_heardMany 51 = .ok (.iconst 1, 1) := by decide +kernel
theorem dX12_heardMany_52 : decode cX12_heardMany 52 = .ok (.goto 4, 3) := by decide +kernel
theorem dX12_heardMany_55 : decode cX12_heardMany 55 = .ok (.iconst 0, 1) := by decide +kernel
theorem dX12_heardMany_56 : decode cX12_heardMany 56 = .ok (.iadd, 1) := by decide +kernel
theorem dX12_heardMany_57 : decode cX12_heardMany 57 = .ok (.istore_n 2, 1) := by decide +kernel
theorem dX12_heardMany_58 : decode cX12_heardMany 58 = .ok (.iinc 4 1, 3) := by decide +kernel
theorem dX12_heardMany_61 : decode cX12_heardMany 61 = .ok (.goto (-51), 3) := by decide +kernel
theorem dX12_heardMany_64 : decode cX12_heardMany 64 = .ok (.iload_n 2, 1) := by decide +kernel
theorem dX12_heardMany_65 : decode cX12_heardMany 65 = .ok (.ireturn, 1) := by decide +kernel
theorem dX12_count_0 : decode cX12_count 0 = .ok (.iload_n 1, 1) := by decide +kernel
theorem dX12_count_1 : decode cX12_count 1 = .ok (.tableswitch 134 0 10 #[59, 66, 73, 80, 86, 92, 100, 108, 115, 122, 127], 59) := by decide +kernel
theorem dX12_count_60 : decode cX12_count 60 = .ok (.aload_n 0, 1) := by decide +kernel
theorem dX12_count_61 : decode cX12_count 61 = .ok (.getfield 7, 3) := by decide +kernel
theorem dX12_count_64 : decode cX12_count 64 = .ok (.iconst 3, 1) := by decide +kernel
theorem dX12_count_65 : decode cX12_count 65 = .ok (.iaload, 1) := by decide +kernel
theorem dX12_count_66 : decode cX12_count 66 = .ok (.ireturn, 1) := by decide +kernel
theorem dX12_count_67 : decode cX12_count 67 = .ok (.aload_n 0, 1) := by decide +kernel
theorem dX12_count_68 : decode cX12_count 68 = .ok (.getfield 7, 3) := by decide +kernel
theorem dX12_count_71 : decode cX12_count 71 = .ok (.iconst 0, 1) := by decide +kernel
theorem dX12_count_72 : decode cX12_count 72 = .ok (.iaload, 1) := by decide +kernel
theorem dX12_count_73 : decode cX12_count 73 = .ok (.ireturn, 1) := by decide +kernel
theorem dX12_count_74 : decode cX12_count 74 = .ok (.aload_n 0, 1) := by decide +kernel
theorem dX12_count_75 : decode cX12_count 75 = .ok (.getfield 7, 3) := by decide +kernel
theorem dX12_count_78 : decode cX12_count 78 = .ok (.iconst 1, 1) := by decide +kernel
theorem dX12_count_79 : decode cX12_count 79 = .ok (.iaload, 1) := by decide +kernel
theorem dX12_count_80 : decode cX12_count 80 = .ok (.ireturn, 1) := by decide +kernel
theorem dX12_count_81 : decode cX12_count 81 = .ok (.aload_n 0, 1) := by decide +kernel
theorem dX12_count_82 : decode cX12_count 82 = .ok (.iconst 0, 1) := by decide +kernel
theorem dX12_count_83 : decode cX12_count 83 = .ok (.invokevirtual 257, 3) := by decide +kernel
theorem dX12_count_86 : decode cX12_count 86 = .ok (.ireturn, 1) := by decide +kernel
theorem dX12_count_87 : decode cX12_count 87 = .ok (.aload_n 0, 1) := by decide +kernel
theorem dX12_count_88 : decode cX12_count 88 = .ok (.iconst 1, 1) := by decide +kernel
theorem dX12_count_89 : decode cX12_count 89 = .ok (.invokevirtual 257, 3) := by decide +kernel
theorem dX12_count_92 : decode cX12_count 92 = .ok (.ireturn, 1) := by decide +kernel
theorem dX12_count_93 : decode cX12_count 93 = .ok (.aload_n 0, 1) := by decide +kernel
theorem dX12_count_94 : decode cX12_count 94 = .ok (.getfield 7, 3) := by decide +kernel
theorem dX12_count_97 : decode cX12_count 97 = .ok (.bipush 9, 2) := by decide +kernel
theorem dX12_count_99 : decode cX12_count 99 = .ok (.iaload, 1) := by decide +kernel
theorem dX12_count_100 : decode cX12_count 100 = .ok (.ireturn, 1) := by decide +kernel
theorem dX12_count_101 : decode cX12_count 101 = .ok (.aload_n 0, 1) := by decide +kernel
theorem dX12_count_102 : decode cX12_count 102 = .ok (.getfield 7, 3) := by decide +kernel
theorem dX12_count_105 : decode cX12_count 105 = .ok (.bipush 8, 2) := by decide +kernel
theorem dX12_count_107 : decode cX12_count 107 = .ok (.iaload, 1) := by decide +kernel
theorem dX12_count_108 : decode cX12_count 108 = .ok (.ireturn, 1) := by decide +kernel
theorem dX12_count_109 : decode cX12_count 109 = .ok (.aload_n 0, 1) := by decide +kernel
theorem dX12_count_110 : decode cX12_count 110 = .ok (.getfield 7, 3) := by decide +kernel
theorem dX12_count_113 : decode cX12_count 113 = .ok (.iconst 4, 1) := by decide +kernel
theorem dX12_count_114 : decode cX12_count 114 = .ok (.iaload, 1) := by decide +kernel
theorem dX12_count_115 : decode cX12_count 115 = .ok (.ireturn, 1) := by decide +kernel
theorem dX12_count_116 : decode cX12_count 116 = .ok (.aload_n 0, 1) := by decide +kernel
theorem dX12_count_117 : decode cX12_count 117 = .ok (.getfield 7, 3) := by decide +kernel
theorem dX12_count_120 : decode cX12_count 120 = .ok (.iconst 5, 1) := by decide +kernel
theorem dX12_count_121 : decode cX12_count 121 = .ok (.iaload, 1) := by decide +kernel
theorem dX12_count_122 : decode cX12_count 122 = .ok (.ireturn, 1) := by decide +kernel
theorem dX12_count_123 : decode cX12_count 123 = .ok (.aload_n 0, 1) := by decide +kernel
theorem dX12_count_124 : decode cX12_count 124 = .ok (.getfield 221, 3) := by decide +kernel
theorem dX12_count_127 : decode cX12_count 127 = .ok (.ireturn, 1) := by decide +kernel
theorem dX12_count_128 : decode cX12_count 128 = .ok (.aload_n 0, 1) := by decide +kernel
theorem dX12_count_129 : decode cX12_count 129 = .ok (.getfield 7, 3) := by decide +kernel
theorem dX12_count_132 : decode cX12_count 132 = .ok (.iconst 2, 1) := by decide +kernel
theorem dX12_count_133 : decode cX12_count 133 = .ok (.iaload, 1) := by decide +kernel
theorem dX12_count_134 : decode cX12_count 134 = .ok (.ireturn, 1) := by decide +kernel
theorem dX12_count_135 : decode cX12_count 135 = .ok (.aload_n 0, 1) := by decide +kernel
theorem dX12_count_136 : decode cX12_count 136 = .ok (.ldc 55, 2) := by decide +kernel
theorem dX12_count_138 : decode cX12_count 138 = .ok (.invokevirtual 56, 3) := by decide +kernel
theorem dX12_count_141 : decode cX12_count 141 = .ok (.ireturn, 1) := by decide +kernel
theorem dX12_told_0 : decode cX12_told 0 = .ok (.iload_n 1, 1) := by decide +kernel
theorem dX12_told_1 : decode cX12_told 1 = .ok (.iconst 1, 1) := by decide +kernel
theorem dX12_told_2 : decode cX12_told 2 = .ok (.iconst 5, 1) := by decide +kernel
theorem dX12_told_3 : decode cX12_told 3 = .ok (.invokestatic 47, 3) := by decide +kernel
theorem dX12_told_6 : decode cX12_told 6 = .ok (.ifCond .eq 12, 3) := by decide +kernel
theorem dX12_told_9 : decode cX12_told 9 = .ok (.aload_n 0, 1) := by decide +kernel
theorem dX12_told_10 : decode cX12_told 10 = .ok (.getfield 25, 3) := by decide +kernel
theorem dX12_told_13 : decode cX12_told 13 = .ok (.iload_n 1, 1) := by decide +kernel
theorem dX12_told_14 : decode cX12_told 14 = .ok (.iaload, 1) := by decide +kernel
theorem dX12_told_15 : decode cX12_told 15 = .ok (.goto 9, 3) := by decide +kernel
theorem dX12_told_18 : decode cX12_told 18 = .ok (.aload_n 0, 1) := by decide +kernel
theorem dX12_told_19 : decode cX12_told 19 = .ok (.ldc 55, 2) := by decide +kernel
theorem dX12_told_21 : decode cX12_told 21 = .ok (.invokevirtual 56, 3) := by decide +kernel
theorem dX12_told_24 : decode cX12_told 24 = .ok (.ireturn, 1) := by decide +kernel
end
section
/-! ===== guards: a Lean function of a method is none where an index is out of its row, a divisor 0 ===== -/
def gix {α : Type} (x : Int32) (n : Nat) (k : Nat → Option α) : Option α := if 0 ≤ x.toInt ∧ x.toInt < n then k x.toNatClampNeg else none
theorem gix_open {α : Type} {x : Int32} {n : Nat} {k : Nat → Option α} {u : α} (h : gix x n k = some u) : ∃ j : Nat, x.toNatClampNeg = j ∧ vp_in x n ∧ k j = some u := by
  unfold gix at h
  by_cases q : 0 ≤ x.toInt ∧ x.toInt < n
  · rw [if_pos q] at h
    exact ⟨_, rfl, vp_in_iff.mpr q, h⟩
  · rw [if_neg q] at h
    cases h
theorem gix_ok {α : Type} {x : Int32} {n j : Nat} {k : Nat → Option α} (hx : x = nI j) (hj : j < n) (hn : n < 2 ^ 31) : gix x n k = k j := by
  subst hx
  unfold gix
  rw [nI_toInt (by omega), nI_clamp (by omega), if_pos (by omega)]
def gnz {α : Type} (y : Int32) (k : Option α) : Option α := if y = 0 then none else k
theorem gnz_open {α : Type} {y : Int32} {k : Option α} {u : α} (h : gnz y k = some u) : ¬ y = 0 ∧ k = some u := by
  unfold gnz at h
  by_cases q : y = 0
  · rw [if_pos q] at h
    cases h
  · rw [if_neg q] at h
    exact ⟨q, h⟩
def gz {α : Type} (v : Int32) (k : Option α) : Option α := if v = 0 ∨ v = 1 then k else none
theorem gz_open {α : Type} {v : Int32} {k : Option α} {u : α} (h : gz v k = some u) : (v = 0 ∨ v = 1) ∧ k = some u := by
  unfold gz at h
  by_cases q : v = 0 ∨ v = 1
  · rw [if_pos q] at h
    exact ⟨q, h⟩
  · rw [if_neg q] at h
    cases h
theorem nar_z {v : Int32} (h : v = 0 ∨ v = 1) : narrow .boolean (.int v) = .int v := by
  rcases h with rfl | rfl <;> rfl
def bI {α : Type} (e : Int32) (k : Int32 → Option α) : Option α := k e
theorem bI_open {α : Type} {e : Int32} {k : Int32 → Option α} {u : α} (h : bI e k = some u) : ∃ x : Int32, x = e ∧ k x = some u := ⟨e, rfl, h⟩
def cs {α : Type} (o : Option Int32) (k : Int32 → Option α) : Option α := match o with
  | none => none
  | some r => k r
theorem cs_open {α : Type} {o : Option Int32} {k : Int32 → Option α} {u : α} (h : cs o k = some u) : ∃ r : Int32, o = some r ∧ k r = some u := by
  cases o with
  | none => cases h
  | some r => exact ⟨r, rfl, h⟩
def cb {α σ : Type} (o : Option (Int32 × σ)) (k : Int32 → σ → Option α) : Option α := match o with
  | none => none
  | some r => k r.1 r.2
theorem cb_open {α σ : Type} {o : Option (Int32 × σ)} {k : Int32 → σ → Option α} {u : α} (h : cb o k = some u) : ∃ (r : Int32) (S : σ), o = some (r, S) ∧ k r S = some u := by
  cases o with
  | none => cases h
  | some r => exact ⟨r.1, r.2, rfl, h⟩
theorem ite_t {α : Type} {c : Prop} {inst : Decidable c} {a b u : α} (h : c) (hf : (if c then a else b) = u) : a = u := by
  rw [if_pos h] at hf
  exact hf
theorem ite_f {α : Type} {c : Prop} {inst : Decidable c} {a b u : α} (h : ¬ c) (hf : (if c then a else b) = u) : b = u := by
  rw [if_neg h] at hf
  exact hf
theorem vpc {x : Int32} {n : Nat} (h : decide (0 ≤ x.toInt ∧ x.toInt < n) = true) : vp_in x n := vp_in_iff.mpr (of_decide_eq_true h)
def jrem (x y : Int32) : Int32 := x - x / y * y
def jshl (x y : Int32) : Int32 := x <<< (y &&& 31)
def jshr (x y : Int32) : Int32 := x >>> (y &&& 31)
def jushr (x y : Int32) : Int32 := (x.toUInt32 >>> (y.toUInt32 &&& Int32.toUInt32 31)).toInt32
def ji2b (x : Int32) : Int32 := x.toInt8.toInt32
def ji2s (x : Int32) : Int32 := x.toInt16.toInt32
def ji2c (x : Int32) : Int32 := (x.toUInt32 % 65536).toInt32
def jmin (x y : Int32) : Int32 := if y < x then y else x
def jmax (x y : Int32) : Int32 := if x < y then y else x
def jlshl (x : Int64) (y : Int32) : Int64 := x <<< (y.toInt64 &&& 63)
def jlshr (x : Int64) (y : Int32) : Int64 := x >>> (y.toInt64 &&& 63)
section SHORT
variable {X : Cx} {cc : ByteArray} {nL ce sl pc : Nat} {own : String} {lv lv' : List (Nat × Value)} {st : List Value} {ws : va_W} {dX mcX msX : Nat} {retX : Option FieldType} {PostX : Option Value → va_W → Prop}
theorem g_jrem (hX : Ok X cc nL own) {x y : Int32} (hne : ¬ y = 0) (hdg : decode cc pc = .ok (.irem, 1)) (k : G X nL ce sl (pc + 1) lv (.int (jrem x y) :: st) ws) : G X nL ce sl pc lv (.int y :: .int x :: st) ws := g_irem hX hne hdg k
theorem g_jshl (hX : Ok X cc nL own) {x y : Int32} (hdg : decode cc pc = .ok (.ishl, 1)) (k : G X nL ce sl (pc + 1) lv (.int (jshl x y) :: st) ws) : G X nL ce sl pc lv (.int y :: .int x :: st) ws := g_ishl hX hdg k
theorem g_jshr (hX : Ok X cc nL own) {x y : Int32} (hdg : decode cc pc = .ok (.ishr, 1)) (k : G X nL ce sl (pc + 1) lv (.int (jshr x y) :: st) ws) : G X nL ce sl pc lv (.int y :: .int x :: st) ws := g_ishr hX hdg k
theorem g_jushr (hX : Ok X cc nL own) {x y : Int32} (hdg : decode cc pc = .ok (.iushr, 1)) (k : G X nL ce sl (pc + 1) lv (.int (jushr x y) :: st) ws) : G X nL ce sl pc lv (.int y :: .int x :: st) ws := g_iushr hX hdg k
theorem g_ji2b (hX : Ok X cc nL own) {x : Int32} (hdg : decode cc pc = .ok (.i2b, 1)) (k : G X nL ce sl (pc + 1) lv (.int (ji2b x) :: st) ws) : G X nL ce sl pc lv (.int x :: st) ws := g_i2b hX hdg k
theorem g_ji2s (hX : Ok X cc nL own) {x : Int32} (hdg : decode cc pc = .ok (.i2s, 1)) (k : G X nL ce sl (pc + 1) lv (.int (ji2s x) :: st) ws) : G X nL ce sl pc lv (.int x :: st) ws := g_i2s hX hdg k
theorem g_ji2c (hX : Ok X cc nL own) {x : Int32} (hdg : decode cc pc = .ok (.i2c, 1)) (k : G X nL ce sl (pc + 1) lv (.int (ji2c x) :: st) ws) : G X nL ce sl pc lv (.int x :: st) ws := g_i2c hX hdg k
theorem g_jlshl (hX : Ok X cc nL own) {x : Int64} {y : Int32} (hdg : decode cc pc = .ok (.lshl, 1)) (k : G X nL ce sl (pc + 1) lv (.long (jlshl x y) :: st) ws) : G X nL ce sl pc lv (.int y :: .long x :: st) ws := g_lshl hX hdg k
theorem g_jlshr (hX : Ok X cc nL own) {x : Int64} {y : Int32} (hdg : decode cc pc = .ok (.lshr, 1)) (k : G X nL ce sl (pc + 1) lv (.long (jlshr x y) :: st) ws) : G X nL ce sl pc lv (.int y :: .long x :: st) ws := g_lshr hX hdg k
theorem g_jmin (hX : Ok X cc nL own) (hq : Rq X dX mcX msX retX PostX) {idx : Nat} (hw : KwM own idx Lib.Math.min.name Lib.Math.min.code) (hd : 0 < dX) (hc : ce ≤ mcX) (hs : sl ≤ msX) (hcat : (st.map fun v => v.category).sum ≤ 8) {x y : Int32} (hdg : decode cc pc = .ok (.invokestatic idx, 3)) (kk : G X nL ce sl (pc + 3) lv (.int (jmin x y) :: st) ws) : G X nL ce sl pc lv (.int y :: .int x :: st) ws := g_min hX hq hw hd hc hs hcat hdg kk
theorem g_jmax (hX : Ok X cc nL own) (hq : Rq X dX mcX msX retX PostX) {idx : Nat} (hw : KwM own idx Lib.Math.max.name Lib.Math.max.code) (hd : 0 < dX) (hc : ce ≤ mcX) (hs : sl ≤ msX) (hcat : (st.map fun v => v.category).sum ≤ 8) {x y : Int32} (hdg : decode cc pc = .ok (.invokestatic idx, 3)) (kk : G X nL ce sl (pc + 3) lv (.int (jmax x y) :: st) ws) : G X nL ce sl pc lv (.int y :: .int x :: st) ws := g_max hX hq hw hd hc hs hcat hdg kk
theorem g_tsin (hX : Ok X cc nL own) (tgt : Nat) {x k : Int32} (h : x = k) {dflt lo hi : Int} {offs : Array Int} {len : Nat} {off : Int} (h12 : ¬ k.toInt < lo ∧ ¬ hi < k.toInt) (ho : offs[(k.toInt - lo).toNat]? = some off) (ht : (pc : Int) + off = (tgt : Int)) (hdg : decode cc pc = .ok (.tableswitch dflt lo hi offs, len)) (kk : G X nL ce sl tgt lv st ws) : G X nL ce sl pc lv (.int x :: st) ws := by
  subst h
  exact fun H locs ls hP hD hS h => lv_tableIn hX.hx hX.hb hdg h12.1 h12.2 ho ht (kk H locs ls hP hD hS h)
theorem g_tsout (hX : Ok X cc nL own) (tgt : Nat) {x : Int32} {dflt lo hi : Int} {offs : Array Int} {len : Nat} (h12 : x.toInt < lo ∨ hi < x.toInt) (ht : (pc : Int) + dflt = (tgt : Int)) (hdg : decode cc pc = .ok (.tableswitch dflt lo hi offs, len)) (kk : G X nL ce sl tgt lv st ws) : G X nL ce sl pc lv (.int x :: st) ws :=
  fun H locs ls hP hD hS h => lv_tableOut hX.hx hX.hb hdg h12 ht (kk H locs ls hP hD hS h)
end SHORT
theorem tsw_ne {x k : Int32} (h : ¬ x = k) : ¬ x.toInt = k.toInt := fun q => h (Int32.toInt_inj.mp q)
theorem tsw_out_0_8 {x : Int32} (h0 : ¬ x = 0) (h1 : ¬ x = 1) (h2 : ¬ x = 2) (h3 : ¬ x = 3) (h4 : ¬ x = 4) (h5 : ¬ x = 5) (h6 : ¬ x = 6) (h7 : ¬ x = 7) (h8 : ¬ x = 8) : x.toInt < 0 ∨ 8 < x.toInt := by
  have g0 : ¬ x.toInt = 0 := tsw_ne h0
  have g1 : ¬ x.toInt = 1 := tsw_ne h1
  have g2 : ¬ x.toInt = 2 := tsw_ne h2
  have g3 : ¬ x.toInt = 3 := tsw_ne h3
  have g4 : ¬ x.toInt = 4 := tsw_ne h4
  have g5 : ¬ x.toInt = 5 := tsw_ne h5
  have g6 : ¬ x.toInt = 6 := tsw_ne h6
  have g7 : ¬ x.toInt = 7 := tsw_ne h7
  have g8 : ¬ x.toInt = 8 := tsw_ne h8
  omega
theorem tsw_out_0_2 {x : Int32} (h0 : ¬ x = 0) (h1 : ¬ x = 1) (h2 : ¬ x = 2) : x.toInt < 0 ∨ 2 < x.toInt := by
  have g0 : ¬ x.toInt = 0 := tsw_ne h0
  have g1 : ¬ x.toInt = 1 := tsw_ne h1
  have g2 : ¬ x.toInt = 2 := tsw_ne h2
  omega
theorem tsw_out_0_10 {x : Int32} (h0 : ¬ x = 0) (h1 : ¬ x = 1) (h2 : ¬ x = 2) (h3 : ¬ x = 3) (h4 : ¬ x = 4) (h5 : ¬ x = 5) (h6 : ¬ x = 6) (h7 : ¬ x = 7) (h8 : ¬ x = 8) (h9 : ¬ x = 9) (h10 : ¬ x = 10) : x.toInt < 0 ∨ 10 < x.toInt := by
  have g0 : ¬ x.toInt = 0 := tsw_ne h0
  have g1 : ¬ x.toInt = 1 := tsw_ne h1
  have g2 : ¬ x.toInt = 2 := tsw_ne h2
  have g3 : ¬ x.toInt = 3 := tsw_ne h3
  have g4 : ¬ x.toInt = 4 := tsw_ne h4
  have g5 : ¬ x.toInt = 5 := tsw_ne h5
  have g6 : ¬ x.toInt = 6 := tsw_ne h6
  have g7 : ¬ x.toInt = 7 := tsw_ne h7
  have g8 : ¬ x.toInt = 8 := tsw_ne h8
  have g9 : ¬ x.toInt = 9 := tsw_ne h9
  have g10 : ¬ x.toInt = 10 := tsw_ne h10
  omega
theorem tsw_out_1_6 {x : Int32} (h1 : ¬ x = 1) (h2 : ¬ x = 2) (h3 : ¬ x = 3) (h4 : ¬ x = 4) (h5 : ¬ x = 5) (h6 : ¬ x = 6) : x.toInt < 1 ∨ 6 < x.toInt := by
  have g1 : ¬ x.toInt = 1 := tsw_ne h1
  have g2 : ¬ x.toInt = 2 := tsw_ne h2
  have g3 : ¬ x.toInt = 3 := tsw_ne h3
  have g4 : ¬ x.toInt = 4 := tsw_ne h4
  have g5 : ¬ x.toInt = 5 := tsw_ne h5
  have g6 : ¬ x.toInt = 6 := tsw_ne h6
  omega
theorem tsw_out_3_9 {x : Int32} (h3 : ¬ x = 3) (h4 : ¬ x = 4) (h5 : ¬ x = 5) (h6 : ¬ x = 6) (h7 : ¬ x = 7) (h8 : ¬ x = 8) (h9 : ¬ x = 9) : x.toInt < 3 ∨ 9 < x.toInt := by
  have g3 : ¬ x.toInt = 3 := tsw_ne h3
  have g4 : ¬ x.toInt = 4 := tsw_ne h4
  have g5 : ¬ x.toInt = 5 := tsw_ne h5
  have g6 : ¬ x.toInt = 6 := tsw_ne h6
  have g7 : ¬ x.toInt = 7 := tsw_ne h7
  have g8 : ¬ x.toInt = 8 := tsw_ne h8
  have g9 : ¬ x.toInt = 9 := tsw_ne h9
  omega
theorem tsw_out_1_5 {x : Int32} (h1 : ¬ x = 1) (h2 : ¬ x = 2) (h3 : ¬ x = 3) (h4 : ¬ x = 4) (h5 : ¬ x = 5) : x.toInt < 1 ∨ 5 < x.toInt := by
  have g1 : ¬ x.toInt = 1 := tsw_ne h1
  have g2 : ¬ x.toInt = 2 := tsw_ne h2
  have g3 : ¬ x.toInt = 3 := tsw_ne h3
  have g4 : ¬ x.toInt = 4 := tsw_ne h4
  have g5 : ¬ x.toInt = 5 := tsw_ne h5
  omega
theorem inX12 : ∀ w ∈ u_ws RX12 TX12 29, w ∈ wU := u_inU (fun k hk => match k, hk with
  | 0, _ => wd_5_5
  | 1, _ => wd_5_7
  | 2, _ => wd_5_9
  | 3, _ => wd_5_11
  | 4, _ => wd_5_13
  | 5, _ => wd_5_15
  | 6, _ => wd_5_17
  | 7, _ => wd_5_19
  | 8, _ => wd_5_21
  | 9, _ => wd_5_23
  | 10, _ => wd_5_25
  | 11, _ => wd_5_27
  | 12, _ => wd_5_29
  | 13, _ => wd_5_31
  | 14, _ => wd_5_33
  | 15, _ => wd_5_35
  | 16, _ => wd_5_37
  | 17, _ => wd_5_39
  | 18, _ => wd_5_41
  | 19, _ => wd_5_43
  | 20, _ => wd_5_45
  | 21, _ => wd_5_47
  | 22, _ => wd_5_49
  | 23, _ => wd_5_51
  | 24, _ => wd_5_53
  | 25, _ => wd_5_55
  | 26, _ => wd_5_57
  | 27, _ => wd_5_59
  | 28, _ => wd_5_61
  | k + 29, hk => absurd hk (by omega))
/-! ===== the reference's world ===== -/
abbrev MS : Type := (Nat → Nat → Int32) × (Nat → Int32)
def sF (S : MS) (k : Nat) (v : Int32) : MS := (S.1, upd S.2 k v)
def sA (S : MS) (j i : Nat) (v : Int32) : MS := (fun a => if a = j then upd (S.1 j) i v else S.1 a, S.2)
def sM (S : MS) (a b : Nat) : MS := (fun c => if c = b then S.1 a else S.1 c, S.2)
abbrev mW (E : En) (ad : Nat → Nat) (S : MS) : va_W := [(ad 0, .inr (12, [.ref (ad 1), .ref (ad 2), .ref (ad 3), .ref (ad 4), .ref (ad 5), .int (S.2 0), .int (S.2 1), .ref (ad 6), .int (S.2 2), .int (S.2 3), .int (S.2 4), .int (S.2 5), .int (S.2 6), .int (S.2 7), .int (S.2 8), .int (S.2 9), .int (S.2 10), .int (S.2 11), .int (S.2 12), .ref (ad 7), .ref (ad 8), .ref (ad 9), .ref (ad 10), .ref (ad 11), .ref (ad 12), .int (S.2 13), .int (S.2 14), .int (S.2 15), .int (S.2 16)])), (ad 1, .inl (E.cI, 206, .inl (S.1 1))), (ad 2, .inl (E.cI, 206, .inl (S.1 2))), (ad 3, .inl (E.cI, 206, .inl (S.1 3))), (ad 4, .inl (E.cI, 206, .inl (S.1 4))), (ad 5, .inl (E.cI, 8, .inl (S.1 5))), (ad 6, .inl (E.cI, 6, .inl (S.1 6))), (ad 7, .inl (E.cI, 4, .inl (S.1 7))), (ad 8, .inl (E.cI, 4, .inl (S.1 8))), (ad 9, .inl (E.cI, 160, .inl (S.1 9))), (ad 10, .inl (E.cI, 40, .inl (S.1 10))), (ad 11, .inl (E.cI, 8, .inl (S.1 11))), (ad 12, .inl (E.cI, 40, .inl (S.1 12)))]
section MWR
variable {X : Cx} {cc : ByteArray} {nL ce sl pc : Nat} {lv : List (Nat × Value)} {st : List Value} {ad : Nat → Nat} {S : MS} {dX mcX msX : Nat} {retX : Option FieldType} {PostX : Option Value → va_W → Prop}
theorem mg_row (hX : Ok X cc nL RX12) (hdg : decode cc pc = .ok (.getfield 7, 3)) (kk : G X nL ce sl (pc + 3) lv (.ref (ad 1) :: st) (mW X.E ad S)) : G X nL ce sl pc lv (.ref (ad 0) :: st) (mW X.E ad S) := g_get (C := RX12) (T := TX12) (N := 29) hX inX12 0 rfl rfl 0 (by decide) wd_4_216 (fun _ h => h) rfl hdg kk
theorem ml_row {own : String} (hX : Ok X cc nL own) {i v : Int32} (hin : vp_in i 206) (j : Nat) (hj : i.toNatClampNeg = j) (hv : S.1 1 j = v) (hdg : decode cc pc = .ok (.iaload, 1)) (kk : G X nL ce sl (pc + 1) lv (.int v :: st) (mW X.E ad S)) : G X nL ce sl pc lv (.int i :: .ref (ad 1) :: st) (mW X.E ad S) := by
  subst hv
  exact g_iald hX 1 (n := 206) (f := S.1 1) rfl hin j hj hdg kk
theorem ms_row {own : String} (hX : Ok X cc nL own) {i x : Int32} (hin : vp_in i 206) (j : Nat) (hj : i.toNatClampNeg = j) (hdg : decode cc pc = .ok (.iastore, 1)) (kk : G X nL ce sl (pc + 1) lv st (mW X.E ad (sA S 1 j x))) : G X nL ce sl pc lv (.int x :: .int i :: .ref (ad 1) :: st) (mW X.E ad S) := g_iast hX 1 (n := 206) (f := S.1 1) rfl hin j hj (mW X.E ad (sA S 1 j x)) rfl hdg kk
theorem mg_kept (hX : Ok X cc nL RX12) (hdg : decode cc pc = .ok (.getfield 13, 3)) (kk : G X nL ce sl (pc + 3) lv (.ref (ad 2) :: st) (mW X.E ad S)) : G X nL ce sl pc lv (.ref (ad 0) :: st) (mW X.E ad S) := g_get (C := RX12) (T := TX12) (N := 29) hX inX12 0 rfl rfl 1 (by decide) wd_4_217 (fun _ h => h) rfl hdg kk
theorem ml_kept {own : String} (hX : Ok X cc nL own) {i v : Int32} (hin : vp_in i 206) (j : Nat) (hj : i.toNatClampNeg = j) (hv : S.1 2 j = v) (hdg : decode cc pc = .ok (.iaload, 1)) (kk : G X nL ce sl (pc + 1) lv (.int v :: st) (mW X.E ad S)) : G X nL ce sl pc lv (.int i :: .ref (ad 2) :: st) (mW X.E ad S) := by
  subst hv
  exact g_iald hX 2 (n := 206) (f := S.1 2) rfl hin j hj hdg kk
theorem ms_kept {own : String} (hX : Ok X cc nL own) {i x : Int32} (hin : vp_in i 206) (j : Nat) (hj : i.toNatClampNeg = j) (hdg : decode cc pc = .ok (.iastore, 1)) (kk : G X nL ce sl (pc + 1) lv st (mW X.E ad (sA S 2 j x))) : G X nL ce sl pc lv (.int x :: .int i :: .ref (ad 2) :: st) (mW X.E ad S) := g_iast hX 2 (n := 206) (f := S.1 2) rfl hin j hj (mW X.E ad (sA S 2 j x)) rfl hdg kk
theorem mg_tried (hX : Ok X cc nL RX12) (hdg : decode cc pc = .ok (.getfield 16, 3)) (kk : G X nL ce sl (pc + 3) lv (.ref (ad 3) :: st) (mW X.E ad S)) : G X nL ce sl pc lv (.ref (ad 0) :: st) (mW X.E ad S) := g_get (C := RX12) (T := TX12) (N := 29) hX inX12 0 rfl rfl 2 (by decide) wd_4_218 (fun _ h => h) rfl hdg kk
theorem ml_tried {own : String} (hX : Ok X cc nL own) {i v : Int32} (hin : vp_in i 206) (j : Nat) (hj : i.toNatClampNeg = j) (hv : S.1 3 j = v) (hdg : decode cc pc = .ok (.iaload, 1)) (kk : G X nL ce sl (pc + 1) lv (.int v :: st) (mW X.E ad S)) : G X nL ce sl pc lv (.int i :: .ref (ad 3) :: st) (mW X.E ad S) := by
  subst hv
  exact g_iald hX 3 (n := 206) (f := S.1 3) rfl hin j hj hdg kk
theorem ms_tried {own : String} (hX : Ok X cc nL own) {i x : Int32} (hin : vp_in i 206) (j : Nat) (hj : i.toNatClampNeg = j) (hdg : decode cc pc = .ok (.iastore, 1)) (kk : G X nL ce sl (pc + 1) lv st (mW X.E ad (sA S 3 j x))) : G X nL ce sl pc lv (.int x :: .int i :: .ref (ad 3) :: st) (mW X.E ad S) := g_iast hX 3 (n := 206) (f := S.1 3) rfl hin j hj (mW X.E ad (sA S 3 j x)) rfl hdg kk
theorem mg_before (hX : Ok X cc nL RX12) (hdg : decode cc pc = .ok (.getfield 19, 3)) (kk : G X nL ce sl (pc + 3) lv (.ref (ad 4) :: st) (mW X.E ad S)) : G X nL ce sl pc lv (.ref (ad 0) :: st) (mW X.E ad S) := g_get (C := RX12) (T := TX12) (N := 29) hX inX12 0 rfl rfl 3 (by decide) wd_4_219 (fun _ h => h) rfl hdg kk
theorem ml_before {own : String} (hX : Ok X cc nL own) {i v : Int32} (hin : vp_in i 206) (j : Nat) (hj : i.toNatClampNeg = j) (hv : S.1 4 j = v) (hdg : decode cc pc = .ok (.iaload, 1)) (kk : G X nL ce sl (pc + 1) lv (.int v :: st) (mW X.E ad S)) : G X nL ce sl pc lv (.int i :: .ref (ad 4) :: st) (mW X.E ad S) := by
  subst hv
  exact g_iald hX 4 (n := 206) (f := S.1 4) rfl hin j hj hdg kk
theorem ms_before {own : String} (hX : Ok X cc nL own) {i x : Int32} (hin : vp_in i 206) (j : Nat) (hj : i.toNatClampNeg = j) (hdg : decode cc pc = .ok (.iastore, 1)) (kk : G X nL ce sl (pc + 1) lv st (mW X.E ad (sA S 4 j x))) : G X nL ce sl pc lv (.int x :: .int i :: .ref (ad 4) :: st) (mW X.E ad S) := g_iast hX 4 (n := 206) (f := S.1 4) rfl hin j hj (mW X.E ad (sA S 4 j x)) rfl hdg kk
theorem mg_power (hX : Ok X cc nL RX12) (hdg : decode cc pc = .ok (.getfield 22, 3)) (kk : G X nL ce sl (pc + 3) lv (.ref (ad 5) :: st) (mW X.E ad S)) : G X nL ce sl pc lv (.ref (ad 0) :: st) (mW X.E ad S) := g_get (C := RX12) (T := TX12) (N := 29) hX inX12 0 rfl rfl 4 (by decide) wd_4_220 (fun _ h => h) rfl hdg kk
theorem ml_power {own : String} (hX : Ok X cc nL own) {i v : Int32} (hin : vp_in i 8) (j : Nat) (hj : i.toNatClampNeg = j) (hv : S.1 5 j = v) (hdg : decode cc pc = .ok (.iaload, 1)) (kk : G X nL ce sl (pc + 1) lv (.int v :: st) (mW X.E ad S)) : G X nL ce sl pc lv (.int i :: .ref (ad 5) :: st) (mW X.E ad S) := by
  subst hv
  exact g_iald hX 5 (n := 8) (f := S.1 5) rfl hin j hj hdg kk
theorem ms_power {own : String} (hX : Ok X cc nL own) {i x : Int32} (hin : vp_in i 8) (j : Nat) (hj : i.toNatClampNeg = j) (hdg : decode cc pc = .ok (.iastore, 1)) (kk : G X nL ce sl (pc + 1) lv st (mW X.E ad (sA S 5 j x))) : G X nL ce sl pc lv (.int x :: .int i :: .ref (ad 5) :: st) (mW X.E ad S) := g_iast hX 5 (n := 8) (f := S.1 5) rfl hin j hj (mW X.E ad (sA S 5 j x)) rfl hdg kk
theorem mg_isKept (hX : Ok X cc nL RX12) {v : Int32} (hv : S.2 0 = v) (hdg : decode cc pc = .ok (.getfield 251, 3)) (kk : G X nL ce sl (pc + 3) lv (.int v :: st) (mW X.E ad S)) : G X nL ce sl pc lv (.ref (ad 0) :: st) (mW X.E ad S) := by
  subst hv
  exact g_get (C := RX12) (T := TX12) (N := 29) hX inX12 0 rfl rfl 5 (by decide) wd_4_221 (fun _ h => h) rfl hdg kk
theorem mp_isKept (hX : Ok X cc nL RX12) {v : Int32} (hz : v = 0 ∨ v = 1) (hdg : decode cc pc = .ok (.putfield 251, 3)) (kk : G X nL ce sl (pc + 3) lv st (mW X.E ad (sF S 0 v))) : G X nL ce sl pc lv (.int v :: .ref (ad 0) :: st) (mW X.E ad S) := g_put (C := RX12) (T := TX12) (N := 29) (ty := .boolean) hX inX12 tyX12 tyX12_ok nmX12 0 rfl rfl 5 (by decide) wd_4_221 (fun _ h => h) rfl (by decide +kernel) (nar_z hz) (by rcases hz with rfl | rfl <;> rfl) (Nat.le_of_ble_eq_true rfl) (mW X.E ad (sF S 0 v)) rfl hdg kk
theorem mg_images (hX : Ok X cc nL RX12) {v : Int32} (hv : S.2 1 = v) (hdg : decode cc pc = .ok (.getfield 254, 3)) (kk : G X nL ce sl (pc + 3) lv (.int v :: st) (mW X.E ad S)) : G X nL ce sl pc lv (.ref (ad 0) :: st) (mW X.E ad S) := by
  subst hv
  exact g_get (C := RX12) (T := TX12) (N := 29) hX inX12 0 rfl rfl 6 (by decide) wd_4_222 (fun _ h => h) rfl hdg kk
theorem mp_images (hX : Ok X cc nL RX12) {v : Int32} (hdg : decode cc pc = .ok (.putfield 254, 3)) (kk : G X nL ce sl (pc + 3) lv st (mW X.E ad (sF S 1 v))) : G X nL ce sl pc lv (.int v :: .ref (ad 0) :: st) (mW X.E ad S) := g_put (C := RX12) (T := TX12) (N := 29) (ty := .int) hX inX12 tyX12 tyX12_ok nmX12 0 rfl rfl 6 (by decide) wd_4_222 (fun _ h => h) rfl (by decide +kernel) rfl rfl (Nat.le_of_ble_eq_true rfl) (mW X.E ad (sF S 1 v)) rfl hdg kk
theorem mg_found (hX : Ok X cc nL RX12) (hdg : decode cc pc = .ok (.getfield 25, 3)) (kk : G X nL ce sl (pc + 3) lv (.ref (ad 6) :: st) (mW X.E ad S)) : G X nL ce sl pc lv (.ref (ad 0) :: st) (mW X.E ad S) := g_get (C := RX12) (T := TX12) (N := 29) hX inX12 0 rfl rfl 7 (by decide) wd_4_223 (fun _ h => h) rfl hdg kk
theorem ml_found {own : String} (hX : Ok X cc nL own) {i v : Int32} (hin : vp_in i 6) (j : Nat) (hj : i.toNatClampNeg = j) (hv : S.1 6 j = v) (hdg : decode cc pc = .ok (.iaload, 1)) (kk : G X nL ce sl (pc + 1) lv (.int v :: st) (mW X.E ad S)) : G X nL ce sl pc lv (.int i :: .ref (ad 6) :: st) (mW X.E ad S) := by
  subst hv
  exact g_iald hX 6 (n := 6) (f := S.1 6) rfl hin j hj hdg kk
theorem ms_found {own : String} (hX : Ok X cc nL own) {i x : Int32} (hin : vp_in i 6) (j : Nat) (hj : i.toNatClampNeg = j) (hdg : decode cc pc = .ok (.iastore, 1)) (kk : G X nL ce sl (pc + 1) lv st (mW X.E ad (sA S 6 j x))) : G X nL ce sl pc lv (.int x :: .int i :: .ref (ad 6) :: st) (mW X.E ad S) := g_iast hX 6 (n := 6) (f := S.1 6) rfl hin j hj (mW X.E ad (sA S 6 j x)) rfl hdg kk
theorem mg_as (hX : Ok X cc nL RX12) {v : Int32} (hv : S.2 2 = v) (hdg : decode cc pc = .ok (.getfield 65, 3)) (kk : G X nL ce sl (pc + 3) lv (.int v :: st) (mW X.E ad S)) : G X nL ce sl pc lv (.ref (ad 0) :: st) (mW X.E ad S) := by
  subst hv
  exact g_get (C := RX12) (T := TX12) (N := 29) hX inX12 0 rfl rfl 8 (by decide) wd_4_224 (fun _ h => h) rfl hdg kk
theorem mp_as (hX : Ok X cc nL RX12) {v : Int32} (hdg : decode cc pc = .ok (.putfield 65, 3)) (kk : G X nL ce sl (pc + 3) lv st (mW X.E ad (sF S 2 v))) : G X nL ce sl pc lv (.int v :: .ref (ad 0) :: st) (mW X.E ad S) := g_put (C := RX12) (T := TX12) (N := 29) (ty := .int) hX inX12 tyX12 tyX12_ok nmX12 0 rfl rfl 8 (by decide) wd_4_224 (fun _ h => h) rfl (by decide +kernel) rfl rfl (Nat.le_of_ble_eq_true rfl) (mW X.E ad (sF S 2 v)) rfl hdg kk
theorem mg_other (hX : Ok X cc nL RX12) {v : Int32} (hv : S.2 3 = v) (hdg : decode cc pc = .ok (.getfield 69, 3)) (kk : G X nL ce sl (pc + 3) lv (.int v :: st) (mW X.E ad S)) : G X nL ce sl pc lv (.ref (ad 0) :: st) (mW X.E ad S) := by
  subst hv
  exact g_get (C := RX12) (T := TX12) (N := 29) hX inX12 0 rfl rfl 9 (by decide) wd_4_225 (fun _ h => h) rfl hdg kk
theorem mp_other (hX : Ok X cc nL RX12) {v : Int32} (hdg : decode cc pc = .ok (.putfield 69, 3)) (kk : G X nL ce sl (pc + 3) lv st (mW X.E ad (sF S 3 v))) : G X nL ce sl pc lv (.int v :: .ref (ad 0) :: st) (mW X.E ad S) := g_put (C := RX12) (T := TX12) (N := 29) (ty := .int) hX inX12 tyX12 tyX12_ok nmX12 0 rfl rfl 9 (by decide) wd_4_225 (fun _ h => h) rfl (by decide +kernel) rfl rfl (Nat.le_of_ble_eq_true rfl) (mW X.E ad (sF S 3 v)) rfl hdg kk
theorem mg_fresh (hX : Ok X cc nL RX12) {v : Int32} (hv : S.2 4 = v) (hdg : decode cc pc = .ok (.getfield 72, 3)) (kk : G X nL ce sl (pc + 3) lv (.int v :: st) (mW X.E ad S)) : G X nL ce sl pc lv (.ref (ad 0) :: st) (mW X.E ad S) := by
  subst hv
  exact g_get (C := RX12) (T := TX12) (N := 29) hX inX12 0 rfl rfl 10 (by decide) wd_4_226 (fun _ h => h) rfl hdg kk
theorem mp_fresh (hX : Ok X cc nL RX12) {v : Int32} (hdg : decode cc pc = .ok (.putfield 72, 3)) (kk : G X nL ce sl (pc + 3) lv st (mW X.E ad (sF S 4 v))) : G X nL ce sl pc lv (.int v :: .ref (ad 0) :: st) (mW X.E ad S) := g_put (C := RX12) (T := TX12) (N := 29) (ty := .int) hX inX12 tyX12 tyX12_ok nmX12 0 rfl rfl 10 (by decide) wd_4_226 (fun _ h => h) rfl (by decide +kernel) rfl rfl (Nat.le_of_ble_eq_true rfl) (mW X.E ad (sF S 4 v)) rfl hdg kk
theorem mg_use (hX : Ok X cc nL RX12) {v : Int32} (hv : S.2 5 = v) (hdg : decode cc pc = .ok (.getfield 120, 3)) (kk : G X nL ce sl (pc + 3) lv (.int v :: st) (mW X.E ad S)) : G X nL ce sl pc lv (.ref (ad 0) :: st) (mW X.E ad S) := by
  subst hv
  exact g_get (C := RX12) (T := TX12) (N := 29) hX inX12 0 rfl rfl 11 (by decide) wd_4_227 (fun _ h => h) rfl hdg kk
theorem mp_use (hX : Ok X cc nL RX12) {v : Int32} (hdg : decode cc pc = .ok (.putfield 120, 3)) (kk : G X nL ce sl (pc + 3) lv st (mW X.E ad (sF S 5 v))) : G X nL ce sl pc lv (.int v :: .ref (ad 0) :: st) (mW X.E ad S) := g_put (C := RX12) (T := TX12) (N := 29) (ty := .int) hX inX12 tyX12 tyX12_ok nmX12 0 rfl rfl 11 (by decide) wd_4_227 (fun _ h => h) rfl (by decide +kernel) rfl rfl (Nat.le_of_ble_eq_true rfl) (mW X.E ad (sF S 5 v)) rfl hdg kk
theorem mg_at (hX : Ok X cc nL RX12) {v : Int32} (hv : S.2 6 = v) (hdg : decode cc pc = .ok (.getfield 127, 3)) (kk : G X nL ce sl (pc + 3) lv (.int v :: st) (mW X.E ad S)) : G X nL ce sl pc lv (.ref (ad 0) :: st) (mW X.E ad S) := by
  subst hv
  exact g_get (C := RX12) (T := TX12) (N := 29) hX inX12 0 rfl rfl 12 (by decide) wd_4_228 (fun _ h => h) rfl hdg kk
theorem mp_at (hX : Ok X cc nL RX12) {v : Int32} (hdg : decode cc pc = .ok (.putfield 127, 3)) (kk : G X nL ce sl (pc + 3) lv st (mW X.E ad (sF S 6 v))) : G X nL ce sl pc lv (.int v :: .ref (ad 0) :: st) (mW X.E ad S) := g_put (C := RX12) (T := TX12) (N := 29) (ty := .int) hX inX12 tyX12 tyX12_ok nmX12 0 rfl rfl 12 (by decide) wd_4_228 (fun _ h => h) rfl (by decide +kernel) rfl rfl (Nat.le_of_ble_eq_true rfl) (mW X.E ad (sF S 6 v)) rfl hdg kk
theorem mg_end (hX : Ok X cc nL RX12) {v : Int32} (hv : S.2 7 = v) (hdg : decode cc pc = .ok (.getfield 117, 3)) (kk : G X nL ce sl (pc + 3) lv (.int v :: st) (mW X.E ad S)) : G X nL ce sl pc lv (.ref (ad 0) :: st) (mW X.E ad S) := by
  subst hv
  exact g_get (C := RX12) (T := TX12) (N := 29) hX inX12 0 rfl rfl 13 (by decide) wd_4_229 (fun _ h => h) rfl hdg kk
theorem mp_end (hX : Ok X cc nL RX12) {v : Int32} (hdg : decode cc pc = .ok (.putfield 117, 3)) (kk : G X nL ce sl (pc + 3) lv st (mW X.E ad (sF S 7 v))) : G X nL ce sl pc lv (.int v :: .ref (ad 0) :: st) (mW X.E ad S) := g_put (C := RX12) (T := TX12) (N := 29) (ty := .int) hX inX12 tyX12 tyX12_ok nmX12 0 rfl rfl 13 (by decide) wd_4_229 (fun _ h => h) rfl (by decide +kernel) rfl rfl (Nat.le_of_ble_eq_true rfl) (mW X.E ad (sF S 7 v)) rfl hdg kk
theorem mg_open (hX : Ok X cc nL RX12) {v : Int32} (hv : S.2 8 = v) (hdg : decode cc pc = .ok (.getfield 154, 3)) (kk : G X nL ce sl (pc + 3) lv (.int v :: st) (mW X.E ad S)) : G X nL ce sl pc lv (.ref (ad 0) :: st) (mW X.E ad S) := by
  subst hv
  exact g_get (C := RX12) (T := TX12) (N := 29) hX inX12 0 rfl rfl 14 (by decide) wd_4_230 (fun _ h => h) rfl hdg kk
theorem mp_open (hX : Ok X cc nL RX12) {v : Int32} (hdg : decode cc pc = .ok (.putfield 154, 3)) (kk : G X nL ce sl (pc + 3) lv st (mW X.E ad (sF S 8 v))) : G X nL ce sl pc lv (.int v :: .ref (ad 0) :: st) (mW X.E ad S) := g_put (C := RX12) (T := TX12) (N := 29) (ty := .int) hX inX12 tyX12 tyX12_ok nmX12 0 rfl rfl 14 (by decide) wd_4_230 (fun _ h => h) rfl (by decide +kernel) rfl rfl (Nat.le_of_ble_eq_true rfl) (mW X.E ad (sF S 8 v)) rfl hdg kk
theorem mg_namedA (hX : Ok X cc nL RX12) {v : Int32} (hv : S.2 9 = v) (hdg : decode cc pc = .ok (.getfield 139, 3)) (kk : G X nL ce sl (pc + 3) lv (.int v :: st) (mW X.E ad S)) : G X nL ce sl pc lv (.ref (ad 0) :: st) (mW X.E ad S) := by
  subst hv
  exact g_get (C := RX12) (T := TX12) (N := 29) hX inX12 0 rfl rfl 15 (by decide) wd_4_231 (fun _ h => h) rfl hdg kk
theorem mp_namedA (hX : Ok X cc nL RX12) {v : Int32} (hdg : decode cc pc = .ok (.putfield 139, 3)) (kk : G X nL ce sl (pc + 3) lv st (mW X.E ad (sF S 9 v))) : G X nL ce sl pc lv (.int v :: .ref (ad 0) :: st) (mW X.E ad S) := g_put (C := RX12) (T := TX12) (N := 29) (ty := .int) hX inX12 tyX12 tyX12_ok nmX12 0 rfl rfl 15 (by decide) wd_4_231 (fun _ h => h) rfl (by decide +kernel) rfl rfl (Nat.le_of_ble_eq_true rfl) (mW X.E ad (sF S 9 v)) rfl hdg kk
theorem mg_namedB (hX : Ok X cc nL RX12) {v : Int32} (hv : S.2 10 = v) (hdg : decode cc pc = .ok (.getfield 142, 3)) (kk : G X nL ce sl (pc + 3) lv (.int v :: st) (mW X.E ad S)) : G X nL ce sl pc lv (.ref (ad 0) :: st) (mW X.E ad S) := by
  subst hv
  exact g_get (C := RX12) (T := TX12) (N := 29) hX inX12 0 rfl rfl 16 (by decide) wd_4_232 (fun _ h => h) rfl hdg kk
theorem mp_namedB (hX : Ok X cc nL RX12) {v : Int32} (hdg : decode cc pc = .ok (.putfield 142, 3)) (kk : G X nL ce sl (pc + 3) lv st (mW X.E ad (sF S 10 v))) : G X nL ce sl pc lv (.int v :: .ref (ad 0) :: st) (mW X.E ad S) := g_put (C := RX12) (T := TX12) (N := 29) (ty := .int) hX inX12 tyX12 tyX12_ok nmX12 0 rfl rfl 16 (by decide) wd_4_232 (fun _ h => h) rfl (by decide +kernel) rfl rfl (Nat.le_of_ble_eq_true rfl) (mW X.E ad (sF S 10 v)) rfl hdg kk
theorem mg_namedC (hX : Ok X cc nL RX12) {v : Int32} (hv : S.2 11 = v) (hdg : decode cc pc = .ok (.getfield 145, 3)) (kk : G X nL ce sl (pc + 3) lv (.int v :: st) (mW X.E ad S)) : G X nL ce sl pc lv (.ref (ad 0) :: st) (mW X.E ad S) := by
  subst hv
  exact g_get (C := RX12) (T := TX12) (N := 29) hX inX12 0 rfl rfl 17 (by decide) wd_4_233 (fun _ h => h) rfl hdg kk
theorem mp_namedC (hX : Ok X cc nL RX12) {v : Int32} (hdg : decode cc pc = .ok (.putfield 145, 3)) (kk : G X nL ce sl (pc + 3) lv st (mW X.E ad (sF S 11 v))) : G X nL ce sl pc lv (.int v :: .ref (ad 0) :: st) (mW X.E ad S) := g_put (C := RX12) (T := TX12) (N := 29) (ty := .int) hX inX12 tyX12 tyX12_ok nmX12 0 rfl rfl 17 (by decide) wd_4_233 (fun _ h => h) rfl (by decide +kernel) rfl rfl (Nat.le_of_ble_eq_true rfl) (mW X.E ad (sF S 11 v)) rfl hdg kk
theorem mg_good (hX : Ok X cc nL RX12) {v : Int32} (hv : S.2 12 = v) (hdg : decode cc pc = .ok (.getfield 123, 3)) (kk : G X nL ce sl (pc + 3) lv (.int v :: st) (mW X.E ad S)) : G X nL ce sl pc lv (.ref (ad 0) :: st) (mW X.E ad S) := by
  subst hv
  exact g_get (C := RX12) (T := TX12) (N := 29) hX inX12 0 rfl rfl 18 (by decide) wd_4_234 (fun _ h => h) rfl hdg kk
theorem mp_good (hX : Ok X cc nL RX12) {v : Int32} (hz : v = 0 ∨ v = 1) (hdg : decode cc pc = .ok (.putfield 123, 3)) (kk : G X nL ce sl (pc + 3) lv st (mW X.E ad (sF S 12 v))) : G X nL ce sl pc lv (.int v :: .ref (ad 0) :: st) (mW X.E ad S) := g_put (C := RX12) (T := TX12) (N := 29) (ty := .boolean) hX inX12 tyX12 tyX12_ok nmX12 0 rfl rfl 18 (by decide) wd_4_234 (fun _ h => h) rfl (by decide +kernel) (nar_z hz) (by rcases hz with rfl | rfl <;> rfl) (Nat.le_of_ble_eq_true rfl) (mW X.E ad (sF S 12 v)) rfl hdg kk
theorem mg_bitsOf (hX : Ok X cc nL RX12) (hdg : decode cc pc = .ok (.getfield 28, 3)) (kk : G X nL ce sl (pc + 3) lv (.ref (ad 7) :: st) (mW X.E ad S)) : G X nL ce sl pc lv (.ref (ad 0) :: st) (mW X.E ad S) := g_get (C := RX12) (T := TX12) (N := 29) hX inX12 0 rfl rfl 19 (by decide) wd_4_235 (fun _ h => h) rfl hdg kk
theorem ml_bitsOf {own : String} (hX : Ok X cc nL own) {i v : Int32} (hin : vp_in i 4) (j : Nat) (hj : i.toNatClampNeg = j) (hv : S.1 7 j = v) (hdg : decode cc pc = .ok (.iaload, 1)) (kk : G X nL ce sl (pc + 1) lv (.int v :: st) (mW X.E ad S)) : G X nL ce sl pc lv (.int i :: .ref (ad 7) :: st) (mW X.E ad S) := by
  subst hv
  exact g_iald hX 7 (n := 4) (f := S.1 7) rfl hin j hj hdg kk
theorem ms_bitsOf {own : String} (hX : Ok X cc nL own) {i x : Int32} (hin : vp_in i 4) (j : Nat) (hj : i.toNatClampNeg = j) (hdg : decode cc pc = .ok (.iastore, 1)) (kk : G X nL ce sl (pc + 1) lv st (mW X.E ad (sA S 7 j x))) : G X nL ce sl pc lv (.int x :: .int i :: .ref (ad 7) :: st) (mW X.E ad S) := g_iast hX 7 (n := 4) (f := S.1 7) rfl hin j hj (mW X.E ad (sA S 7 j x)) rfl hdg kk
theorem mg_sizeOf (hX : Ok X cc nL RX12) (hdg : decode cc pc = .ok (.getfield 31, 3)) (kk : G X nL ce sl (pc + 3) lv (.ref (ad 8) :: st) (mW X.E ad S)) : G X nL ce sl pc lv (.ref (ad 0) :: st) (mW X.E ad S) := g_get (C := RX12) (T := TX12) (N := 29) hX inX12 0 rfl rfl 20 (by decide) wd_4_236 (fun _ h => h) rfl hdg kk
theorem ml_sizeOf {own : String} (hX : Ok X cc nL own) {i v : Int32} (hin : vp_in i 4) (j : Nat) (hj : i.toNatClampNeg = j) (hv : S.1 8 j = v) (hdg : decode cc pc = .ok (.iaload, 1)) (kk : G X nL ce sl (pc + 1) lv (.int v :: st) (mW X.E ad S)) : G X nL ce sl pc lv (.int i :: .ref (ad 8) :: st) (mW X.E ad S) := by
  subst hv
  exact g_iald hX 8 (n := 4) (f := S.1 8) rfl hin j hj hdg kk
theorem ms_sizeOf {own : String} (hX : Ok X cc nL own) {i x : Int32} (hin : vp_in i 4) (j : Nat) (hj : i.toNatClampNeg = j) (hdg : decode cc pc = .ok (.iastore, 1)) (kk : G X nL ce sl (pc + 1) lv st (mW X.E ad (sA S 8 j x))) : G X nL ce sl pc lv (.int x :: .int i :: .ref (ad 8) :: st) (mW X.E ad S) := g_iast hX 8 (n := 4) (f := S.1 8) rfl hin j hj (mW X.E ad (sA S 8 j x)) rfl hdg kk
theorem mg_sheets (hX : Ok X cc nL RX12) (hdg : decode cc pc = .ok (.getfield 34, 3)) (kk : G X nL ce sl (pc + 3) lv (.ref (ad 9) :: st) (mW X.E ad S)) : G X nL ce sl pc lv (.ref (ad 0) :: st) (mW X.E ad S) := g_get (C := RX12) (T := TX12) (N := 29) hX inX12 0 rfl rfl 21 (by decide) wd_4_237 (fun _ h => h) rfl hdg kk
theorem ml_sheets {own : String} (hX : Ok X cc nL own) {i v : Int32} (hin : vp_in i 160) (j : Nat) (hj : i.toNatClampNeg = j) (hv : S.1 9 j = v) (hdg : decode cc pc = .ok (.iaload, 1)) (kk : G X nL ce sl (pc + 1) lv (.int v :: st) (mW X.E ad S)) : G X nL ce sl pc lv (.int i :: .ref (ad 9) :: st) (mW X.E ad S) := by
  subst hv
  exact g_iald hX 9 (n := 160) (f := S.1 9) rfl hin j hj hdg kk
theorem ms_sheets {own : String} (hX : Ok X cc nL own) {i x : Int32} (hin : vp_in i 160) (j : Nat) (hj : i.toNatClampNeg = j) (hdg : decode cc pc = .ok (.iastore, 1)) (kk : G X nL ce sl (pc + 1) lv st (mW X.E ad (sA S 9 j x))) : G X nL ce sl pc lv (.int x :: .int i :: .ref (ad 9) :: st) (mW X.E ad S) := g_iast hX 9 (n := 160) (f := S.1 9) rfl hin j hj (mW X.E ad (sA S 9 j x)) rfl hdg kk
theorem mg_moved (hX : Ok X cc nL RX12) (hdg : decode cc pc = .ok (.getfield 37, 3)) (kk : G X nL ce sl (pc + 3) lv (.ref (ad 10) :: st) (mW X.E ad S)) : G X nL ce sl pc lv (.ref (ad 0) :: st) (mW X.E ad S) := g_get (C := RX12) (T := TX12) (N := 29) hX inX12 0 rfl rfl 22 (by decide) wd_4_238 (fun _ h => h) rfl hdg kk
theorem ml_moved {own : String} (hX : Ok X cc nL own) {i v : Int32} (hin : vp_in i 40) (j : Nat) (hj : i.toNatClampNeg = j) (hv : S.1 10 j = v) (hdg : decode cc pc = .ok (.iaload, 1)) (kk : G X nL ce sl (pc + 1) lv (.int v :: st) (mW X.E ad S)) : G X nL ce sl pc lv (.int i :: .ref (ad 10) :: st) (mW X.E ad S) := by
  subst hv
  exact g_iald hX 10 (n := 40) (f := S.1 10) rfl hin j hj hdg kk
theorem ms_moved {own : String} (hX : Ok X cc nL own) {i x : Int32} (hin : vp_in i 40) (j : Nat) (hj : i.toNatClampNeg = j) (hdg : decode cc pc = .ok (.iastore, 1)) (kk : G X nL ce sl (pc + 1) lv st (mW X.E ad (sA S 10 j x))) : G X nL ce sl pc lv (.int x :: .int i :: .ref (ad 10) :: st) (mW X.E ad S) := g_iast hX 10 (n := 40) (f := S.1 10) rfl hin j hj (mW X.E ad (sA S 10 j x)) rfl hdg kk
theorem mg_floors (hX : Ok X cc nL RX12) (hdg : decode cc pc = .ok (.getfield 40, 3)) (kk : G X nL ce sl (pc + 3) lv (.ref (ad 11) :: st) (mW X.E ad S)) : G X nL ce sl pc lv (.ref (ad 0) :: st) (mW X.E ad S) := g_get (C := RX12) (T := TX12) (N := 29) hX inX12 0 rfl rfl 23 (by decide) wd_4_239 (fun _ h => h) rfl hdg kk
theorem ml_floors {own : String} (hX : Ok X cc nL own) {i v : Int32} (hin : vp_in i 8) (j : Nat) (hj : i.toNatClampNeg = j) (hv : S.1 11 j = v) (hdg : decode cc pc = .ok (.iaload, 1)) (kk : G X nL ce sl (pc + 1) lv (.int v :: st) (mW X.E ad S)) : G X nL ce sl pc lv (.int i :: .ref (ad 11) :: st) (mW X.E ad S) := by
  subst hv
  exact g_iald hX 11 (n := 8) (f := S.1 11) rfl hin j hj hdg kk
theorem ms_floors {own : String} (hX : Ok X cc nL own) {i x : Int32} (hin : vp_in i 8) (j : Nat) (hj : i.toNatClampNeg = j) (hdg : decode cc pc = .ok (.iastore, 1)) (kk : G X nL ce sl (pc + 1) lv st (mW X.E ad (sA S 11 j x))) : G X nL ce sl pc lv (.int x :: .int i :: .ref (ad 11) :: st) (mW X.E ad S) := g_iast hX 11 (n := 8) (f := S.1 11) rfl hin j hj (mW X.E ad (sA S 11 j x)) rfl hdg kk
theorem mg_traced (hX : Ok X cc nL RX12) (hdg : decode cc pc = .ok (.getfield 43, 3)) (kk : G X nL ce sl (pc + 3) lv (.ref (ad 12) :: st) (mW X.E ad S)) : G X nL ce sl pc lv (.ref (ad 0) :: st) (mW X.E ad S) := g_get (C := RX12) (T := TX12) (N := 29) hX inX12 0 rfl rfl 24 (by decide) wd_5_0 (fun _ h => h) rfl hdg kk
theorem ml_traced {own : String} (hX : Ok X cc nL own) {i v : Int32} (hin : vp_in i 40) (j : Nat) (hj : i.toNatClampNeg = j) (hv : S.1 12 j = v) (hdg : decode cc pc = .ok (.iaload, 1)) (kk : G X nL ce sl (pc + 1) lv (.int v :: st) (mW X.E ad S)) : G X nL ce sl pc lv (.int i :: .ref (ad 12) :: st) (mW X.E ad S) := by
  subst hv
  exact g_iald hX 12 (n := 40) (f := S.1 12) rfl hin j hj hdg kk
theorem ms_traced {own : String} (hX : Ok X cc nL own) {i x : Int32} (hin : vp_in i 40) (j : Nat) (hj : i.toNatClampNeg = j) (hdg : decode cc pc = .ok (.iastore, 1)) (kk : G X nL ce sl (pc + 1) lv st (mW X.E ad (sA S 12 j x))) : G X nL ce sl pc lv (.int x :: .int i :: .ref (ad 12) :: st) (mW X.E ad S) := g_iast hX 12 (n := 40) (f := S.1 12) rfl hin j hj (mW X.E ad (sA S 12 j x)) rfl hdg kk
theorem mg_tracedMany (hX : Ok X cc nL RX12) {v : Int32} (hv : S.2 13 = v) (hdg : decode cc pc = .ok (.getfield 221, 3)) (kk : G X nL ce sl (pc + 3) lv (.int v :: st) (mW X.E ad S)) : G X nL ce sl pc lv (.ref (ad 0) :: st) (mW X.E ad S) := by
  subst hv
  exact g_get (C := RX12) (T := TX12) (N := 29) hX inX12 0 rfl rfl 25 (by decide) wd_5_1 (fun _ h => h) rfl hdg kk
theorem mp_tracedMany (hX : Ok X cc nL RX12) {v : Int32} (hdg : decode cc pc = .ok (.putfield 221, 3)) (kk : G X nL ce sl (pc + 3) lv st (mW X.E ad (sF S 13 v))) : G X nL ce sl pc lv (.int v :: .ref (ad 0) :: st) (mW X.E ad S) := g_put (C := RX12) (T := TX12) (N := 29) (ty := .int) hX inX12 tyX12 tyX12_ok nmX12 0 rfl rfl 25 (by decide) wd_5_1 (fun _ h => h) rfl (by decide +kernel) rfl rfl (Nat.le_of_ble_eq_true rfl) (mW X.E ad (sF S 13 v)) rfl hdg kk
theorem mg_voiceKind (hX : Ok X cc nL RX12) {v : Int32} (hv : S.2 14 = v) (hdg : decode cc pc = .ok (.getfield 239, 3)) (kk : G X nL ce sl (pc + 3) lv (.int v :: st) (mW X.E ad S)) : G X nL ce sl pc lv (.ref (ad 0) :: st) (mW X.E ad S) := by
  subst hv
  exact g_get (C := RX12) (T := TX12) (N := 29) hX inX12 0 rfl rfl 26 (by decide) wd_5_2 (fun _ h => h) rfl hdg kk
theorem mp_voiceKind (hX : Ok X cc nL RX12) {v : Int32} (hdg : decode cc pc = .ok (.putfield 239, 3)) (kk : G X nL ce sl (pc + 3) lv st (mW X.E ad (sF S 14 v))) : G X nL ce sl pc lv (.int v :: .ref (ad 0) :: st) (mW X.E ad S) := g_put (C := RX12) (T := TX12) (N := 29) (ty := .int) hX inX12 tyX12 tyX12_ok nmX12 0 rfl rfl 26 (by decide) wd_5_2 (fun _ h => h) rfl (by decide +kernel) rfl rfl (Nat.le_of_ble_eq_true rfl) (mW X.E ad (sF S 14 v)) rfl hdg kk
theorem mg_voiceN (hX : Ok X cc nL RX12) {v : Int32} (hv : S.2 15 = v) (hdg : decode cc pc = .ok (.getfield 227, 3)) (kk : G X nL ce sl (pc + 3) lv (.int v :: st) (mW X.E ad S)) : G X nL ce sl pc lv (.ref (ad 0) :: st) (mW X.E ad S) := by
  subst hv
  exact g_get (C := RX12) (T := TX12) (N := 29) hX inX12 0 rfl rfl 27 (by decide) wd_5_3 (fun _ h => h) rfl hdg kk
theorem mp_voiceN (hX : Ok X cc nL RX12) {v : Int32} (hdg : decode cc pc = .ok (.putfield 227, 3)) (kk : G X nL ce sl (pc + 3) lv st (mW X.E ad (sF S 15 v))) : G X nL ce sl pc lv (.int v :: .ref (ad 0) :: st) (mW X.E ad S) := g_put (C := RX12) (T := TX12) (N := 29) (ty := .int) hX inX12 tyX12 tyX12_ok nmX12 0 rfl rfl 27 (by decide) wd_5_3 (fun _ h => h) rfl (by decide +kernel) rfl rfl (Nat.le_of_ble_eq_true rfl) (mW X.E ad (sF S 15 v)) rfl hdg kk
theorem mg_voiceM (hX : Ok X cc nL RX12) {v : Int32} (hv : S.2 16 = v) (hdg : decode cc pc = .ok (.getfield 233, 3)) (kk : G X nL ce sl (pc + 3) lv (.int v :: st) (mW X.E ad S)) : G X nL ce sl pc lv (.ref (ad 0) :: st) (mW X.E ad S) := by
  subst hv
  exact g_get (C := RX12) (T := TX12) (N := 29) hX inX12 0 rfl rfl 28 (by decide) wd_5_4 (fun _ h => h) rfl hdg kk
theorem mp_voiceM (hX : Ok X cc nL RX12) {v : Int32} (hdg : decode cc pc = .ok (.putfield 233, 3)) (kk : G X nL ce sl (pc + 3) lv st (mW X.E ad (sF S 16 v))) : G X nL ce sl pc lv (.int v :: .ref (ad 0) :: st) (mW X.E ad S) := g_put (C := RX12) (T := TX12) (N := 29) (ty := .int) hX inX12 tyX12 tyX12_ok nmX12 0 rfl rfl 28 (by decide) wd_5_4 (fun _ h => h) rfl (by decide +kernel) rfl rfl (Nat.le_of_ble_eq_true rfl) (mW X.E ad (sF S 16 v)) rfl hdg kk
end MWR
end
section
theorem app0 (ws : va_W) : ws ++ ([] ++ []) = ws := by rw [List.append_nil, List.append_nil]
theorem app1 (ws : va_W) : [] ++ (ws ++ []) = ws := by rw [List.append_nil, List.nil_append]
def f_X12_in_14 : Option Int32 :=
  some 0
def f_X12_in (a0 : Int32) (a1 : Int32) (a2 : Int32) : Option Int32 :=
  if (a0 < a1 : Prop) then
    f_X12_in_14 
  else
    if (a2 < a0 : Prop) then
      f_X12_in_14 
    else
      some 1
set_option maxRecDepth 100000 in
set_option maxHeartbeats 4000000 in
theorem t_X12_in_14 {X : Cx} {PostX : Option Value → va_W → Prop} (hX : Ok X cX12_in 3 RX12) (hq : Rq X 0 0 0 (some .boolean) PostX) {u : Int32} (hp : PostX (some (.int u)) [])  (hf : f_X12_in_14  = some u) : G X 3 0 0 14 [] [] [] := by
  unfold f_X12_in_14 at hf
  refine g_iconst hX (v := 0) (by decide) dX12_in_14 ?_
  cases hf
  exact g_zret hX hq (by decide) (by decide) (by rfl) hp dX12_in_15
set_option maxRecDepth 100000 in
set_option maxHeartbeats 4000000 in
theorem t_X12_in_0 {X : Cx} {PostX : Option Value → va_W → Prop} (hX : Ok X cX12_in 3 RX12) (hq : Rq X 0 0 0 (some .boolean) PostX) {u : Int32} (hp : PostX (some (.int u)) []) (a0 : Int32) (a1 : Int32) (a2 : Int32) (hf : f_X12_in a0 a1 a2 = some u) : G X 3 0 0 0 [(0, .int a0), (1, .int a1), (2, .int a2)] [] [] := by
  unfold f_X12_in at hf
  refine g_iloadn hX 0 rfl rfl dX12_in_0 ?_
  refine g_iloadn hX 1 rfl rfl dX12_in_1 ?_
  refine g_icmp_lt hX 14 (by decide) dX12_in_2 (fun c1 => ?_) (fun c1 => ?_)
  · have hf := ite_t c1 hf
    refine g_lv [] rfl ?_
    exact t_X12_in_14 hX hq hp  hf
  · have hf := ite_f c1 hf
    refine g_iloadn hX 0 rfl rfl dX12_in_5 ?_
    refine g_iloadn hX 2 rfl rfl dX12_in_6 ?_
    refine g_icmp_gt hX 14 (by decide) dX12_in_7 (fun c2 => ?_) (fun c2 => ?_)
    · have hf := ite_t c2 hf
      refine g_lv [] rfl ?_
      exact t_X12_in_14 hX hq hp  hf
    · have hf := ite_f c2 hf
      refine g_iconst hX (v := 1) (by decide) dX12_in_10 ?_
      refine g_goto hX 15 (by decide) dX12_in_11 ?_
      cases hf
      exact g_zret hX hq (by decide) (by decide) (by rfl) hp dX12_in_15
theorem c_X12_in {l : Launch} {E : En} {a0 a1 a2 r : Int32} (hf : f_X12_in a0 a1 a2 = some r) : CP l E yX12_in cX12_in 3 (some .boolean) 0 0 0 [] [.int a0, .int a1, .int a2] [] (fun rv w => rv = some (.int r) ∧ w = []) :=
  CP.of (lv := [(0, .int a0), (1, .int a1), (2, .int a2)]) (by decide +kernel) (Nat.le_of_ble_eq_true rfl) rfl (fun X hl hE hro hX hq hn => t_X12_in_0 hX hq ⟨rfl, rfl⟩ a0 a1 a2 hf)
theorem kw_RX12_X12_in : KwS RX12 47 yX12_in cX12_in 3 (some .boolean) 3 := ⟨mem_wsS wd_5_71 wd_5_72 wd_1_19 wd_5_73, ⟨by decide +kernel, by decide +kernel, by decide +kernel⟩, by decide⟩
theorem k_RX12_X12_in {X : Cx} {cc : ByteArray} {nL ce sl pc : Nat} {lv : List (Nat × Value)} {st : List Value} {dX mcX msX : Nat} {retX : Option FieldType} {PostX : Option Value → va_W → Prop} {ws : va_W} (hX : Ok X cc nL RX12) (hq : Rq X dX mcX msX retX PostX) {a0 a1 a2 r : Int32} (hf : f_X12_in a0 a1 a2 = some r) (hd : 0 < dX) (hc : ce ≤ mcX) (hs : sl ≤ msX) (hcat : (st.map fun v => v.category).sum ≤ 8) (hdg : decode cc pc = .ok (.invokestatic 47, 3)) (kk : G X nL ce sl (pc + 3) lv (.int r :: st) ws) : G X nL ce sl pc lv (.int a2 :: .int a1 :: .int a0 :: st) ws :=
  g_eqW (app0 ws) (g_callS (pre := ws) (mid := []) (post := []) [.int a0, .int a1, .int a2] hX hq kw_RX12_X12_in (c_X12_in hf) (fun _ h => absurd h List.not_mem_nil) hd hc hs rfl rfl hcat hdg (fun rv ws2 hp => by obtain ⟨rfl, rfl⟩ := hp; exact g_eqW (app0 ws).symm kk))
def f_X12_held (a0 : Int32) (a1 : Int32) (a2 : Int32) : Option Int32 :=
  if (a1 ≤ a0 : Prop) then
    if (a0 ≤ a2 : Prop) then
      some a0
    else
      some a2
  else
    some a1
set_option maxRecDepth 100000 in
set_option maxHeartbeats 4000000 in
theorem t_X12_held_0 {X : Cx} {PostX : Option Value → va_W → Prop} (hX : Ok X cX12_held 3 RX12) (hq : Rq X 0 0 0 (some .int) PostX) {u : Int32} (hp : PostX (some (.int u)) []) (a0 : Int32) (a1 : Int32) (a2 : Int32) (hf : f_X12_held a0 a1 a2 = some u) : G X 3 0 0 0 [(0, .int a0), (1, .int a1), (2, .int a2)] [] [] := by
  unfold f_X12_held at hf
  refine g_iloadn hX 0 rfl rfl dX12_held_0 ?_
  refine g_iloadn hX 1 rfl rfl dX12_held_1 ?_
  refine g_icmp_ge hX 9 (by decide) dX12_held_2 (fun c1 => ?_) (fun c1 => ?_)
  · have hf := ite_t c1 hf
    refine g_iloadn hX 0 rfl rfl dX12_held_9 ?_
    refine g_iloadn hX 2 rfl rfl dX12_held_10 ?_
    refine g_icmp_le hX 18 (by decide) dX12_held_11 (fun c2 => ?_) (fun c2 => ?_)
    · have hf := ite_t c2 hf
      refine g_iloadn hX 0 rfl rfl dX12_held_18 ?_
      cases hf
      exact g_iret hX hq (by decide) (by decide) hp dX12_held_19
    · have hf := ite_f c2 hf
      refine g_iloadn hX 2 rfl rfl dX12_held_14 ?_
      refine g_goto hX 19 (by decide) dX12_held_15 ?_
      cases hf
      exact g_iret hX hq (by decide) (by decide) hp dX12_held_19
  · have hf := ite_f c1 hf
    refine g_iloadn hX 1 rfl rfl dX12_held_5 ?_
    refine g_goto hX 19 (by decide) dX12_held_6 ?_
    cases hf
    exact g_iret hX hq (by decide) (by decide) hp dX12_held_19
theorem c_X12_held {l : Launch} {E : En} {a0 a1 a2 r : Int32} (hf : f_X12_held a0 a1 a2 = some r) : CP l E yX12_held cX12_held 3 (some .int) 0 0 0 [] [.int a0, .int a1, .int a2] [] (fun rv w => rv = some (.int r) ∧ w = []) :=
  CP.of (lv := [(0, .int a0), (1, .int a1), (2, .int a2)]) (by decide +kernel) (Nat.le_of_ble_eq_true rfl) rfl (fun X hl hE hro hX hq hn => t_X12_held_0 hX hq ⟨rfl, rfl⟩ a0 a1 a2 hf)
theorem kw_RX12_X12_held : KwS RX12 93 yX12_held cX12_held 3 (some .int) 3 := ⟨mem_wsS wd_5_176 wd_5_177 wd_1_19 wd_5_178, ⟨by decide +kernel, by decide +kernel, by decide +kernel⟩, by decide⟩
theorem k_RX12_X12_held {X : Cx} {cc : ByteArray} {nL ce sl pc : Nat} {lv : List (Nat × Value)} {st : List Value} {dX mcX msX : Nat} {retX : Option FieldType} {PostX : Option Value → va_W → Prop} {ws : va_W} (hX : Ok X cc nL RX12) (hq : Rq X dX mcX msX retX PostX) {a0 a1 a2 r : Int32} (hf : f_X12_held a0 a1 a2 = some r) (hd : 0 < dX) (hc : ce ≤ mcX) (hs : sl ≤ msX) (hcat : (st.map fun v => v.category).sum ≤ 8) (hdg : decode cc pc = .ok (.invokestatic 93, 3)) (kk : G X nL ce sl (pc + 3) lv (.int r :: st) ws) : G X nL ce sl pc lv (.int a2 :: .int a1 :: .int a0 :: st) ws :=
  g_eqW (app0 ws) (g_callS (pre := ws) (mid := []) (post := []) [.int a0, .int a1, .int a2] hX hq kw_RX12_X12_held (c_X12_held hf) (fun _ h => absurd h List.not_mem_nil) hd hc hs rfl rfl hcat hdg (fun rv ws2 hp => by obtain ⟨rfl, rfl⟩ := hp; exact g_eqW (app0 ws).symm kk))
def f_X12_isFact (a0 : Int32) : Option Int32 :=
  cs (f_X12_in a0 0 7) fun r1 =>
  gz r1 <| some r1
set_option maxRecDepth 100000 in
set_option maxHeartbeats 4000000 in
theorem t_X12_isFact_0 {X : Cx} {PostX : Option Value → va_W → Prop} (hX : Ok X cX12_isFact 1 RX12) (hq : Rq X 1 0 0 (some .boolean) PostX) {u : Int32} (hp : PostX (some (.int u)) []) (a0 : Int32) (hf : f_X12_isFact a0 = some u) : G X 1 0 0 0 [(0, .int a0)] [] [] := by
  unfold f_X12_isFact at hf
  refine g_iloadn hX 0 rfl rfl dX12_isFact_0 ?_
  refine g_iconst hX (v := 0) (by decide) dX12_isFact_1 ?_
  refine g_bipush hX (v := 7) (by decide) dX12_isFact_2 ?_
  obtain ⟨r1, h2, hf⟩ := cs_open hf
  refine k_RX12_X12_in hX hq h2 (by decide) (by decide) (by decide) (by decide) dX12_isFact_4 ?_
  obtain ⟨h3, hf⟩ := gz_open hf
  cases hf
  exact g_zret hX hq (by decide) (by decide) (nar_z h3) hp dX12_isFact_7
theorem c_X12_isFact {l : Launch} {E : En} {a0 r : Int32} (hf : f_X12_isFact a0 = some r) : CP l E yX12_isFact cX12_isFact 1 (some .boolean) 1 0 0 [] [.int a0] [] (fun rv w => rv = some (.int r) ∧ w = []) :=
  CP.of (lv := [(0, .int a0)]) (by decide +kernel) (Nat.le_of_ble_eq_true rfl) rfl (fun X hl hE hro hX hq hn => t_X12_isFact_0 hX hq ⟨rfl, rfl⟩ a0 hf)
theorem kw_RX12_X12_isFact : KwS RX12 51 yX12_isFact cX12_isFact 1 (some .boolean) 1 := ⟨mem_wsS wd_5_68 wd_5_69 wd_1_19 wd_5_70, ⟨by decide +kernel, by decide +kernel, by decide +kernel⟩, by decide⟩
theorem k_RX12_X12_isFact {X : Cx} {cc : ByteArray} {nL ce sl pc : Nat} {lv : List (Nat × Value)} {st : List Value} {dX mcX msX : Nat} {retX : Option FieldType} {PostX : Option Value → va_W → Prop} {ws : va_W} (hX : Ok X cc nL RX12) (hq : Rq X dX mcX msX retX PostX) {a0 r : Int32} (hf : f_X12_isFact a0 = some r) (hd : 1 < dX) (hc : ce ≤ mcX) (hs : sl ≤ msX) (hcat : (st.map fun v => v.category).sum ≤ 8) (hdg : decode cc pc = .ok (.invokestatic 51, 3)) (kk : G X nL ce sl (pc + 3) lv (.int r :: st) ws) : G X nL ce sl pc lv (.int a0 :: st) ws :=
  g_eqW (app0 ws) (g_callS (pre := ws) (mid := []) (post := []) [.int a0] hX hq kw_RX12_X12_isFact (c_X12_isFact hf) (fun _ h => absurd h List.not_mem_nil) hd hc hs rfl rfl hcat hdg (fun rv ws2 hp => by obtain ⟨rfl, rfl⟩ := hp; exact g_eqW (app0 ws).symm kk))
def f_X12_isFloor (a0 : Int32) : Option Int32 :=
  cs (f_X12_in a0 0 9) fun r1 =>
  gz r1 <| some r1
set_option maxRecDepth 100000 in
set_option maxHeartbeats 4000000 in
theorem t_X12_isFloor_0 {X : Cx} {PostX : Option Value → va_W → Prop} (hX : Ok X cX12_isFloor 1 RX12) (hq : Rq X 1 0 0 (some .boolean) PostX) {u : Int32} (hp : PostX (some (.int u)) []) (a0 : Int32) (hf : f_X12_isFloor a0 = some u) : G X 1 0 0 0 [(0, .int a0)] [] [] := by
  unfold f_X12_isFloor at hf
  refine g_iloadn hX 0 rfl rfl dX12_isFloor_0 ?_
  refine g_iconst hX (v := 0) (by decide) dX12_isFloor_1 ?_
  refine g_bipush hX (v := 9) (by decide) dX12_isFloor_2 ?_
  obtain ⟨r1, h2, hf⟩ := cs_open hf
  refine k_RX12_X12_in hX hq h2 (by decide) (by decide) (by decide) (by decide) dX12_isFloor_4 ?_
  obtain ⟨h3, hf⟩ := gz_open hf
  cases hf
  exact g_zret hX hq (by decide) (by decide) (nar_z h3) hp dX12_isFloor_7
theorem c_X12_isFloor {l : Launch} {E : En} {a0 r : Int32} (hf : f_X12_isFloor a0 = some r) : CP l E yX12_isFloor cX12_isFloor 1 (some .boolean) 1 0 0 [] [.int a0] [] (fun rv w => rv = some (.int r) ∧ w = []) :=
  CP.of (lv := [(0, .int a0)]) (by decide +kernel) (Nat.le_of_ble_eq_true rfl) rfl (fun X hl hE hro hX hq hn => t_X12_isFloor_0 hX hq ⟨rfl, rfl⟩ a0 hf)
theorem kw_RX12_X12_isFloor : KwS RX12 204 yX12_isFloor cX12_isFloor 1 (some .boolean) 1 := ⟨mem_wsS wd_6_37 wd_6_38 wd_1_19 wd_6_39, ⟨by decide +kernel, by decide +kernel, by decide +kernel⟩, by decide⟩
theorem k_RX12_X12_isFloor {X : Cx} {cc : ByteArray} {nL ce sl pc : Nat} {lv : List (Nat × Value)} {st : List Value} {dX mcX msX : Nat} {retX : Option FieldType} {PostX : Option Value → va_W → Prop} {ws : va_W} (hX : Ok X cc nL RX12) (hq : Rq X dX mcX msX retX PostX) {a0 r : Int32} (hf : f_X12_isFloor a0 = some r) (hd : 1 < dX) (hc : ce ≤ mcX) (hs : sl ≤ msX) (hcat : (st.map fun v => v.category).sum ≤ 8) (hdg : decode cc pc = .ok (.invokestatic 204, 3)) (kk : G X nL ce sl (pc + 3) lv (.int r :: st) ws) : G X nL ce sl pc lv (.int a0 :: st) ws :=
  g_eqW (app0 ws) (g_callS (pre := ws) (mid := []) (post := []) [.int a0] hX hq kw_RX12_X12_isFloor (c_X12_isFloor hf) (fun _ h => absurd h List.not_mem_nil) hd hc hs rfl rfl hcat hdg (fun rv ws2 hp => by obtain ⟨rfl, rfl⟩ := hp; exact g_eqW (app0 ws).symm kk))
def f_X12_isSheet (a0 : Int32) : Option Int32 :=
  cs (f_X12_in a0 0 3) fun r1 =>
  gz r1 <| some r1
set_option maxRecDepth 100000 in
set_option maxHeartbeats 4000000 in
theorem t_X12_isSheet_0 {X : Cx} {PostX : Option Value → va_W → Prop} (hX : Ok X cX12_isSheet 1 RX12) (hq : Rq X 1 0 0 (some .boolean) PostX) {u : Int32} (hp : PostX (some (.int u)) []) (a0 : Int32) (hf : f_X12_isSheet a0 = some u) : G X 1 0 0 0 [(0, .int a0)] [] [] := by
  unfold f_X12_isSheet at hf
  refine g_iloadn hX 0 rfl rfl dX12_isSheet_0 ?_
  refine g_iconst hX (v := 0) (by decide) dX12_isSheet_1 ?_
  refine g_iconst hX (v := 3) (by decide) dX12_isSheet_2 ?_
  obtain ⟨r1, h2, hf⟩ := cs_open hf
  refine k_RX12_X12_in hX hq h2 (by decide) (by decide) (by decide) (by decide) dX12_isSheet_3 ?_
  obtain ⟨h3, hf⟩ := gz_open hf
  cases hf
  exact g_zret hX hq (by decide) (by decide) (nar_z h3) hp dX12_isSheet_6
theorem c_X12_isSheet {l : Launch} {E : En} {a0 r : Int32} (hf : f_X12_isSheet a0 = some r) : CP l E yX12_isSheet cX12_isSheet 1 (some .boolean) 1 0 0 [] [.int a0] [] (fun rv w => rv = some (.int r) ∧ w = []) :=
  CP.of (lv := [(0, .int a0)]) (by decide +kernel) (Nat.le_of_ble_eq_true rfl) rfl (fun X hl hE hro hX hq hn => t_X12_isSheet_0 hX hq ⟨rfl, rfl⟩ a0 hf)
theorem kw_RX12_X12_isSheet : KwS RX12 212 yX12_isSheet cX12_isSheet 1 (some .boolean) 1 := ⟨mem_wsS wd_6_73 wd_6_74 wd_1_19 wd_6_75, ⟨by decide +kernel, by decide +kernel, by decide +kernel⟩, by decide⟩
theorem k_RX12_X12_isSheet {X : Cx} {cc : ByteArray} {nL ce sl pc : Nat} {lv : List (Nat × Value)} {st : List Value} {dX mcX msX : Nat} {retX : Option FieldType} {PostX : Option Value → va_W → Prop} {ws : va_W} (hX : Ok X cc nL RX12) (hq : Rq X dX mcX msX retX PostX) {a0 r : Int32} (hf : f_X12_isSheet a0 = some r) (hd : 1 < dX) (hc : ce ≤ mcX) (hs : sl ≤ msX) (hcat : (st.map fun v => v.category).sum ≤ 8) (hdg : decode cc pc = .ok (.invokestatic 212, 3)) (kk : G X nL ce sl (pc + 3) lv (.int r :: st) ws) : G X nL ce sl pc lv (.int a0 :: st) ws :=
  g_eqW (app0 ws) (g_callS (pre := ws) (mid := []) (post := []) [.int a0] hX hq kw_RX12_X12_isSheet (c_X12_isSheet hf) (fun _ h => absurd h List.not_mem_nil) hd hc hs rfl rfl hcat hdg (fun rv ws2 hp => by obtain ⟨rfl, rfl⟩ := hp; exact g_eqW (app0 ws).symm kk))
def f_X12_isDigit (a0 : Int32) : Option Int32 :=
  cs (f_X12_in a0 48 57) fun r1 =>
  gz r1 <| some r1
set_option maxRecDepth 100000 in
set_option maxHeartbeats 4000000 in
theorem t_X12_isDigit_0 {X : Cx} {PostX : Option Value → va_W → Prop} (hX : Ok X cX12_isDigit 1 RX12) (hq : Rq X 1 0 0 (some .boolean) PostX) {u : Int32} (hp : PostX (some (.int u)) []) (a0 : Int32) (hf : f_X12_isDigit a0 = some u) : G X 1 0 0 0 [(0, .int a0)] [] [] := by
  unfold f_X12_isDigit at hf
  refine g_iloadn hX 0 rfl rfl dX12_isDigit_0 ?_
  refine g_bipush hX (v := 48) (by decide) dX12_isDigit_1 ?_
  refine g_bipush hX (v := 57) (by decide) dX12_isDigit_3 ?_
  obtain ⟨r1, h2, hf⟩ := cs_open hf
  refine k_RX12_X12_in hX hq h2 (by decide) (by decide) (by decide) (by decide) dX12_isDigit_5 ?_
  obtain ⟨h3, hf⟩ := gz_open hf
  cases hf
  exact g_zret hX hq (by decide) (by decide) (nar_z h3) hp dX12_isDigit_8
theorem c_X12_isDigit {l : Launch} {E : En} {a0 r : Int32} (hf : f_X12_isDigit a0 = some r) : CP l E yX12_isDigit cX12_isDigit 1 (some .boolean) 1 0 0 [] [.int a0] [] (fun rv w => rv = some (.int r) ∧ w = []) :=
  CP.of (lv := [(0, .int a0)]) (by decide +kernel) (Nat.le_of_ble_eq_true rfl) rfl (fun X hl hE hro hX hq hn => t_X12_isDigit_0 hX hq ⟨rfl, rfl⟩ a0 hf)
theorem kw_RX12_X12_isDigit : KwS RX12 133 yX12_isDigit cX12_isDigit 1 (some .boolean) 1 := ⟨mem_wsS wd_5_161 wd_5_162 wd_1_19 wd_5_163, ⟨by decide +kernel, by decide +kernel, by decide +kernel⟩, by decide⟩
theorem k_RX12_X12_isDigit {X : Cx} {cc : ByteArray} {nL ce sl pc : Nat} {lv : List (Nat × Value)} {st : List Value} {dX mcX msX : Nat} {retX : Option FieldType} {PostX : Option Value → va_W → Prop} {ws : va_W} (hX : Ok X cc nL RX12) (hq : Rq X dX mcX msX retX PostX) {a0 r : Int32} (hf : f_X12_isDigit a0 = some r) (hd : 1 < dX) (hc : ce ≤ mcX) (hs : sl ≤ msX) (hcat : (st.map fun v => v.category).sum ≤ 8) (hdg : decode cc pc = .ok (.invokestatic 133, 3)) (kk : G X nL ce sl (pc + 3) lv (.int r :: st) ws) : G X nL ce sl pc lv (.int a0 :: st) ws :=
  g_eqW (app0 ws) (g_callS (pre := ws) (mid := []) (post := []) [.int a0] hX hq kw_RX12_X12_isDigit (c_X12_isDigit hf) (fun _ h => absurd h List.not_mem_nil) hd hc hs rfl rfl hcat hdg (fun rv ws2 hp => by obtain ⟨rfl, rfl⟩ := hp; exact g_eqW (app0 ws).symm kk))
def f_X12_above (a0 : Int32) : Option Int32 :=
  if (a0 = 0 : Prop) then
    some (-1)
  else
    if (a0 = 4 : Prop) then
      some 1
    else
      if (a0 = 5 : Prop) then
        some 2
      else
        if (a0 = 6 : Prop) then
          some 3
        else
          some 0
set_option maxRecDepth 100000 in
set_option maxHeartbeats 4000000 in
theorem t_X12_above_0 {X : Cx} {PostX : Option Value → va_W → Prop} (hX : Ok X cX12_above 1 RX12) (hq : Rq X 0 0 0 (some .int) PostX) {u : Int32} (hp : PostX (some (.int u)) []) (a0 : Int32) (hf : f_X12_above a0 = some u) : G X 1 0 0 0 [(0, .int a0)] [] [] := by
  unfold f_X12_above at hf
  refine g_iloadn hX 0 rfl rfl dX12_above_0 ?_
  refine g_if_ne hX 8 (by decide) dX12_above_1 (fun c1 => ?_) (fun c1 => ?_)
  · have hf := ite_f c1 hf
    refine g_iloadn hX 0 rfl rfl dX12_above_8 ?_
    refine g_iconst hX (v := 4) (by decide) dX12_above_9 ?_
    refine g_icmp_ne hX 17 (by decide) dX12_above_10 (fun c2 => ?_) (fun c2 => ?_)
    · have hf := ite_f c2 hf
      refine g_iloadn hX 0 rfl rfl dX12_above_17 ?_
      refine g_iconst hX (v := 5) (by decide) dX12_above_18 ?_
      refine g_icmp_ne hX 26 (by decide) dX12_above_19 (fun c3 => ?_) (fun c3 => ?_)
      · have hf := ite_f c3 hf
        refine g_iloadn hX 0 rfl rfl dX12_above_26 ?_
        refine g_bipush hX (v := 6) (by decide) dX12_above_27 ?_
        refine g_icmp_ne hX 36 (by decide) dX12_above_29 (fun c4 => ?_) (fun c4 => ?_)
        · have hf := ite_f c4 hf
          refine g_iconst hX (v := 0) (by decide) dX12_above_36 ?_
          cases hf
          exact g_iret hX hq (by decide) (by decide) hp dX12_above_37
        · have hf := ite_t c4 hf
          refine g_iconst hX (v := 3) (by decide) dX12_above_32 ?_
          refine g_goto hX 37 (by decide) dX12_above_33 ?_
          cases hf
          exact g_iret hX hq (by decide) (by decide) hp dX12_above_37
      · have hf := ite_t c3 hf
        refine g_iconst hX (v := 2) (by decide) dX12_above_22 ?_
        refine g_goto hX 37 (by decide) dX12_above_23 ?_
        cases hf
        exact g_iret hX hq (by decide) (by decide) hp dX12_above_37
    · have hf := ite_t c2 hf
      refine g_iconst hX (v := 1) (by decide) dX12_above_13 ?_
      refine g_goto hX 37 (by decide) dX12_above_14 ?_
      cases hf
      exact g_iret hX hq (by decide) (by decide) hp dX12_above_37
  · have hf := ite_t c1 hf
    refine g_iconst hX (v := (-1)) (by decide) dX12_above_4 ?_
    refine g_goto hX 37 (by decide) dX12_above_5 ?_
    cases hf
    exact g_iret hX hq (by decide) (by decide) hp dX12_above_37
theorem c_X12_above {l : Launch} {E : En} {a0 r : Int32} (hf : f_X12_above a0 = some r) : CP l E yX12_above cX12_above 1 (some .int) 0 0 0 [] [.int a0] [] (fun rv w => rv = some (.int r) ∧ w = []) :=
  CP.of (lv := [(0, .int a0)]) (by decide +kernel) (Nat.le_of_ble_eq_true rfl) rfl (fun X hl hE hro hX hq hn => t_X12_above_0 hX hq ⟨rfl, rfl⟩ a0 hf)
theorem kw_RX12_X12_above : KwS RX12 113 yX12_above cX12_above 1 (some .int) 1 := ⟨mem_wsS wd_5_211 wd_5_212 wd_1_19 wd_5_213, ⟨by decide +kernel, by decide +kernel, by decide +kernel⟩, by decide⟩
theorem k_RX12_X12_above {X : Cx} {cc : ByteArray} {nL ce sl pc : Nat} {lv : List (Nat × Value)} {st : List Value} {dX mcX msX : Nat} {retX : Option FieldType} {PostX : Option Value → va_W → Prop} {ws : va_W} (hX : Ok X cc nL RX12) (hq : Rq X dX mcX msX retX PostX) {a0 r : Int32} (hf : f_X12_above a0 = some r) (hd : 0 < dX) (hc : ce ≤ mcX) (hs : sl ≤ msX) (hcat : (st.map fun v => v.category).sum ≤ 8) (hdg : decode cc pc = .ok (.invokestatic 113, 3)) (kk : G X nL ce sl (pc + 3) lv (.int r :: st) ws) : G X nL ce sl pc lv (.int a0 :: st) ws :=
  g_eqW (app0 ws) (g_callS (pre := ws) (mid := []) (post := []) [.int a0] hX hq kw_RX12_X12_above (c_X12_above hf) (fun _ h => absurd h List.not_mem_nil) hd hc hs rfl rfl hcat hdg (fun rv ws2 hp => by obtain ⟨rfl, rfl⟩ := hp; exact g_eqW (app0 ws).symm kk))
def f_X12_narrow (a0 : Int32) (a1 : Int32) : Option Int32 :=
  if (a0 = 8 : Prop) then
    some (ji2b a1)
  else
    if (a0 = 16 : Prop) then
      some (ji2s a1)
    else
      some a1
set_option maxRecDepth 100000 in
set_option maxHeartbeats 4000000 in
theorem t_X12_narrow_0 {X : Cx} {PostX : Option Value → va_W → Prop} (hX : Ok X cX12_narrow 2 RX12) (hq : Rq X 0 0 0 (some .int) PostX) {u : Int32} (hp : PostX (some (.int u)) []) (a0 : Int32) (a1 : Int32) (hf : f_X12_narrow a0 a1 = some u) : G X 2 0 0 0 [(0, .int a0), (1, .int a1)] [] [] := by
  unfold f_X12_narrow at hf
  refine g_iloadn hX 0 rfl rfl dX12_narrow_0 ?_
  refine g_bipush hX (v := 8) (by decide) dX12_narrow_1 ?_
  refine g_icmp_ne hX 11 (by decide) dX12_narrow_3 (fun c1 => ?_) (fun c1 => ?_)
  · have hf := ite_f c1 hf
    refine g_iloadn hX 0 rfl rfl dX12_narrow_11 ?_
    refine g_bipush hX (v := 16) (by decide) dX12_narrow_12 ?_
    refine g_icmp_ne hX 22 (by decide) dX12_narrow_14 (fun c2 => ?_) (fun c2 => ?_)
    · have hf := ite_f c2 hf
      refine g_iloadn hX 1 rfl rfl dX12_narrow_22 ?_
      cases hf
      exact g_iret hX hq (by decide) (by decide) hp dX12_narrow_23
    · have hf := ite_t c2 hf
      refine g_iloadn hX 1 rfl rfl dX12_narrow_17 ?_
      refine g_ji2s hX dX12_narrow_18 ?_
      refine g_goto hX 23 (by decide) dX12_narrow_19 ?_
      cases hf
      exact g_iret hX hq (by decide) (by decide) hp dX12_narrow_23
  · have hf := ite_t c1 hf
    refine g_iloadn hX 1 rfl rfl dX12_narrow_6 ?_
    refine g_ji2b hX dX12_narrow_7 ?_
    refine g_goto hX 23 (by decide) dX12_narrow_8 ?_
    cases hf
    exact g_iret hX hq (by decide) (by decide) hp dX12_narrow_23
theorem c_X12_narrow {l : Launch} {E : En} {a0 a1 r : Int32} (hf : f_X12_narrow a0 a1 = some r) : CP l E yX12_narrow cX12_narrow 2 (some .int) 0 0 0 [] [.int a0, .int a1] [] (fun rv w => rv = some (.int r) ∧ w = []) :=
  CP.of (lv := [(0, .int a0), (1, .int a1)]) (by decide +kernel) (Nat.le_of_ble_eq_true rfl) rfl (fun X hl hE hro hX hq hn => t_X12_narrow_0 hX hq ⟨rfl, rfl⟩ a0 a1 hf)
theorem kw_RX12_X12_narrow : KwS RX12 248 yX12_narrow cX12_narrow 2 (some .int) 2 := ⟨mem_wsS wd_6_128 wd_6_129 wd_1_19 wd_6_130, ⟨by decide +kernel, by decide +kernel, by decide +kernel⟩, by decide⟩
theorem k_RX12_X12_narrow {X : Cx} {cc : ByteArray} {nL ce sl pc : Nat} {lv : List (Nat × Value)} {st : List Value} {dX mcX msX : Nat} {retX : Option FieldType} {PostX : Option Value → va_W → Prop} {ws : va_W} (hX : Ok X cc nL RX12) (hq : Rq X dX mcX msX retX PostX) {a0 a1 r : Int32} (hf : f_X12_narrow a0 a1 = some r) (hd : 0 < dX) (hc : ce ≤ mcX) (hs : sl ≤ msX) (hcat : (st.map fun v => v.category).sum ≤ 8) (hdg : decode cc pc = .ok (.invokestatic 248, 3)) (kk : G X nL ce sl (pc + 3) lv (.int r :: st) ws) : G X nL ce sl pc lv (.int a1 :: .int a0 :: st) ws :=
  g_eqW (app0 ws) (g_callS (pre := ws) (mid := []) (post := []) [.int a0, .int a1] hX hq kw_RX12_X12_narrow (c_X12_narrow hf) (fun _ h => absurd h List.not_mem_nil) hd hc hs rfl rfl hcat hdg (fun rv ws2 hp => by obtain ⟨rfl, rfl⟩ := hp; exact g_eqW (app0 ws).symm kk))
def f_X12_bits_4 : Nat → Int32 → Int32 → Int32 → Option Int32
  | 0 => fun _ _ _ => none
  | n + 1 => fun x0 x1 x2 =>
    let r4 := f_X12_bits_4 n
    if (8 ≤ x2 : Prop) then
      some x1
    else
      bI (x1 + ((jshr x0 x2) &&& 1)) fun v2 =>
      bI (x2 + 1) fun v3 =>
      r4 x0 v2 v3
def f_X12_bits (a0 : Int32) : Option Int32 :=
  f_X12_bits_4 100 a0 0 0
set_option maxRecDepth 100000 in
set_option maxHeartbeats 4000000 in
theorem t_X12_bits_4 {X : Cx} {PostX : Option Value → va_W → Prop} (hX : Ok X cX12_bits 3 RX12) (hq : Rq X 0 0 0 (some .int) PostX) {u : Int32} (hp : PostX (some (.int u)) []) : ∀ (n : Nat) (x0 : Int32) (x1 : Int32) (x2 : Int32), f_X12_bits_4 n x0 x1 x2 = some u → G X 3 0 0 4 [(0, .int x0), (1, .int x1), (2, .int x2)] [] [] := by
  intro n
  induction n with
  | zero => intro _ _ _ hf; unfold f_X12_bits_4 at hf; cases hf
  | succ n hr4 =>
  intro x0 x1 x2 hf
  unfold f_X12_bits_4 at hf
  refine g_iloadn hX 2 rfl rfl dX12_bits_4 ?_
  refine g_bipush hX (v := 8) (by decide) dX12_bits_5 ?_
  refine g_icmp_ge hX 24 (by decide) dX12_bits_7 (fun c1 => ?_) (fun c1 => ?_)
  · have hf := ite_t c1 hf
    refine g_iloadn hX 1 rfl rfl dX12_bits_24 ?_
    cases hf
    exact g_iret hX hq (by decide) (by decide) hp dX12_bits_25
  · have hf := ite_f c1 hf
    refine g_iloadn hX 1 rfl rfl dX12_bits_10 ?_
    refine g_iloadn hX 0 rfl rfl dX12_bits_11 ?_
    refine g_iloadn hX 2 rfl rfl dX12_bits_12 ?_
    refine g_jshr hX dX12_bits_13 ?_
    refine g_iconst hX (v := 1) (by decide) dX12_bits_14 ?_
    refine g_iand hX dX12_bits_15 ?_
    refine g_iadd hX dX12_bits_16 ?_
    obtain ⟨v2, ev2, hf⟩ := bI_open hf
    refine g_nm ev2 ?_
    refine g_istoren hX [(1, .int v2), (0, .int x0), (2, .int x2)] rfl (by decide) rfl dX12_bits_17 ?_
    obtain ⟨v3, ev3, hf⟩ := bI_open hf
    refine g_iinc hX 2 (v := v3) [(2, .int v3), (1, .int v2), (0, .int x0)] rfl (by rw [ev3]; rfl) (by decide) rfl dX12_bits_18 ?_
    refine g_goto hX 4 (by decide) dX12_bits_21 ?_
    refine g_lv [2, 1, 0] rfl ?_
    exact hr4 _ _ _ hf
set_option maxRecDepth 100000 in
set_option maxHeartbeats 4000000 in
theorem t_X12_bits_0 {X : Cx} {PostX : Option Value → va_W → Prop} (hX : Ok X cX12_bits 3 RX12) (hq : Rq X 0 0 0 (some .int) PostX) {u : Int32} (hp : PostX (some (.int u)) []) (a0 : Int32) (hf : f_X12_bits a0 = some u) : G X 3 0 0 0 [(0, .int a0)] [] [] := by
  unfold f_X12_bits at hf
  refine g_iconst hX (v := 0) (by decide) dX12_bits_0 ?_
  refine g_istoren hX [(1, .int 0), (0, .int a0)] rfl (by decide) rfl dX12_bits_1 ?_
  refine g_iconst hX (v := 0) (by decide) dX12_bits_2 ?_
  refine g_istoren hX [(2, .int 0), (1, .int 0), (0, .int a0)] rfl (by decide) rfl dX12_bits_3 ?_
  refine g_lv [2, 1, 0] rfl ?_
  exact t_X12_bits_4 hX hq hp _ _ _ _ hf
theorem c_X12_bits {l : Launch} {E : En} {a0 r : Int32} (hf : f_X12_bits a0 = some r) : CP l E yX12_bits cX12_bits 3 (some .int) 0 0 0 [] [.int a0] [] (fun rv w => rv = some (.int r) ∧ w = []) :=
  CP.of (lv := [(0, .int a0)]) (by decide +kernel) (Nat.le_of_ble_eq_true rfl) rfl (fun X hl hE hro hX hq hn => t_X12_bits_0 hX hq ⟨rfl, rfl⟩ a0 hf)
theorem kw_RX12_X12_bits : KwS RX12 195 yX12_bits cX12_bits 3 (some .int) 1 := ⟨mem_wsS wd_6_26 wd_6_27 wd_1_19 wd_6_28, ⟨by decide +kernel, by decide +kernel, by decide +kernel⟩, by decide⟩
theorem k_RX12_X12_bits {X : Cx} {cc : ByteArray} {nL ce sl pc : Nat} {lv : List (Nat × Value)} {st : List Value} {dX mcX msX : Nat} {retX : Option FieldType} {PostX : Option Value → va_W → Prop} {ws : va_W} (hX : Ok X cc nL RX12) (hq : Rq X dX mcX msX retX PostX) {a0 r : Int32} (hf : f_X12_bits a0 = some r) (hd : 0 < dX) (hc : ce ≤ mcX) (hs : sl ≤ msX) (hcat : (st.map fun v => v.category).sum ≤ 8) (hdg : decode cc pc = .ok (.invokestatic 195, 3)) (kk : G X nL ce sl (pc + 3) lv (.int r :: st) ws) : G X nL ce sl pc lv (.int a0 :: st) ws :=
  g_eqW (app0 ws) (g_callS (pre := ws) (mid := []) (post := []) [.int a0] hX hq kw_RX12_X12_bits (c_X12_bits hf) (fun _ h => absurd h List.not_mem_nil) hd hc hs rfl rfl hcat hdg (fun rv ws2 hp => by obtain ⟨rfl, rfl⟩ := hp; exact g_eqW (app0 ws).symm kk))
def f_X12_its (a1 : Int32) (a2 : Int32) (S : MS) : Option (Int32 × MS) :=
  gix ((18 + (3 * a1)) + a2) 206 fun k1 =>
  some ((S.1 1 k1), S)
set_option maxRecDepth 100000 in
set_option maxHeartbeats 4000000 in
theorem t_X12_its_0 {X : Cx} {ad : Nat → Nat} {PostX : Option Value → va_W → Prop} (hX : Ok X cX12_its 3 RX12) (hq : Rq X 0 0 0 (some .int) PostX) {u : (Int32 × MS)} (hp : PostX (some (.int u.1)) (mW X.E ad u.2)) (a1 : Int32) (a2 : Int32) (S : MS) (hf : f_X12_its a1 a2 S = some u) : G X 3 0 0 0 [(0, .ref (ad 0)), (1, .int a1), (2, .int a2)] [] (mW X.E ad S) := by
  unfold f_X12_its at hf
  refine g_aloadn hX 0 rfl rfl dX12_its_0 ?_
  refine mg_row hX dX12_its_1 ?_
  refine g_bipush hX (v := 18) (by decide) dX12_its_4 ?_
  refine g_iconst hX (v := 3) (by decide) dX12_its_6 ?_
  refine g_iloadn hX 1 rfl rfl dX12_its_7 ?_
  refine g_imul hX dX12_its_8 ?_
  refine g_iadd hX dX12_its_9 ?_
  refine g_iloadn hX 2 rfl rfl dX12_its_10 ?_
  refine g_iadd hX dX12_its_11 ?_
  obtain ⟨k1, jk1, ik1, hf⟩ := gix_open hf
  refine ml_row hX ik1 k1 jk1 (v := S.1 1 k1) rfl dX12_its_12 ?_
  cases hf
  exact g_iret hX hq (by decide) (by decide) hp dX12_its_13
theorem c_X12_its {l : Launch} {E : En} {ad : Nat → Nat} {a1 a2 r : Int32} {S S2 : MS} (hf : f_X12_its a1 a2 S = some (r, S2)) : CP l E yX12_its cX12_its 3 (some .int) 0 0 0 [] [.ref (ad 0), .int a1, .int a2] (mW E ad S) (fun rv w => rv = some (.int r) ∧ w = mW E ad S2) :=
  CP.of (lv := [(0, .ref (ad 0)), (1, .int a1), (2, .int a2)]) (by decide +kernel) (Nat.le_of_ble_eq_true rfl) rfl (fun X hl hE hro hX hq hn => by subst hl; subst hE; exact t_X12_its_0 hX hq ⟨rfl, rfl⟩ a1 a2 S hf)
theorem kw_RX12_X12_its : KwV RX12 83 RX12 yX12_its cX12_its 3 (some .int) 2 := ⟨mem_wsV wd_5_109 wd_5_111 wd_s_20 wd_1_19 wd_5_112, rfl, ⟨by decide +kernel, by decide +kernel, by decide +kernel⟩, by decide⟩
theorem k_X12_its {X : Cx} {cc : ByteArray} {nL ce sl pc : Nat} {lv : List (Nat × Value)} {st : List Value} {dX mcX msX : Nat} {retX : Option FieldType} {PostX : Option Value → va_W → Prop} {ad : Nat → Nat} {S S2 : MS} {d : Nat} (hX : Ok X cc nL RX12) (hq : Rq X dX mcX msX retX PostX) {a1 a2 r : Int32} (hM : CP X.l X.E yX12_its cX12_its 3 (some .int) d 0 0 [] [.ref (ad 0), .int a1, .int a2] (mW X.E ad S) (fun rv w => rv = some (.int r) ∧ w = mW X.E ad S2)) (hd : d < dX) (hc : ce ≤ mcX) (hs : sl ≤ msX) (hcat : (st.map fun v => v.category).sum ≤ 8) (hdg : decode cc pc = .ok (.invokevirtual 83, 3)) (kk : G X nL ce sl (pc + 3) lv (.int r :: st) (mW X.E ad S2)) : G X nL ce sl pc lv (.int a2 :: .int a1 :: .ref (ad 0) :: st) (mW X.E ad S) :=
  g_eqW (app1 _) (g_callV (pre := []) (mid := mW X.E ad S) (post := []) [.int a1, .int a2] hX hq kw_RX12_X12_its hM (fun _ h => absurd h List.not_mem_nil) hd hc hs rfl (Recv.of 0 12 rfl rfl) rfl hcat hdg (fun rv ws2 hp => by obtain ⟨rfl, rfl⟩ := hp; exact g_eqW (app1 _).symm kk))
def f_X12_errs (a1 : Int32) (S : MS) : Option (Int32 × MS) :=
  bI ((-1000000000) - a1) fun v1 =>
  gix v1 6 fun k2 =>
  bI ((S.1 6 k2) + 1) fun v3 =>
  gix v1 6 fun k4 =>
  some (a1, (sA S 6 k4 v3))
set_option maxRecDepth 100000 in
set_option maxHeartbeats 4000000 in
theorem t_X12_errs_0 {X : Cx} {ad : Nat → Nat} {PostX : Option Value → va_W → Prop} (hX : Ok X cX12_errs 2 RX12) (hq : Rq X 0 0 0 (some .int) PostX) {u : (Int32 × MS)} (hp : PostX (some (.int u.1)) (mW X.E ad u.2)) (a1 : Int32) (S : MS) (hf : f_X12_errs a1 S = some u) : G X 2 0 0 0 [(0, .ref (ad 0)), (1, .int a1)] [] (mW X.E ad S) := by
  unfold f_X12_errs at hf
  refine g_aloadn hX 0 rfl rfl dX12_errs_0 ?_
  refine mg_found hX dX12_errs_1 ?_
  refine g_ldc hX (v := (-1000000000)) wd_5_79 dX12_errs_4 ?_
  refine g_iloadn hX 1 rfl rfl dX12_errs_6 ?_
  refine g_isub hX dX12_errs_7 ?_
  obtain ⟨v1, ev1, hf⟩ := bI_open hf
  refine g_nm ev1 ?_
  refine g_dup2 hX rfl rfl dX12_errs_8 ?_
  obtain ⟨k2, jk2, ik2, hf⟩ := gix_open hf
  refine ml_found hX ik2 k2 jk2 (v := S.1 6 k2) rfl dX12_errs_9 ?_
  refine g_iconst hX (v := 1) (by decide) dX12_errs_10 ?_
  refine g_iadd hX dX12_errs_11 ?_
  obtain ⟨v3, ev3, hf⟩ := bI_open hf
  refine g_nm ev3 ?_
  obtain ⟨k4, jk4, ik4, hf⟩ := gix_open hf
  refine ms_found hX ik4 k4 jk4 dX12_errs_12 ?_
  refine g_iloadn hX 1 rfl rfl dX12_errs_13 ?_
  cases hf
  exact g_iret hX hq (by decide) (by decide) hp dX12_errs_14
theorem c_X12_errs {l : Launch} {E : En} {ad : Nat → Nat} {a1 r : Int32} {S S2 : MS} (hf : f_X12_errs a1 S = some (r, S2)) : CP l E yX12_errs cX12_errs 2 (some .int) 0 0 0 [] [.ref (ad 0), .int a1] (mW E ad S) (fun rv w => rv = some (.int r) ∧ w = mW E ad S2) :=
  CP.of (lv := [(0, .ref (ad 0)), (1, .int a1)]) (by decide +kernel) (Nat.le_of_ble_eq_true rfl) rfl (fun X hl hE hro hX hq hn => by subst hl; subst hE; exact t_X12_errs_0 hX hq ⟨rfl, rfl⟩ a1 S hf)
theorem kw_RX12_X12_errs : KwV RX12 56 RX12 yX12_errs cX12_errs 2 (some .int) 1 := ⟨mem_wsV wd_5_75 wd_5_77 wd_s_17 wd_1_19 wd_5_78, rfl, ⟨by decide +kernel, by decide +kernel, by decide +kernel⟩, by decide⟩
theorem k_X12_errs {X : Cx} {cc : ByteArray} {nL ce sl pc : Nat} {lv : List (Nat × Value)} {st : List Value} {dX mcX msX : Nat} {retX : Option FieldType} {PostX : Option Value → va_W → Prop} {ad : Nat → Nat} {S S2 : MS} {d : Nat} (hX : Ok X cc nL RX12) (hq : Rq X dX mcX msX retX PostX) {a1 r : Int32} (hM : CP X.l X.E yX12_errs cX12_errs 2 (some .int) d 0 0 [] [.ref (ad 0), .int a1] (mW X.E ad S) (fun rv w => rv = some (.int r) ∧ w = mW X.E ad S2)) (hd : d < dX) (hc : ce ≤ mcX) (hs : sl ≤ msX) (hcat : (st.map fun v => v.category).sum ≤ 8) (hdg : decode cc pc = .ok (.invokevirtual 56, 3)) (kk : G X nL ce sl (pc + 3) lv (.int r :: st) (mW X.E ad S2)) : G X nL ce sl pc lv (.int a1 :: .ref (ad 0) :: st) (mW X.E ad S) :=
  g_eqW (app1 _) (g_callV (pre := []) (mid := mW X.E ad S) (post := []) [.int a1] hX hq kw_RX12_X12_errs hM (fun _ h => absurd h List.not_mem_nil) hd hc hs rfl (Recv.of 0 12 rfl rfl) rfl hcat hdg (fun rv ws2 hp => by obtain ⟨rfl, rfl⟩ := hp; exact g_eqW (app1 _).symm kk))
def f_X12_heardAll_4 : Nat → Int32 → Int32 → MS → Option (Int32 × MS)
  | 0 => fun _ _ _ => none
  | n + 1 => fun x1 x2 S =>
    let r4 := f_X12_heardAll_4 n
    if (8 ≤ x2 : Prop) then
      some (x1, S)
    else
      gix x2 8 fun k2 =>
      gix (10 + x2) 206 fun k3 =>
      bI (x1 + ((S.1 5 k2) * (S.1 1 k3))) fun v4 =>
      bI (x2 + 1) fun v5 =>
      r4 v4 v5 S
def f_X12_heardAll (S : MS) : Option (Int32 × MS) :=
  f_X12_heardAll_4 100 0 0 S
set_option maxRecDepth 100000 in
set_option maxHeartbeats 4000000 in
theorem t_X12_heardAll_4 {X : Cx} {ad : Nat → Nat} {PostX : Option Value → va_W → Prop} (hX : Ok X cX12_heardAll 3 RX12) (hq : Rq X 0 0 0 (some .int) PostX) {u : (Int32 × MS)} (hp : PostX (some (.int u.1)) (mW X.E ad u.2)) : ∀ (n : Nat) (x1 : Int32) (x2 : Int32) (S : MS), f_X12_heardAll_4 n x1 x2 S = some u → G X 3 0 0 4 [(0, .ref (ad 0)), (1, .int x1), (2, .int x2)] [] (mW X.E ad S) := by
  intro n
  induction n with
  | zero => intro _ _ _ hf; unfold f_X12_heardAll_4 at hf; cases hf
  | succ n hr4 =>
  intro x1 x2 S hf
  unfold f_X12_heardAll_4 at hf
  refine g_iloadn hX 2 rfl rfl dX12_heardAll_4 ?_
  refine g_bipush hX (v := 8) (by decide) dX12_heardAll_5 ?_
  refine g_icmp_ge hX 35 (by decide) dX12_heardAll_7 (fun c1 => ?_) (fun c1 => ?_)
  · have hf := ite_t c1 hf
    refine g_iloadn hX 1 rfl rfl dX12_heardAll_35 ?_
    cases hf
    exact g_iret hX hq (by decide) (by decide) hp dX12_heardAll_36
  · have hf := ite_f c1 hf
    refine g_iloadn hX 1 rfl rfl dX12_heardAll_10 ?_
    refine g_aloadn hX 0 rfl rfl dX12_heardAll_11 ?_
    refine mg_power hX dX12_heardAll_12 ?_
    refine g_iloadn hX 2 rfl rfl dX12_heardAll_15 ?_
    obtain ⟨k2, jk2, ik2, hf⟩ := gix_open hf
    refine ml_power hX ik2 k2 jk2 (v := S.1 5 k2) rfl dX12_heardAll_16 ?_
    refine g_aloadn hX 0 rfl rfl dX12_heardAll_17 ?_
    refine mg_row hX dX12_heardAll_18 ?_
    refine g_bipush hX (v := 10) (by decide) dX12_heardAll_21 ?_
    refine g_iloadn hX 2 rfl rfl dX12_heardAll_23 ?_
    refine g_iadd hX dX12_heardAll_24 ?_
    obtain ⟨k3, jk3, ik3, hf⟩ := gix_open hf
    refine ml_row hX ik3 k3 jk3 (v := S.1 1 k3) rfl dX12_heardAll_25 ?_
    refine g_imul hX dX12_heardAll_26 ?_
    refine g_iadd hX dX12_heardAll_27 ?_
    obtain ⟨v4, ev4, hf⟩ := bI_open hf
    refine g_nm ev4 ?_
    refine g_istoren hX [(1, .int v4), (0, .ref (ad 0)), (2, .int x2)] rfl (by decide) rfl dX12_heardAll_28 ?_
    obtain ⟨v5, ev5, hf⟩ := bI_open hf
    refine g_iinc hX 2 (v := v5) [(2, .int v5), (1, .int v4), (0, .ref (ad 0))] rfl (by rw [ev5]; rfl) (by decide) rfl dX12_heardAll_29 ?_
    refine g_goto hX 4 (by decide) dX12_heardAll_32 ?_
    refine g_lv [2, 1, 0] rfl ?_
    exact hr4 _ _ _ hf
set_option maxRecDepth 100000 in
set_option maxHeartbeats 4000000 in
theorem t_X12_heardAll_0 {X : Cx} {ad : Nat → Nat} {PostX : Option Value → va_W → Prop} (hX : Ok X cX12_heardAll 3 RX12) (hq : Rq X 0 0 0 (some .int) PostX) {u : (Int32 × MS)} (hp : PostX (some (.int u.1)) (mW X.E ad u.2)) (S : MS) (hf : f_X12_heardAll S = some u) : G X 3 0 0 0 [(0, .ref (ad 0))] [] (mW X.E ad S) := by
  unfold f_X12_heardAll at hf
  refine g_iconst hX (v := 0) (by decide) dX12_heardAll_0 ?_
  refine g_istoren hX [(1, .int 0), (0, .ref (ad 0))] rfl (by decide) rfl dX12_heardAll_1 ?_
  refine g_iconst hX (v := 0) (by decide) dX12_heardAll_2 ?_
  refine g_istoren hX [(2, .int 0), (1, .int 0), (0, .ref (ad 0))] rfl (by decide) rfl dX12_heardAll_3 ?_
  refine g_lv [2, 1, 0] rfl ?_
  exact t_X12_heardAll_4 hX hq hp _ _ _ _ hf
theorem c_X12_heardAll {l : Launch} {E : En} {ad : Nat → Nat} {r : Int32} {S S2 : MS} (hf : f_X12_heardAll S = some (r, S2)) : CP l E yX12_heardAll cX12_heardAll 3 (some .int) 0 0 0 [] [.ref (ad 0)] (mW E ad S) (fun rv w => rv = some (.int r) ∧ w = mW E ad S2) :=
  CP.of (lv := [(0, .ref (ad 0))]) (by decide +kernel) (Nat.le_of_ble_eq_true rfl) rfl (fun X hl hE hro hX hq hn => by subst hl; subst hE; exact t_X12_heardAll_0 hX hq ⟨rfl, rfl⟩ S hf)
theorem kw_RX12_X12_heardAll : KwV RX12 60 RX12 yX12_heardAll cX12_heardAll 3 (some .int) 0 := ⟨mem_wsV wd_5_84 wd_5_86 wd_s_18 wd_1_19 wd_5_87, rfl, ⟨by decide +kernel, by decide +kernel, by decide +kernel⟩, by decide⟩
theorem k_X12_heardAll {X : Cx} {cc : ByteArray} {nL ce sl pc : Nat} {lv : List (Nat × Value)} {st : List Value} {dX mcX msX : Nat} {retX : Option FieldType} {PostX : Option Value → va_W → Prop} {ad : Nat → Nat} {S S2 : MS} {d : Nat} (hX : Ok X cc nL RX12) (hq : Rq X dX mcX msX retX PostX) {r : Int32} (hM : CP X.l X.E yX12_heardAll cX12_heardAll 3 (some .int) d 0 0 [] [.ref (ad 0)] (mW X.E ad S) (fun rv w => rv = some (.int r) ∧ w = mW X.E ad S2)) (hd : d < dX) (hc : ce ≤ mcX) (hs : sl ≤ msX) (hcat : (st.map fun v => v.category).sum ≤ 8) (hdg : decode cc pc = .ok (.invokevirtual 60, 3)) (kk : G X nL ce sl (pc + 3) lv (.int r :: st) (mW X.E ad S2)) : G X nL ce sl pc lv (.ref (ad 0) :: st) (mW X.E ad S) :=
  g_eqW (app1 _) (g_callV (pre := []) (mid := mW X.E ad S) (post := []) [] hX hq kw_RX12_X12_heardAll hM (fun _ h => absurd h List.not_mem_nil) hd hc hs rfl (Recv.of 0 12 rfl rfl) rfl hcat hdg (fun rv ws2 hp => by obtain ⟨rfl, rfl⟩ := hp; exact g_eqW (app1 _).symm kk))
end
